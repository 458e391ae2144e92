/-! THE CLAIM OUT OF ONE WALK OF THE LAW'S BODY. Your part is whole_start (and what it stands on); all else here is the same for every law, but numbers. -/
def R_law : String := "SheetDoctorLaw"
def lw_P (b : Addr) (xs : List Int32) (args : Array Value) (s : State) : Prop := args = #[.ref b] ∧ s.IntsAt b xs ∧ xs.length ≤ 3584 ∧ (Jvm.Cond.and given_1 narrow_1).before args s = true
def lw_Q (_ : Array Value) (s : State) (o : Outcome) (t : State) : Prop := o = .returned (some (.int 1)) ∧ Framed s o t [] 601024 7293034
def lw_Z (below : List Frame) (a : Array Value) (s : State) : State → Prop := fun t => ∃ o, t.status = .running ∧ Ended t below o ∧ lw_Q a s o t
/-- the law's own end, with 1 on the stack, nothing written that was there before, its room as the claim has it -/
theorem lw_ret {p : Program} {l : Launch} {e : Env} {s : State} {m : MethodId} {below : List Frame} {meth : Method} {c : Code} {b : Nat} (hx : p.tables.exec = Jvm.exec) (hb : c.code = code) (hr : meth.sig.returnType = ret) (hlocks : meth.locks = false) {pc : Nat} {H : Heap} {ls : Array Slot} (hdg : decode code pc = .ok (.ireturn, 1)) : W p l e room_1 s m #[Value.ref b] below meth c H [] 601024 7293034 (lw_Z below #[Value.ref b] s) (F0 m pc ls [.int 1]) := by
  intro T hT X
  obtain ⟨fs, hret, hrun, hended, hW, hframe⟩ := X.leave (v := some (.int 1)) (hlocks := hlocks) (fun h => by rw [hr] at h; cases h)
  have hmeth' : T.vm.method? m = some meth := X.method'
  refine ⟨T.setFrames fs, ?_, .returned (some (.int 1)), hrun, hended, rfl, ⟨_, rfl⟩, hW, hframe⟩
  jvm_step X.here [X.here.top, hx, hb, hdg, hmeth', hr, ret, narrow_b1]
  (try refine ⟨rfl, ?_⟩); (try refine ⟨rfl, ?_⟩)
  first | (intro acts; rw [hret _ acts rfl rfl rfl]) | rw [hret _ _ rfl rfl rfl]
  exact Steps.refl _
/-- what holds at the law's entry: the machine, the code, the tables' words (any of lw_tbl by 'hts w (by decide +kernel)'), the script of L ints xs at the cell b, what the Statement gives of the start (any of its parts by flat_of_before) -/
def lw_At (p : Program) (s : State) (m : MethodId) (meth : Method) (c : Code) (b L : Nat) (xs : Nat → Int32) : Prop :=
  p.tables.exec = Jvm.exec ∧ c.code = code ∧ meth.sig.returnType = ret ∧ c.maxLocals = 7 ∧ s.vm.findClass R_law = some m.cls ∧ (∀ w ∈ lw_tbl, w.before #[Value.ref b] s = true) ∧ va_X b L xs s s.heap ∧ b < s.heap.size ∧ meth.locks = false ∧ (Jvm.Cond.and given_1 narrow_1).before #[Value.ref b] s = true
/-! the law's own walk: what stands all along it -/
def LA (p : Program) (s : State) (m : MethodId) (meth : Method) (c : Code) (b L : Nat) (xs : Nat → Int32) (D : va_G) (cA : Nat → ClassId) : Prop :=
  Cx p m c cL_law 7 s #[Value.ref b] RL s.heap.size D cA ∧ va_X b L xs s s.heap ∧ b < s.heap.size ∧ meth.sig.returnType = ret ∧ meth.locks = false ∧ L ≤ 3584
abbrev LW (p : Program) (l : Launch) (e : Env) (s : State) (m : MethodId) (below : List Frame) (meth : Method) (c : Code) (b : Nat) (H : Heap) (locs : List Loc) (cells slots : Nat) (g : JFrame) : Prop :=
  W p l e room_1 s m #[Value.ref b] below meth c H locs cells slots (lw_Z below #[Value.ref b] s) g
/-- both sides at one time: the same sheet, the same that can be taken back -/
def St7 (B : Nat) (τ : Tp) (σ : Sg) (π : Ps) (ν : Nat) (kd : sK) (ig : sI) (rg : sR) (lg : sG) : Prop := Prt τ ∧ IC τ B kd ig rg ∧ IM τ none none B kd ig rg ∧ (SCh B σ π ν kd ig rg ∧ FV B σ ν ig) ∧ (SM B σ π ig ∧ FXm B σ ig lg) ∧ WS σ π ∧ Sx B σ π ν ig lg
/-- the walk goes on behind a step of the script -/
def LN (p : Program) (l : Launch) (e : Env) (s : State) (m : MethodId) (below : List Frame) (meth : Method) (c : Code) (b : Nat) (D : va_G) (cA : Nat → ClassId) (i : Int32) (cells slots κ : Nat) : Prop :=
  ∀ (τ : Tp) (σ : Sg) (π : Ps) (ν : Nat) (ls : Array Slot) (H : Heap) (locs : List Loc) (kd : sK) (ig : sI) (rg : sR) (lg : sG), St7 s.heap.size τ σ π ν kd ig rg lg → ν ≤ κ + 1 → WD s.heap.size D cA s.heap kd ig rg lg H locs → lv_has ls 7 [(0, .ref b), (1, .ref (s.heap.size + 0)), (2, .ref (s.heap.size + 49)), (3, .ref (s.heap.size + 79)), (4, .int i)] → LW p l e s m below meth c b H locs (cells + 6) (slots + 370) (F0 m 769 ls [])
def xi (xs : Nat → Int32) (i v : Int32) : Int32 := xs (i + v).toNatClampNeg
/-- the step of the script that stands at i lies in it -/
def In (L : Nat) (i : Int32) : Prop := 0 ≤ i.toInt ∧ i.toInt + 7 ≤ (L : Int)
def Rm6 (cells slots : Nat) : Prop := cells + 6 ≤ 601024 ∧ slots + 370 ≤ 7293034
section LAW0
variable {p : Program} {l : Launch} {e : Env} {s : State} {m : MethodId} {below : List Frame} {meth : Method} {c : Code} {H : Heap} {locs : List Loc} {cells slots : Nat}
variable {pc : Nat} {ls : Array Slot} {rest : List Value} {b L : Nat} {xs : Nat → Int32} {D : va_G} {cA : Nat → ClassId} {kd : sK} {ig : sI} {rg : sR} {lg : sG} {i : Int32}
theorem l_end (A : LA p s m meth c b L xs D cA) (hw : WD s.heap.size D cA s.heap kd ig rg lg H locs) (h1 : cells ≤ 601024) (h2 : slots ≤ 7293034) : LW p l e s m below meth c b H locs cells slots (F0 m 775 ls []) := by
  obtain ⟨C, hX, hbl, hr, hlk, hL⟩ := A
  refine lv_iconst (v := 1) C.1.1 C.1.2.1 dL_law_775 (by decide) ?_
  refine va_forget (fun q hq => hw.2.2.1.2.2 q hq) ?_
  refine W.widen h1 h2 ?_
  exact lw_ret C.1.1 C.1.2.1 hr hlk dL_law_776
theorem l_head (A : LA p s m meth c b L xs D cA) (hw : WD s.heap.size D cA s.heap kd ig rg lg H locs) {x4 : Int32} (q0 : ls[0]? = some (.val (.ref b))) (q4 : ls[4]? = some (.val (.int x4)))
    (kt : (L : Int) - 7 < x4.toInt → LW p l e s m below meth c b H locs cells slots (F0 m 775 ls [])) (kf : x4.toInt ≤ (L : Int) - 7 → LW p l e s m below meth c b H locs cells slots (F0 m 33 ls [])) : LW p l e s m below meth c b H locs cells slots (F0 m 23 ls []) := by
  obtain ⟨C, hX, hbl, hr, hlk, hL⟩ := A
  have hx := C.1.1
  have hb := C.1.2.1
  refine lv_iload hx hb dL_law_23 q4 ?_
  refine lv_aload_n hx hb dL_law_25 rfl q0 ?_
  refine va_slen hx hb hX hbl (Nat.not_le.mpr hbl) hw.2.2.1 dL_law_26 ?_
  refine ti_c (L : Int) (nI_toInt (by omega)) fun z1 hz1 => ?_
  refine lv_bipush (v := 7) hx hb dL_law_27 (by decide) (ti_c 7 (by decide) fun z2 hz2 => ?_)
  refine lv_isub hx hb dL_law_29 (ti_sub (by omega) fun z3 hz3 => ?_)
  exact b_gt (tgt := 775) hx hb dL_law_30 (by decide) (fun h => kt (by omega)) (fun h => kf (by omega))
/-- an int of the script: iconst n -/
theorem l_ld {n : Int} {v : Int32} (A : LA p s m meth c b L xs D cA) (hw : WD s.heap.size D cA s.heap kd ig rg lg H locs) (hi : In L i) (q0 : ls[0]? = some (.val (.ref b))) (q4 : ls[4]? = some (.val (.int i))) (hv : Int32.ofInt n = v) (g : 0 ≤ v.toInt ∧ v.toInt < 7)
    (d1 : decode cL_law pc = .ok (.aload_n 0, 1)) (d2 : decode cL_law (pc + 1) = .ok (.iload 4, 2)) (d3 : decode cL_law (pc + 3) = .ok (.iconst n, 1)) (d4 : decode cL_law (pc + 4) = .ok (.iadd, 1)) (d5 : decode cL_law (pc + 5) = .ok (.iaload, 1))
    (kk : LW p l e s m below meth c b H locs cells slots (F0 m (pc + 6) ls (.int (xi xs i v) :: rest))) : LW p l e s m below meth c b H locs cells slots (F0 m pc ls rest) := by
  obtain ⟨C, hX, hbl, hr, hlk, hL⟩ := A
  have hx := C.1.1
  have hb := C.1.2.1
  unfold In at hi
  have e : (i + v).toInt = i.toInt + v.toInt := i32_add (by omega) (by omega)
  refine lv_aload_n hx hb d1 rfl q0 ?_
  refine lv_iload hx hb d2 q4 ?_
  refine lv_iconst (v := v) hx hb d3 hv ?_
  refine lv_iadd hx hb d4 ?_
  exact va_sld hx hb hX hbl (Nat.not_le.mpr hbl) hw.2.2.1 (in_of (by omega) (by omega)) d5 kk
/-- an int of the script: bipush n -/
theorem l_lb {n : Int} {v : Int32} (A : LA p s m meth c b L xs D cA) (hw : WD s.heap.size D cA s.heap kd ig rg lg H locs) (hi : In L i) (q0 : ls[0]? = some (.val (.ref b))) (q4 : ls[4]? = some (.val (.int i))) (hv : (Int8.ofInt n).toInt32 = v) (g : 0 ≤ v.toInt ∧ v.toInt < 7)
    (d1 : decode cL_law pc = .ok (.aload_n 0, 1)) (d2 : decode cL_law (pc + 1) = .ok (.iload 4, 2)) (d3 : decode cL_law (pc + 3) = .ok (.bipush n, 2)) (d4 : decode cL_law (pc + 5) = .ok (.iadd, 1)) (d5 : decode cL_law (pc + 6) = .ok (.iaload, 1))
    (kk : LW p l e s m below meth c b H locs cells slots (F0 m (pc + 7) ls (.int (xi xs i v) :: rest))) : LW p l e s m below meth c b H locs cells slots (F0 m pc ls rest) := by
  obtain ⟨C, hX, hbl, hr, hlk, hL⟩ := A
  have hx := C.1.1
  have hb := C.1.2.1
  unfold In at hi
  have e : (i + v).toInt = i.toInt + v.toInt := i32_add (by omega) (by omega)
  refine lv_aload_n hx hb d1 rfl q0 ?_
  refine lv_iload hx hb d2 q4 ?_
  refine lv_bipush (v := v) hx hb d3 hv ?_
  refine lv_iadd hx hb d4 ?_
  exact va_sld hx hb hX hbl (Nat.not_le.mpr hbl) hw.2.2.1 (in_of (by omega) (by omega)) d5 kk
end LAW0
theorem onp_eq {q : Prop} {z z2 : Int32} (h1 : (q → z.toInt = 1) ∧ (¬ q → z.toInt = 0)) (h2 : (q → z2.toInt = 1) ∧ (¬ q → z2.toInt = 0)) : z.toInt = z2.toInt := by
  by_cases h : q
  · rw [h1.1 h, h2.1 h]
  · rw [h1.2 h, h2.2 h]
theorem and15 (x : Int32) : 0 ≤ (x &&& 15).toInt ∧ (x &&& 15).toInt ≤ 15 := by
  have e1 : (x &&& 15).toInt = (x.toBitVec &&& 15#32).toInt := rfl
  have h1 : (x.toBitVec &&& 15#32).toNat ≤ 15 := by
    rw [BitVec.toNat_and]; exact Nat.and_le_right
  rw [e1, BitVec.toInt_eq_toNat_of_lt (by omega)]
  omega
set_option maxRecDepth 100000 in
theorem lc_k : (Cond.methodLink RL 80 yL_cell ∈ lw_tbl ∧ Cond.static yL_cell ∈ lw_tbl ∧ Cond.initialized yL_cell.cls ∈ lw_tbl ∧ Cond.codeWith yL_cell cL_cell 5 (some .int) [(0, 10, 13, 13)] ∈ lw_tbl) ∧ goodWord (Cond.methodLink RL 80 yL_cell) = true ∧ goodWord (Cond.static yL_cell) = true ∧ goodWord (Cond.initialized yL_cell.cls) = true ∧ goodWord (Cond.codeWith yL_cell cL_cell 5 (some .int) [(0, 10, 13, 13)]) = true := by decide +kernel
