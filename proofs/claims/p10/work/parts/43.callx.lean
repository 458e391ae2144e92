/-! a call of a method that may throw, over the world -/
section CALLX
variable {p : Program} {l : Launch} {e : Env} {R : Room} {s : State} {m : MethodId} {args : Array Value} {below : List Frame} {meth : Method} {c : Code} {H : Heap} {locs : List Loc} {cells slots : Nat} {Q : State → Prop}
variable {τ : Tp} {φ : Option Int} {cc : ByteArray} {pc : Nat} {ls : Array Slot} {rest : List Value} {B : Nat} {D : va_G} {cA : Nat → ClassId} {kd : sK} {ig : sI} {rg : sR} {lg : sG} {own : String} {nL : Nat} {N : Prop}
variable {y : MethodName} {cb : ByteArray} {maxL na index : Nat} {ret : Option FieldType} {rm : Room} {As st : List Value} {Post : aP}
theorem r_goesX {g : JFrame} {av : List Value} (hw : WD B D cA s.heap kd ig rg lg H locs) (hr : vx_Run p l e R s m args below meth c H locs cells slots rm.cells rm.slots g rest (QcW B D cA Post av.toArray) (XcW B D cA kd ig rg lg N) (fun q => B ≤ q))
    (kx : ∀ (ce : Cell) (q : Addr) (H' : Heap) (locs' : List Loc), ¬ N → WD B D cA s.heap kd ig rg lg H' locs' → H.size ≤ H'.size → H'[q]? = some ce → ce.vm = .none → s.vm.findClass NSE = some ce.cls → vx_W p l e R s m args below meth c H' locs' (cells + rm.cells) (slots + rm.slots) Q { g with stack := rest } q)
    (kk : ∀ (r : Option Value) (kd' : sK) (ig' : sI) (rg' : sR) (lg' : sG) (H' : Heap) (locs' : List Loc), WD B D cA s.heap kd' ig' rg' lg' H' locs' → H.size ≤ H'.size → Post r kd' ig' rg' lg' H'.size → W p l e R s m args below meth c H' locs' (cells + rm.cells) (slots + rm.slots) Q { g with pc := g.pc + 3, stack := r.toList ++ rest }) : W p l e R s m args below meth c H locs cells slots Q g := by
  intro T hT X
  have far : ∀ {t T' st₀ : State} {L : List Loc}, st₀.heap = H → T'.heap = t.heap → (∀ q ∈ L, B ≤ q.base) → st₀.heap.size ≤ t.heap.size → (∀ q : Nat, q < B → t.heap[q]? = st₀.heap[q]?) → va_S (fun q => B ≤ q) s.heap T'.heap (locs ++ L) ∧ H.size ≤ T'.heap.size := by
    intro t T' st₀ L h0 e1 hL hz hk
    rw [h0] at hz hk
    exact ⟨⟨Nat.le_trans hw.2.2.1.1 (by rw [e1]; exact hz), fun q h1 h2 => by rw [e1, hk q (Nat.not_le.mp h2)]; exact hw.2.2.1.2.1 q h1 h2, fun q hq => (List.mem_append.mp hq).elim (hw.2.2.1.2.2 q) (hL q)⟩, by rw [e1]; exact hz⟩
  rcases hr T hT X with ⟨v, st₀, t, T', L, h0, X', hL, e1, e2, ⟨r, kd', ig', rg', lg', hv, hP', hD', hz, hk, hpost⟩, st⟩ | ⟨q, st₀, t, T', L, E, ce, h0, X', hL, e1, e2, ⟨hE, hN, hP', hz, hk⟩, hce, hcv, hcl, st⟩
  · cases hv
    obtain ⟨f1, f2⟩ := far h0 e1 hL hz hk
    obtain ⟨t2, a1, b1⟩ := kk v kd' ig' rg' lg' T'.heap (locs ++ L) ⟨by rw [e1]; exact hP', hD', f1, hw.2.2.2⟩ f2 (by rw [e1]; exact hpost) T' rfl X'
    exact ⟨t2, st t2 a1, b1⟩
  · obtain ⟨f1, f2⟩ := far h0 e1 hL hz hk
    obtain ⟨t2, a1, b1⟩ := kx ce q T'.heap (locs ++ L) hN ⟨by rw [e1]; exact hP', hw.2.1, f1, hw.2.2.2⟩ f2 (by rw [e1]; exact hce) hcv (by rw [← hE]; exact hcl) T' rfl X'
    exact ⟨t2, st.trans a1, b1⟩
theorem r_callX (C : Cx p m c cc nL s args own B D cA) (hw : WD B D cA s.heap kd ig rg lg H locs) {k b nb : Nat} (hM : MX l B D cA y cb maxL ret rm (.ref b :: As) kd ig rg lg H.size N Post) (sv : SV own index k y cb maxL ret na) (hkb : kd b = some (k, nb)) (hn : As.length = na) (hsize : ls.size = nL) (hst : st = As.reverse ++ .ref b :: rest) (hrest : (rest.map fun v => v.category).sum ≤ 8) (hR : rm.frames + 1 ≤ R.frames ∧ 8 + (maxL + 11) + rm.locals ≤ R.locals) (hf : cells + rm.cells ≤ R.cells ∧ slots + rm.slots ≤ R.slots) (hdg : decode cc pc = .ok (.invokevirtual index, 3))
    (kx : ∀ (ce : Cell) (q : Addr) (H' : Heap) (locs' : List Loc), ¬ N → WD B D cA s.heap kd ig rg lg H' locs' → H.size ≤ H'.size → H'[q]? = some ce → ce.vm = .none → s.vm.findClass NSE = some ce.cls → vx_W p l e R s m args below meth c H' locs' (cells + rm.cells) (slots + rm.slots) Q (F0 m pc ls rest) q)
    (kk : ∀ (r : Option Value) (kd' : sK) (ig' : sI) (rg' : sR) (lg' : sG) (H' : Heap) (locs' : List Loc), WD B D cA s.heap kd' ig' rg' lg' H' locs' → H.size ≤ H'.size → Post r kd' ig' rg' lg' H'.size → W p l e R s m args below meth c H' locs' (cells + rm.cells) (slots + rm.slots) Q (F0 m (pc + 3) ls (r.toList ++ rest))) : W p l e R s m args below meth c H locs cells slots Q (F0 m pc ls st) := by
  obtain ⟨s1, s2, s3, s4, s5, ⟨q, s6, s6'⟩, s7, s8, s9, s10⟩ := sv
  have hob := hw.1 b k nb hkb
  unfold PWat at hob
  rw [if_pos s7] at hob
  obtain ⟨cellB, g1, g2, g3, -⟩ := hob
  refine r_goesX hw (vx_runV (C := y.cls) (bytes := cb) (maxL := maxL) (ret := ret) (n := na) (index := index) C.1 hM (cwV na C.1.2.2.2.2 (TBg_all ?_) rfl rfl rfl ⟨rfl, s8, s9, s10⟩ hR) ⟨PcW.blind, ⟨cellB, g1, by rw [g3]; rfl, ?_⟩, PcW.pre C hw⟩ rfl hn hsize hst (lv_room hrest) hdg hf) kx kk
  · intro w hw
    simp only [wsV, List.mem_append, List.mem_cons, List.not_mem_nil, or_false] at hw
    rcases hw with (rfl | rfl | rfl | rfl) | rfl | h
    · exact s1
    · exact s2
    · exact s3
    · exact s4
    · exact s5
    · exact h
  · rw [g2, ← s6']
    exact (C.2.1.1 k q s6).2.1
end CALLX
/-! the law's own cell(), which catches -/
def MH (l : Launch) (B : Nat) (D : va_G) (cA : Nat → ClassId) (y : MethodName) (cc : ByteArray) (maxL : Nat) (ret : Option FieldType) (hh : List (Nat × Nat × Nat × Nat)) (rm : Room) (av : List Value) (kd : sK) (ig : sI) (rg : sR) (lg : sG) (sz : Nat) (N : Prop) (Post : aP) : Prop :=
  vx_Met l y (Cond.codeWith y cc maxL ret hh :: TBg) rm (PcW B D cA av kd ig rg lg sz) (QcW B D cA Post) (XcW B D cA kd ig rg lg N) rm.cells rm.slots (fun q => B ≤ q)
theorem MH.of {l : Launch} {B : Nat} {D : va_G} {cA : Nat → ClassId} {y : MethodName} {cc : ByteArray} {maxL : Nat} {ret : Option FieldType} {hh : List (Nat × Nat × Nat × Nat)} {rm : Room} {av : List Value} {kd : sK} {ig : sI} {rg : sR} {lg : sG} {sz : Nat} {N : Prop} {Post : aP} {own : String} (hy : plainName y.cls = true) (ho : y.cls = own) (hav : (lg_sl av).length ≤ maxL)
    (body : ∀ (p : Program) (e : Env) (s : State) (m : MethodId) (args : Array Value) (below : List Frame) (meth : Method) (c : Code) (ls : Array Slot), Cx p m c cc maxL s args own B D cA → meth.sig.returnType = ret → meth.locks = false → meth.name = y.name → WD B D cA s.heap kd ig rg lg s.heap [] → s.heap.size = sz → lv_has ls maxL (lv_args 0 av) → c.exceptionTable.toList = tableOf hh →
      W p l e rm s m args below meth c s.heap [] 0 0 (vx_MQ below (QcW B D cA Post) (XcW B D cA kd ig rg lg N) args s rm.cells rm.slots (fun q => B ≤ q)) (F0 m 0 ls [])) : MH l B D cA y cc maxL ret hh rm av kd ig rg lg sz N Post := by
  refine vx_ofWH (cc := cc) (maxL := maxL) (ret := ret) (hh := hh) hy rfl ?_
  intro p e s m args below meth c s₁ Bd hml hv
  obtain ⟨rfl, hK, hP, hdm, hBs, hsz⟩ := hv
  have hts := atoms_spec (ws := Cond.codeWith y cc maxL ret hh :: TBg) Bd.pre
  have hown : s.vm.findClass own = some m.cls := ho ▸ findClass_of_methodNamed Bd.named
  have hl := lv_entry av (n := maxL) hav
  have hnt := vx_table (x := y) Bd (hts _ List.mem_cons_self)
  rw [lg_entry_eq]
  exact body p e s m av.toArray below meth c _ ⟨⟨Bd.exec, Bd.bytes, hml, hown, fun w h => hts w (List.mem_cons_of_mem _ h)⟩, hK⟩ Bd.returns Bd.notSynchronized (name_of_methodNamed Bd.named Bd.method).1 ⟨hP, hdm, va_S.rf, hBs⟩ hsz hl hnt
set_option maxRecDepth 100000 in
theorem atN_k : Cond.classLink RL 13 NSE ∈ lw_tbl ∧ goodWord (Cond.classLink RL 13 NSE) = true := by decide +kernel

/-! what one side leaves of the other -/
section SIDES
variable {τ : Tp} {φ : Option Int} {B : Nat} {T : List Nat} {kd kd' : sK} {ig ig' : sI} {rg rg' : sR} {lg lg' : sG}
theorem IM0.nx (h : IM0 B kd ig rg) {b : Nat} (hN : Nx b B none kd ig rg lg kd' ig' rg' lg') (hs : Sh B kd') : IM0 B kd' ig' rg' := by
  have hm : ∀ x ∈ rfm, x.1 = 49 := by decide
  have e : ∀ c j, 49 ≤ c → c < 79 → ig' (B + c) j = ig (B + c) j := fun c j h1 h2 => hN.1.2.2.1 (B + c) j (by omega) (by omega)
  refine ⟨hs, fun x hx => ?_, fun c j h1 h2 => ?_, fun p h1 h2 h3 => ?_⟩
  · have := hm x hx
    rw [hN.1.2.2.2.1 _ _ (by omega) (by omega)]; exact h.2.1 x hx
  · rw [e c j h1 h2]; exact h.2.2.1 c j h1 h2
  · rw [e 59 p (by decide) (by decide)] at h3
    exact (h.row h1 h2 h3).same (e 58 p (by decide) (by decide)) (fun k _ _ => ⟨e 54 k (by decide) (by decide), e 55 k (by decide) (by decide), e 56 k (by decide) (by decide)⟩)
theorem IC0.ft (h : IC0 B kd ig rg) (hF : Ft B T ig lg ig' lg') (hT : ∀ q ∈ T, 49 ≤ q) : IC0 B kd ig' rg :=
  ⟨h.1, h.2.1, fun c j hc => by rw [hF.i c j (fun q hq e => by have := hT q hq; omega)]; exact h.2.2.1 c j hc, h.2.2.2⟩
theorem IM.nx {υ : Option Int} (h : IM τ φ υ B kd ig rg) {b : Nat} (hN : Nx b B none kd ig rg lg kd' ig' rg' lg') (hs : Sh B kd') : IM τ φ υ B kd' ig' rg' := ⟨h.1.nx hN hs, h.2.ag (fun c i hc => hN.1.2.2.1 (B + c) i (by omega) (by omega))⟩
theorem IC.ft (h : IC τ B kd ig rg) (hF : Ft B T ig lg ig' lg') (hT : ∀ q ∈ T, 49 ≤ q) : IC τ B kd ig' rg := ⟨h.1.ft hF hT, h.2.ag (fun b i hb => (hF.1 b i (fun q hq e => by have := hT q hq; omega)).1)⟩
end SIDES
section SIDES2
variable {B b : Nat} {T : List Nat} {kd kd' : sK} {ig ig' : sI} {rg rg' : sR} {lg lg' : sG} {σ : Sg} {π : Ps} {ν : Nat}
theorem SM.nx (s : SM B σ π ig) (hN : Nx b B none kd ig rg lg kd' ig' rg' lg') : SM B σ π ig' := s.ag (fun c j hc => hN.1.2.2.1 (B + c) j (by omega) (by omega)) (congrArg Int32.toInt (hN.1.2.2.1 (B + 49) 19 (by omega) (by omega)))
theorem FMm.nx (s : FMm B σ ig) (hN : Nx b B none kd ig rg lg kd' ig' rg' lg') : FMm B σ ig' := fun p hp => by rw [hN.1.2.2.1 (B + 71) p (by omega) (by omega)]; exact s p hp
theorem SCh.ft (s : SCh B σ π ν kd ig rg) (hF : Ft B T ig lg ig' lg') (hT : ∀ q ∈ T, 49 ≤ q ∧ q < 80) : SCh B σ π ν kd ig' rg := by
  have e : ∀ a j, a < B + 49 ∨ B + 80 ≤ a → ig' a j = ig a j := fun a j ha => (hF.1 a j (fun q hq e => by have := hT q hq; omega)).1
  have e2 : ∀ a j, (a = B + 10 ∨ B + 80 ≤ a) → ig' a j = ig a j := fun a j ha => e a j (by omega)
  obtain ⟨h1, h2, h3, h4, h5⟩ := s
  refine ⟨fun p hp => ?_, h2.ag e2 (fun _ _ _ => rfl), by rw [e _ _ (by omega)]; exact h3, fun i hi => ?_, by rw [e _ _ (by omega)]; exact h5⟩
  · obtain ⟨q, g1, g2⟩ := h1 p hp
    exact ⟨q, g1, g2.ag e2 (fun _ _ _ => rfl)⟩
  · obtain ⟨g1, g2, q, g3, g4⟩ := h4 i hi
    exact ⟨by rw [e _ _ (by omega)]; exact g1, g2, q, g3, g4.ag e2 (fun _ _ _ => rfl)⟩
theorem FV.ft (s : FV B σ ν ig) (hF : Ft B T ig lg ig' lg') (hT : ∀ q ∈ T, 49 ≤ q ∧ q < 80) : FV B σ ν ig' := by
  have e : ∀ c j, c < 49 → ig' (B + c) j = ig (B + c) j := fun c j hc => hF.i c j (fun q hq e => by have := hT q hq; omega)
  unfold FV
  rw [e 29 4 (by decide)]
  exact ⟨s.1, fun q p hp => by rw [e 30 p (by decide)]; exact s.2 q p hp⟩
end SIDES2
set_option maxHeartbeats 4000000 in
set_option maxRecDepth 100000 in
theorem t_L_cellE {υ : Option Int} {τ : Tp} {φ : Option Int} (l : Launch) (B : Nat) (D : va_G) (cA : Nat → ClassId) (kd : sK) (ig : sI) (rg : sR) (lg : sG) (sz : Nat) (x y : Int32) (hst : l.stackTraces = false) (σ : Sg) (π : Ps) (ν : Nat) (hS : SCh B σ π ν kd ig rg) (hV : FV B σ ν ig) (hν : ν < 1000000) (hX : SM B σ π ig) (hU : FMm B σ ig) (hI : IC τ B kd ig rg) (hM : IM τ φ υ B kd ig rg) : MH l B D cA yL_cell cL_cell 5 (some .int) [(0, 10, 13, 13)] (rL 8 1 6) [.ref (B + 0), .int x, .int y, .ref (B + 79)] kd ig rg lg sz True (fun r kd' ig' rg' lg' n => IC τ B kd' ig' rg' ∧ IM τ φ υ B kd' ig' rg' ∧ (SCh B σ π ν kd' ig' rg' ∧ FV B σ ν ig' ∧ SM B σ π ig' ∧ FMm B σ ig') ∧ ∃ q : Int32, r = some (.int q)) := by
  refine MH.of (own := RL) (by decide +kernel) rfl (Nat.le_of_ble_eq_true rfl) ?_
  intro p e s m args below meth c ls C hr hlk hnm hw hsz hl hnt
  have hx := C.1.1
  have hb := C.1.2.1
  have hown := C.1.2.2.2.1
  have hts := C.1.2.2.2.2
  have hl : lv_has ls 5 [(0, .ref (B + 0)), (1, .int x), (2, .int y), (3, .ref (B + 79))] := hl
  have hsh := hI.sh
  obtain ⟨sa, hKX⟩ := C.2.2.2.2.1
  refine lv_aload_n hx hb dL_cell_0 rfl (lv_at hl 3 rfl) ?_
  refine lv_iconst (v := 0) hx hb dL_cell_1 (by decide) (ti_c 0 (by decide) fun z1 hz1 => ?_)
  refine lv_aload_n hx hb dL_cell_2 rfl (lv_at hl 0 rfl) ?_
  refine lv_iload_n hx hb dL_cell_3 rfl (lv_at hl 1 rfl) ?_
  refine lv_iload_n hx hb dL_cell_4 rfl (lv_at hl 2 rfl) ?_
  refine r_callX (As := [.int x, .int y]) (rest := [.int z1, .ref (B + 79)]) C hw (t_X11_cellE l B D cA kd ig rg lg _ x y hst σ π ν hS hV hν hI) sv_L_7 (hsh 0 _ rfl) rfl hl.1 rfl (Nat.le_of_ble_eq_true rfl) ⟨Nat.le_of_ble_eq_true rfl, Nat.le_of_ble_eq_true rfl⟩ ⟨Nat.le_of_ble_eq_true rfl, Nat.le_of_ble_eq_true rfl⟩ dL_cell_5 (fun ce q H locs hN hw hH hce hcv hcl => ?_) (fun r kd1 ig1 rg1 lg1 H locs hw hH hp => ?_)
  · refine vx_catch (E := NSE) (name := NSE) hown [] ⟨0, 10, 13, 13⟩ [] hnt (fun _ h => nomatch h) (by decide) (by decide) (hts _ (TBg_in atN_k.1 atN_k.2)) (va_Nw.use rfl (hKX.1 _ List.mem_cons_self)) hce hcv hcl ?_
    refine W.widen (k := 1) (n := 6) (Nat.le_of_ble_eq_true rfl) (Nat.le_of_ble_eq_true rfl) ?_
    refine lv_astore (lv' := [(4, .ref q), (0, .ref (B + 0)), (1, .int x), (2, .int y), (3, .ref (B + 79))]) hx hb dL_cell_13 hl (by decide) rfl (fun ls hl => ?_)
    refine lv_iconst (v := 1) hx hb dL_cell_15 (by decide) (ti_c 1 (by decide) fun z2 hz2 => ?_)
    exact vx_ret (r_iret C hw hr hlk rfl (Nat.le_of_ble_eq_true rfl) (Nat.le_of_ble_eq_true rfl) dL_cell_16 ⟨hI, hM, ⟨hS, hV, hX, hU⟩, _, rfl⟩)
  · obtain ⟨hI, hN, z, rfl, hS, hV⟩ := hp
    have hX := hX.nx hN
    have hU := hU.nx hN
    have hM := hM.nx hN hI.sh
    have hsh := hI.sh
    refine W.widen (k := 1) (n := 6) (Nat.le_of_ble_eq_true rfl) (Nat.le_of_ble_eq_true rfl) ?_
    refine lv_i2l hx hb dL_cell_8 rfl (lv_topl fun x3 hx3 => ?_)
    refine r_last C hw (hsh 79 _ rfl) (by omega) (by omega) dL_cell_9 (fun H locs hH hw => ?_)
    refine lv_goto (tgt := 17) hx hb dL_cell_10 (by decide) ?_
    refine lv_iconst (v := 0) hx hb dL_cell_17 (by decide) (ti_c 0 (by decide) fun z5 hz5 => ?_)
    exact vx_ret (r_iret C hw hr hlk rfl (Nat.le_of_ble_eq_true rfl) (Nat.le_of_ble_eq_true rfl) dL_cell_18 ⟨hI, hM, ⟨hS, hV, hX, hU⟩, _, rfl⟩)
/-! a static call of a method with a table that never throws, over the world -/
section CALLH
variable {p : Program} {l : Launch} {e : Env} {R : Room} {s : State} {m : MethodId} {args : Array Value} {below : List Frame} {meth : Method} {c : Code} {H : Heap} {locs : List Loc} {cells slots : Nat} {Q : State → Prop}
variable {τ : Tp} {φ : Option Int} {cc : ByteArray} {pc : Nat} {ls : Array Slot} {rest : List Value} {B : Nat} {D : va_G} {cA : Nat → ClassId} {kd : sK} {ig : sI} {rg : sR} {lg : sG} {own : String} {nL : Nat}
variable {y : MethodName} {cb : ByteArray} {maxL na index : Nat} {ret : Option FieldType} {rm : Room} {As st : List Value} {Post : aP} {hh : List (Nat × Nat × Nat × Nat)}
theorem r_callH (C : Cx p m c cc nL s args own B D cA) (hw : WD B D cA s.heap kd ig rg lg H locs) (hM : MH l B D cA y cb maxL ret hh rm As kd ig rg lg H.size True Post)
    (s1 : Cond.methodLink own index y ∈ TBg) (s2 : Cond.static y ∈ TBg) (s3 : Cond.initialized y.cls ∈ TBg) (s5 : Cond.codeWith y cb maxL ret hh ∈ TBg) (s8 : y.cls ≠ "java/lang/invoke/MethodHandle" ∧ y.cls ≠ "java/lang/invoke/VarHandle" ∧ (parseMethodDescriptor y.desc).map (fun d => d.parameters.length) = some na)
    (hn : As.length = na) (hsize : ls.size = nL) (hst : st = As.reverse ++ rest) (hrest : (rest.map fun v => v.category).sum ≤ 8) (hR : rm.frames + 1 ≤ R.frames ∧ 8 + (maxL + 11) + rm.locals ≤ R.locals) (hf : cells + rm.cells ≤ R.cells ∧ slots + rm.slots ≤ R.slots) (hdg : decode cc pc = .ok (.invokestatic index, 3))
    (kk : ∀ (r : Option Value) (kd' : sK) (ig' : sI) (rg' : sR) (lg' : sG) (H' : Heap) (locs' : List Loc), WD B D cA s.heap kd' ig' rg' lg' H' locs' → H.size ≤ H'.size → Post r kd' ig' rg' lg' H'.size → W p l e R s m args below meth c H' locs' (cells + rm.cells) (slots + rm.slots) Q (F0 m (pc + 3) ls (r.toList ++ rest))) : W p l e R s m args below meth c H locs cells slots Q (F0 m pc ls st) := by
  refine r_goesX (N := True) hw (vx_runSX (hh := hh) (bytes := cb) (maxL := maxL) (ret := ret) (n := na) (index := index) C.1 hM (vx_cwSW na C.1.2.2.2.2 (TBg_all ?_) rfl rfl rfl s8 hR) ⟨PcW.blind, PcW.pre C hw⟩ rfl hn hsize hst (lv_room hrest) hdg hf) (fun _ _ _ _ h => (h trivial).elim) kk
  intro w hw
  simp only [va_wsS, List.mem_append, List.mem_cons, List.not_mem_nil, or_false] at hw
  rcases hw with (rfl | rfl | rfl) | rfl | h
  · exact s1
  · exact s2
  · exact s3
  · exact s5
  · exact h
end CALLH
