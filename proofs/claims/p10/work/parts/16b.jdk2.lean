/-! Arrays.copyOf of a row of ints; String.indexOf of the tape's constant; Long.bitCount -/
section JC
variable {p : Program} {l : Launch} {e : Env} {R : Room} {s : State} {m : MethodId} {args : Array Value} {below : List Frame} {meth : Method} {c : Code} {H : Heap} {locs : List Loc} {cells slots : Nat} {Q : State → Prop}
variable {τ : Tp} {φ : Option Int} {cc : ByteArray} {pc : Nat} {ls : Array Slot} {rest : List Value} {B : Nat} {D : va_G} {cA : Nat → ClassId} {kd : sK} {ig : sI} {rg : sR} {lg : sG} {own : String} {nL : Nat}
variable {y : MethodName} {cb : ByteArray} {maxL na index : Nat} {ret : Option FieldType} {rm : Room} {As st : List Value} {Post : aP}
theorem r_areta {ty : FieldType} {v : Value} {mc ms : Nat} (C : Cx p m c cc nL s args own B D cA) (hw : WD B D cA s.heap kd ig rg lg H locs) (hr : meth.sig.returnType = some (.array ty)) (hlk : meth.locks = false) (hv : v = .null ∨ ∃ a, v = .ref a) (h1 : cells ≤ mc) (h2 : slots ≤ ms) (hdg : decode cc pc = .ok (.areturn, 1)) (hP : Post (some v) kd ig rg lg H.size) : W p l e R s m args below meth c H locs cells slots (MQ below (QcW B D cA Post) args s mc ms (fun q => B ≤ q)) (F0 m pc ls [v]) :=
  W.widen h1 h2 (W.aret C.1.1 C.1.2.1 hr (Or.inr ⟨ty, rfl⟩) hv (QcW.now hw hP) hw.2.2.1.2.2 hdg hlk)
theorem r_callR (C : Cx p m c cc nL s args own B D cA) (hw : WD B D cA s.heap kd ig rg lg H locs) (hM : MC l B D cA y cb maxL ret rm (.ref (cA 30) :: As) kd ig rg lg H.size Post) (sv : SR own index y cb maxL ret na) (hn : As.length = na) (hsize : ls.size = nL) (hst : st = As.reverse ++ .ref (cA 30) :: rest) (hrest : (rest.map fun v => v.category).sum ≤ 8) (hR : rm.frames + 1 ≤ R.frames ∧ 8 + (maxL + 11) + rm.locals ≤ R.locals) (hf : cells + rm.cells ≤ R.cells ∧ slots + rm.slots ≤ R.slots) (hdg : decode cc pc = .ok (.invokevirtual index, 3))
    (kk : ∀ (r : Option Value) (kd' : sK) (ig' : sI) (rg' : sR) (lg' : sG) (H' : Heap) (locs' : List Loc), WD B D cA s.heap kd' ig' rg' lg' H' locs' → H.size ≤ H'.size → Post r kd' ig' rg' lg' H'.size → W p l e R s m args below meth c H' locs' (cells + rm.cells) (slots + rm.slots) Q (F0 m (pc + 3) ls (r.toList ++ rest))) : W p l e R s m args below meth c H locs cells slots Q (F0 m pc ls st) := by
  obtain ⟨s1, s2, s3, s4, s5, s6, s8, s9, s10⟩ := sv
  obtain ⟨cell, g1, g2, g3⟩ := vk_recv (i := 0) C.2.2.2.2.2.1.2.1 (by decide) hw.2.2.1
  refine r_goes hw (va_runV (C := y.cls) (bytes := cb) (maxL := maxL) (ret := ret) (n := na) (index := index) C.1 hM (cwV na C.1.2.2.2.2 (TBg_all ?_) rfl rfl rfl ⟨rfl, s8, s9, s10⟩ hR) ⟨PcW.blind, ⟨cell, g1, g2, by rw [s6]; exact g3⟩, PcW.pre C hw⟩ rfl hn hsize hst (lv_room hrest) hdg hf) kk
  intro w hw
  simp only [wsV, List.mem_append, List.mem_cons, List.not_mem_nil, or_false] at hw
  rcases hw with (rfl | rfl | rfl | rfl) | rfl | h
  · exact s1
  · exact s2
  · exact s3
  · exact s4
  · exact s5
  · exact h
theorem KN.stc (h : KN B D cA s) : va_OF "java/lang/String" "coder" "B" (.int 0) (cA 30) (fun q => B ≤ q) s s.heap ∧ va_OF "java/lang/String" "value" "[B" (.ref (cA 31)) (cA 30) (fun q => B ≤ q) s s.heap ∧ va_T .byte (cA 31) 8 (fun j => .int (([[40, 41, 43, 45, 42, 47, 58, 36]] : List (List Int32)).getD 0 [] |>.getD j 0)) (fun q => B ≤ q) s s.heap := ((h.2.2.2.2.1.2.1).1 0 (by decide)).2
theorem KN.cs (h : KN B D cA s) : va_Z "java/lang/String" "COMPACT_STRINGS" "Z" (.int 1) (fun q => B ≤ q) s s.heap := h.2.2.2.2.1.2.2
end JC
set_option maxHeartbeats 4000000 in
set_option maxRecDepth 100000 in
theorem t_J7_copyOf {τ : Tp} (l : Launch) (B : Nat) (D : va_G) (cA : Nat → ClassId) (kd : sK) (ig : sI) (rg : sR) (lg : sG) (sz : Nat) (a n : Nat) (ka : kd a = some (20, n)) (x : Int32) (hn : n < 1000000) (hx0 : 0 ≤ x.toInt ∧ x.toInt ≤ 120) (hI : IC τ B kd ig rg) : MC l B D cA yJ7_copyOf_59c91 cJ7_copyOf_59c91 3 (some (.array .int)) (rL 1 1 120) [.ref a, .int x] kd ig rg lg sz (PI 1022 τ B none kd ig rg lg (fun r kd' ig' rg' lg' => ∃ h, r = some (.ref h) ∧ kd' h = some (20, x.toInt.toNat) ∧ B + 80 ≤ h ∧ kd h = none ∧ ((x.toInt ≤ (n : Int)) → ∀ i : Nat, (i : Int) < x.toInt → ig' h i = ig a i) ∧ (∀ b i, b ≠ h → ig' b i = ig b i))) := by
  refine MC.of (own := RJ7) (by decide +kernel) rfl (Nat.le_of_ble_eq_true rfl) ?_
  intro p e s m args below meth c ls C hr hlk hnm hw hsz hl
  have hx := C.1.1
  have hb := C.1.2.1
  have hl : lv_has ls 3 [(0, .ref a), (1, .int x)] := hl
  have hN : Nx 1022 B none kd ig rg lg kd ig rg lg := Nx.rf
  have hsh := hI.sh
  obtain ⟨h, sh⟩ : ∃ h, s.heap.size = h := ⟨_, rfl⟩
  have oh : kd h = none := by have h9 := hw.fresh; rw [sh] at h9; exact h9
  have bh : B + 80 ≤ h := by have h9 := hw.lt (hsh 79 _ rfl); omega
  have hah : a ≠ h := by rintro rfl; rw [oh] at ka; cases ka
  refine lv_iload_n hx hb dJ7_copyOf_59c91_0 rfl (lv_at hl 1 rfl) ?_
  refine lv_aload_n hx hb dJ7_copyOf_59c91_1 rfl (lv_at hl 0 rfl) ?_
  refine r_alen C hw ka (by omega) (by omega) dJ7_copyOf_59c91_2 (fun z1 hz1 => ?_)
  refine b_ne (tgt := 14) hx hb dJ7_copyOf_59c91_3 (by decide) (fun c3 => ?_) (fun c3 => ?_)
  · refine lv_iload_n hx hb dJ7_copyOf_59c91_14 rfl (lv_at hl 1 rfl) ?_
    refine r_newa (k := 20) (n := x.toInt.toNat) (ty := .int) (atype := .int) C hw rfl rfl (by omega) ac_int (by omega) rfl (by show _ * 4 ≤ _; omega) (Nat.le_of_ble_eq_true rfl) (by show 0 + _ ≤ 120; omega) dJ7_copyOf_59c91_15 sh (fun H hsz hw => ?_)
    have hI := IC.newa (n := x.toInt.toNat) hI oh bh
    have hN := Nx.newa (k := 20) (n := x.toInt.toNat) hN oh bh
    have ka1 : upK kd h 20 x.toInt.toNat a = some (20, n) := (upK_ne hah).trans ka
    refine W.widen (k := 1) (n := 120) (Nat.le_of_ble_eq_true rfl) (by show 0 + _ ≤ 120; omega) ?_
    refine lv_astore_n (lv' := [(2, .ref h), (0, .ref a), (1, .int x)]) hx hb dJ7_copyOf_59c91_17 rfl hl (by decide) rfl (fun ls hl => ?_)
    refine lv_aload_n hx hb dJ7_copyOf_59c91_18 rfl (lv_at hl 1 rfl) ?_
    refine lv_iconst (v := 0) hx hb dJ7_copyOf_59c91_19 (by decide) (ti_c 0 (by decide) fun z2 hz2 => ?_)
    refine lv_aload_n hx hb dJ7_copyOf_59c91_20 rfl (lv_at hl 0 rfl) ?_
    refine lv_iconst (v := 0) hx hb dJ7_copyOf_59c91_21 (by decide) (ti_c 0 (by decide) fun z3 hz3 => ?_)
    refine lv_aload_n hx hb dJ7_copyOf_59c91_22 rfl (lv_at hl 1 rfl) ?_
    refine r_alen C hw ka1 (by omega) (by omega) dJ7_copyOf_59c91_23 (fun z4 hz4 => ?_)
    refine lv_iload_n hx hb dJ7_copyOf_59c91_24 rfl (lv_at hl 2 rfl) ?_
    refine r_min C ss_J7_304 hl.1 (Nat.le_of_ble_eq_true rfl) (Nat.le_of_ble_eq_true rfl) (Nat.le_of_ble_eq_true rfl) (Nat.le_of_ble_eq_true rfl) dJ7_copyOf_59c91_25 (fun z5 hz5 => ?_)
    refine r_acopy (k := 20) (Or.inl rfl) C hw ay_J7 ay_n ay_s ay_i ka1 upK_eq (by omega) (by omega) (by omega) (by omega) (by omega) hl.1 (Nat.le_of_ble_eq_true rfl) (Nat.le_of_ble_eq_true rfl) dJ7_copyOf_59c91_28 (fun H locs ig1 lg1 q1 q2 q3 q4 hsz2 hw => ?_)
    obtain ⟨elg, ecp⟩ := q3 rfl
    rw [elg] at hw
    have hI := IC.oi hI (fun b i hb9 => q1 b i (by omega))
    have hN := Nx.oa hN oh bh q1
    refine lv_aload_n hx hb dJ7_copyOf_59c91_31 rfl (lv_at hl 0 rfl) ?_
    exact r_areta C hw hr hlk (Or.inr ⟨_, rfl⟩) (Nat.le_of_ble_eq_true rfl) (Nat.le_of_ble_eq_true rfl) dJ7_copyOf_59c91_32 ⟨hI, hN, h, rfl, upK_eq, bh, oh, fun hle i hi => by rw [ecp i, va_cpy, show z3.toInt.toNat = 0 by omega, show z2.toInt.toNat = 0 by omega, if_pos (by omega), upR_ne hah, Nat.sub_zero, Nat.zero_add], fun b i hb => (q1 b i hb).trans (upR_ne hb)⟩
  · have en : n = x.toInt.toNat := by omega
    refine lv_aload_n hx hb dJ7_copyOf_59c91_6 rfl (lv_at hl 0 rfl) ?_
    refine r_clone C hw ce_l ce_m ce_n ce_i ce_s ka hl.1 (Nat.le_of_ble_eq_true rfl) (Nat.le_of_ble_eq_true rfl) (Nat.le_of_ble_eq_true rfl) (by show 0 + _ ≤ 120; omega) dJ7_copyOf_59c91_7 sh (fun H hsz hw => ?_)
    have hI : IC τ B (upK kd h 20 n) (upA ig h (ig a)) rg := IC.oi (IC.newa (n := n) hI oh bh) (fun b i hb9 => by rw [upA_ne (by omega), upR_ne (by omega)])
    have hN : Nx 1022 B none kd ig rg lg (upK kd h 20 n) (upA ig h (ig a)) rg lg := Nx.oa (Nx.newa (k := 20) (n := n) hN oh bh) oh bh (fun b i hb => by rw [upA_ne hb, upR_ne hb])
    refine W.widen (k := 1) (n := 120) (Nat.le_of_ble_eq_true rfl) (by show 0 + _ ≤ 120; omega) ?_
    refine r_castI C hw ce_c upK_eq dJ7_copyOf_59c91_10 ?_
    exact r_areta C hw hr hlk (Or.inr ⟨_, rfl⟩) (Nat.le_of_ble_eq_true rfl) (Nat.le_of_ble_eq_true rfl) dJ7_copyOf_59c91_13 ⟨hI, hN, h, rfl, by rw [← en]; exact upK_eq, bh, oh, fun _ i _ => by rw [upA_eq], fun b i hb => upA_ne hb⟩
