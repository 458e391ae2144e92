set_option maxHeartbeats 4000000 in
set_option maxRecDepth 100000 in
theorem t_X4_stepAtE {τ : Tp} (l : Launch) (B : Nat) (D : va_G) (cA : Nat → ClassId) (kd : sK) (ig : sI) (rg : sR) (lg : sG) (sz : Nat) (f : Nat) (L : Fm) (hL : FnL B kd ig rg f L) (x : Int32) (hI : IC τ B kd ig rg) : MC l B D cA yX4_stepAt cX4_stepAt 2 (some .int) (rL 0 0 0) [.ref f, .int x] kd ig rg lg sz (Pu kd ig rg lg sz (fun r => ∃ z : Int32, r = some (.int z) ∧ z.toInt = (stp L x.toInt).1)) := by
  refine MC.of (own := RX4) (by decide +kernel) rfl (Nat.le_of_ble_eq_true rfl) ?_
  intro p e s m args below meth c ls C hr hlk hnm hw hsz hl
  have hx := C.1.1
  have hb := C.1.2.1
  have hown := C.1.2.2.2.1
  have hts := C.1.2.2.2.2
  have hl : lv_has ls 2 [(0, .ref f), (1, .int x)] := hl
  have hsh := hI.sh
  have hrs := hI.rs
  have lnf := hL.le
  refine lv_iload_n hx hb dX4_stepAt_0 rfl (lv_at hl 1 rfl) ?_
  have J23 : ∀ (ls : Array Slot) (H : Heap) (locs : List Loc) (u1 : Int32), lv_has ls 2 [] → WD B D cA s.heap kd ig rg lg H locs → H.size = sz → (u1.toInt = (stp L x.toInt).1) → W p l e (rL 0 0 0) s m args below meth c H locs 0 0 (MQ below (QcW B D cA (Pu kd ig rg lg sz (fun r => ∃ z : Int32, r = some (.int z) ∧ z.toInt = (stp L x.toInt).1))) args s 0 0 (fun q => B ≤ q)) (F0 m 23 ls [.int u1]) := by
    intro ls H locs u1 hl hw hsz g23_0
    exact r_iret C hw hr hlk rfl (Nat.le_of_ble_eq_true rfl) (Nat.le_of_ble_eq_true rfl) dX4_stepAt_23 ⟨rfl, rfl, rfl, rfl, hsz, ⟨_, rfl, g23_0⟩⟩
  refine z_lt (tgt := 22) hx hb dX4_stepAt_1 (by decide) (fun c1 => ?_) (fun c1 => ?_)
  · refine lv_iconst (v := (-1)) hx hb dX4_stepAt_22 (by decide) (ti_c (-1) (by decide) fun z2 hz2 => ?_)
    exact J23 ls s.heap [] z2 (lv_sub hl [] rfl) hw hsz (by rw [stp_out (by omega)]; exact hz2)
  · refine lv_iload_n hx hb dX4_stepAt_4 rfl (lv_at hl 1 rfl) ?_
    refine lv_aload_n hx hb dX4_stepAt_5 rfl (lv_at hl 0 rfl) ?_
    obtain ⟨a3, ra3, ka3, ga3⟩ := isFn.arr (FnL.F hL) 0 (by decide)
    refine r_get C hw (isFn.k (FnL.F hL)) fl_X4_17 (oV_r rfl ra3) dX4_stepAt_6 ?_
    refine r_alen C hw ka3 (by omega) (by omega) dX4_stepAt_9 (fun z4 hz4 => ?_)
    refine b_ge (tgt := 22) hx hb dX4_stepAt_10 (by decide) (fun c10 => ?_) (fun c10 => ?_)
    · refine lv_iconst (v := (-1)) hx hb dX4_stepAt_22 (by decide) (ti_c (-1) (by decide) fun z5 hz5 => ?_)
      exact J23 ls s.heap [] z5 (lv_sub hl [] rfl) hw hsz (by rw [stp_out (by omega)]; exact hz5)
    · refine lv_aload_n hx hb dX4_stepAt_13 rfl (lv_at hl 0 rfl) ?_
      obtain ⟨a6, ra6, ka6, ga6⟩ := isFn.arr (FnL.F hL) 0 (by decide)
      refine r_get C hw (isFn.k (FnL.F hL)) fl_X4_17 (oV_r rfl ra6) dX4_stepAt_14 ?_
      refine lv_iload_n hx hb dX4_stepAt_17 rfl (lv_at hl 1 rfl) ?_
      refine r_iald C hw ka6 (by omega) (by omega) dX4_stepAt_18 (ti_c (ig a6 x.toInt.toNat).toInt rfl fun z7 hz7 => ?_)
      have ez : z7.toInt = (stp L x.toInt).1 := by rw [hz7]; exact hL.sD ra6 (by omega) (by omega)
      refine lv_goto (tgt := 23) hx hb dX4_stepAt_19 (by decide) ?_
      exact J23 ls s.heap [] z7 (lv_sub hl [] rfl) hw hsz (ez)

set_option maxHeartbeats 4000000 in
set_option maxRecDepth 100000 in
theorem t_X4_readsAtE {τ : Tp} (l : Launch) (B : Nat) (D : va_G) (cA : Nat → ClassId) (kd : sK) (ig : sI) (rg : sR) (lg : sG) (sz : Nat) (f : Nat) (L : Fm) (hL : FnL B kd ig rg f L) (x : Int32) (hI : IC τ B kd ig rg) : MC l B D cA yX4_readsAt cX4_readsAt 3 (some .boolean) (rL 1 0 0) [.ref f, .int x] kd ig rg lg sz (Pu kd ig rg lg sz (fun r => ∃ z : Int32, r = some (.int z) ∧ ((z.toInt = 1 ∧ rdS (stp L x.toInt)) ∨ (z.toInt = 0 ∧ ¬ rdS (stp L x.toInt))))) := by
  refine MC.of (own := RX4) (by decide +kernel) rfl (Nat.le_of_ble_eq_true rfl) ?_
  intro p e s m args below meth c ls C hr hlk hnm hw hsz hl
  have hx := C.1.1
  have hb := C.1.2.1
  have hown := C.1.2.2.2.1
  have hts := C.1.2.2.2.2
  have hl : lv_has ls 3 [(0, .ref f), (1, .int x)] := hl
  have hsh := hI.sh
  have hrs := hI.rs
  have lnf := hL.le
  refine lv_aload_n hx hb dX4_readsAt_0 rfl (lv_at hl 0 rfl) ?_
  refine lv_iload_n hx hb dX4_readsAt_1 rfl (lv_at hl 1 rfl) ?_
  refine r_callV (As := [.int x]) (rest := []) C hw (t_X4_stepAtE l B D cA kd ig rg lg _ f L hL x  hI) sv_X4_27 (isFn.k (FnL.F hL)) rfl hl.1 rfl (Nat.le_of_ble_eq_true rfl) ⟨Nat.le_of_ble_eq_true rfl, Nat.le_of_ble_eq_true rfl⟩ ⟨Nat.le_of_ble_eq_true rfl, Nat.le_of_ble_eq_true rfl⟩ dX4_readsAt_2 (fun r5 kd1 ig2 rg3 lg4 H locs hw hH hp6 => ?_)
  obtain ⟨rfl, rfl, rfl, rfl, hzhp6, hrhp6⟩ := hp6
  have hsz := hzhp6.trans hsz
  obtain ⟨z7, rfl, hz7⟩ := hrhp6
  refine lv_istore_n (lv' := [(2, .int z7), (0, .ref f), (1, .int x)]) hx hb dX4_readsAt_5 rfl hl (by decide) rfl (fun ls hl => ?_)
  refine lv_iload_n hx hb dX4_readsAt_6 rfl (lv_at hl 0 rfl) ?_
  refine lv_iconst (v := 1) hx hb dX4_readsAt_7 (by decide) (ti_c 1 (by decide) fun z8 hz8 => ?_)
  have J21 : ∀ (ls : Array Slot) (H : Heap) (locs : List Loc) (u9 : Int32), lv_has ls 3 [] → WD B D cA s.heap kd ig rg lg H locs → H.size = sz → ((u9.toInt = 1 ∧ ((stp L x.toInt).1 = 1 ∨ (stp L x.toInt).1 = 2)) ∨ (u9.toInt = 0 ∧ ¬ ((stp L x.toInt).1 = 1 ∨ (stp L x.toInt).1 = 2))) → W p l e (rL 1 0 0) s m args below meth c H locs 0 0 (MQ below (QcW B D cA (Pu kd ig rg lg sz (fun r => ∃ z : Int32, r = some (.int z) ∧ ((z.toInt = 1 ∧ rdS (stp L x.toInt)) ∨ (z.toInt = 0 ∧ ¬ rdS (stp L x.toInt)))))) args s 0 0 (fun q => B ≤ q)) (F0 m 21 ls [.int u9]) := by
    intro ls H locs u9 hl hw hsz g21_0
    exact r_iret C hw hr hlk (nar_b (by omega)) (Nat.le_of_ble_eq_true rfl) (Nat.le_of_ble_eq_true rfl) dX4_readsAt_21 ⟨rfl, rfl, rfl, rfl, hsz, ⟨_, rfl, g21_0⟩⟩
  have J16 : ∀ (ls : Array Slot) (H : Heap) (locs : List Loc) , lv_has ls 3 [] → WD B D cA s.heap kd ig rg lg H locs → H.size = sz → ((stp L x.toInt).1 = 1 ∨ (stp L x.toInt).1 = 2) → W p l e (rL 1 0 0) s m args below meth c H locs 0 0 (MQ below (QcW B D cA (Pu kd ig rg lg sz (fun r => ∃ z : Int32, r = some (.int z) ∧ ((z.toInt = 1 ∧ rdS (stp L x.toInt)) ∨ (z.toInt = 0 ∧ ¬ rdS (stp L x.toInt)))))) args s 0 0 (fun q => B ≤ q)) (F0 m 16 ls []) := by
    intro ls H locs  hl hw hsz g16_0
    refine lv_iconst (v := 1) hx hb dX4_readsAt_16 (by decide) (ti_c 1 (by decide) fun z10 hz10 => ?_)
    refine lv_goto (tgt := 21) hx hb dX4_readsAt_17 (by decide) ?_
    exact J21 ls H locs z10 (lv_sub hl [] rfl) hw hsz (by omega)
  refine b_eq (tgt := 16) hx hb dX4_readsAt_8 (by decide) (fun c8 => ?_) (fun c8 => ?_)
  · exact J16 ls H locs (lv_sub hl [] rfl) hw hsz (by omega)
  · refine lv_iload_n hx hb dX4_readsAt_11 rfl (lv_at hl 0 rfl) ?_
    refine lv_iconst (v := 2) hx hb dX4_readsAt_12 (by decide) (ti_c 2 (by decide) fun z11 hz11 => ?_)
    refine b_ne (tgt := 20) hx hb dX4_readsAt_13 (by decide) (fun c13 => ?_) (fun c13 => ?_)
    · refine lv_iconst (v := 0) hx hb dX4_readsAt_20 (by decide) (ti_c 0 (by decide) fun z12 hz12 => ?_)
      exact J21 ls H locs z12 (lv_sub hl [] rfl) hw hsz (by omega)
    · exact J16 ls H locs (lv_sub hl [] rfl) hw hsz (by omega)

set_option maxHeartbeats 4000000 in
set_option maxRecDepth 100000 in
theorem t_X4_leftE {τ : Tp} (l : Launch) (B : Nat) (D : va_G) (cA : Nat → ClassId) (kd : sK) (ig : sI) (rg : sR) (lg : sG) (sz : Nat) (f : Nat) (L : Fm) (hL : FnL B kd ig rg f L) (x : Int32) (y : Int32) (hin : 0 ≤ x.toInt ∧ x.toInt < (L.length : Int)) (hy0 : 0 ≤ y.toInt ∧ y.toInt < 288) (hw0 : pkR (stp L x.toInt).2.1) (hI : IC τ B kd ig rg) : MC l B D cA yX4_left cX4_left 3 (some .int) (rL 1 0 0) [.ref f, .int x, .int y] kd ig rg lg sz (Pu kd ig rg lg sz (fun r => ∃ z : Int32, r = some (.int z) ∧ z.toInt = colv (stp L x.toInt).2.1 y.toInt)) := by
  refine MC.of (own := RX4) (by decide +kernel) rfl (Nat.le_of_ble_eq_true rfl) ?_
  intro p e s m args below meth c ls C hr hlk hnm hw hsz hl
  have hx := C.1.1
  have hb := C.1.2.1
  have hown := C.1.2.2.2.1
  have hts := C.1.2.2.2.2
  have hl : lv_has ls 3 [(0, .ref f), (1, .int x), (2, .int y)] := hl
  have hsh := hI.sh
  have hrs := hI.rs
  have lnf := hL.le
  refine lv_iload_n hx hb dX4_left_0 rfl (lv_at hl 1 rfl) ?_
  refine z_lt (tgt := 26) hx hb dX4_left_1 (by decide) (fun c1 => ?_) (fun c1 => ?_)
  · exact absurd c1 (by omega)
  · refine lv_iload_n hx hb dX4_left_4 rfl (lv_at hl 1 rfl) ?_
    refine lv_aload_n hx hb dX4_left_5 rfl (lv_at hl 0 rfl) ?_
    obtain ⟨a1, ra1, ka1, ga1⟩ := isFn.arr (FnL.F hL) 1 (by decide)
    refine r_get C hw (isFn.k (FnL.F hL)) fl_X4_21 (oV_r rfl ra1) dX4_left_6 ?_
    refine r_alen C hw ka1 (by omega) (by omega) dX4_left_9 (fun z2 hz2 => ?_)
    refine b_ge (tgt := 26) hx hb dX4_left_10 (by decide) (fun c10 => ?_) (fun c10 => ?_)
    · exact absurd c10 (by omega)
    · refine lv_aload_n hx hb dX4_left_13 rfl (lv_at hl 0 rfl) ?_
      obtain ⟨a3, ra3, ka3, ga3⟩ := isFn.arr (FnL.F hL) 1 (by decide)
      refine r_get C hw (isFn.k (FnL.F hL)) fl_X4_21 (oV_r rfl ra3) dX4_left_14 ?_
      refine lv_iload_n hx hb dX4_left_17 rfl (lv_at hl 1 rfl) ?_
      refine r_iald C hw ka3 (by omega) (by omega) dX4_left_18 (ti_c (ig a3 x.toInt.toNat).toInt rfl fun z4 hz4 => ?_)
      have ez : z4.toInt = (stp L x.toInt).2.1 := by rw [hz4]; exact hL.aD ra3 (by omega) (by omega)
      have hw1 := hw0.1
      refine lv_iload_n hx hb dX4_left_19 rfl (lv_at hl 2 rfl) ?_
      refine r_callS (As := [.int z4, .int y]) (rest := []) C hw (t_X4_columnOfE l B D cA kd ig rg lg _ z4 y (by omega) (by omega) hI) ss_X4_31 rfl hl.1 rfl (Nat.le_of_ble_eq_true rfl) ⟨Nat.le_of_ble_eq_true rfl, Nat.le_of_ble_eq_true rfl⟩ ⟨Nat.le_of_ble_eq_true rfl, Nat.le_of_ble_eq_true rfl⟩ dX4_left_20 (fun r9 kd5 ig6 rg7 lg8 H locs hw hH hp10 => ?_)
      obtain ⟨rfl, rfl, rfl, rfl, hzhp10, hrhp10⟩ := hp10
      have hsz := hzhp10.trans hsz
      obtain ⟨z11, rfl, hz11⟩ := hrhp10
      refine lv_goto (tgt := 27) hx hb dX4_left_23 (by decide) ?_
      exact r_iret C hw hr hlk rfl (Nat.le_of_ble_eq_true rfl) (Nat.le_of_ble_eq_true rfl) dX4_left_27 ⟨rfl, rfl, rfl, rfl, hsz, ⟨_, rfl, by rw [hz11, ez]⟩⟩

set_option maxHeartbeats 4000000 in
set_option maxRecDepth 100000 in
theorem t_X4_rightE {τ : Tp} (l : Launch) (B : Nat) (D : va_G) (cA : Nat → ClassId) (kd : sK) (ig : sI) (rg : sR) (lg : sG) (sz : Nat) (f : Nat) (L : Fm) (hL : FnL B kd ig rg f L) (x : Int32) (y : Int32) (hin : 0 ≤ x.toInt ∧ x.toInt < (L.length : Int)) (hy0 : 0 ≤ y.toInt ∧ y.toInt < 288) (hw0 : pkR (stp L x.toInt).2.2) (hI : IC τ B kd ig rg) : MC l B D cA yX4_right cX4_right 3 (some .int) (rL 1 0 0) [.ref f, .int x, .int y] kd ig rg lg sz (Pu kd ig rg lg sz (fun r => ∃ z : Int32, r = some (.int z) ∧ z.toInt = colv (stp L x.toInt).2.2 y.toInt)) := by
  refine MC.of (own := RX4) (by decide +kernel) rfl (Nat.le_of_ble_eq_true rfl) ?_
  intro p e s m args below meth c ls C hr hlk hnm hw hsz hl
  have hx := C.1.1
  have hb := C.1.2.1
  have hown := C.1.2.2.2.1
  have hts := C.1.2.2.2.2
  have hl : lv_has ls 3 [(0, .ref f), (1, .int x), (2, .int y)] := hl
  have hsh := hI.sh
  have hrs := hI.rs
  have lnf := hL.le
  refine lv_iload_n hx hb dX4_right_0 rfl (lv_at hl 1 rfl) ?_
  refine z_lt (tgt := 26) hx hb dX4_right_1 (by decide) (fun c1 => ?_) (fun c1 => ?_)
  · exact absurd c1 (by omega)
  · refine lv_iload_n hx hb dX4_right_4 rfl (lv_at hl 1 rfl) ?_
    refine lv_aload_n hx hb dX4_right_5 rfl (lv_at hl 0 rfl) ?_
    obtain ⟨a1, ra1, ka1, ga1⟩ := isFn.arr (FnL.F hL) 2 (by decide)
    refine r_get C hw (isFn.k (FnL.F hL)) fl_X4_24 (oV_r rfl ra1) dX4_right_6 ?_
    refine r_alen C hw ka1 (by omega) (by omega) dX4_right_9 (fun z2 hz2 => ?_)
    refine b_ge (tgt := 26) hx hb dX4_right_10 (by decide) (fun c10 => ?_) (fun c10 => ?_)
    · exact absurd c10 (by omega)
    · refine lv_aload_n hx hb dX4_right_13 rfl (lv_at hl 0 rfl) ?_
      obtain ⟨a3, ra3, ka3, ga3⟩ := isFn.arr (FnL.F hL) 2 (by decide)
      refine r_get C hw (isFn.k (FnL.F hL)) fl_X4_24 (oV_r rfl ra3) dX4_right_14 ?_
      refine lv_iload_n hx hb dX4_right_17 rfl (lv_at hl 1 rfl) ?_
      refine r_iald C hw ka3 (by omega) (by omega) dX4_right_18 (ti_c (ig a3 x.toInt.toNat).toInt rfl fun z4 hz4 => ?_)
      have ez : z4.toInt = (stp L x.toInt).2.2 := by rw [hz4]; exact hL.lD ra3 (by omega) (by omega)
      have hw1 := hw0.1
      refine lv_iload_n hx hb dX4_right_19 rfl (lv_at hl 2 rfl) ?_
      refine r_callS (As := [.int z4, .int y]) (rest := []) C hw (t_X4_columnOfE l B D cA kd ig rg lg _ z4 y (by omega) (by omega) hI) ss_X4_31 rfl hl.1 rfl (Nat.le_of_ble_eq_true rfl) ⟨Nat.le_of_ble_eq_true rfl, Nat.le_of_ble_eq_true rfl⟩ ⟨Nat.le_of_ble_eq_true rfl, Nat.le_of_ble_eq_true rfl⟩ dX4_right_20 (fun r9 kd5 ig6 rg7 lg8 H locs hw hH hp10 => ?_)
      obtain ⟨rfl, rfl, rfl, rfl, hzhp10, hrhp10⟩ := hp10
      have hsz := hzhp10.trans hsz
      obtain ⟨z11, rfl, hz11⟩ := hrhp10
      refine lv_goto (tgt := 27) hx hb dX4_right_23 (by decide) ?_
      exact r_iret C hw hr hlk rfl (Nat.le_of_ble_eq_true rfl) (Nat.le_of_ble_eq_true rfl) dX4_right_27 ⟨rfl, rfl, rfl, rfl, hsz, ⟨_, rfl, by rw [hz11, ez]⟩⟩

set_option maxHeartbeats 4000000 in
set_option maxRecDepth 100000 in
theorem t_X4_topE {τ : Tp} (l : Launch) (B : Nat) (D : va_G) (cA : Nat → ClassId) (kd : sK) (ig : sI) (rg : sR) (lg : sG) (sz : Nat) (f : Nat) (L : Fm) (hL : FnL B kd ig rg f L) (x : Int32) (y : Int32) (hin : 0 ≤ x.toInt ∧ x.toInt < (L.length : Int)) (hy0 : 0 ≤ y.toInt ∧ y.toInt < 288) (hw0 : pkR (stp L x.toInt).2.1) (hI : IC τ B kd ig rg) : MC l B D cA yX4_top cX4_top 3 (some .int) (rL 1 0 0) [.ref f, .int x, .int y] kd ig rg lg sz (Pu kd ig rg lg sz (fun r => ∃ z : Int32, r = some (.int z) ∧ z.toInt = rowv (stp L x.toInt).2.1 y.toInt)) := by
  refine MC.of (own := RX4) (by decide +kernel) rfl (Nat.le_of_ble_eq_true rfl) ?_
  intro p e s m args below meth c ls C hr hlk hnm hw hsz hl
  have hx := C.1.1
  have hb := C.1.2.1
  have hown := C.1.2.2.2.1
  have hts := C.1.2.2.2.2
  have hl : lv_has ls 3 [(0, .ref f), (1, .int x), (2, .int y)] := hl
  have hsh := hI.sh
  have hrs := hI.rs
  have lnf := hL.le
  refine lv_iload_n hx hb dX4_top_0 rfl (lv_at hl 1 rfl) ?_
  refine z_lt (tgt := 26) hx hb dX4_top_1 (by decide) (fun c1 => ?_) (fun c1 => ?_)
  · exact absurd c1 (by omega)
  · refine lv_iload_n hx hb dX4_top_4 rfl (lv_at hl 1 rfl) ?_
    refine lv_aload_n hx hb dX4_top_5 rfl (lv_at hl 0 rfl) ?_
    obtain ⟨a1, ra1, ka1, ga1⟩ := isFn.arr (FnL.F hL) 1 (by decide)
    refine r_get C hw (isFn.k (FnL.F hL)) fl_X4_21 (oV_r rfl ra1) dX4_top_6 ?_
    refine r_alen C hw ka1 (by omega) (by omega) dX4_top_9 (fun z2 hz2 => ?_)
    refine b_ge (tgt := 26) hx hb dX4_top_10 (by decide) (fun c10 => ?_) (fun c10 => ?_)
    · exact absurd c10 (by omega)
    · refine lv_aload_n hx hb dX4_top_13 rfl (lv_at hl 0 rfl) ?_
      obtain ⟨a3, ra3, ka3, ga3⟩ := isFn.arr (FnL.F hL) 1 (by decide)
      refine r_get C hw (isFn.k (FnL.F hL)) fl_X4_21 (oV_r rfl ra3) dX4_top_14 ?_
      refine lv_iload_n hx hb dX4_top_17 rfl (lv_at hl 1 rfl) ?_
      refine r_iald C hw ka3 (by omega) (by omega) dX4_top_18 (ti_c (ig a3 x.toInt.toNat).toInt rfl fun z4 hz4 => ?_)
      have ez : z4.toInt = (stp L x.toInt).2.1 := by rw [hz4]; exact hL.aD ra3 (by omega) (by omega)
      have hw1 := hw0.1
      refine lv_iload_n hx hb dX4_top_19 rfl (lv_at hl 2 rfl) ?_
      refine r_callS (As := [.int z4, .int y]) (rest := []) C hw (t_X4_rowOfE l B D cA kd ig rg lg _ z4 y (by omega) (by omega) hI) ss_X4_35 rfl hl.1 rfl (Nat.le_of_ble_eq_true rfl) ⟨Nat.le_of_ble_eq_true rfl, Nat.le_of_ble_eq_true rfl⟩ ⟨Nat.le_of_ble_eq_true rfl, Nat.le_of_ble_eq_true rfl⟩ dX4_top_20 (fun r9 kd5 ig6 rg7 lg8 H locs hw hH hp10 => ?_)
      obtain ⟨rfl, rfl, rfl, rfl, hzhp10, hrhp10⟩ := hp10
      have hsz := hzhp10.trans hsz
      obtain ⟨z11, rfl, hz11⟩ := hrhp10
      refine lv_goto (tgt := 27) hx hb dX4_top_23 (by decide) ?_
      exact r_iret C hw hr hlk rfl (Nat.le_of_ble_eq_true rfl) (Nat.le_of_ble_eq_true rfl) dX4_top_27 ⟨rfl, rfl, rfl, rfl, hsz, ⟨_, rfl, by rw [hz11, ez]⟩⟩

set_option maxHeartbeats 4000000 in
set_option maxRecDepth 100000 in
theorem t_X4_bottomE {τ : Tp} (l : Launch) (B : Nat) (D : va_G) (cA : Nat → ClassId) (kd : sK) (ig : sI) (rg : sR) (lg : sG) (sz : Nat) (f : Nat) (L : Fm) (hL : FnL B kd ig rg f L) (x : Int32) (y : Int32) (hin : 0 ≤ x.toInt ∧ x.toInt < (L.length : Int)) (hy0 : 0 ≤ y.toInt ∧ y.toInt < 288) (hw0 : pkR (stp L x.toInt).2.2) (hI : IC τ B kd ig rg) : MC l B D cA yX4_bottom cX4_bottom 3 (some .int) (rL 1 0 0) [.ref f, .int x, .int y] kd ig rg lg sz (Pu kd ig rg lg sz (fun r => ∃ z : Int32, r = some (.int z) ∧ z.toInt = rowv (stp L x.toInt).2.2 y.toInt)) := by
  refine MC.of (own := RX4) (by decide +kernel) rfl (Nat.le_of_ble_eq_true rfl) ?_
  intro p e s m args below meth c ls C hr hlk hnm hw hsz hl
  have hx := C.1.1
  have hb := C.1.2.1
  have hown := C.1.2.2.2.1
  have hts := C.1.2.2.2.2
  have hl : lv_has ls 3 [(0, .ref f), (1, .int x), (2, .int y)] := hl
  have hsh := hI.sh
  have hrs := hI.rs
  have lnf := hL.le
  refine lv_iload_n hx hb dX4_bottom_0 rfl (lv_at hl 1 rfl) ?_
  refine z_lt (tgt := 26) hx hb dX4_bottom_1 (by decide) (fun c1 => ?_) (fun c1 => ?_)
  · exact absurd c1 (by omega)
  · refine lv_iload_n hx hb dX4_bottom_4 rfl (lv_at hl 1 rfl) ?_
    refine lv_aload_n hx hb dX4_bottom_5 rfl (lv_at hl 0 rfl) ?_
    obtain ⟨a1, ra1, ka1, ga1⟩ := isFn.arr (FnL.F hL) 2 (by decide)
    refine r_get C hw (isFn.k (FnL.F hL)) fl_X4_24 (oV_r rfl ra1) dX4_bottom_6 ?_
    refine r_alen C hw ka1 (by omega) (by omega) dX4_bottom_9 (fun z2 hz2 => ?_)
    refine b_ge (tgt := 26) hx hb dX4_bottom_10 (by decide) (fun c10 => ?_) (fun c10 => ?_)
    · exact absurd c10 (by omega)
    · refine lv_aload_n hx hb dX4_bottom_13 rfl (lv_at hl 0 rfl) ?_
      obtain ⟨a3, ra3, ka3, ga3⟩ := isFn.arr (FnL.F hL) 2 (by decide)
      refine r_get C hw (isFn.k (FnL.F hL)) fl_X4_24 (oV_r rfl ra3) dX4_bottom_14 ?_
      refine lv_iload_n hx hb dX4_bottom_17 rfl (lv_at hl 1 rfl) ?_
      refine r_iald C hw ka3 (by omega) (by omega) dX4_bottom_18 (ti_c (ig a3 x.toInt.toNat).toInt rfl fun z4 hz4 => ?_)
      have ez : z4.toInt = (stp L x.toInt).2.2 := by rw [hz4]; exact hL.lD ra3 (by omega) (by omega)
      have hw1 := hw0.1
      refine lv_iload_n hx hb dX4_bottom_19 rfl (lv_at hl 2 rfl) ?_
      refine r_callS (As := [.int z4, .int y]) (rest := []) C hw (t_X4_rowOfE l B D cA kd ig rg lg _ z4 y (by omega) (by omega) hI) ss_X4_35 rfl hl.1 rfl (Nat.le_of_ble_eq_true rfl) ⟨Nat.le_of_ble_eq_true rfl, Nat.le_of_ble_eq_true rfl⟩ ⟨Nat.le_of_ble_eq_true rfl, Nat.le_of_ble_eq_true rfl⟩ dX4_bottom_20 (fun r9 kd5 ig6 rg7 lg8 H locs hw hH hp10 => ?_)
      obtain ⟨rfl, rfl, rfl, rfl, hzhp10, hrhp10⟩ := hp10
      have hsz := hzhp10.trans hsz
      obtain ⟨z11, rfl, hz11⟩ := hrhp10
      refine lv_goto (tgt := 27) hx hb dX4_bottom_23 (by decide) ?_
      exact r_iret C hw hr hlk rfl (Nat.le_of_ble_eq_true rfl) (Nat.le_of_ble_eq_true rfl) dX4_bottom_27 ⟨rfl, rfl, rfl, rfl, hsz, ⟨_, rfl, by rw [hz11, ez]⟩⟩

set_option maxHeartbeats 4000000 in
set_option maxRecDepth 100000 in
theorem t_X4_spanFitsE {τ : Tp} (l : Launch) (B : Nat) (D : va_G) (cA : Nat → ClassId) (kd : sK) (ig : sI) (rg : sR) (lg : sG) (sz : Nat) (f : Nat) (L : Fm) (hL : FnL B kd ig rg f L) (x : Int32) (y : Int32) (hin : 0 ≤ x.toInt ∧ x.toInt < (L.length : Int)) (hy0 : 0 ≤ y.toInt ∧ y.toInt < 288) (hpk : pkR (stp L x.toInt).2.1 ∧ pkR (stp L x.toInt).2.2) (hI : IC τ B kd ig rg) : MC l B D cA yX4_spanFits cX4_spanFits 3 (some .boolean) (rL 2 0 0) [.ref f, .int x, .int y] kd ig rg lg sz (Pu kd ig rg lg sz (fun r => ∃ z : Int32, r = some (.int z) ∧ ((z.toInt = 1 ∧ fitS y.toInt (stp L x.toInt)) ∨ (z.toInt = 0 ∧ ¬ fitS y.toInt (stp L x.toInt))))) := by
  refine MC.of (own := RX4) (by decide +kernel) rfl (Nat.le_of_ble_eq_true rfl) ?_
  intro p e s m args below meth c ls C hr hlk hnm hw hsz hl
  have hx := C.1.1
  have hb := C.1.2.1
  have hown := C.1.2.2.2.1
  have hts := C.1.2.2.2.2
  have hl : lv_has ls 3 [(0, .ref f), (1, .int x), (2, .int y)] := hl
  have hsh := hI.sh
  have hrs := hI.rs
  have lnf := hL.le
  refine lv_aload_n hx hb dX4_spanFits_0 rfl (lv_at hl 0 rfl) ?_
  refine lv_iload_n hx hb dX4_spanFits_1 rfl (lv_at hl 1 rfl) ?_
  refine lv_iload_n hx hb dX4_spanFits_2 rfl (lv_at hl 2 rfl) ?_
  refine r_callV (As := [.int x, .int y]) (rest := []) C hw (t_X4_leftE l B D cA kd ig rg lg _ f L hL x y (by omega) (by omega) hpk.1 hI) sv_X4_38 (isFn.k (FnL.F hL)) rfl hl.1 rfl (Nat.le_of_ble_eq_true rfl) ⟨Nat.le_of_ble_eq_true rfl, Nat.le_of_ble_eq_true rfl⟩ ⟨Nat.le_of_ble_eq_true rfl, Nat.le_of_ble_eq_true rfl⟩ dX4_spanFits_3 (fun r5 kd1 ig2 rg3 lg4 H locs hw hH hp6 => ?_)
  obtain ⟨rfl, rfl, rfl, rfl, hzhp6, hrhp6⟩ := hp6
  have hsz := hzhp6.trans hsz
  obtain ⟨z7, rfl, hz7⟩ := hrhp6
  refine z_lt (tgt := 74) hx hb dX4_spanFits_6 (by decide) (fun c6 => ?_) (fun c6 => ?_)
  · refine lv_iconst (v := 0) hx hb dX4_spanFits_74 (by decide) (ti_c 0 (by decide) fun z8 hz8 => ?_)
    exact r_iret C hw hr hlk (nar_b (by omega)) (Nat.le_of_ble_eq_true rfl) (Nat.le_of_ble_eq_true rfl) dX4_spanFits_75 ⟨rfl, rfl, rfl, rfl, hsz, ⟨_, rfl, Or.inr ⟨by omega, by unfold fitS inR orR; omega⟩⟩⟩
  · refine lv_aload_n hx hb dX4_spanFits_9 rfl (lv_at hl 0 rfl) ?_
    refine lv_iload_n hx hb dX4_spanFits_10 rfl (lv_at hl 1 rfl) ?_
    refine lv_iload_n hx hb dX4_spanFits_11 rfl (lv_at hl 2 rfl) ?_
    refine r_callV (As := [.int x, .int y]) (rest := []) C hw (t_X4_leftE l B D cA kd ig rg lg _ f L hL x y (by omega) (by omega) hpk.1 hI) sv_X4_38 (isFn.k (FnL.F hL)) rfl hl.1 rfl (Nat.le_of_ble_eq_true rfl) ⟨Nat.le_of_ble_eq_true rfl, Nat.le_of_ble_eq_true rfl⟩ ⟨Nat.le_of_ble_eq_true rfl, Nat.le_of_ble_eq_true rfl⟩ dX4_spanFits_12 (fun r13 kd9 ig10 rg11 lg12 H locs hw hH hp14 => ?_)
    obtain ⟨rfl, rfl, rfl, rfl, hzhp14, hrhp14⟩ := hp14
    have hsz := hzhp14.trans hsz
    obtain ⟨z15, rfl, hz15⟩ := hrhp14
    refine lv_aload_n hx hb dX4_spanFits_15 rfl (lv_at hl 0 rfl) ?_
    refine lv_iload_n hx hb dX4_spanFits_16 rfl (lv_at hl 1 rfl) ?_
    refine lv_iload_n hx hb dX4_spanFits_17 rfl (lv_at hl 2 rfl) ?_
    refine r_callV (As := [.int x, .int y]) (rest := [.int z15]) C hw (t_X4_rightE l B D cA kd ig rg lg _ f L hL x y (by omega) (by omega) hpk.2 hI) sv_X4_41 (isFn.k (FnL.F hL)) rfl hl.1 rfl (Nat.le_of_ble_eq_true rfl) ⟨Nat.le_of_ble_eq_true rfl, Nat.le_of_ble_eq_true rfl⟩ ⟨Nat.le_of_ble_eq_true rfl, Nat.le_of_ble_eq_true rfl⟩ dX4_spanFits_18 (fun r20 kd16 ig17 rg18 lg19 H locs hw hH hp21 => ?_)
    obtain ⟨rfl, rfl, rfl, rfl, hzhp21, hrhp21⟩ := hp21
    have hsz := hzhp21.trans hsz
    obtain ⟨z22, rfl, hz22⟩ := hrhp21
    refine b_gt (tgt := 74) hx hb dX4_spanFits_21 (by decide) (fun c21 => ?_) (fun c21 => ?_)
    · refine lv_iconst (v := 0) hx hb dX4_spanFits_74 (by decide) (ti_c 0 (by decide) fun z23 hz23 => ?_)
      exact r_iret C hw hr hlk (nar_b (by omega)) (Nat.le_of_ble_eq_true rfl) (Nat.le_of_ble_eq_true rfl) dX4_spanFits_75 ⟨rfl, rfl, rfl, rfl, hsz, ⟨_, rfl, Or.inr ⟨by omega, by unfold fitS inR orR; omega⟩⟩⟩
    · refine lv_aload_n hx hb dX4_spanFits_24 rfl (lv_at hl 0 rfl) ?_
      refine lv_iload_n hx hb dX4_spanFits_25 rfl (lv_at hl 1 rfl) ?_
      refine lv_iload_n hx hb dX4_spanFits_26 rfl (lv_at hl 2 rfl) ?_
      refine r_callV (As := [.int x, .int y]) (rest := []) C hw (t_X4_rightE l B D cA kd ig rg lg _ f L hL x y (by omega) (by omega) hpk.2 hI) sv_X4_41 (isFn.k (FnL.F hL)) rfl hl.1 rfl (Nat.le_of_ble_eq_true rfl) ⟨Nat.le_of_ble_eq_true rfl, Nat.le_of_ble_eq_true rfl⟩ ⟨Nat.le_of_ble_eq_true rfl, Nat.le_of_ble_eq_true rfl⟩ dX4_spanFits_27 (fun r28 kd24 ig25 rg26 lg27 H locs hw hH hp29 => ?_)
      obtain ⟨rfl, rfl, rfl, rfl, hzhp29, hrhp29⟩ := hp29
      have hsz := hzhp29.trans hsz
      obtain ⟨z30, rfl, hz30⟩ := hrhp29
      refine lv_bipush (v := 12) hx hb dX4_spanFits_30 (by decide) (ti_c 12 (by decide) fun z31 hz31 => ?_)
      refine b_ge (tgt := 74) hx hb dX4_spanFits_32 (by decide) (fun c32 => ?_) (fun c32 => ?_)
      · refine lv_iconst (v := 0) hx hb dX4_spanFits_74 (by decide) (ti_c 0 (by decide) fun z32 hz32 => ?_)
        exact r_iret C hw hr hlk (nar_b (by omega)) (Nat.le_of_ble_eq_true rfl) (Nat.le_of_ble_eq_true rfl) dX4_spanFits_75 ⟨rfl, rfl, rfl, rfl, hsz, ⟨_, rfl, Or.inr ⟨by omega, by unfold fitS inR orR; omega⟩⟩⟩
      · refine lv_aload_n hx hb dX4_spanFits_35 rfl (lv_at hl 0 rfl) ?_
        refine lv_iload_n hx hb dX4_spanFits_36 rfl (lv_at hl 1 rfl) ?_
        refine lv_iload_n hx hb dX4_spanFits_37 rfl (lv_at hl 2 rfl) ?_
        refine r_callV (As := [.int x, .int y]) (rest := []) C hw (t_X4_topE l B D cA kd ig rg lg _ f L hL x y (by omega) (by omega) hpk.1 hI) sv_X4_47 (isFn.k (FnL.F hL)) rfl hl.1 rfl (Nat.le_of_ble_eq_true rfl) ⟨Nat.le_of_ble_eq_true rfl, Nat.le_of_ble_eq_true rfl⟩ ⟨Nat.le_of_ble_eq_true rfl, Nat.le_of_ble_eq_true rfl⟩ dX4_spanFits_38 (fun r37 kd33 ig34 rg35 lg36 H locs hw hH hp38 => ?_)
        obtain ⟨rfl, rfl, rfl, rfl, hzhp38, hrhp38⟩ := hp38
        have hsz := hzhp38.trans hsz
        obtain ⟨z39, rfl, hz39⟩ := hrhp38
        refine z_lt (tgt := 74) hx hb dX4_spanFits_41 (by decide) (fun c41 => ?_) (fun c41 => ?_)
        · refine lv_iconst (v := 0) hx hb dX4_spanFits_74 (by decide) (ti_c 0 (by decide) fun z40 hz40 => ?_)
          exact r_iret C hw hr hlk (nar_b (by omega)) (Nat.le_of_ble_eq_true rfl) (Nat.le_of_ble_eq_true rfl) dX4_spanFits_75 ⟨rfl, rfl, rfl, rfl, hsz, ⟨_, rfl, Or.inr ⟨by omega, by unfold fitS inR orR; omega⟩⟩⟩
        · refine lv_aload_n hx hb dX4_spanFits_44 rfl (lv_at hl 0 rfl) ?_
          refine lv_iload_n hx hb dX4_spanFits_45 rfl (lv_at hl 1 rfl) ?_
          refine lv_iload_n hx hb dX4_spanFits_46 rfl (lv_at hl 2 rfl) ?_
          refine r_callV (As := [.int x, .int y]) (rest := []) C hw (t_X4_topE l B D cA kd ig rg lg _ f L hL x y (by omega) (by omega) hpk.1 hI) sv_X4_47 (isFn.k (FnL.F hL)) rfl hl.1 rfl (Nat.le_of_ble_eq_true rfl) ⟨Nat.le_of_ble_eq_true rfl, Nat.le_of_ble_eq_true rfl⟩ ⟨Nat.le_of_ble_eq_true rfl, Nat.le_of_ble_eq_true rfl⟩ dX4_spanFits_47 (fun r45 kd41 ig42 rg43 lg44 H locs hw hH hp46 => ?_)
          obtain ⟨rfl, rfl, rfl, rfl, hzhp46, hrhp46⟩ := hp46
          have hsz := hzhp46.trans hsz
          obtain ⟨z47, rfl, hz47⟩ := hrhp46
          refine lv_aload_n hx hb dX4_spanFits_50 rfl (lv_at hl 0 rfl) ?_
          refine lv_iload_n hx hb dX4_spanFits_51 rfl (lv_at hl 1 rfl) ?_
          refine lv_iload_n hx hb dX4_spanFits_52 rfl (lv_at hl 2 rfl) ?_
          refine r_callV (As := [.int x, .int y]) (rest := [.int z47]) C hw (t_X4_bottomE l B D cA kd ig rg lg _ f L hL x y (by omega) (by omega) hpk.2 hI) sv_X4_44 (isFn.k (FnL.F hL)) rfl hl.1 rfl (Nat.le_of_ble_eq_true rfl) ⟨Nat.le_of_ble_eq_true rfl, Nat.le_of_ble_eq_true rfl⟩ ⟨Nat.le_of_ble_eq_true rfl, Nat.le_of_ble_eq_true rfl⟩ dX4_spanFits_53 (fun r52 kd48 ig49 rg50 lg51 H locs hw hH hp53 => ?_)
          obtain ⟨rfl, rfl, rfl, rfl, hzhp53, hrhp53⟩ := hp53
          have hsz := hzhp53.trans hsz
          obtain ⟨z54, rfl, hz54⟩ := hrhp53
          refine b_gt (tgt := 74) hx hb dX4_spanFits_56 (by decide) (fun c56 => ?_) (fun c56 => ?_)
          · refine lv_iconst (v := 0) hx hb dX4_spanFits_74 (by decide) (ti_c 0 (by decide) fun z55 hz55 => ?_)
            exact r_iret C hw hr hlk (nar_b (by omega)) (Nat.le_of_ble_eq_true rfl) (Nat.le_of_ble_eq_true rfl) dX4_spanFits_75 ⟨rfl, rfl, rfl, rfl, hsz, ⟨_, rfl, Or.inr ⟨by omega, by unfold fitS inR orR; omega⟩⟩⟩
          · refine lv_aload_n hx hb dX4_spanFits_59 rfl (lv_at hl 0 rfl) ?_
            refine lv_iload_n hx hb dX4_spanFits_60 rfl (lv_at hl 1 rfl) ?_
            refine lv_iload_n hx hb dX4_spanFits_61 rfl (lv_at hl 2 rfl) ?_
            refine r_callV (As := [.int x, .int y]) (rest := []) C hw (t_X4_bottomE l B D cA kd ig rg lg _ f L hL x y (by omega) (by omega) hpk.2 hI) sv_X4_44 (isFn.k (FnL.F hL)) rfl hl.1 rfl (Nat.le_of_ble_eq_true rfl) ⟨Nat.le_of_ble_eq_true rfl, Nat.le_of_ble_eq_true rfl⟩ ⟨Nat.le_of_ble_eq_true rfl, Nat.le_of_ble_eq_true rfl⟩ dX4_spanFits_62 (fun r60 kd56 ig57 rg58 lg59 H locs hw hH hp61 => ?_)
            obtain ⟨rfl, rfl, rfl, rfl, hzhp61, hrhp61⟩ := hp61
            have hsz := hzhp61.trans hsz
            obtain ⟨z62, rfl, hz62⟩ := hrhp61
            refine lv_bipush (v := 24) hx hb dX4_spanFits_65 (by decide) (ti_c 24 (by decide) fun z63 hz63 => ?_)
            refine b_ge (tgt := 74) hx hb dX4_spanFits_67 (by decide) (fun c67 => ?_) (fun c67 => ?_)
            · refine lv_iconst (v := 0) hx hb dX4_spanFits_74 (by decide) (ti_c 0 (by decide) fun z64 hz64 => ?_)
              exact r_iret C hw hr hlk (nar_b (by omega)) (Nat.le_of_ble_eq_true rfl) (Nat.le_of_ble_eq_true rfl) dX4_spanFits_75 ⟨rfl, rfl, rfl, rfl, hsz, ⟨_, rfl, Or.inr ⟨by omega, by unfold fitS inR orR; omega⟩⟩⟩
            · refine lv_iconst (v := 1) hx hb dX4_spanFits_70 (by decide) (ti_c 1 (by decide) fun z65 hz65 => ?_)
              refine lv_goto (tgt := 75) hx hb dX4_spanFits_71 (by decide) ?_
              exact r_iret C hw hr hlk (nar_b (by omega)) (Nat.le_of_ble_eq_true rfl) (Nat.le_of_ble_eq_true rfl) dX4_spanFits_75 ⟨rfl, rfl, rfl, rfl, hsz, ⟨_, rfl, Or.inl ⟨by omega, by unfold fitS inR orR; omega⟩⟩⟩

set_option maxHeartbeats 4000000 in
set_option maxRecDepth 100000 in
theorem t_X4_fitsE {τ : Tp} (l : Launch) (B : Nat) (D : va_G) (cA : Nat → ClassId) (kd : sK) (ig : sI) (rg : sR) (lg : sG) (sz : Nat) (f : Nat) (L : Fm) (hL : FnL B kd ig rg f L) (x : Int32) (hx0 : 0 ≤ x.toInt ∧ x.toInt < 288) (hwf : WfL L) (hI : IC τ B kd ig rg) : MC l B D cA yX4_fits cX4_fits 3 (some .boolean) (rL 3 0 0) [.ref f, .int x] kd ig rg lg sz (Pu kd ig rg lg sz (fun r => ∃ z : Int32, r = some (.int z) ∧ ((z.toInt = 1 ∧ fitL x.toInt L) ∨ (z.toInt = 0 ∧ ¬ fitL x.toInt L)))) := by
  refine MC.of (own := RX4) (by decide +kernel) rfl (Nat.le_of_ble_eq_true rfl) ?_
  intro p e s m args below meth c ls C hr hlk hnm hw hsz hl
  have hx := C.1.1
  have hb := C.1.2.1
  have hown := C.1.2.2.2.1
  have hts := C.1.2.2.2.2
  have hl : lv_has ls 3 [(0, .ref f), (1, .int x)] := hl
  have hsh := hI.sh
  have hrs := hI.rs
  have lnf := hL.le
  refine lv_iconst (v := 0) hx hb dX4_fits_0 (by decide) (ti_c 0 (by decide) fun z1 hz1 => ?_)
  refine lv_istore_n (lv' := [(2, .int z1), (0, .ref f), (1, .int x)]) hx hb dX4_fits_1 rfl hl (by decide) rfl (fun ls hl => ?_)
  have L2 : ∀ (n : Nat) (ls : Array Slot) (H : Heap) (locs : List Loc) (v2 : Int32), lv_has ls 3 [(2, .int v2), (0, .ref f), (1, .int x)] → WD B D cA s.heap kd ig rg lg H locs → H.size = sz → FnL B kd ig rg f L → (0 ≤ v2.toInt) → (v2.toInt ≤ (L.length : Int)) → (∀ i : Int, 0 ≤ i → i < v2.toInt → rdS (stp L i) → fitS x.toInt (stp L i)) → (L.length : Int) - v2.toInt < (n : Int) → W p l e (rL 3 0 0) s m args below meth c H locs 0 0 (MQ below (QcW B D cA (Pu kd ig rg lg sz (fun r => ∃ z : Int32, r = some (.int z) ∧ ((z.toInt = 1 ∧ fitL x.toInt L) ∨ (z.toInt = 0 ∧ ¬ fitL x.toInt L))))) args s 0 0 (fun q => B ≤ q)) (F0 m 2 ls []) := by
    intro n2
    induction n2 with
    | zero => intro ls H locs v2 hl hw hsz hL g2_0 g2_1 g2_2 hmu; exact absurd hmu (by omega)
    | succ n2 ih2 =>
      intro ls H locs v2 hl hw hsz hL g2_0 g2_1 g2_2 hmu
      refine lv_iload_n hx hb dX4_fits_2 rfl (lv_at hl 0 rfl) ?_
      refine lv_aload_n hx hb dX4_fits_3 rfl (lv_at hl 1 rfl) ?_
      obtain ⟨a3, ra3, ka3, ga3⟩ := isFn.arr (FnL.F hL) 0 (by decide)
      refine r_get C hw (isFn.k (FnL.F hL)) fl_X4_17 (oV_r rfl ra3) dX4_fits_4 ?_
      refine r_alen C hw ka3 (by omega) (by omega) dX4_fits_7 (fun z4 hz4 => ?_)
      refine b_ge (tgt := 36) hx hb dX4_fits_8 (by decide) (fun c8 => ?_) (fun c8 => ?_)
      · refine lv_iconst (v := 1) hx hb dX4_fits_36 (by decide) (ti_c 1 (by decide) fun z5 hz5 => ?_)
        exact r_iret C hw hr hlk (nar_b (by omega)) (Nat.le_of_ble_eq_true rfl) (Nat.le_of_ble_eq_true rfl) dX4_fits_37 ⟨rfl, rfl, rfl, rfl, hsz, ⟨_, rfl, Or.inl ⟨by omega, fitL.all (fun i i0 i1 => g2_2 i i0 (by omega))⟩⟩⟩
      · refine lv_aload_n hx hb dX4_fits_11 rfl (lv_at hl 1 rfl) ?_
        refine lv_iload_n hx hb dX4_fits_12 rfl (lv_at hl 0 rfl) ?_
        refine r_callV (As := [.int v2]) (rest := []) C hw (t_X4_readsAtE l B D cA kd ig rg lg _ f L hL v2  hI) sv_X4_50 (isFn.k (FnL.F hL)) rfl hl.1 rfl (Nat.le_of_ble_eq_true rfl) ⟨Nat.le_of_ble_eq_true rfl, Nat.le_of_ble_eq_true rfl⟩ ⟨Nat.le_of_ble_eq_true rfl, Nat.le_of_ble_eq_true rfl⟩ dX4_fits_13 (fun r10 kd6 ig7 rg8 lg9 H locs hw hH hp11 => ?_)
        obtain ⟨rfl, rfl, rfl, rfl, hzhp11, hrhp11⟩ := hp11
        have hsz := hzhp11.trans hsz
        obtain ⟨z12, rfl, hz12⟩ := hrhp11
        have rdh := hz12
        refine z_eq (tgt := 30) hx hb dX4_fits_16 (by decide) (fun c16 => ?_) (fun c16 => ?_)
        · have nr9 : ¬ rdS (stp L v2.toInt) := (by rcases rdh with ⟨q, -⟩ | ⟨-, q⟩; omega; exact q)
          refine tc_inc hx hb dX4_fits_30 hl (k := 0) rfl (by decide) (by decide) (fun z13 hz13 ls hl => ?_)
          first | replace hz13 := hz13 (by omega) | clear hz13
          have hl : lv_has ls 3 [(2, .int z13), (0, .ref f), (1, .int x)] := hl
          refine lv_goto (tgt := 2) hx hb dX4_fits_33 (by decide) ?_
          exact ih2 ls H locs z13 (lv_sub hl [0, 1, 2] rfl) hw hsz hL (by omega) (by omega) (fun i i0 i1 ir => by by_cases e9 : i = v2.toInt; (subst e9; exact absurd ir nr9); exact g2_2 i i0 (by omega) ir) (by omega)
        · have rd9 : rdS (stp L v2.toInt) := (by rcases rdh with ⟨-, q⟩ | ⟨q, -⟩; exact q; omega)
          refine lv_aload_n hx hb dX4_fits_19 rfl (lv_at hl 1 rfl) ?_
          refine lv_iload_n hx hb dX4_fits_20 rfl (lv_at hl 0 rfl) ?_
          refine lv_iload_n hx hb dX4_fits_21 rfl (lv_at hl 2 rfl) ?_
          refine r_callV (As := [.int v2, .int x]) (rest := []) C hw (t_X4_spanFitsE l B D cA kd ig rg lg _ f L hL v2 x (by omega) (by omega) (hwf.at (by omega) (by omega) rd9) hI) sv_X4_54 (isFn.k (FnL.F hL)) rfl hl.1 rfl (Nat.le_of_ble_eq_true rfl) ⟨Nat.le_of_ble_eq_true rfl, Nat.le_of_ble_eq_true rfl⟩ ⟨Nat.le_of_ble_eq_true rfl, Nat.le_of_ble_eq_true rfl⟩ dX4_fits_22 (fun r18 kd14 ig15 rg16 lg17 H locs hw hH hp19 => ?_)
          obtain ⟨rfl, rfl, rfl, rfl, hzhp19, hrhp19⟩ := hp19
          have hsz := hzhp19.trans hsz
          obtain ⟨z20, rfl, hz20⟩ := hrhp19
          have fsh := hz20
          refine z_ne (tgt := 30) hx hb dX4_fits_25 (by decide) (fun c25 => ?_) (fun c25 => ?_)
          · have fs9 : fitS x.toInt (stp L v2.toInt) := (by rcases fsh with ⟨-, q⟩ | ⟨q, -⟩; exact q; omega)
            refine tc_inc hx hb dX4_fits_30 hl (k := 0) rfl (by decide) (by decide) (fun z21 hz21 ls hl => ?_)
            first | replace hz21 := hz21 (by omega) | clear hz21
            have hl : lv_has ls 3 [(2, .int z21), (0, .ref f), (1, .int x)] := hl
            refine lv_goto (tgt := 2) hx hb dX4_fits_33 (by decide) ?_
            exact ih2 ls H locs z21 (lv_sub hl [0, 1, 2] rfl) hw hsz hL (by omega) (by omega) (fun i i0 i1 ir => by by_cases e9 : i = v2.toInt; (subst e9; exact fs9); exact g2_2 i i0 (by omega) ir) (by omega)
          · have nf9 : ¬ fitS x.toInt (stp L v2.toInt) := (by rcases fsh with ⟨q, -⟩ | ⟨-, q⟩; omega; exact q)
            refine lv_iconst (v := 0) hx hb dX4_fits_28 (by decide) (ti_c 0 (by decide) fun z22 hz22 => ?_)
            exact r_iret C hw hr hlk (nar_b (by omega)) (Nat.le_of_ble_eq_true rfl) (Nat.le_of_ble_eq_true rfl) dX4_fits_29 ⟨rfl, rfl, rfl, rfl, hsz, ⟨_, rfl, Or.inr ⟨by omega, fitL.no (by omega) (by omega) rd9 nf9⟩⟩⟩
  exact L2 (((L.length : Int) - z1.toInt) + 1).toNat ls s.heap [] z1 (lv_sub hl [0, 1, 2] rfl) hw hsz hL (by omega) (by omega) (fun i i0 i1 => by omega) (by omega)

set_option maxHeartbeats 4000000 in
set_option maxRecDepth 100000 in
theorem t_X4_isKinOfE {τ : Tp} (l : Launch) (B : Nat) (D : va_G) (cA : Nat → ClassId) (kd : sK) (ig : sI) (rg : sR) (lg : sG) (sz : Nat) (f : Nat) (L : Fm) (hL : FnL B kd ig rg f L) (g : Nat) (M : Fm) (hM : FnL B kd ig rg g M) (hI : IC τ B kd ig rg) : MC l B D cA yX4_isKinOf cX4_isKinOf 3 (some .boolean) (rL 0 0 0) [.ref f, .ref g] kd ig rg lg sz (Pu kd ig rg lg sz (fun r => ∃ z : Int32, r = some (.int z) ∧ ((z.toInt = 1 ∧ L = M) ∨ (z.toInt = 0 ∧ L ≠ M)))) := by
  refine MC.of (own := RX4) (by decide +kernel) rfl (Nat.le_of_ble_eq_true rfl) ?_
  intro p e s m args below meth c ls C hr hlk hnm hw hsz hl
  have hx := C.1.1
  have hb := C.1.2.1
  have hown := C.1.2.2.2.1
  have hts := C.1.2.2.2.2
  have hl : lv_has ls 3 [(0, .ref f), (1, .ref g)] := hl
  have hsh := hI.sh
  have hrs := hI.rs
  have lnf := hL.le
  have lng := hM.le
  refine lv_aload_n hx hb dX4_isKinOf_0 rfl (lv_at hl 1 rfl) ?_
  obtain ⟨a1, ra1, ka1, ga1⟩ := isFn.arr (FnL.F hM) 0 (by decide)
  refine r_get C hw (isFn.k (FnL.F hM)) fl_X4_17 (oV_r rfl ra1) dX4_isKinOf_1 ?_
  refine r_alen C hw ka1 (by omega) (by omega) dX4_isKinOf_4 (fun z2 hz2 => ?_)
  refine lv_aload_n hx hb dX4_isKinOf_5 rfl (lv_at hl 0 rfl) ?_
  obtain ⟨a3, ra3, ka3, ga3⟩ := isFn.arr (FnL.F hL) 0 (by decide)
  refine r_get C hw (isFn.k (FnL.F hL)) fl_X4_17 (oV_r rfl ra3) dX4_isKinOf_6 ?_
  refine r_alen C hw ka3 (by omega) (by omega) dX4_isKinOf_9 (fun z4 hz4 => ?_)
  refine b_eq (tgt := 15) hx hb dX4_isKinOf_10 (by decide) (fun c10 => ?_) (fun c10 => ?_)
  · refine lv_iconst (v := 0) hx hb dX4_isKinOf_15 (by decide) (ti_c 0 (by decide) fun z5 hz5 => ?_)
    refine lv_istore_n (lv' := [(2, .int z5), (0, .ref f), (1, .ref g)]) hx hb dX4_isKinOf_16 rfl hl (by decide) rfl (fun ls hl => ?_)
    have L17 : ∀ (n : Nat) (ls : Array Slot) (H : Heap) (locs : List Loc) (v6 : Int32), lv_has ls 3 [(2, .int v6), (0, .ref f), (1, .ref g)] → WD B D cA s.heap kd ig rg lg H locs → H.size = sz → FnL B kd ig rg f L → FnL B kd ig rg g M → (0 ≤ v6.toInt) → (v6.toInt ≤ (L.length : Int)) → (∀ i : Int, 0 ≤ i → i < v6.toInt → stp L i = stp M i) → (L.length : Int) - v6.toInt < (n : Int) → W p l e (rL 0 0 0) s m args below meth c H locs 0 0 (MQ below (QcW B D cA (Pu kd ig rg lg sz (fun r => ∃ z : Int32, r = some (.int z) ∧ ((z.toInt = 1 ∧ L = M) ∨ (z.toInt = 0 ∧ L ≠ M))))) args s 0 0 (fun q => B ≤ q)) (F0 m 17 ls []) := by
      intro n17
      induction n17 with
      | zero => intro ls H locs v6 hl hw hsz hL hM g17_0 g17_1 g17_2 hmu; exact absurd hmu (by omega)
      | succ n17 ih17 =>
        intro ls H locs v6 hl hw hsz hL hM g17_0 g17_1 g17_2 hmu
        refine lv_iload_n hx hb dX4_isKinOf_17 rfl (lv_at hl 0 rfl) ?_
        refine lv_aload_n hx hb dX4_isKinOf_18 rfl (lv_at hl 1 rfl) ?_
        obtain ⟨a7, ra7, ka7, ga7⟩ := isFn.arr (FnL.F hL) 0 (by decide)
        refine r_get C hw (isFn.k (FnL.F hL)) fl_X4_17 (oV_r rfl ra7) dX4_isKinOf_19 ?_
        refine r_alen C hw ka7 (by omega) (by omega) dX4_isKinOf_22 (fun z8 hz8 => ?_)
        refine b_ge (tgt := 79) hx hb dX4_isKinOf_23 (by decide) (fun c23 => ?_) (fun c23 => ?_)
        · refine lv_iconst (v := 1) hx hb dX4_isKinOf_79 (by decide) (ti_c 1 (by decide) fun z9 hz9 => ?_)
          exact r_iret C hw hr hlk (nar_b (by omega)) (Nat.le_of_ble_eq_true rfl) (Nat.le_of_ble_eq_true rfl) dX4_isKinOf_80 ⟨rfl, rfl, rfl, rfl, hsz, ⟨_, rfl, Or.inl ⟨by omega, Fm.ext (by omega) (fun i i0 i1 => g17_2 i i0 (by omega))⟩⟩⟩
        · refine lv_aload_n hx hb dX4_isKinOf_26 rfl (lv_at hl 1 rfl) ?_
          obtain ⟨a10, ra10, ka10, ga10⟩ := isFn.arr (FnL.F hL) 0 (by decide)
          refine r_get C hw (isFn.k (FnL.F hL)) fl_X4_17 (oV_r rfl ra10) dX4_isKinOf_27 ?_
          refine lv_iload_n hx hb dX4_isKinOf_30 rfl (lv_at hl 0 rfl) ?_
          refine r_iald C hw ka10 (by omega) (by omega) dX4_isKinOf_31 (ti_c (ig a10 v6.toInt.toNat).toInt rfl fun z11 hz11 => ?_)
          have s1 : z11.toInt = (stp L v6.toInt).1 := by rw [hz11]; exact hL.sD ra10 (by omega) (by omega)
          refine lv_aload_n hx hb dX4_isKinOf_32 rfl (lv_at hl 2 rfl) ?_
          obtain ⟨a12, ra12, ka12, ga12⟩ := isFn.arr (FnL.F hM) 0 (by decide)
          refine r_get C hw (isFn.k (FnL.F hM)) fl_X4_17 (oV_r rfl ra12) dX4_isKinOf_33 ?_
          refine lv_iload_n hx hb dX4_isKinOf_36 rfl (lv_at hl 0 rfl) ?_
          refine r_iald C hw ka12 (by omega) (by omega) dX4_isKinOf_37 (ti_c (ig a12 v6.toInt.toNat).toInt rfl fun z13 hz13 => ?_)
          have s2 : z13.toInt = (stp M v6.toInt).1 := by rw [hz13]; exact hM.sD ra12 (by omega) (by omega)
          refine b_ne (tgt := 71) hx hb dX4_isKinOf_38 (by decide) (fun c38 => ?_) (fun c38 => ?_)
          · refine lv_iconst (v := 0) hx hb dX4_isKinOf_71 (by decide) (ti_c 0 (by decide) fun z14 hz14 => ?_)
            exact r_iret C hw hr hlk (nar_b (by omega)) (Nat.le_of_ble_eq_true rfl) (Nat.le_of_ble_eq_true rfl) dX4_isKinOf_72 ⟨rfl, rfl, rfl, rfl, hsz, ⟨_, rfl, Or.inr ⟨by omega, fun e9 => by subst e9; omega⟩⟩⟩
          · refine lv_aload_n hx hb dX4_isKinOf_41 rfl (lv_at hl 1 rfl) ?_
            obtain ⟨a15, ra15, ka15, ga15⟩ := isFn.arr (FnL.F hL) 1 (by decide)
            refine r_get C hw (isFn.k (FnL.F hL)) fl_X4_21 (oV_r rfl ra15) dX4_isKinOf_42 ?_
            refine lv_iload_n hx hb dX4_isKinOf_45 rfl (lv_at hl 0 rfl) ?_
            refine r_iald C hw ka15 (by omega) (by omega) dX4_isKinOf_46 (ti_c (ig a15 v6.toInt.toNat).toInt rfl fun z16 hz16 => ?_)
            have a1 : z16.toInt = (stp L v6.toInt).2.1 := by rw [hz16]; exact hL.aD ra15 (by omega) (by omega)
            refine lv_aload_n hx hb dX4_isKinOf_47 rfl (lv_at hl 2 rfl) ?_
            obtain ⟨a17, ra17, ka17, ga17⟩ := isFn.arr (FnL.F hM) 1 (by decide)
            refine r_get C hw (isFn.k (FnL.F hM)) fl_X4_21 (oV_r rfl ra17) dX4_isKinOf_48 ?_
            refine lv_iload_n hx hb dX4_isKinOf_51 rfl (lv_at hl 0 rfl) ?_
            refine r_iald C hw ka17 (by omega) (by omega) dX4_isKinOf_52 (ti_c (ig a17 v6.toInt.toNat).toInt rfl fun z18 hz18 => ?_)
            have a2 : z18.toInt = (stp M v6.toInt).2.1 := by rw [hz18]; exact hM.aD ra17 (by omega) (by omega)
            refine b_ne (tgt := 71) hx hb dX4_isKinOf_53 (by decide) (fun c53 => ?_) (fun c53 => ?_)
            · refine lv_iconst (v := 0) hx hb dX4_isKinOf_71 (by decide) (ti_c 0 (by decide) fun z19 hz19 => ?_)
              exact r_iret C hw hr hlk (nar_b (by omega)) (Nat.le_of_ble_eq_true rfl) (Nat.le_of_ble_eq_true rfl) dX4_isKinOf_72 ⟨rfl, rfl, rfl, rfl, hsz, ⟨_, rfl, Or.inr ⟨by omega, fun e9 => by subst e9; omega⟩⟩⟩
            · refine lv_aload_n hx hb dX4_isKinOf_56 rfl (lv_at hl 1 rfl) ?_
              obtain ⟨a20, ra20, ka20, ga20⟩ := isFn.arr (FnL.F hL) 2 (by decide)
              refine r_get C hw (isFn.k (FnL.F hL)) fl_X4_24 (oV_r rfl ra20) dX4_isKinOf_57 ?_
              refine lv_iload_n hx hb dX4_isKinOf_60 rfl (lv_at hl 0 rfl) ?_
              refine r_iald C hw ka20 (by omega) (by omega) dX4_isKinOf_61 (ti_c (ig a20 v6.toInt.toNat).toInt rfl fun z21 hz21 => ?_)
              have l1 : z21.toInt = (stp L v6.toInt).2.2 := by rw [hz21]; exact hL.lD ra20 (by omega) (by omega)
              refine lv_aload_n hx hb dX4_isKinOf_62 rfl (lv_at hl 2 rfl) ?_
              obtain ⟨a22, ra22, ka22, ga22⟩ := isFn.arr (FnL.F hM) 2 (by decide)
              refine r_get C hw (isFn.k (FnL.F hM)) fl_X4_24 (oV_r rfl ra22) dX4_isKinOf_63 ?_
              refine lv_iload_n hx hb dX4_isKinOf_66 rfl (lv_at hl 0 rfl) ?_
              refine r_iald C hw ka22 (by omega) (by omega) dX4_isKinOf_67 (ti_c (ig a22 v6.toInt.toNat).toInt rfl fun z23 hz23 => ?_)
              have l2 : z23.toInt = (stp M v6.toInt).2.2 := by rw [hz23]; exact hM.lD ra22 (by omega) (by omega)
              refine b_eq (tgt := 73) hx hb dX4_isKinOf_68 (by decide) (fun c68 => ?_) (fun c68 => ?_)
              · refine tc_inc hx hb dX4_isKinOf_73 hl (k := 0) rfl (by decide) (by decide) (fun z24 hz24 ls hl => ?_)
                first | replace hz24 := hz24 (by omega) | clear hz24
                have hl : lv_has ls 3 [(2, .int z24), (0, .ref f), (1, .ref g)] := hl
                refine lv_goto (tgt := 17) hx hb dX4_isKinOf_76 (by decide) ?_
                exact ih17 ls H locs z24 (lv_sub hl [0, 1, 2] rfl) hw hsz hL hM (by omega) (by omega) (fun i i0 i1 => by by_cases e9 : i = v6.toInt; (subst e9; exact St.ext (by omega) (by omega) (by omega)); exact g17_2 i i0 (by omega)) (by omega)
              · refine lv_iconst (v := 0) hx hb dX4_isKinOf_71 (by decide) (ti_c 0 (by decide) fun z25 hz25 => ?_)
                exact r_iret C hw hr hlk (nar_b (by omega)) (Nat.le_of_ble_eq_true rfl) (Nat.le_of_ble_eq_true rfl) dX4_isKinOf_72 ⟨rfl, rfl, rfl, rfl, hsz, ⟨_, rfl, Or.inr ⟨by omega, fun e9 => by subst e9; omega⟩⟩⟩
    exact L17 (((L.length : Int) - z5.toInt) + 1).toNat ls s.heap [] z5 (lv_sub hl [0, 1, 2] rfl) hw hsz hL hM (by omega) (by omega) (fun i i0 i1 => by omega) (by omega)
  · refine lv_iconst (v := 0) hx hb dX4_isKinOf_13 (by decide) (ti_c 0 (by decide) fun z26 hz26 => ?_)
    exact r_iret C hw hr hlk (nar_b (by omega)) (Nat.le_of_ble_eq_true rfl) (Nat.le_of_ble_eq_true rfl) dX4_isKinOf_14 ⟨rfl, rfl, rfl, rfl, hsz, ⟨_, rfl, Or.inr ⟨by omega, fun e9 => by have := congrArg List.length e9; omega⟩⟩⟩

set_option maxHeartbeats 4000000 in
set_option maxRecDepth 100000 in
theorem t_X4_stepOfSumE {τ : Tp} (l : Launch) (B : Nat) (D : va_G) (cA : Nat → ClassId) (kd : sK) (ig : sI) (rg : sR) (lg : sG) (sz : Nat) (f : Nat) (L : Fm) (hL : FnL B kd ig rg f L) (x : Int32) (hI : IC τ B kd ig rg) : MC l B D cA yX4_stepOfSum cX4_stepOfSum 4 (some .int) (rL 0 0 0) [.ref f, .int x] kd ig rg lg sz (Pu kd ig rg lg sz (fun r => ∃ z : Int32, r = some (.int z) ∧ sumS L x.toInt z.toInt)) := by
  refine MC.of (own := RX4) (by decide +kernel) rfl (Nat.le_of_ble_eq_true rfl) ?_
  intro p e s m args below meth c ls C hr hlk hnm hw hsz hl
  have hx := C.1.1
  have hb := C.1.2.1
  have hown := C.1.2.2.2.1
  have hts := C.1.2.2.2.2
  have hl : lv_has ls 4 [(0, .ref f), (1, .int x)] := hl
  have hsh := hI.sh
  have hrs := hI.rs
  have lnf := hL.le
  refine lv_iconst (v := 0) hx hb dX4_stepOfSum_0 (by decide) (ti_c 0 (by decide) fun z1 hz1 => ?_)
  refine lv_istore_n (lv' := [(2, .int z1), (0, .ref f), (1, .int x)]) hx hb dX4_stepOfSum_1 rfl hl (by decide) rfl (fun ls hl => ?_)
  refine lv_iconst (v := 0) hx hb dX4_stepOfSum_2 (by decide) (ti_c 0 (by decide) fun z2 hz2 => ?_)
  refine lv_istore_n (lv' := [(3, .int z2), (2, .int z1), (0, .ref f), (1, .int x)]) hx hb dX4_stepOfSum_3 rfl hl (by decide) rfl (fun ls hl => ?_)
  have L4 : ∀ (n : Nat) (ls : Array Slot) (H : Heap) (locs : List Loc) (v3 : Int32) (v4 : Int32), lv_has ls 4 [(3, .int v3), (2, .int v4), (0, .ref f), (1, .int x)] → WD B D cA s.heap kd ig rg lg H locs → H.size = sz → FnL B kd ig rg f L → (0 ≤ v3.toInt) → (v3.toInt ≤ (L.length : Int)) → (v4.toInt = (List.countP is2 (L.take v3.toInt.toNat) : Int)) → (∀ l : Nat, (l : Int) < v3.toInt → (stp L (l : Int)).1 = 2 → (List.countP is2 (L.take l) : Int) ≠ x.toInt) → (0 ≤ v4.toInt) → (v4.toInt ≤ v3.toInt) → (L.length : Int) - v3.toInt < (n : Int) → W p l e (rL 0 0 0) s m args below meth c H locs 0 0 (MQ below (QcW B D cA (Pu kd ig rg lg sz (fun r => ∃ z : Int32, r = some (.int z) ∧ sumS L x.toInt z.toInt))) args s 0 0 (fun q => B ≤ q)) (F0 m 4 ls []) := by
    intro n4
    induction n4 with
    | zero => intro ls H locs v3 v4 hl hw hsz hL g4_0 g4_1 g4_2 g4_3 g4_4 g4_5 hmu; exact absurd hmu (by omega)
    | succ n4 ih4 =>
      intro ls H locs v3 v4 hl hw hsz hL g4_0 g4_1 g4_2 g4_3 g4_4 g4_5 hmu
      refine lv_iload_n hx hb dX4_stepOfSum_4 rfl (lv_at hl 0 rfl) ?_
      refine lv_aload_n hx hb dX4_stepOfSum_5 rfl (lv_at hl 2 rfl) ?_
      obtain ⟨a5, ra5, ka5, ga5⟩ := isFn.arr (FnL.F hL) 0 (by decide)
      refine r_get C hw (isFn.k (FnL.F hL)) fl_X4_17 (oV_r rfl ra5) dX4_stepOfSum_6 ?_
      refine r_alen C hw ka5 (by omega) (by omega) dX4_stepOfSum_9 (fun z6 hz6 => ?_)
      refine b_ge (tgt := 39) hx hb dX4_stepOfSum_10 (by decide) (fun c10 => ?_) (fun c10 => ?_)
      · refine lv_iconst (v := (-1)) hx hb dX4_stepOfSum_39 (by decide) (ti_c (-1) (by decide) fun z7 hz7 => ?_)
        exact r_iret C hw hr hlk rfl (Nat.le_of_ble_eq_true rfl) (Nat.le_of_ble_eq_true rfl) dX4_stepOfSum_40 ⟨rfl, rfl, rfl, rfl, hsz, ⟨_, rfl, Or.inr ⟨by omega, fun l l1 => g4_3 l (by omega)⟩⟩⟩
      · refine lv_aload_n hx hb dX4_stepOfSum_13 rfl (lv_at hl 2 rfl) ?_
        obtain ⟨a8, ra8, ka8, ga8⟩ := isFn.arr (FnL.F hL) 0 (by decide)
        refine r_get C hw (isFn.k (FnL.F hL)) fl_X4_17 (oV_r rfl ra8) dX4_stepOfSum_14 ?_
        refine lv_iload_n hx hb dX4_stepOfSum_17 rfl (lv_at hl 0 rfl) ?_
        refine r_iald C hw ka8 (by omega) (by omega) dX4_stepOfSum_18 (ti_c (ig a8 v3.toInt.toNat).toInt rfl fun z9 hz9 => ?_)
        have ez : z9.toInt = (stp L v3.toInt).1 := by rw [hz9]; exact hL.sD ra8 (by omega) (by omega)
        refine lv_iconst (v := 2) hx hb dX4_stepOfSum_19 (by decide) (ti_c 2 (by decide) fun z10 hz10 => ?_)
        refine b_ne (tgt := 33) hx hb dX4_stepOfSum_20 (by decide) (fun c20 => ?_) (fun c20 => ?_)
        · refine tc_inc hx hb dX4_stepOfSum_33 hl (k := 0) rfl (by decide) (by decide) (fun z11 hz11 ls hl => ?_)
          first | replace hz11 := hz11 (by omega) | clear hz11
          have hl : lv_has ls 4 [(3, .int z11), (2, .int v4), (0, .ref f), (1, .int x)] := hl
          refine lv_goto (tgt := 4) hx hb dX4_stepOfSum_36 (by decide) ?_
          exact ih4 ls H locs z11 v4 (lv_sub hl [0, 1, 2, 3] rfl) hw hsz hL (by omega) (by omega) (by rw [show z11.toInt.toNat = v3.toInt.toNat + 1 by omega, is2_f (by omega) (by rw [show ((v3.toInt.toNat : Nat) : Int) = v3.toInt by omega]; omega)]; omega) (fun l l1 l2 => by by_cases e9 : (l : Int) = v3.toInt; (rw [show l = v3.toInt.toNat by omega]; exact absurd l2 (by rw [e9]; omega)); exact g4_3 l (by omega) l2) (by omega) (by omega) (by omega)
        · refine lv_iload_n hx hb dX4_stepOfSum_23 rfl (lv_at hl 1 rfl) ?_
          refine lv_iload_n hx hb dX4_stepOfSum_24 rfl (lv_at hl 3 rfl) ?_
          refine b_ne (tgt := 30) hx hb dX4_stepOfSum_25 (by decide) (fun c25 => ?_) (fun c25 => ?_)
          · refine tc_inc hx hb dX4_stepOfSum_30 hl (k := 1) rfl (by decide) (by decide) (fun z12 hz12 ls hl => ?_)
            first | replace hz12 := hz12 (by omega) | clear hz12
            have hl : lv_has ls 4 [(2, .int z12), (3, .int v3), (0, .ref f), (1, .int x)] := hl
            refine tc_inc hx hb dX4_stepOfSum_33 hl (k := 1) rfl (by decide) (by decide) (fun z13 hz13 ls hl => ?_)
            first | replace hz13 := hz13 (by omega) | clear hz13
            have hl : lv_has ls 4 [(3, .int z13), (2, .int z12), (0, .ref f), (1, .int x)] := hl
            refine lv_goto (tgt := 4) hx hb dX4_stepOfSum_36 (by decide) ?_
            exact ih4 ls H locs z13 z12 (lv_sub hl [0, 1, 2, 3] rfl) hw hsz hL (by omega) (by omega) (by rw [show z13.toInt.toNat = v3.toInt.toNat + 1 by omega, is2_t (by omega) (by rw [show ((v3.toInt.toNat : Nat) : Int) = v3.toInt by omega]; omega)]; omega) (fun l l1 l2 => by by_cases e9 : (l : Int) = v3.toInt; (rw [show l = v3.toInt.toNat by omega]; omega); exact g4_3 l (by omega) l2) (by omega) (by omega) (by omega)
          · refine lv_iload_n hx hb dX4_stepOfSum_28 rfl (lv_at hl 0 rfl) ?_
            exact r_iret C hw hr hlk rfl (Nat.le_of_ble_eq_true rfl) (Nat.le_of_ble_eq_true rfl) dX4_stepOfSum_29 ⟨rfl, rfl, rfl, rfl, hsz, ⟨_, rfl, Or.inl ⟨v3.toInt.toNat, by omega, by omega, by rw [show ((v3.toInt.toNat : Nat) : Int) = v3.toInt by omega]; omega, by omega⟩⟩⟩
  exact L4 (((L.length : Int) - z2.toInt) + 1).toNat ls s.heap [] z2 z1 (lv_sub hl [0, 1, 2, 3] rfl) hw hsz hL (by omega) (by omega) (by rw [show z2.toInt.toNat = 0 by omega, List.take_zero, List.countP_nil]; omega) (fun l l1 => by omega) (by omega) (by omega) (by omega)

set_option maxHeartbeats 4000000 in
set_option maxRecDepth 100000 in
theorem t_X0_fitsE {τ : Tp} (l : Launch) (B : Nat) (D : va_G) (cA : Nat → ClassId) (kd : sK) (ig : sI) (rg : sR) (lg : sG) (sz : Nat) (q : Nat) (cq : Cl) (hq : ClQ B kd ig rg q cq) (x : Int32) (hx0 : 0 ≤ x.toInt ∧ x.toInt < 288) (hwf : kdO cq = 2 → WfL (fmO cq)) (hI : IC τ B kd ig rg) : MC l B D cA yX0_fits cX0_fits 2 (some .boolean) (rL 4 0 0) [.ref q, .int x] kd ig rg lg sz (Pu kd ig rg lg sz (fun r => ∃ z : Int32, r = some (.int z) ∧ ((z.toInt = 1 ∧ fitC x.toInt cq) ∨ (z.toInt = 0 ∧ ¬ fitC x.toInt cq)))) := by
  refine MC.of (own := RX0) (by decide +kernel) rfl (Nat.le_of_ble_eq_true rfl) ?_
  intro p e s m args below meth c ls C hr hlk hnm hw hsz hl
  have hx := C.1.1
  have hb := C.1.2.1
  have hown := C.1.2.2.2.1
  have hts := C.1.2.2.2.2
  have hl : lv_has ls 2 [(0, .ref q), (1, .int x)] := hl
  have hsh := hI.sh
  have hrs := hI.rs
  obtain ⟨nq, kq⟩ := hq.kq
  refine lv_aload_n hx hb dX0_fits_0 rfl (lv_at hl 0 rfl) ?_
  rcases hq.2.2.2 with ⟨nkf1, ef1⟩ | ⟨nkf1, f1, ef1, hLf1⟩
  · refine r_get C hw kq fl_X0_18 (oV_n rfl ef1) dX0_fits_1 ?_
    refine lv_ifnullN (tgt := 18) hx hb dX0_fits_4 (by decide) ?_
    refine lv_iconst (v := 1) hx hb dX0_fits_18 (by decide) (ti_c 1 (by decide) fun z2 hz2 => ?_)
    refine lv_goto (tgt := 23) hx hb dX0_fits_19 (by decide) ?_
    exact r_iret C hw hr hlk (nar_b (by omega)) (Nat.le_of_ble_eq_true rfl) (Nat.le_of_ble_eq_true rfl) dX0_fits_23 ⟨rfl, rfl, rfl, rfl, hsz, ⟨_, rfl, Or.inl ⟨by omega, fun q9 => absurd q9 nkf1⟩⟩⟩
  · have lf1 := hLf1.le
    refine r_get C hw kq fl_X0_18 (oV_r rfl ef1) dX0_fits_1 ?_
    refine lv_ifnull hx hb dX0_fits_4 ?_
    refine lv_aload_n hx hb dX0_fits_7 rfl (lv_at hl 0 rfl) ?_
    refine r_get C hw kq fl_X0_18 (oV_r rfl ef1) dX0_fits_8 ?_
    refine lv_iload_n hx hb dX0_fits_11 rfl (lv_at hl 1 rfl) ?_
    refine r_callV (As := [.int x]) (rest := []) C hw (t_X4_fitsE l B D cA kd ig rg lg _ f1 (fmO cq) hLf1 x (by omega) (hwf nkf1) hI) sv_X0_31 (isFn.k (FnL.F hLf1)) rfl hl.1 rfl (Nat.le_of_ble_eq_true rfl) ⟨Nat.le_of_ble_eq_true rfl, Nat.le_of_ble_eq_true rfl⟩ ⟨Nat.le_of_ble_eq_true rfl, Nat.le_of_ble_eq_true rfl⟩ dX0_fits_12 (fun r7 kd3 ig4 rg5 lg6 H locs hw hH hp8 => ?_)
    obtain ⟨rfl, rfl, rfl, rfl, hzhp8, hrhp8⟩ := hp8
    have hsz := hzhp8.trans hsz
    obtain ⟨z9, rfl, hz9⟩ := hrhp8
    have fth := hz9
    refine z_eq (tgt := 22) hx hb dX0_fits_15 (by decide) (fun c15 => ?_) (fun c15 => ?_)
    · refine lv_iconst (v := 0) hx hb dX0_fits_22 (by decide) (ti_c 0 (by decide) fun z10 hz10 => ?_)
      exact r_iret C hw hr hlk (nar_b (by omega)) (Nat.le_of_ble_eq_true rfl) (Nat.le_of_ble_eq_true rfl) dX0_fits_23 ⟨rfl, rfl, rfl, rfl, hsz, ⟨_, rfl, Or.inr ⟨by omega, fun q9 => (by rcases fth with ⟨q, -⟩ | ⟨-, q⟩; omega; exact q (q9 nkf1))⟩⟩⟩
    · refine lv_iconst (v := 1) hx hb dX0_fits_18 (by decide) (ti_c 1 (by decide) fun z11 hz11 => ?_)
      refine lv_goto (tgt := 23) hx hb dX0_fits_19 (by decide) ?_
      exact r_iret C hw hr hlk (nar_b (by omega)) (Nat.le_of_ble_eq_true rfl) (Nat.le_of_ble_eq_true rfl) dX0_fits_23 ⟨rfl, rfl, rfl, rfl, hsz, ⟨_, rfl, Or.inl ⟨by omega, fun _ => (by rcases fth with ⟨-, q⟩ | ⟨q, -⟩; exact q; omega)⟩⟩⟩

set_option maxHeartbeats 4000000 in
set_option maxRecDepth 100000 in
theorem t_X6_atE {τ : Tp} (l : Launch) (B : Nat) (D : va_G) (cA : Nat → ClassId) (kd : sK) (ig : sI) (rg : sR) (lg : sG) (sz : Nat) (x : Int32) (σ : Sg) (π : Ps) (ν : Nat) (hS : SCh B σ π ν kd ig rg) (hI : IC τ B kd ig rg) : MC l B D cA yX6_at cX6_at 2 (some (.object "SheetDoctor$Cell")) (rL 1 0 0) [.ref (B + 9), .int x] kd ig rg lg sz (Pu kd ig rg lg sz (fun r => ∃ q, r = some (.ref q) ∧ ClQ B kd ig rg q (atC σ x.toInt))) := by
  refine MC.of (own := RX6) (by decide +kernel) rfl (Nat.le_of_ble_eq_true rfl) ?_
  intro p e s m args below meth c ls C hr hlk hnm hw hsz hl
  have hx := C.1.1
  have hb := C.1.2.1
  have hown := C.1.2.2.2.1
  have hts := C.1.2.2.2.2
  have hl : lv_has ls 2 [(0, .ref (B + 9)), (1, .int x)] := hl
  have hsh := hI.sh
  have hrs := hI.rs
  refine lv_iload_n hx hb dX6_at_0 rfl (lv_at hl 1 rfl) ?_
  refine r_callN (As := [.int x]) (rest := []) C hw (t_X11_onSheet l B D cA kd ig rg lg _ x  hI) sn_X6_42 rfl hl.1 rfl (Nat.le_of_ble_eq_true rfl) ⟨Nat.le_of_ble_eq_true rfl, Nat.le_of_ble_eq_true rfl⟩ ⟨Nat.le_of_ble_eq_true rfl, Nat.le_of_ble_eq_true rfl⟩ dX6_at_1 (fun r5 kd1 ig2 rg3 lg4 H locs hw hH hp6 => ?_)
  obtain ⟨rfl, rfl, rfl, rfl, hzhp6, hrhp6⟩ := hp6
  have hsz := hzhp6.trans hsz
  obtain ⟨z7, rfl, hz7⟩ := hrhp6
  refine z_eq (tgt := 16) hx hb dX6_at_4 (by decide) (fun c4 => ?_) (fun c4 => ?_)
  · refine lv_aload_n hx hb dX6_at_16 rfl (lv_at hl 0 rfl) ?_
    refine r_get C hw (hsh 9 _ rfl) fl_X6_14 (oV_r rfl (hrs (9, 0, 10) (by decide))) dX6_at_17 ?_
    exact r_aret C hw hr hlk (Or.inr ⟨_, rfl⟩) (Nat.le_of_ble_eq_true rfl) (Nat.le_of_ble_eq_true rfl) dX6_at_20 ⟨rfl, rfl, rfl, rfl, hsz, ⟨_, rfl, hS.off (by omega)⟩⟩
  · refine lv_aload_n hx hb dX6_at_7 rfl (lv_at hl 0 rfl) ?_
    refine r_get C hw (hsh 9 _ rfl) fl_X6_20 (oV_r rfl (hrs (9, 1, 11) (by decide))) dX6_at_8 ?_
    refine lv_iload_n hx hb dX6_at_11 rfl (lv_at hl 1 rfl) ?_
    obtain ⟨q8, nq8, rq8, kq8⟩ := hI.cell (j := x.toInt.toNat) (by omega)
    refine r_aald C hw (hsh 11 _ rfl) (by omega) (by omega) (by rw [rq8]) dX6_at_12 ?_
    have hcq8 := hS.at (by omega) rq8
    refine lv_goto (tgt := 20) hx hb dX6_at_13 (by decide) ?_
    exact r_aret C hw hr hlk (Or.inr ⟨_, rfl⟩) (Nat.le_of_ble_eq_true rfl) (Nat.le_of_ble_eq_true rfl) dX6_at_20 ⟨rfl, rfl, rfl, rfl, hsz, ⟨_, rfl, hcq8⟩⟩

set_option maxHeartbeats 4000000 in
set_option maxRecDepth 100000 in
theorem t_X6_kindAtE {τ : Tp} (l : Launch) (B : Nat) (D : va_G) (cA : Nat → ClassId) (kd : sK) (ig : sI) (rg : sR) (lg : sG) (sz : Nat) (x : Int32) (σ : Sg) (π : Ps) (ν : Nat) (hS : SCh B σ π ν kd ig rg) (hI : IC τ B kd ig rg) : MC l B D cA yX6_kindAt cX6_kindAt 2 (some .int) (rL 1 0 0) [.ref (B + 9), .int x] kd ig rg lg sz (Pu kd ig rg lg sz (fun r => ∃ z : Int32, r = some (.int z) ∧ z.toInt = kdO (atC σ x.toInt))) := by
  refine MC.of (own := RX6) (by decide +kernel) rfl (Nat.le_of_ble_eq_true rfl) ?_
  intro p e s m args below meth c ls C hr hlk hnm hw hsz hl
  have hx := C.1.1
  have hb := C.1.2.1
  have hown := C.1.2.2.2.1
  have hts := C.1.2.2.2.2
  have hl : lv_has ls 2 [(0, .ref (B + 9)), (1, .int x)] := hl
  have hsh := hI.sh
  have hrs := hI.rs
  refine lv_iload_n hx hb dX6_kindAt_0 rfl (lv_at hl 1 rfl) ?_
  refine r_callN (As := [.int x]) (rest := []) C hw (t_X11_onSheet l B D cA kd ig rg lg _ x  hI) sn_X6_42 rfl hl.1 rfl (Nat.le_of_ble_eq_true rfl) ⟨Nat.le_of_ble_eq_true rfl, Nat.le_of_ble_eq_true rfl⟩ ⟨Nat.le_of_ble_eq_true rfl, Nat.le_of_ble_eq_true rfl⟩ dX6_kindAt_1 (fun r5 kd1 ig2 rg3 lg4 H locs hw hH hp6 => ?_)
  obtain ⟨rfl, rfl, rfl, rfl, hzhp6, hrhp6⟩ := hp6
  have hsz := hzhp6.trans hsz
  obtain ⟨z7, rfl, hz7⟩ := hrhp6
  have J20 : ∀ (ls : Array Slot) (H : Heap) (locs : List Loc) (u8 : Int32), lv_has ls 2 [] → WD B D cA s.heap kd ig rg lg H locs → H.size = sz → (u8.toInt = kdO (atC σ x.toInt)) → W p l e (rL 1 0 0) s m args below meth c H locs 0 0 (MQ below (QcW B D cA (Pu kd ig rg lg sz (fun r => ∃ z : Int32, r = some (.int z) ∧ z.toInt = kdO (atC σ x.toInt)))) args s 0 0 (fun q => B ≤ q)) (F0 m 20 ls [.int u8]) := by
    intro ls H locs u8 hl hw hsz g20_0
    exact r_iret C hw hr hlk rfl (Nat.le_of_ble_eq_true rfl) (Nat.le_of_ble_eq_true rfl) dX6_kindAt_20 ⟨rfl, rfl, rfl, rfl, hsz, ⟨_, rfl, g20_0⟩⟩
  refine z_eq (tgt := 19) hx hb dX6_kindAt_4 (by decide) (fun c4 => ?_) (fun c4 => ?_)
  · refine lv_iconst (v := 0) hx hb dX6_kindAt_19 (by decide) (ti_c 0 (by decide) fun z9 hz9 => ?_)
    exact J20 ls H locs z9 (lv_sub hl [] rfl) hw hsz (by rw [atC_off (by omega)]; exact hz9)
  · refine lv_aload_n hx hb dX6_kindAt_7 rfl (lv_at hl 0 rfl) ?_
    refine r_get C hw (hsh 9 _ rfl) fl_X6_20 (oV_r rfl (hrs (9, 1, 11) (by decide))) dX6_kindAt_8 ?_
    refine lv_iload_n hx hb dX6_kindAt_11 rfl (lv_at hl 1 rfl) ?_
    obtain ⟨q10, nq10, rq10, kq10⟩ := hI.cell (j := x.toInt.toNat) (by omega)
    refine r_aald C hw (hsh 11 _ rfl) (by omega) (by omega) (by rw [rq10]) dX6_kindAt_12 ?_
    have hcq10 := hS.at (by omega) rq10
    refine r_get C hw kq10 fl_X6_46 (oV_i rfl) dX6_kindAt_13 (ti_c (ig q10 0).toInt rfl fun z11 hz11 => ?_)
    have hfz11 : z11.toInt = (atC σ x.toInt).1.1 := hz11.trans hcq10.2.2.1.1
    refine lv_goto (tgt := 20) hx hb dX6_kindAt_16 (by decide) ?_
    exact J20 ls H locs z11 (lv_sub hl [] rfl) hw hsz (hfz11)

set_option maxHeartbeats 4000000 in
set_option maxRecDepth 100000 in
theorem t_X6_formulaAtE {τ : Tp} (l : Launch) (B : Nat) (D : va_G) (cA : Nat → ClassId) (kd : sK) (ig : sI) (rg : sR) (lg : sG) (sz : Nat) (x : Int32) (σ : Sg) (π : Ps) (ν : Nat) (hS : SCh B σ π ν kd ig rg) (hI : IC τ B kd ig rg) : MC l B D cA yX6_formulaAt cX6_formulaAt 2 (some (.object "SheetDoctor$Formula")) (rL 1 0 0) [.ref (B + 9), .int x] kd ig rg lg sz (Pu kd ig rg lg sz (fun r => ((r = some .null ∧ kdO (atC σ x.toInt) ≠ 2) ∨ ∃ f, r = some (.ref f) ∧ kdO (atC σ x.toInt) = 2 ∧ FnL B kd ig rg f (fmO (atC σ x.toInt))))) := by
  refine MC.of (own := RX6) (by decide +kernel) rfl (Nat.le_of_ble_eq_true rfl) ?_
  intro p e s m args below meth c ls C hr hlk hnm hw hsz hl
  have hx := C.1.1
  have hb := C.1.2.1
  have hown := C.1.2.2.2.1
  have hts := C.1.2.2.2.2
  have hl : lv_has ls 2 [(0, .ref (B + 9)), (1, .int x)] := hl
  have hsh := hI.sh
  have hrs := hI.rs
  refine lv_iload_n hx hb dX6_formulaAt_0 rfl (lv_at hl 1 rfl) ?_
  refine r_callN (As := [.int x]) (rest := []) C hw (t_X11_onSheet l B D cA kd ig rg lg _ x  hI) sn_X6_42 rfl hl.1 rfl (Nat.le_of_ble_eq_true rfl) ⟨Nat.le_of_ble_eq_true rfl, Nat.le_of_ble_eq_true rfl⟩ ⟨Nat.le_of_ble_eq_true rfl, Nat.le_of_ble_eq_true rfl⟩ dX6_formulaAt_1 (fun r5 kd1 ig2 rg3 lg4 H locs hw hH hp6 => ?_)
  obtain ⟨rfl, rfl, rfl, rfl, hzhp6, hrhp6⟩ := hp6
  have hsz := hzhp6.trans hsz
  obtain ⟨z7, rfl, hz7⟩ := hrhp6
  refine z_eq (tgt := 19) hx hb dX6_formulaAt_4 (by decide) (fun c4 => ?_) (fun c4 => ?_)
  · refine lv_null hx hb dX6_formulaAt_19 ?_
    exact r_aret C hw hr hlk (Or.inl rfl) (Nat.le_of_ble_eq_true rfl) (Nat.le_of_ble_eq_true rfl) dX6_formulaAt_20 ⟨rfl, rfl, rfl, rfl, hsz, Or.inl ⟨rfl, (by rw [atC_off (by omega)]; decide)⟩⟩
  · refine lv_aload_n hx hb dX6_formulaAt_7 rfl (lv_at hl 0 rfl) ?_
    refine r_get C hw (hsh 9 _ rfl) fl_X6_20 (oV_r rfl (hrs (9, 1, 11) (by decide))) dX6_formulaAt_8 ?_
    refine lv_iload_n hx hb dX6_formulaAt_11 rfl (lv_at hl 1 rfl) ?_
    obtain ⟨q8, nq8, rq8, kq8⟩ := hI.cell (j := x.toInt.toNat) (by omega)
    refine r_aald C hw (hsh 11 _ rfl) (by omega) (by omega) (by rw [rq8]) dX6_formulaAt_12 ?_
    have hcq8 := hS.at (by omega) rq8
    rcases hcq8.2.2.2 with ⟨nkf9, ef9⟩ | ⟨nkf9, f9, ef9, hLf9⟩
    · refine r_get C hw kq8 fl_X6_49 (oV_n rfl ef9) dX6_formulaAt_13 ?_
      refine lv_goto (tgt := 20) hx hb dX6_formulaAt_16 (by decide) ?_
      exact r_aret C hw hr hlk (Or.inl rfl) (Nat.le_of_ble_eq_true rfl) (Nat.le_of_ble_eq_true rfl) dX6_formulaAt_20 ⟨rfl, rfl, rfl, rfl, hsz, Or.inl ⟨rfl, nkf9⟩⟩
    · have lf9 := hLf9.le
      refine r_get C hw kq8 fl_X6_49 (oV_r rfl ef9) dX6_formulaAt_13 ?_
      refine lv_goto (tgt := 20) hx hb dX6_formulaAt_16 (by decide) ?_
      exact r_aret C hw hr hlk (Or.inr ⟨_, rfl⟩) (Nat.le_of_ble_eq_true rfl) (Nat.le_of_ble_eq_true rfl) dX6_formulaAt_20 ⟨rfl, rfl, rfl, rfl, hsz, Or.inr ⟨_, rfl, nkf9, hLf9⟩⟩
