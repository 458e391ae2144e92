set_option maxHeartbeats 4000000 in
set_option maxRecDepth 100000 in
theorem t_X10_valueAtE {τ : Tp} (l : Launch) (B : Nat) (D : va_G) (cA : Nat → ClassId) (kd : sK) (ig : sI) (rg : sR) (lg : sG) (sz : Nat) (x : Int32) (hx0 : 0 ≤ x.toInt ∧ x.toInt < 288) (hI : IC τ B kd ig rg) : MC l B D cA yX10_valueAt cX10_valueAt 2 (some .int) (rL 1 0 0) [.ref (B + 24), .int x] kd ig rg lg sz (Pu kd ig rg lg sz (fun r => ∃ z : Int32, r = some (.int z) ∧ z = ig (B + 25) x.toInt.toNat)) := by
  refine MC.of (own := RX10) (by decide +kernel) rfl (Nat.le_of_ble_eq_true rfl) ?_
  intro p e s m args below meth c ls C hr hlk hnm hw hsz hl
  have hx := C.1.1
  have hb := C.1.2.1
  have hown := C.1.2.2.2.1
  have hts := C.1.2.2.2.2
  have hl : lv_has ls 2 [(0, .ref (B + 24)), (1, .int x)] := hl
  have hsh := hI.sh
  have hrs := hI.rs
  refine lv_iload_n hx hb dX10_valueAt_0 rfl (lv_at hl 1 rfl) ?_
  refine r_callN (As := [.int x]) (rest := []) C hw (t_X11_onSheet l B D cA kd ig rg lg _ x  hI) sn_X10_65 rfl hl.1 rfl (Nat.le_of_ble_eq_true rfl) ⟨Nat.le_of_ble_eq_true rfl, Nat.le_of_ble_eq_true rfl⟩ ⟨Nat.le_of_ble_eq_true rfl, Nat.le_of_ble_eq_true rfl⟩ dX10_valueAt_1 (fun r5 kd1 ig2 rg3 lg4 H locs hw hH hp6 => ?_)
  obtain ⟨rfl, rfl, rfl, rfl, hzhp6, hrhp6⟩ := hp6
  have hsz := hzhp6.trans hsz
  obtain ⟨z7, rfl, hz7⟩ := hrhp6
  refine z_eq (tgt := 16) hx hb dX10_valueAt_4 (by decide) (fun c4 => ?_) (fun c4 => ?_)
  · exact absurd c4 (by omega)
  · refine lv_aload_n hx hb dX10_valueAt_7 rfl (lv_at hl 0 rfl) ?_
    refine r_get C hw (hsh 24 _ rfl) fl_X10_19 (oV_r rfl (hrs (24, 2, 25) (by decide))) dX10_valueAt_8 ?_
    refine lv_iload_n hx hb dX10_valueAt_11 rfl (lv_at hl 1 rfl) ?_
    refine r_iald C hw (hsh 25 _ rfl) (by omega) (by omega) dX10_valueAt_12 (ti_c (ig (B + 25) x.toInt.toNat).toInt rfl fun z8 hz8 => ?_)
    refine lv_goto (tgt := 17) hx hb dX10_valueAt_13 (by decide) ?_
    exact r_iret C hw hr hlk rfl (Nat.le_of_ble_eq_true rfl) (Nat.le_of_ble_eq_true rfl) dX10_valueAt_17 ⟨rfl, rfl, rfl, rfl, hsz, ⟨_, rfl, i32_inj hz8⟩⟩

set_option maxHeartbeats 4000000 in
set_option maxRecDepth 100000 in
theorem t_X10_errorAtE {τ : Tp} (l : Launch) (B : Nat) (D : va_G) (cA : Nat → ClassId) (kd : sK) (ig : sI) (rg : sR) (lg : sG) (sz : Nat) (x : Int32) (hx0 : 0 ≤ x.toInt ∧ x.toInt < 288) (hI : IC τ B kd ig rg) : MC l B D cA yX10_errorAt cX10_errorAt 2 (some .int) (rL 1 0 0) [.ref (B + 24), .int x] kd ig rg lg sz (Pu kd ig rg lg sz (fun r => ∃ z : Int32, r = some (.int z) ∧ z = ig (B + 26) x.toInt.toNat)) := by
  refine MC.of (own := RX10) (by decide +kernel) rfl (Nat.le_of_ble_eq_true rfl) ?_
  intro p e s m args below meth c ls C hr hlk hnm hw hsz hl
  have hx := C.1.1
  have hb := C.1.2.1
  have hown := C.1.2.2.2.1
  have hts := C.1.2.2.2.2
  have hl : lv_has ls 2 [(0, .ref (B + 24)), (1, .int x)] := hl
  have hsh := hI.sh
  have hrs := hI.rs
  refine lv_iload_n hx hb dX10_errorAt_0 rfl (lv_at hl 1 rfl) ?_
  refine r_callN (As := [.int x]) (rest := []) C hw (t_X11_onSheet l B D cA kd ig rg lg _ x  hI) sn_X10_65 rfl hl.1 rfl (Nat.le_of_ble_eq_true rfl) ⟨Nat.le_of_ble_eq_true rfl, Nat.le_of_ble_eq_true rfl⟩ ⟨Nat.le_of_ble_eq_true rfl, Nat.le_of_ble_eq_true rfl⟩ dX10_errorAt_1 (fun r5 kd1 ig2 rg3 lg4 H locs hw hH hp6 => ?_)
  obtain ⟨rfl, rfl, rfl, rfl, hzhp6, hrhp6⟩ := hp6
  have hsz := hzhp6.trans hsz
  obtain ⟨z7, rfl, hz7⟩ := hrhp6
  refine z_eq (tgt := 16) hx hb dX10_errorAt_4 (by decide) (fun c4 => ?_) (fun c4 => ?_)
  · exact absurd c4 (by omega)
  · refine lv_aload_n hx hb dX10_errorAt_7 rfl (lv_at hl 0 rfl) ?_
    refine r_get C hw (hsh 24 _ rfl) fl_X10_23 (oV_r rfl (hrs (24, 3, 26) (by decide))) dX10_errorAt_8 ?_
    refine lv_iload_n hx hb dX10_errorAt_11 rfl (lv_at hl 1 rfl) ?_
    refine r_iald C hw (hsh 26 _ rfl) (by omega) (by omega) dX10_errorAt_12 (ti_c (ig (B + 26) x.toInt.toNat).toInt rfl fun z8 hz8 => ?_)
    refine lv_goto (tgt := 17) hx hb dX10_errorAt_13 (by decide) ?_
    exact r_iret C hw hr hlk rfl (Nat.le_of_ble_eq_true rfl) (Nat.le_of_ble_eq_true rfl) dX10_errorAt_17 ⟨rfl, rfl, rfl, rfl, hsz, ⟨_, rfl, i32_inj hz8⟩⟩

set_option maxHeartbeats 4000000 in
set_option maxRecDepth 100000 in
theorem t_X5_inRingE {τ : Tp} (l : Launch) (B : Nat) (D : va_G) (cA : Nat → ClassId) (kd : sK) (ig : sI) (rg : sR) (lg : sG) (sz : Nat) (x : Int32) (X : Nat → Prop) (hX : RgA B X ig) (hx0 : 0 ≤ x.toInt ∧ x.toInt < 288) (hI : IC τ B kd ig rg) : MC l B D cA yX5_inRing cX5_inRing 2 (some .boolean) (rL 1 0 0) [.ref (B + 15), .int x] kd ig rg lg sz (Pu kd ig rg lg sz (fun r => ∃ z : Int32, r = some (.int z) ∧ ((z.toInt = 1 ∧ X x.toInt.toNat) ∨ (z.toInt = 0 ∧ ¬ X x.toInt.toNat)))) := by
  refine MC.of (own := RX5) (by decide +kernel) rfl (Nat.le_of_ble_eq_true rfl) ?_
  intro p e s m args below meth c ls C hr hlk hnm hw hsz hl
  have hx := C.1.1
  have hb := C.1.2.1
  have hown := C.1.2.2.2.1
  have hts := C.1.2.2.2.2
  have hl : lv_has ls 2 [(0, .ref (B + 15)), (1, .int x)] := hl
  have hsh := hI.sh
  have hrs := hI.rs
  refine lv_iload_n hx hb dX5_inRing_0 rfl (lv_at hl 1 rfl) ?_
  refine r_callN (As := [.int x]) (rest := []) C hw (t_X11_onSheet l B D cA kd ig rg lg _ x  hI) sn_X5_75 rfl hl.1 rfl (Nat.le_of_ble_eq_true rfl) ⟨Nat.le_of_ble_eq_true rfl, Nat.le_of_ble_eq_true rfl⟩ ⟨Nat.le_of_ble_eq_true rfl, Nat.le_of_ble_eq_true rfl⟩ dX5_inRing_1 (fun r5 kd1 ig2 rg3 lg4 H locs hw hH hp6 => ?_)
  obtain ⟨rfl, rfl, rfl, rfl, hzhp6, hrhp6⟩ := hp6
  have hsz := hzhp6.trans hsz
  obtain ⟨z7, rfl, hz7⟩ := hrhp6
  refine z_eq (tgt := 20) hx hb dX5_inRing_4 (by decide) (fun c4 => ?_) (fun c4 => ?_)
  · exact absurd c4 (by omega)
  · refine lv_aload_n hx hb dX5_inRing_7 rfl (lv_at hl 0 rfl) ?_
    refine r_get C hw (hsh 15 _ rfl) fl_X5_29 (oV_r rfl (hrs (15, 6, 20) (by decide))) dX5_inRing_8 ?_
    refine lv_iload_n hx hb dX5_inRing_11 rfl (lv_at hl 1 rfl) ?_
    refine r_zald C hw (hsh 20 _ rfl) (by omega) (by omega) dX5_inRing_12 (ti_c (ig (B + 20) x.toInt.toNat).toInt rfl fun z8 hz8 => ?_)
    refine z_eq (tgt := 20) hx hb dX5_inRing_13 (by decide) (fun c13 => ?_) (fun c13 => ?_)
    · refine lv_iconst (v := 0) hx hb dX5_inRing_20 (by decide) (ti_c 0 (by decide) fun z9 hz9 => ?_)
      exact r_iret C hw hr hlk (nar_b (by omega)) (Nat.le_of_ble_eq_true rfl) (Nat.le_of_ble_eq_true rfl) dX5_inRing_21 ⟨rfl, rfl, rfl, rfl, hsz, ⟨_, rfl, (by rcases hX x.toInt.toNat (by omega) with ⟨q9, w9⟩ | ⟨q9, w9⟩; exact absurd hz8 (by omega); exact Or.inr ⟨by omega, w9⟩)⟩⟩
    · refine lv_iconst (v := 1) hx hb dX5_inRing_16 (by decide) (ti_c 1 (by decide) fun z10 hz10 => ?_)
      refine lv_goto (tgt := 21) hx hb dX5_inRing_17 (by decide) ?_
      exact r_iret C hw hr hlk (nar_b (by omega)) (Nat.le_of_ble_eq_true rfl) (Nat.le_of_ble_eq_true rfl) dX5_inRing_21 ⟨rfl, rfl, rfl, rfl, hsz, ⟨_, rfl, (by rcases hX x.toInt.toNat (by omega) with ⟨q9, w9⟩ | ⟨q9, w9⟩; exact Or.inl ⟨by omega, w9⟩; exact absurd hz8 (by omega))⟩⟩

set_option maxHeartbeats 4000000 in
set_option maxRecDepth 100000 in
theorem t_X5_orderSizeE {τ : Tp} (l : Launch) (B : Nat) (D : va_G) (cA : Nat → ClassId) (kd : sK) (ig : sI) (rg : sR) (lg : sG) (sz : Nat)  (hI : IC τ B kd ig rg) : MC l B D cA yX5_orderSize cX5_orderSize 1 (some .int) (rL 0 0 0) [.ref (B + 15)] kd ig rg lg sz (Pu kd ig rg lg sz (fun r => ∃ z : Int32, r = some (.int z) ∧ z.toInt = (ig (B + 15) 9).toInt)) := by
  refine MC.of (own := RX5) (by decide +kernel) rfl (Nat.le_of_ble_eq_true rfl) ?_
  intro p e s m args below meth c ls C hr hlk hnm hw hsz hl
  have hx := C.1.1
  have hb := C.1.2.1
  have hown := C.1.2.2.2.1
  have hts := C.1.2.2.2.2
  have hl : lv_has ls 1 [(0, .ref (B + 15))] := hl
  have hsh := hI.sh
  have hrs := hI.rs
  refine lv_aload_n hx hb dX5_orderSize_0 rfl (lv_at hl 0 rfl) ?_
  refine r_get C hw (hsh 15 _ rfl) fl_X5_55 (oV_i rfl) dX5_orderSize_1 (ti_c (ig (B + 15) 9).toInt rfl fun z1 hz1 => ?_)
  have k2 : 0 ≤ (ig (B + 15) 9).toInt ∧ (ig (B + 15) 9).toInt ≤ 288 := hI.i 15 9 (by decide)
  exact r_iret C hw hr hlk rfl (Nat.le_of_ble_eq_true rfl) (Nat.le_of_ble_eq_true rfl) dX5_orderSize_4 ⟨rfl, rfl, rfl, rfl, hsz, ⟨_, rfl, hz1⟩⟩

set_option maxHeartbeats 4000000 in
set_option maxRecDepth 100000 in
theorem t_X5_inOrderE {τ : Tp} (l : Launch) (B : Nat) (D : va_G) (cA : Nat → ClassId) (kd : sK) (ig : sI) (rg : sR) (lg : sG) (sz : Nat) (x : Int32) (hx0 : 0 ≤ x.toInt ∧ x.toInt < (ig (B + 15) 9).toInt) (hI : IC τ B kd ig rg) : MC l B D cA yX5_inOrder cX5_inOrder 2 (some .int) (rL 0 0 0) [.ref (B + 15), .int x] kd ig rg lg sz (Pu kd ig rg lg sz (fun r => ∃ z : Int32, r = some (.int z) ∧ z.toInt = (ig (B + 22) x.toInt.toNat).toInt)) := by
  refine MC.of (own := RX5) (by decide +kernel) rfl (Nat.le_of_ble_eq_true rfl) ?_
  intro p e s m args below meth c ls C hr hlk hnm hw hsz hl
  have hx := C.1.1
  have hb := C.1.2.1
  have hown := C.1.2.2.2.1
  have hts := C.1.2.2.2.2
  have hl : lv_has ls 2 [(0, .ref (B + 15)), (1, .int x)] := hl
  have hsh := hI.sh
  have hrs := hI.rs
  have k99 : 0 ≤ (ig (B + 15) 9).toInt ∧ (ig (B + 15) 9).toInt ≤ 288 := hI.i 15 9 (by decide)
  refine lv_iload_n hx hb dX5_inOrder_0 rfl (lv_at hl 1 rfl) ?_
  refine z_lt (tgt := 28) hx hb dX5_inOrder_1 (by decide) (fun c1 => ?_) (fun c1 => ?_)
  · exact absurd c1 (by omega)
  · refine lv_iload_n hx hb dX5_inOrder_4 rfl (lv_at hl 1 rfl) ?_
    refine lv_aload_n hx hb dX5_inOrder_5 rfl (lv_at hl 0 rfl) ?_
    refine r_get C hw (hsh 15 _ rfl) fl_X5_55 (oV_i rfl) dX5_inOrder_6 (ti_c (ig (B + 15) 9).toInt rfl fun z1 hz1 => ?_)
    have k2 : 0 ≤ (ig (B + 15) 9).toInt ∧ (ig (B + 15) 9).toInt ≤ 288 := hI.i 15 9 (by decide)
    refine b_ge (tgt := 28) hx hb dX5_inOrder_9 (by decide) (fun c9 => ?_) (fun c9 => ?_)
    · exact absurd c9 (by omega)
    · refine lv_iload_n hx hb dX5_inOrder_12 rfl (lv_at hl 1 rfl) ?_
      refine lv_sipush (v := 288) hx hb dX5_inOrder_13 (by decide) (ti_c 288 (by decide) fun z3 hz3 => ?_)
      refine b_ge (tgt := 28) hx hb dX5_inOrder_16 (by decide) (fun c16 => ?_) (fun c16 => ?_)
      · exact absurd c16 (by omega)
      · refine lv_aload_n hx hb dX5_inOrder_19 rfl (lv_at hl 0 rfl) ?_
        refine r_get C hw (hsh 15 _ rfl) fl_X5_36 (oV_r rfl (hrs (15, 8, 22) (by decide))) dX5_inOrder_20 ?_
        refine lv_iload_n hx hb dX5_inOrder_23 rfl (lv_at hl 1 rfl) ?_
        refine r_iald C hw (hsh 22 _ rfl) (by omega) (by omega) dX5_inOrder_24 (ti_c (ig (B + 22) x.toInt.toNat).toInt rfl fun z4 hz4 => ?_)
        refine lv_goto (tgt := 29) hx hb dX5_inOrder_25 (by decide) ?_
        exact r_iret C hw hr hlk rfl (Nat.le_of_ble_eq_true rfl) (Nat.le_of_ble_eq_true rfl) dX5_inOrder_29 ⟨rfl, rfl, rfl, rfl, hsz, ⟨_, rfl, hz4⟩⟩

set_option maxHeartbeats 4000000 in
set_option maxRecDepth 100000 in
theorem t_X4_constantAtE {τ : Tp} (l : Launch) (B : Nat) (D : va_G) (cA : Nat → ClassId) (kd : sK) (ig : sI) (rg : sR) (lg : sG) (sz : Nat) (f : Nat) (L : Fm) (hL : FnL B kd ig rg f L) (x : Int32) (hin : 0 ≤ x.toInt ∧ x.toInt < (L.length : Int)) (hI : IC τ B kd ig rg) : MC l B D cA yX4_constantAt cX4_constantAt 2 (some .int) (rL 0 0 0) [.ref f, .int x] kd ig rg lg sz (Pu kd ig rg lg sz (fun r => ∃ z : Int32, r = some (.int z) ∧ z.toInt = (stp L x.toInt).2.1)) := by
  refine MC.of (own := RX4) (by decide +kernel) rfl (Nat.le_of_ble_eq_true rfl) ?_
  intro p e s m args below meth c ls C hr hlk hnm hw hsz hl
  have hx := C.1.1
  have hb := C.1.2.1
  have hown := C.1.2.2.2.1
  have hts := C.1.2.2.2.2
  have hl : lv_has ls 2 [(0, .ref f), (1, .int x)] := hl
  have hsh := hI.sh
  have hrs := hI.rs
  have lnf := hL.le
  refine lv_iload_n hx hb dX4_constantAt_0 rfl (lv_at hl 1 rfl) ?_
  refine z_lt (tgt := 22) hx hb dX4_constantAt_1 (by decide) (fun c1 => ?_) (fun c1 => ?_)
  · exact absurd c1 (by omega)
  · refine lv_iload_n hx hb dX4_constantAt_4 rfl (lv_at hl 1 rfl) ?_
    refine lv_aload_n hx hb dX4_constantAt_5 rfl (lv_at hl 0 rfl) ?_
    obtain ⟨a1, ra1, ka1, ga1⟩ := isFn.arr (FnL.F hL) 1 (by decide)
    refine r_get C hw (isFn.k (FnL.F hL)) fl_X4_21 (oV_r rfl ra1) dX4_constantAt_6 ?_
    refine r_alen C hw ka1 (by omega) (by omega) dX4_constantAt_9 (fun z2 hz2 => ?_)
    refine b_ge (tgt := 22) hx hb dX4_constantAt_10 (by decide) (fun c10 => ?_) (fun c10 => ?_)
    · exact absurd c10 (by omega)
    · refine lv_aload_n hx hb dX4_constantAt_13 rfl (lv_at hl 0 rfl) ?_
      obtain ⟨a3, ra3, ka3, ga3⟩ := isFn.arr (FnL.F hL) 1 (by decide)
      refine r_get C hw (isFn.k (FnL.F hL)) fl_X4_21 (oV_r rfl ra3) dX4_constantAt_14 ?_
      refine lv_iload_n hx hb dX4_constantAt_17 rfl (lv_at hl 1 rfl) ?_
      refine r_iald C hw ka3 (by omega) (by omega) dX4_constantAt_18 (ti_c (ig a3 x.toInt.toNat).toInt rfl fun z4 hz4 => ?_)
      have ez : z4.toInt = (stp L x.toInt).2.1 := by rw [hz4]; exact hL.aD ra3 (by omega) (by omega)
      refine lv_goto (tgt := 23) hx hb dX4_constantAt_19 (by decide) ?_
      exact r_iret C hw hr hlk rfl (Nat.le_of_ble_eq_true rfl) (Nat.le_of_ble_eq_true rfl) dX4_constantAt_23 ⟨rfl, rfl, rfl, rfl, hsz, ⟨_, rfl, ez⟩⟩

set_option maxHeartbeats 4000000 in
set_option maxRecDepth 100000 in
theorem t_X10_pushE {τ : Tp} (l : Launch) (B : Nat) (D : va_G) (cA : Nat → ClassId) (kd : sK) (ig : sI) (rg : sR) (lg : sG) (sz : Nat) (x : Int32) (k : List Int32) (hk : SkV B k ig) (h32 : k.length < 32) (hI : IC τ B kd ig rg) : MC l B D cA yX10_push cX10_push 2 none (rL 0 0 0) [.ref (B + 24), .int x] kd ig rg lg sz (PI 998 τ B none kd ig rg lg (fun r kd' ig' rg' lg' => (r = none ∧ (SkV B (x :: k) ig' ∧ Fo B [24, 28] ig lg ig' lg' ∧ (ig' (B + 24) 7).toInt = (ig (B + 24) 7).toInt ∧ (ig' (B + 24) 8).toInt = (ig (B + 24) 8).toInt)))) := by
  refine MC.of (own := RX10) (by decide +kernel) rfl (Nat.le_of_ble_eq_true rfl) ?_
  intro p e s m args below meth c ls C hr hlk hnm hw hsz hl
  have hx := C.1.1
  have hb := C.1.2.1
  have hown := C.1.2.2.2.1
  have hts := C.1.2.2.2.2
  have hl : lv_has ls 2 [(0, .ref (B + 24)), (1, .int x)] := hl
  have hN : Nx 998 B none kd ig rg lg kd ig rg lg := Nx.rf
  have hsh := hI.sh
  have hrs := hI.rs
  have hO : Fo B [24, 28] ig lg ig lg := Fo.rf
  have hk1 := hk.1
  refine lv_aload_n hx hb dX10_push_0 rfl (lv_at hl 0 rfl) ?_
  refine r_get C hw (hsh 24 _ rfl) fl_X10_79 (oV_i rfl) dX10_push_1 (ti_c (ig (B + 24) 6).toInt rfl fun z1 hz1 => ?_)
  have k2 : 0 ≤ (ig (B + 24) 6).toInt ∧ (ig (B + 24) 6).toInt ≤ 32 := hI.i 24 6 (by decide)
  refine lv_bipush (v := 32) hx hb dX10_push_4 (by decide) (ti_c 32 (by decide) fun z3 hz3 => ?_)
  refine b_ge (tgt := 29) hx hb dX10_push_6 (by decide) (fun c6 => ?_) (fun c6 => ?_)
  · exact absurd c6 (by omega)
  · refine lv_aload_n hx hb dX10_push_9 rfl (lv_at hl 0 rfl) ?_
    refine r_get C hw (hsh 24 _ rfl) fl_X10_29 (oV_r rfl (hrs (24, 5, 28) (by decide))) dX10_push_10 ?_
    refine lv_aload_n hx hb dX10_push_13 rfl (lv_at hl 0 rfl) ?_
    refine r_get C hw (hsh 24 _ rfl) fl_X10_79 (oV_i rfl) dX10_push_14 (ti_c (ig (B + 24) 6).toInt rfl fun z4 hz4 => ?_)
    have k5 : 0 ≤ (ig (B + 24) 6).toInt ∧ (ig (B + 24) 6).toInt ≤ 32 := hI.i 24 6 (by decide)
    refine lv_iload_n hx hb dX10_push_17 rfl (lv_at hl 1 rfl) ?_
    refine r_iast C hw (hsh 28 _ rfl) (by omega) (by omega) dX10_push_18 (fun H locs hH hw => ?_)
    have hO0 := hO
    obtain ⟨ig6, eig6⟩ : ∃ f, f = up2 ig (B + 28) z4.toInt.toNat x := ⟨_, rfl⟩
    rw [← eig6] at hw
    have hN : Nx 998 B none kd ig rg lg kd ig6 rg lg := by rw [eig6]; exact hN.pi (by omega)
    have hI : IC τ B kd ig6 rg := by rw [eig6]; exact hI.pi (show okR none _ from trivial)
    have wig6_24_6 : (ig6 (B + 24) 6).toInt = (ig (B + 24) 6).toInt := by rw [eig6, up2_a (by omega)]
    have wig6_24_7 : (ig6 (B + 24) 7).toInt = (ig (B + 24) 7).toInt := by rw [eig6, up2_a (by omega)]
    have wig6_24_8 : (ig6 (B + 24) 8).toInt = (ig (B + 24) 8).toInt := by rw [eig6, up2_a (by omega)]
    have hO : Fo B [24, 28] ig lg ig6 lg := by rw [eig6]; exact hO0.pi (by decide)
    clear hO0
    refine lv_aload_n hx hb dX10_push_19 rfl (lv_at hl 0 rfl) ?_
    refine lv_dup hx hb dX10_push_20 rfl ?_
    refine r_get C hw (hsh 24 _ rfl) fl_X10_79 (oV_i rfl) dX10_push_21 (ti_c (ig6 (B + 24) 6).toInt rfl fun z7 hz7 => ?_)
    have k8 : 0 ≤ (ig6 (B + 24) 6).toInt ∧ (ig6 (B + 24) 6).toInt ≤ 32 := hI.i 24 6 (by decide)
    refine lv_iconst (v := 1) hx hb dX10_push_24 (by decide) (ti_c 1 (by decide) fun z9 hz9 => ?_)
    refine lv_iadd hx hb dX10_push_25 (tc_add fun z10 hz10 => ?_)
    first | replace hz10 := hz10 (by omega) | clear hz10
    refine r_puti C hw (hsh 24 _ rfl) fl_X10_79 rfl rfl rfl dX10_push_26 (fun H locs hH hw => ?_)
    have hO0 := hO
    obtain ⟨ig11, eig11⟩ : ∃ f, f = up2 ig6 (B + 24) 6 z10 := ⟨_, rfl⟩
    rw [← eig11] at hw
    have hN : Nx 998 B none kd ig rg lg kd ig11 rg lg := by rw [eig11]; exact hN.pi (by omega)
    have hI : IC τ B kd ig11 rg := by rw [eig11]; exact hI.pi (show okR (some (0, 32)) _ from ⟨by show (0 : Int) ≤ _; omega, by show _ ≤ (32 : Int); omega⟩)
    have wig11 : (ig11 (B + 24) 6).toInt = z10.toInt := by rw [eig11, up2_eq]
    have wig11_24_7 : (ig11 (B + 24) 7).toInt = (ig6 (B + 24) 7).toInt := by rw [eig11, up2_j (by decide)]
    have wig11_24_8 : (ig11 (B + 24) 8).toInt = (ig6 (B + 24) 8).toInt := by rw [eig11, up2_j (by decide)]
    have hO : Fo B [24, 28] ig lg ig11 lg := by rw [eig11]; exact hO0.pi (by decide)
    clear hO0
    exact r_vret C hw hr hlk (Nat.le_of_ble_eq_true rfl) (Nat.le_of_ble_eq_true rfl) dX10_push_29 ⟨hI, hN, ⟨rfl, ⟨(by rw [eig11, eig6]; exact hk.push (by omega) (by omega)), hO, by omega, by omega⟩⟩⟩

set_option maxHeartbeats 4000000 in
set_option maxRecDepth 100000 in
theorem t_X10_popE {τ : Tp} (l : Launch) (B : Nat) (D : va_G) (cA : Nat → ClassId) (kd : sK) (ig : sI) (rg : sR) (lg : sG) (sz : Nat) (v0 : Int32) (k : List Int32) (hk : SkV B (v0 :: k) ig) (hI : IC τ B kd ig rg) : MC l B D cA yX10_pop cX10_pop 1 (some .int) (rL 0 0 0) [.ref (B + 24)] kd ig rg lg sz (PI 998 τ B none kd ig rg lg (fun r kd' ig' rg' lg' => ∃ z : Int32, r = some (.int z) ∧ ((z = v0 ∧ SkV B k ig') ∧ Fo B [24] ig lg ig' lg' ∧ (ig' (B + 24) 7).toInt = (ig (B + 24) 7).toInt ∧ (ig' (B + 24) 8).toInt = (ig (B + 24) 8).toInt))) := by
  refine MC.of (own := RX10) (by decide +kernel) rfl (Nat.le_of_ble_eq_true rfl) ?_
  intro p e s m args below meth c ls C hr hlk hnm hw hsz hl
  have hx := C.1.1
  have hb := C.1.2.1
  have hown := C.1.2.2.2.1
  have hts := C.1.2.2.2.2
  have hl : lv_has ls 1 [(0, .ref (B + 24))] := hl
  have hN : Nx 998 B none kd ig rg lg kd ig rg lg := Nx.rf
  have hsh := hI.sh
  have hrs := hI.rs
  have hO : Fo B [24] ig lg ig lg := Fo.rf
  have hk1 := hk.1
  rw [List.length_cons] at hk1
  refine lv_aload_n hx hb dX10_pop_0 rfl (lv_at hl 0 rfl) ?_
  refine r_get C hw (hsh 24 _ rfl) fl_X10_79 (oV_i rfl) dX10_pop_1 (ti_c (ig (B + 24) 6).toInt rfl fun z1 hz1 => ?_)
  have k2 : 0 ≤ (ig (B + 24) 6).toInt ∧ (ig (B + 24) 6).toInt ≤ 32 := hI.i 24 6 (by decide)
  refine z_gt (tgt := 9) hx hb dX10_pop_4 (by decide) (fun c4 => ?_) (fun c4 => ?_)
  · refine lv_aload_n hx hb dX10_pop_9 rfl (lv_at hl 0 rfl) ?_
    refine lv_dup hx hb dX10_pop_10 rfl ?_
    refine r_get C hw (hsh 24 _ rfl) fl_X10_79 (oV_i rfl) dX10_pop_11 (ti_c (ig (B + 24) 6).toInt rfl fun z3 hz3 => ?_)
    have k4 : 0 ≤ (ig (B + 24) 6).toInt ∧ (ig (B + 24) 6).toInt ≤ 32 := hI.i 24 6 (by decide)
    refine lv_iconst (v := 1) hx hb dX10_pop_14 (by decide) (ti_c 1 (by decide) fun z5 hz5 => ?_)
    refine lv_isub hx hb dX10_pop_15 (tc_sub fun z6 hz6 => ?_)
    first | replace hz6 := hz6 (by omega) | clear hz6
    refine r_puti C hw (hsh 24 _ rfl) fl_X10_79 rfl rfl rfl dX10_pop_16 (fun H locs hH hw => ?_)
    have hO0 := hO
    obtain ⟨ig7, eig7⟩ : ∃ f, f = up2 ig (B + 24) 6 z6 := ⟨_, rfl⟩
    rw [← eig7] at hw
    have hN : Nx 998 B none kd ig rg lg kd ig7 rg lg := by rw [eig7]; exact hN.pi (by omega)
    have hI : IC τ B kd ig7 rg := by rw [eig7]; exact hI.pi (show okR (some (0, 32)) _ from ⟨by show (0 : Int) ≤ _; omega, by show _ ≤ (32 : Int); omega⟩)
    have wig7 : (ig7 (B + 24) 6).toInt = z6.toInt := by rw [eig7, up2_eq]
    have wig7_24_7 : (ig7 (B + 24) 7).toInt = (ig (B + 24) 7).toInt := by rw [eig7, up2_j (by decide)]
    have wig7_24_8 : (ig7 (B + 24) 8).toInt = (ig (B + 24) 8).toInt := by rw [eig7, up2_j (by decide)]
    have hO : Fo B [24] ig lg ig7 lg := by rw [eig7]; exact hO0.pi (by decide)
    clear hO0
    refine lv_aload_n hx hb dX10_pop_19 rfl (lv_at hl 0 rfl) ?_
    refine r_get C hw (hsh 24 _ rfl) fl_X10_29 (oV_r rfl (hrs (24, 5, 28) (by decide))) dX10_pop_20 ?_
    refine lv_aload_n hx hb dX10_pop_23 rfl (lv_at hl 0 rfl) ?_
    refine r_get C hw (hsh 24 _ rfl) fl_X10_79 (oV_i rfl) dX10_pop_24 (ti_c (ig7 (B + 24) 6).toInt rfl fun z8 hz8 => ?_)
    have k9 : 0 ≤ (ig7 (B + 24) 6).toInt ∧ (ig7 (B + 24) 6).toInt ≤ 32 := hI.i 24 6 (by decide)
    refine r_iald C hw (hsh 28 _ rfl) (by omega) (by omega) dX10_pop_27 (ti_c (ig7 (B + 28) z8.toInt.toNat).toInt rfl fun z10 hz10 => ?_)
    exact r_iret C hw hr hlk rfl (Nat.le_of_ble_eq_true rfl) (Nat.le_of_ble_eq_true rfl) dX10_pop_28 ⟨hI, hN, ⟨_, rfl, ⟨⟨i32_inj (by rw [hz10, eig7, up2_a (by omega), show z8.toInt.toNat = k.length by omega, hk.top]), (by rw [eig7]; exact hk.pop (by omega))⟩, hO, by omega, by omega⟩⟩⟩
  · exact absurd c4 (by omega)

set_option maxHeartbeats 4000000 in
set_option maxRecDepth 100000 in
theorem t_X10_quotientE {τ : Tp} (l : Launch) (B : Nat) (D : va_G) (cA : Nat → ClassId) (kd : sK) (ig : sI) (rg : sR) (lg : sG) (sz : Nat) (x : Int32) (y : Int32) (hw0 : (ig (B + 24) 7).toInt = 0) (o9 : Int) (ho9 : o9 ≠ 5 ∧ o9 ≠ 6 ∧ o9 ≠ 7) (hI : IC τ B kd ig rg) : MC l B D cA yX10_quotient cX10_quotient 3 (some .int) (rL 0 0 0) [.ref (B + 24), .int x, .int y] kd ig rg lg sz (PI 998 τ B none kd ig rg lg (fun r kd' ig' rg' lg' => ∃ z : Int32, r = some (.int z) ∧ ((z = opV o9 x y ∧ (ig' (B + 24) 7).toInt = (opM o9 y 0).toInt) ∧ Fo B [24] ig lg ig' lg' ∧ (ig' (B + 24) 6).toInt = (ig (B + 24) 6).toInt ∧ (ig' (B + 24) 8).toInt = (ig (B + 24) 8).toInt))) := by
  refine MC.of (own := RX10) (by decide +kernel) rfl (Nat.le_of_ble_eq_true rfl) ?_
  intro p e s m args below meth c ls C hr hlk hnm hw hsz hl
  have hx := C.1.1
  have hb := C.1.2.1
  have hown := C.1.2.2.2.1
  have hts := C.1.2.2.2.2
  have hl : lv_has ls 3 [(0, .ref (B + 24)), (1, .int x), (2, .int y)] := hl
  have hN : Nx 998 B none kd ig rg lg kd ig rg lg := Nx.rf
  have hsh := hI.sh
  have hrs := hI.rs
  have hO : Fo B [24] ig lg ig lg := Fo.rf
  refine lv_iload_n hx hb dX10_quotient_0 rfl (lv_at hl 2 rfl) ?_
  refine z_ne (tgt := 11) hx hb dX10_quotient_1 (by decide) (fun c1 => ?_) (fun c1 => ?_)
  · have y1 : y ≠ 0 := (by intro q9; rw [q9] at c1; exact c1 rfl)
    refine lv_iload_n hx hb dX10_quotient_11 rfl (lv_at hl 1 rfl) ?_
    refine lv_iload_n hx hb dX10_quotient_12 rfl (lv_at hl 2 rfl) ?_
    refine lv_idiv hx hb dX10_quotient_13 (ne0_of (by omega)) (lv_topi fun z1 hz1 => ?_)
    exact r_iret C hw hr hlk rfl (Nat.le_of_ble_eq_true rfl) (Nat.le_of_ble_eq_true rfl) dX10_quotient_14 ⟨hI, hN, ⟨_, rfl, ⟨⟨(by unfold opV; rw [if_neg ho9.1, if_neg ho9.2.1, if_neg ho9.2.2, if_neg y1]; exact hz1), (by unfold opM; rw [if_neg (fun q9 => y1 q9.2.1)]; show _ = (0 : Int); omega)⟩, hO, by omega, by omega⟩⟩⟩
  · have y0 : y = 0 := i32_inj (show y.toInt = 0 by omega)
    refine lv_aload_n hx hb dX10_quotient_4 rfl (lv_at hl 0 rfl) ?_
    refine lv_iconst (v := 1) hx hb dX10_quotient_5 (by decide) (ti_c 1 (by decide) fun z2 hz2 => ?_)
    refine r_puti C hw (hsh 24 _ rfl) fl_X10_76 rfl rfl rfl dX10_quotient_6 (fun H locs hH hw => ?_)
    have hO0 := hO
    obtain ⟨ig3, eig3⟩ : ∃ f, f = up2 ig (B + 24) 7 z2 := ⟨_, rfl⟩
    rw [← eig3] at hw
    have hN : Nx 998 B none kd ig rg lg kd ig3 rg lg := by rw [eig3]; exact hN.pi (by omega)
    have hI : IC τ B kd ig3 rg := by rw [eig3]; exact hI.pi (show okR none _ from trivial)
    have wig3 : (ig3 (B + 24) 7).toInt = z2.toInt := by rw [eig3, up2_eq]
    have wig3_24_6 : (ig3 (B + 24) 6).toInt = (ig (B + 24) 6).toInt := by rw [eig3, up2_j (by decide)]
    have wig3_24_8 : (ig3 (B + 24) 8).toInt = (ig (B + 24) 8).toInt := by rw [eig3, up2_j (by decide)]
    have hO : Fo B [24] ig lg ig3 lg := by rw [eig3]; exact hO0.pi (by decide)
    clear hO0
    refine lv_iconst (v := 0) hx hb dX10_quotient_9 (by decide) (ti_c 0 (by decide) fun z4 hz4 => ?_)
    exact r_iret C hw hr hlk rfl (Nat.le_of_ble_eq_true rfl) (Nat.le_of_ble_eq_true rfl) dX10_quotient_10 ⟨hI, hN, ⟨_, rfl, ⟨⟨(by unfold opV; rw [if_neg ho9.1, if_neg ho9.2.1, if_neg ho9.2.2, if_pos y0]; exact i32_inj (show z4.toInt = 0 by omega)), (by unfold opM; rw [if_pos ⟨ho9, y0, rfl⟩]; show _ = (1 : Int); omega)⟩, hO, by omega, by omega⟩⟩⟩

set_option maxHeartbeats 4000000 in
set_option maxRecDepth 100000 in
theorem t_X10_joinE {τ : Tp} (l : Launch) (B : Nat) (D : va_G) (cA : Nat → ClassId) (kd : sK) (ig : sI) (rg : sR) (lg : sG) (sz : Nat) (x : Int32) (k : List Int32) (a b : Int32) (hk : SkV B (b :: a :: k) ig) (h32 : k.length + 2 ≤ 32) (hw0 : (ig (B + 24) 7).toInt = 0) (hI : IC τ B kd ig rg) : MC l B D cA yX10_join cX10_join 4 none (rL 1 0 0) [.ref (B + 24), .int x] kd ig rg lg sz (PI 998 τ B none kd ig rg lg (fun r kd' ig' rg' lg' => (r = none ∧ ((SkV B (opV x.toInt a b :: k) ig' ∧ (ig' (B + 24) 7).toInt = (opM x.toInt b 0).toInt) ∧ Fo B [24, 28] ig lg ig' lg' ∧ (ig' (B + 24) 8).toInt = (ig (B + 24) 8).toInt)))) := by
  refine MC.of (own := RX10) (by decide +kernel) rfl (Nat.le_of_ble_eq_true rfl) ?_
  intro p e s m args below meth c ls C hr hlk hnm hw hsz hl
  have hx := C.1.1
  have hb := C.1.2.1
  have hown := C.1.2.2.2.1
  have hts := C.1.2.2.2.2
  have hl : lv_has ls 4 [(0, .ref (B + 24)), (1, .int x)] := hl
  have hN : Nx 998 B none kd ig rg lg kd ig rg lg := Nx.rf
  have hsh := hI.sh
  have hrs := hI.rs
  have hO : Fo B [24, 28] ig lg ig lg := Fo.rf
  refine lv_aload_n hx hb dX10_join_0 rfl (lv_at hl 0 rfl) ?_
  refine r_callV (As := []) (rest := []) C hw (t_X10_popE l B D cA kd ig rg lg _  b (a :: k) hk hI) sv_X10_104 (hsh 24 _ rfl) rfl hl.1 rfl (Nat.le_of_ble_eq_true rfl) ⟨Nat.le_of_ble_eq_true rfl, Nat.le_of_ble_eq_true rfl⟩ ⟨Nat.le_of_ble_eq_true rfl, Nat.le_of_ble_eq_true rfl⟩ dX10_join_1 (fun r5 kd1 ig2 rg3 lg4 H locs hw hH hp6 => ?_)
  obtain ⟨hI, hchp6, hrhp6⟩ := hp6
  have hN := hN.tr hchp6
  have hsh := hI.sh
  have hrs := hI.rs
  obtain ⟨z7, rfl, hz7⟩ := hrhp6
  obtain ⟨phz7, ohz7, khz7_0, khz7_1⟩ := hz7
  have hO := hO.tr ohz7
  refine lv_istore_n (lv' := [(2, .int z7), (0, .ref (B + 24)), (1, .int x)]) hx hb dX10_join_4 rfl hl (by decide) rfl (fun ls hl => ?_)
  refine lv_aload_n hx hb dX10_join_5 rfl (lv_at hl 1 rfl) ?_
  refine r_callV (As := []) (rest := []) C hw (t_X10_popE l B D cA kd1 ig2 rg3 lg4 _  a k phz7.2 hI) sv_X10_104 (hsh 24 _ rfl) rfl hl.1 rfl (Nat.le_of_ble_eq_true rfl) ⟨Nat.le_of_ble_eq_true rfl, Nat.le_of_ble_eq_true rfl⟩ ⟨Nat.le_of_ble_eq_true rfl, Nat.le_of_ble_eq_true rfl⟩ dX10_join_6 (fun r12 kd8 ig9 rg10 lg11 H locs hw hH hp13 => ?_)
  obtain ⟨hI, hchp13, hrhp13⟩ := hp13
  have hN := hN.tr hchp13
  have hsh := hI.sh
  have hrs := hI.rs
  obtain ⟨z14, rfl, hz14⟩ := hrhp13
  obtain ⟨phz14, ohz14, khz14_0, khz14_1⟩ := hz14
  have hO := hO.tr ohz14
  refine lv_istore_n (lv' := [(3, .int z14), (2, .int z7), (0, .ref (B + 24)), (1, .int x)]) hx hb dX10_join_9 rfl hl (by decide) rfl (fun ls hl => ?_)
  refine lv_iload_n hx hb dX10_join_10 rfl (lv_at hl 3 rfl) ?_
  by_cases s11_5 : x.toInt = 5
  · refine lv_tableIn hx hb dX10_join_11 (by omega) (by omega) (off := 25) (by rw [s11_5]; rfl) (tgt := 36) (by decide) ?_
    refine lv_aload_n hx hb dX10_join_36 rfl (lv_at hl 2 rfl) ?_
    refine lv_iload_n hx hb dX10_join_37 rfl (lv_at hl 0 rfl) ?_
    refine lv_iload_n hx hb dX10_join_38 rfl (lv_at hl 1 rfl) ?_
    refine lv_iadd hx hb dX10_join_39 (lv_topi fun z15 hz15 => ?_)
    have ex9 : x.toInt = 5 := by omega
    refine r_callV (As := [.int z15]) (rest := []) C hw (t_X10_pushE l B D cA kd8 ig9 rg10 lg11 _ z15 k phz14.2 (by omega) hI) sv_X10_93 (hsh 24 _ rfl) rfl hl.1 rfl (Nat.le_of_ble_eq_true rfl) ⟨Nat.le_of_ble_eq_true rfl, Nat.le_of_ble_eq_true rfl⟩ ⟨Nat.le_of_ble_eq_true rfl, Nat.le_of_ble_eq_true rfl⟩ dX10_join_40 (fun r20 kd16 ig17 rg18 lg19 H locs hw hH hp21 => ?_)
    obtain ⟨hI, hchp21, hrhp21⟩ := hp21
    have hN := hN.tr hchp21
    have hsh := hI.sh
    have hrs := hI.rs
    obtain ⟨rfl, hvhp21⟩ := hrhp21
    obtain ⟨phvhp21, ohvhp21, khvhp21_0, khvhp21_1⟩ := hvhp21
    have hO := hO.tr ohvhp21
    refine lv_goto (tgt := 76) hx hb dX10_join_43 (by decide) ?_
    exact r_vret C hw hr hlk (Nat.le_of_ble_eq_true rfl) (Nat.le_of_ble_eq_true rfl) dX10_join_76 ⟨hI, hN, ⟨rfl, ⟨⟨(by have q9 := phvhp21; rw [show z15 = opV x.toInt a b by rw [hz15, phz14.1, phz7.1, ex9]; rfl] at q9; exact q9), (by rw [opM, if_neg (fun q9 => by omega)]; show _ = (0 : Int); omega)⟩, hO, by omega⟩⟩⟩
  by_cases s11_6 : x.toInt = 6
  · refine lv_tableIn hx hb dX10_join_11 (by omega) (by omega) (off := 35) (by rw [s11_6]; rfl) (tgt := 46) (by decide) ?_
    refine lv_aload_n hx hb dX10_join_46 rfl (lv_at hl 2 rfl) ?_
    refine lv_iload_n hx hb dX10_join_47 rfl (lv_at hl 0 rfl) ?_
    refine lv_iload_n hx hb dX10_join_48 rfl (lv_at hl 1 rfl) ?_
    refine lv_isub hx hb dX10_join_49 (lv_topi fun z22 hz22 => ?_)
    have ex9 : x.toInt = 6 := by omega
    refine r_callV (As := [.int z22]) (rest := []) C hw (t_X10_pushE l B D cA kd8 ig9 rg10 lg11 _ z22 k phz14.2 (by omega) hI) sv_X10_93 (hsh 24 _ rfl) rfl hl.1 rfl (Nat.le_of_ble_eq_true rfl) ⟨Nat.le_of_ble_eq_true rfl, Nat.le_of_ble_eq_true rfl⟩ ⟨Nat.le_of_ble_eq_true rfl, Nat.le_of_ble_eq_true rfl⟩ dX10_join_50 (fun r27 kd23 ig24 rg25 lg26 H locs hw hH hp28 => ?_)
    obtain ⟨hI, hchp28, hrhp28⟩ := hp28
    have hN := hN.tr hchp28
    have hsh := hI.sh
    have hrs := hI.rs
    obtain ⟨rfl, hvhp28⟩ := hrhp28
    obtain ⟨phvhp28, ohvhp28, khvhp28_0, khvhp28_1⟩ := hvhp28
    have hO := hO.tr ohvhp28
    refine lv_goto (tgt := 76) hx hb dX10_join_53 (by decide) ?_
    exact r_vret C hw hr hlk (Nat.le_of_ble_eq_true rfl) (Nat.le_of_ble_eq_true rfl) dX10_join_76 ⟨hI, hN, ⟨rfl, ⟨⟨(by have q9 := phvhp28; rw [show z22 = opV x.toInt a b by rw [hz22, phz14.1, phz7.1, ex9]; rfl] at q9; exact q9), (by rw [opM, if_neg (fun q9 => by omega)]; show _ = (0 : Int); omega)⟩, hO, by omega⟩⟩⟩
  by_cases s11_7 : x.toInt = 7
  · refine lv_tableIn hx hb dX10_join_11 (by omega) (by omega) (off := 45) (by rw [s11_7]; rfl) (tgt := 56) (by decide) ?_
    refine lv_aload_n hx hb dX10_join_56 rfl (lv_at hl 2 rfl) ?_
    refine lv_iload_n hx hb dX10_join_57 rfl (lv_at hl 0 rfl) ?_
    refine lv_iload_n hx hb dX10_join_58 rfl (lv_at hl 1 rfl) ?_
    refine lv_imul hx hb dX10_join_59 (lv_topi fun z29 hz29 => ?_)
    have ex9 : x.toInt = 7 := by omega
    refine r_callV (As := [.int z29]) (rest := []) C hw (t_X10_pushE l B D cA kd8 ig9 rg10 lg11 _ z29 k phz14.2 (by omega) hI) sv_X10_93 (hsh 24 _ rfl) rfl hl.1 rfl (Nat.le_of_ble_eq_true rfl) ⟨Nat.le_of_ble_eq_true rfl, Nat.le_of_ble_eq_true rfl⟩ ⟨Nat.le_of_ble_eq_true rfl, Nat.le_of_ble_eq_true rfl⟩ dX10_join_60 (fun r34 kd30 ig31 rg32 lg33 H locs hw hH hp35 => ?_)
    obtain ⟨hI, hchp35, hrhp35⟩ := hp35
    have hN := hN.tr hchp35
    have hsh := hI.sh
    have hrs := hI.rs
    obtain ⟨rfl, hvhp35⟩ := hrhp35
    obtain ⟨phvhp35, ohvhp35, khvhp35_0, khvhp35_1⟩ := hvhp35
    have hO := hO.tr ohvhp35
    refine lv_goto (tgt := 76) hx hb dX10_join_63 (by decide) ?_
    exact r_vret C hw hr hlk (Nat.le_of_ble_eq_true rfl) (Nat.le_of_ble_eq_true rfl) dX10_join_76 ⟨hI, hN, ⟨rfl, ⟨⟨(by have q9 := phvhp35; rw [show z29 = opV x.toInt a b by rw [hz29, phz14.1, phz7.1, ex9]; rfl] at q9; exact q9), (by rw [opM, if_neg (fun q9 => by omega)]; show _ = (0 : Int); omega)⟩, hO, by omega⟩⟩⟩
  refine lv_tableOut hx hb dX10_join_11 (by omega) (tgt := 66) (by decide) ?_
  refine lv_aload_n hx hb dX10_join_66 rfl (lv_at hl 2 rfl) ?_
  refine lv_aload_n hx hb dX10_join_67 rfl (lv_at hl 2 rfl) ?_
  refine lv_iload_n hx hb dX10_join_68 rfl (lv_at hl 0 rfl) ?_
  refine lv_iload_n hx hb dX10_join_69 rfl (lv_at hl 1 rfl) ?_
  refine r_callV (As := [.int z14, .int z7]) (rest := [.ref (B + 24)]) C hw (t_X10_quotientE l B D cA kd8 ig9 rg10 lg11 _ z14 z7 (by omega) x.toInt (by omega) hI) sv_X10_120 (hsh 24 _ rfl) rfl hl.1 rfl (Nat.le_of_ble_eq_true rfl) ⟨Nat.le_of_ble_eq_true rfl, Nat.le_of_ble_eq_true rfl⟩ ⟨Nat.le_of_ble_eq_true rfl, Nat.le_of_ble_eq_true rfl⟩ dX10_join_70 (fun r40 kd36 ig37 rg38 lg39 H locs hw hH hp41 => ?_)
  obtain ⟨hI, hchp41, hrhp41⟩ := hp41
  have hN := hN.tr hchp41
  have hsh := hI.sh
  have hrs := hI.rs
  obtain ⟨z42, rfl, hz42⟩ := hrhp41
  obtain ⟨phz42, ohz42, khz42_0, khz42_1⟩ := hz42
  have hO := hO.tr ohz42
  have hw70 := phz42.2
  refine r_callV (As := [.int z42]) (rest := []) C hw (t_X10_pushE l B D cA kd36 ig37 rg38 lg39 _ z42 k (SkV.ag phz14.2 (by omega) (fun j => ohz42.i 28 j)) (by omega) hI) sv_X10_93 (hsh 24 _ rfl) rfl hl.1 rfl (Nat.le_of_ble_eq_true rfl) ⟨Nat.le_of_ble_eq_true rfl, Nat.le_of_ble_eq_true rfl⟩ ⟨Nat.le_of_ble_eq_true rfl, Nat.le_of_ble_eq_true rfl⟩ dX10_join_73 (fun r47 kd43 ig44 rg45 lg46 H locs hw hH hp48 => ?_)
  obtain ⟨hI, hchp48, hrhp48⟩ := hp48
  have hN := hN.tr hchp48
  have hsh := hI.sh
  have hrs := hI.rs
  obtain ⟨rfl, hvhp48⟩ := hrhp48
  obtain ⟨phvhp48, ohvhp48, khvhp48_0, khvhp48_1⟩ := hvhp48
  have hO := hO.tr ohvhp48
  exact r_vret C hw hr hlk (Nat.le_of_ble_eq_true rfl) (Nat.le_of_ble_eq_true rfl) dX10_join_76 ⟨hI, hN, ⟨rfl, ⟨⟨(by have q9 := phvhp48; rw [phz42.1, phz14.1, phz7.1] at q9; exact q9), (by have q8 := phz42.2; rw [phz7.1] at q8; omega)⟩, hO, by omega⟩⟩⟩

set_option maxHeartbeats 4000000 in
set_option maxRecDepth 100000 in
theorem t_X10_spanSumE {τ : Tp} (l : Launch) (B : Nat) (D : va_G) (cA : Nat → ClassId) (kd : sK) (ig : sI) (rg : sR) (lg : sG) (sz : Nat) (x : Int32) (g : Nat) (M : Fm) (hM : FnL B kd ig rg g M) (y : Int32) (hx0 : 0 ≤ x.toInt ∧ x.toInt < 288) (hin : 0 ≤ y.toInt ∧ y.toInt < (M.length : Int)) (hpk : pkR (stp M y.toInt).2.1 ∧ pkR (stp M y.toInt).2.2) (hft : fitS x.toInt (stp M y.toInt)) (hw0 : (ig (B + 24) 7).toInt = 0) (hI : IC τ B kd ig rg) : MC l B D cA yX10_spanSum cX10_spanSum 7 (some .int) (rL 3 0 0) [.ref (B + 24), .int x, .ref g, .int y] kd ig rg lg sz (PI 998 τ B none kd ig rg lg (fun r kd' ig' rg' lg' => ∃ z : Int32, r = some (.int z) ∧ ((ig' (B + 24) 7 = (spS (ig (B + 25)) (ig (B + 26)) 0 (stp M y.toInt) x.toInt).2 ∧ (ig' (B + 24) 7 = 0 → z = (spS (ig (B + 25)) (ig (B + 26)) 0 (stp M y.toInt) x.toInt).1)) ∧ Fo B [24, 27] ig lg ig' lg' ∧ (ig' (B + 24) 6).toInt = (ig (B + 24) 6).toInt ∧ (ig' (B + 24) 8).toInt = (ig (B + 24) 8).toInt))) := by
  refine MC.of (own := RX10) (by decide +kernel) rfl (Nat.le_of_ble_eq_true rfl) ?_
  intro p e s m args below meth c ls C hr hlk hnm hw hsz hl
  have hx := C.1.1
  have hb := C.1.2.1
  have hown := C.1.2.2.2.1
  have hts := C.1.2.2.2.2
  have hl : lv_has ls 7 [(0, .ref (B + 24)), (1, .int x), (2, .ref g), (3, .int y)] := hl
  have hN : Nx 998 B none kd ig rg lg kd ig rg lg := Nx.rf
  have hsh := hI.sh
  have hrs := hI.rs
  have hO : Fo B [24, 27] ig lg ig lg := Fo.rf
  have lng := hM.le
  have hlen := plS_len hft
  refine lv_iconst (v := 0) hx hb dX10_spanSum_0 (by decide) (ti_c 0 (by decide) fun z1 hz1 => ?_)
  refine lv_istore (lv' := [(4, .int z1), (0, .ref (B + 24)), (1, .int x), (2, .ref g), (3, .int y)]) hx hb dX10_spanSum_1 hl (by decide) rfl (fun ls hl => ?_)
  refine lv_aload_n hx hb dX10_spanSum_3 rfl (lv_at hl 3 rfl) ?_
  refine lv_iload_n hx hb dX10_spanSum_4 rfl (lv_at hl 4 rfl) ?_
  refine lv_iload_n hx hb dX10_spanSum_5 rfl (lv_at hl 2 rfl) ?_
  refine lv_aload_n hx hb dX10_spanSum_6 rfl (lv_at hl 1 rfl) ?_
  refine r_get C hw (hsh 24 _ rfl) fl_X10_26 (oV_r rfl (hrs (24, 4, 27) (by decide))) dX10_spanSum_7 ?_
  refine r_callV (As := [.int y, .int x, .ref (B + 27)]) (rest := []) C hw (t_X4_listPlacesE l B D cA kd ig rg lg _ g M (hM.nx hN) y x 27 (Or.inr (Or.inl rfl)) (by omega) (by omega) hpk hft hI) sv_X10_110 (isFn.k (FnL.F (hM.nx hN))) rfl hl.1 rfl (Nat.le_of_ble_eq_true rfl) ⟨Nat.le_of_ble_eq_true rfl, Nat.le_of_ble_eq_true rfl⟩ ⟨Nat.le_of_ble_eq_true rfl, Nat.le_of_ble_eq_true rfl⟩ dX10_spanSum_10 (fun r6 kd2 ig3 rg4 lg5 H locs hw hH hp7 => ?_)
  obtain ⟨hI, hchp7, hrhp7⟩ := hp7
  have hN := hN.tr hchp7
  have hsh := hI.sh
  have hrs := hI.rs
  obtain ⟨z8, rfl, hz8⟩ := hrhp7
  obtain ⟨phz8, ohz8, khz8_0⟩ := hz8
  have hO := hO.tr ohz8
  have kwhz8_24_7 : (ig3 (B + 24) 7).toInt = (ig (B + 24) 7).toInt := by rw [ohz8.i 24 7]
  have kwhz8_24_6 : (ig3 (B + 24) 6).toInt = (ig (B + 24) 6).toInt := by rw [ohz8.i 24 6]
  have kwhz8_24_8 : (ig3 (B + 24) 8).toInt = (ig (B + 24) 8).toInt := by rw [ohz8.i 24 8]
  have hz13 := phz8.1
  refine lv_istore (lv' := [(5, .int z8), (4, .int z1), (0, .ref (B + 24)), (1, .int x), (2, .ref g), (3, .int y)]) hx hb dX10_spanSum_13 hl (by decide) rfl (fun ls hl => ?_)
  refine lv_iconst (v := 0) hx hb dX10_spanSum_15 (by decide) (ti_c 0 (by decide) fun z9 hz9 => ?_)
  refine lv_istore (lv' := [(6, .int z9), (5, .int z8), (4, .int z1), (0, .ref (B + 24)), (1, .int x), (2, .ref g), (3, .int y)]) hx hb dX10_spanSum_16 hl (by decide) rfl (fun ls hl => ?_)
  have L18 : ∀ (n : Nat) (ls : Array Slot) (H : Heap) (locs : List Loc) (kd12 : sK) (ig13 : sI) (rg14 : sR) (lg15 : sG) (v10 : Int32) (v11 : Int32), lv_has ls 7 [(6, .int v10), (5, .int z8), (4, .int v11), (0, .ref (B + 24))] → WD B D cA s.heap kd12 ig13 rg14 lg15 H locs → IC τ B kd12 ig13 rg14 → Nx 998 B none kd ig rg lg kd12 ig13 rg14 lg15 → (0 ≤ v10.toInt) → (v10.toInt ≤ z8.toInt) → (SpL B 27 (plS (stp M y.toInt) x.toInt) ig13 z8.toInt) → (SpT (ig (B + 25)) (ig (B + 26)) (plS (stp M y.toInt) x.toInt) v10.toInt.toNat (ig13 (B + 24) 7) v11) → (Fo B [24, 27] ig lg ig13 lg15) → (Fo B [24, 27] ig lg ig13 lg15) → ((ig13 (B + 24) 6).toInt = (ig (B + 24) 6).toInt) → ((ig13 (B + 24) 8).toInt = (ig (B + 24) 8).toInt) → z8.toInt - v10.toInt < (n : Int) → W p l e (rL 3 0 0) s m args below meth c H locs 0 0 (MQ below (QcW B D cA (PI 998 τ B none kd ig rg lg (fun r kd' ig' rg' lg' => ∃ z : Int32, r = some (.int z) ∧ ((ig' (B + 24) 7 = (spS (ig (B + 25)) (ig (B + 26)) 0 (stp M y.toInt) x.toInt).2 ∧ (ig' (B + 24) 7 = 0 → z = (spS (ig (B + 25)) (ig (B + 26)) 0 (stp M y.toInt) x.toInt).1)) ∧ Fo B [24, 27] ig lg ig' lg' ∧ (ig' (B + 24) 6).toInt = (ig (B + 24) 6).toInt ∧ (ig' (B + 24) 8).toInt = (ig (B + 24) 8).toInt)))) args s 0 0 (fun q => B ≤ q)) (F0 m 18 ls []) := by
    intro n18
    induction n18 with
    | zero => intro ls H locs kd12 ig13 rg14 lg15 v10 v11 hl hw hI hN g18_0 g18_1 g18_2 g18_3 g18_4 g18_5 g18_6 g18_7 hmu; exact absurd hmu (by omega)
    | succ n18 ih18 =>
      intro ls H locs kd12 ig13 rg14 lg15 v10 v11 hl hw hI hN g18_0 g18_1 g18_2 g18_3 g18_4 g18_5 g18_6 g18_7 hmu
      have hsh := hI.sh
      have hrs := hI.rs
      have hO := g18_5
      have hsn := g18_2.1
      have hO8 := g18_4
      refine lv_iload hx hb dX10_spanSum_18 (lv_at hl 0 rfl) ?_
      refine lv_iload hx hb dX10_spanSum_20 (lv_at hl 1 rfl) ?_
      refine b_ge (tgt := 77) hx hb dX10_spanSum_22 (by decide) (fun c22 => ?_) (fun c22 => ?_)
      · refine lv_iload hx hb dX10_spanSum_77 (lv_at hl 2 rfl) ?_
        exact r_iret C hw hr hlk rfl (Nat.le_of_ble_eq_true rfl) (Nat.le_of_ble_eq_true rfl) dX10_spanSum_79 ⟨hI, hN, ⟨_, rfl, ⟨SpT.fin g18_3 (by by_cases q9 : (ig13 (B + 24) 7).toInt = 0; (exact Or.inl (by omega)); exact Or.inr (fun q8 => q9 (by rw [q8]; rfl))), hO, by omega, by omega⟩⟩⟩
      · refine lv_iload hx hb dX10_spanSum_25 (lv_at hl 0 rfl) ?_
        refine lv_sipush (v := 288) hx hb dX10_spanSum_27 (by decide) (ti_c 288 (by decide) fun z16 hz16 => ?_)
        refine b_ge (tgt := 77) hx hb dX10_spanSum_30 (by decide) (fun c30 => ?_) (fun c30 => ?_)
        · exact absurd c30 (by omega)
        · refine lv_aload_n hx hb dX10_spanSum_33 rfl (lv_at hl 3 rfl) ?_
          refine r_get C hw (hsh 24 _ rfl) fl_X10_76 (oV_i rfl) dX10_spanSum_34 (ti_c (ig13 (B + 24) 7).toInt rfl fun z17 hz17 => ?_)
          refine z_ne (tgt := 77) hx hb dX10_spanSum_37 (by decide) (fun c37 => ?_) (fun c37 => ?_)
          · refine lv_iload hx hb dX10_spanSum_77 (lv_at hl 2 rfl) ?_
            exact r_iret C hw hr hlk rfl (Nat.le_of_ble_eq_true rfl) (Nat.le_of_ble_eq_true rfl) dX10_spanSum_79 ⟨hI, hN, ⟨_, rfl, ⟨SpT.fin g18_3 (by by_cases q9 : (ig13 (B + 24) 7).toInt = 0; (exact Or.inl (by omega)); exact Or.inr (fun q8 => q9 (by rw [q8]; rfl))), hO, by omega, by omega⟩⟩⟩
          · refine lv_aload_n hx hb dX10_spanSum_40 rfl (lv_at hl 3 rfl) ?_
            refine lv_aload_n hx hb dX10_spanSum_41 rfl (lv_at hl 3 rfl) ?_
            refine lv_aload_n hx hb dX10_spanSum_42 rfl (lv_at hl 3 rfl) ?_
            refine r_get C hw (hsh 24 _ rfl) fl_X10_26 (oV_r rfl (hrs (24, 4, 27) (by decide))) dX10_spanSum_43 ?_
            refine lv_iload hx hb dX10_spanSum_46 (lv_at hl 0 rfl) ?_
            refine r_iald C hw (hsh 27 _ rfl) (by omega) (by omega) dX10_spanSum_48 (ti_c (ig13 (B + 27) v10.toInt.toNat).toInt rfl fun z18 hz18 => ?_)
            obtain ⟨hkl, hsk⟩ := g18_2.at (k := v10.toInt.toNat) (by omega)
            have hq9 := plS_on hft (List.getElem_mem hkl)
            have hzq : z18.toInt = (plS (stp M y.toInt) x.toInt)[v10.toInt.toNat] := by rw [hz18]; exact hsk
            refine r_callV (As := [.int z18]) (rest := [.ref (B + 24)]) C hw (t_X10_errorAtE l B D cA kd12 ig13 rg14 lg15 _ z18 (by omega) hI) sv_X10_114 (hsh 24 _ rfl) rfl hl.1 rfl (Nat.le_of_ble_eq_true rfl) ⟨Nat.le_of_ble_eq_true rfl, Nat.le_of_ble_eq_true rfl⟩ ⟨Nat.le_of_ble_eq_true rfl, Nat.le_of_ble_eq_true rfl⟩ dX10_spanSum_49 (fun r23 kd19 ig20 rg21 lg22 H locs hw hH hp24 => ?_)
            obtain ⟨rfl, rfl, rfl, rfl, hzhp24, hrhp24⟩ := hp24
            obtain ⟨z25, rfl, hz25⟩ := hrhp24
            refine r_puti C hw (hsh 24 _ rfl) fl_X10_76 rfl rfl rfl dX10_spanSum_52 (fun H locs hH hw => ?_)
            have hO0 := hO
            obtain ⟨ig26, eig26⟩ : ∃ f, f = up2 ig13 (B + 24) 7 z25 := ⟨_, rfl⟩
            rw [← eig26] at hw
            have hN : Nx 998 B none kd ig rg lg kd12 ig26 rg14 lg15 := by rw [eig26]; exact hN.pi (by omega)
            have hI : IC τ B kd12 ig26 rg14 := by rw [eig26]; exact hI.pi (show okR none _ from trivial)
            have wig26 : (ig26 (B + 24) 7).toInt = z25.toInt := by rw [eig26, up2_eq]
            have wig26_24_6 : (ig26 (B + 24) 6).toInt = (ig13 (B + 24) 6).toInt := by rw [eig26, up2_j (by decide)]
            have wig26_24_8 : (ig26 (B + 24) 8).toInt = (ig13 (B + 24) 8).toInt := by rw [eig26, up2_j (by decide)]
            have hO : Fo B [24, 27] ig lg ig26 lg15 := by rw [eig26]; exact hO0.pi (by decide)
            clear hO0
            have sp52 : SpL B 27 (plS (stp M y.toInt) x.toInt) ig26 z8.toInt := g18_2.ag (fun j => by rw [eig26, up2_a (by omega)])
            have w52 : ig26 (B + 24) 7 = z25 := by rw [eig26, up2_eq]
            refine lv_iload hx hb dX10_spanSum_55 (lv_at hl 2 rfl) ?_
            refine lv_aload_n hx hb dX10_spanSum_57 rfl (lv_at hl 3 rfl) ?_
            refine lv_aload_n hx hb dX10_spanSum_58 rfl (lv_at hl 3 rfl) ?_
            refine r_get C hw (hsh 24 _ rfl) fl_X10_26 (oV_r rfl (hrs (24, 4, 27) (by decide))) dX10_spanSum_59 ?_
            refine lv_iload hx hb dX10_spanSum_62 (lv_at hl 0 rfl) ?_
            refine r_iald C hw (hsh 27 _ rfl) (by omega) (by omega) dX10_spanSum_64 (ti_c (ig26 (B + 27) v10.toInt.toNat).toInt rfl fun z27 hz27 => ?_)
            have hzq2 : z27.toInt = (plS (stp M y.toInt) x.toInt)[v10.toInt.toNat] := by rw [hz27]; exact (sp52.at (k := v10.toInt.toNat) (by omega)).elim fun q8 q9 => q9
            refine r_callV (As := [.int z27]) (rest := [.int v11]) C hw (t_X10_valueAtE l B D cA kd12 ig26 rg14 lg15 _ z27 (by omega) hI) sv_X10_117 (hsh 24 _ rfl) rfl hl.1 rfl (Nat.le_of_ble_eq_true rfl) ⟨Nat.le_of_ble_eq_true rfl, Nat.le_of_ble_eq_true rfl⟩ ⟨Nat.le_of_ble_eq_true rfl, Nat.le_of_ble_eq_true rfl⟩ dX10_spanSum_65 (fun r32 kd28 ig29 rg30 lg31 H locs hw hH hp33 => ?_)
            obtain ⟨rfl, rfl, rfl, rfl, hzhp33, hrhp33⟩ := hp33
            obtain ⟨z34, rfl, hz34⟩ := hrhp33
            have hO8b : ∀ j, ig26 (B + 25) j = ig (B + 25) j := fun j => hO.i 25 j
            refine lv_iadd hx hb dX10_spanSum_68 (lv_topi fun z35 hz35 => ?_)
            refine lv_istore (lv' := [(4, .int z35), (6, .int v10), (5, .int z8), (0, .ref (B + 24))]) hx hb dX10_spanSum_69 hl (by decide) rfl (fun ls hl => ?_)
            refine tc_inc hx hb dX10_spanSum_71 hl (k := 1) rfl (by decide) (by decide) (fun z36 hz36 ls hl => ?_)
            first | replace hz36 := hz36 (by omega) | clear hz36
            have hl : lv_has ls 7 [(6, .int z36), (4, .int z35), (5, .int z8), (0, .ref (B + 24))] := hl
            refine lv_goto (tgt := 18) hx hb dX10_spanSum_74 (by decide) ?_
            exact ih18 ls H locs kd12 ig26 rg14 lg15 z36 z35 (lv_sub hl [0, 2, 1, 3] rfl) hw hI hN (by omega) (by omega) (sp52) (by rw [show z36.toInt.toNat = v10.toInt.toNat + 1 by omega]; exact SpT.step g18_3 hkl (i32_z (by omega)) (by rw [w52, hz25, hO8.i 26 _, show z18.toInt.toNat = ((plS (stp M y.toInt) x.toInt)[v10.toInt.toNat]).toNat by omega]) (by rw [hz35, hz34, hO8b, show z27.toInt.toNat = ((plS (stp M y.toInt) x.toInt)[v10.toInt.toNat]).toNat by omega])) (hO) (hO) (by omega) (by omega) (by omega)
  exact L18 ((z8.toInt - z9.toInt) + 1).toNat ls H locs kd2 ig3 rg4 lg5 z9 z1 (lv_sub hl [0, 1, 2, 3] rfl) hw hI hN (by omega) (by omega) (phz8) (by rw [show z9.toInt.toNat = 0 by omega]; exact SpT.zero (i32_z (by rw [ohz8.i 24 _]; exact hw0)) (i32_z (by omega))) (hO) (hO) (by omega) (by omega) (by omega)
