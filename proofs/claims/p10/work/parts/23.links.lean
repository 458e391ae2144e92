set_option maxHeartbeats 4000000 in
set_option maxRecDepth 100000 in
theorem t_X5_appendToOrder {τ : Tp} (l : Launch) (B : Nat) (D : va_G) (cA : Nat → ClassId) (kd : sK) (ig : sI) (rg : sR) (lg : sG) (sz : Nat) (x : Int32) (hI : IC τ B kd ig rg) : MC l B D cA yX5_appendToOrder cX5_appendToOrder 2 none (rL 0 0 0) [.ref (B + 15), .int x] kd ig rg lg sz (PI 1014 τ B none kd ig rg lg (fun r kd' ig' rg' lg' => r = none)) := by
  refine MC.of (own := RX5) (by decide +kernel) rfl (Nat.le_of_ble_eq_true rfl) ?_
  intro p e s m args below meth c ls C hr hlk hnm hw hsz hl
  have hx := C.1.1
  have hb := C.1.2.1
  have hown := C.1.2.2.2.1
  have hts := C.1.2.2.2.2
  have hl : lv_has ls 2 [(0, .ref (B + 15)), (1, .int x)] := hl
  have hN : Nx 1014 B none kd ig rg lg kd ig rg lg := Nx.rf
  have hsh := hI.sh
  have hrs := hI.rs
  refine lv_aload_n hx hb dX5_appendToOrder_0 rfl (lv_at hl 0 rfl) ?_
  refine r_get C hw (hsh 15 _ rfl) fl_X5_55 (oV_i rfl) dX5_appendToOrder_1 (ti_c (ig (B + 15) 9).toInt rfl fun z1 hz1 => ?_)
  have k2 : 0 ≤ (ig (B + 15) 9).toInt ∧ (ig (B + 15) 9).toInt ≤ 288 := hI.i 15 9 (by decide)
  refine lv_sipush (v := 288) hx hb dX5_appendToOrder_4 (by decide) (ti_c 288 (by decide) fun z3 hz3 => ?_)
  refine b_ge (tgt := 30) hx hb dX5_appendToOrder_7 (by decide) (fun c7 => ?_) (fun c7 => ?_)
  · exact r_vret C hw hr hlk (Nat.le_of_ble_eq_true rfl) (Nat.le_of_ble_eq_true rfl) dX5_appendToOrder_30 ⟨hI, hN, rfl⟩
  · refine lv_aload_n hx hb dX5_appendToOrder_10 rfl (lv_at hl 0 rfl) ?_
    refine r_get C hw (hsh 15 _ rfl) fl_X5_36 (oV_r rfl (hrs (15, 8, 22) (by decide))) dX5_appendToOrder_11 ?_
    refine lv_aload_n hx hb dX5_appendToOrder_14 rfl (lv_at hl 0 rfl) ?_
    refine r_get C hw (hsh 15 _ rfl) fl_X5_55 (oV_i rfl) dX5_appendToOrder_15 (ti_c (ig (B + 15) 9).toInt rfl fun z4 hz4 => ?_)
    have k5 : 0 ≤ (ig (B + 15) 9).toInt ∧ (ig (B + 15) 9).toInt ≤ 288 := hI.i 15 9 (by decide)
    refine lv_iload_n hx hb dX5_appendToOrder_18 rfl (lv_at hl 1 rfl) ?_
    refine r_iast C hw (hsh 22 _ rfl) (by omega) (by omega) dX5_appendToOrder_19 (fun H locs hH hw => ?_)
    obtain ⟨ig6, eig6⟩ : ∃ f, f = up2 ig (B + 22) z4.toInt.toNat x := ⟨_, rfl⟩
    rw [← eig6] at hw
    have hN : Nx 1014 B none kd ig rg lg kd ig6 rg lg := by rw [eig6]; exact hN.pi (by omega)
    have hI : IC τ B kd ig6 rg := by rw [eig6]; exact hI.pi (show okR none _ from trivial)
    have wig6_15_9 : (ig6 (B + 15) 9).toInt = (ig (B + 15) 9).toInt := by rw [eig6, up2_a (by omega)]
    refine lv_aload_n hx hb dX5_appendToOrder_20 rfl (lv_at hl 0 rfl) ?_
    refine lv_dup hx hb dX5_appendToOrder_21 rfl ?_
    refine r_get C hw (hsh 15 _ rfl) fl_X5_55 (oV_i rfl) dX5_appendToOrder_22 (ti_c (ig6 (B + 15) 9).toInt rfl fun z7 hz7 => ?_)
    have k8 : 0 ≤ (ig6 (B + 15) 9).toInt ∧ (ig6 (B + 15) 9).toInt ≤ 288 := hI.i 15 9 (by decide)
    refine lv_iconst (v := 1) hx hb dX5_appendToOrder_25 (by decide) (ti_c 1 (by decide) fun z9 hz9 => ?_)
    refine lv_iadd hx hb dX5_appendToOrder_26 (tc_add fun z10 hz10 => ?_)
    first | replace hz10 := hz10 (by omega) | clear hz10
    refine r_puti C hw (hsh 15 _ rfl) fl_X5_55 rfl rfl rfl dX5_appendToOrder_27 (fun H locs hH hw => ?_)
    obtain ⟨ig11, eig11⟩ : ∃ f, f = up2 ig6 (B + 15) 9 z10 := ⟨_, rfl⟩
    rw [← eig11] at hw
    have hN : Nx 1014 B none kd ig rg lg kd ig11 rg lg := by rw [eig11]; exact hN.pi (by omega)
    have hI : IC τ B kd ig11 rg := by rw [eig11]; exact hI.pi (show okR (some (0, 288)) _ from ⟨by show (0 : Int) ≤ _; omega, by show _ ≤ (288 : Int); omega⟩)
    have wig11 : (ig11 (B + 15) 9).toInt = z10.toInt := by rw [eig11, up2_eq]
    exact r_vret C hw hr hlk (Nat.le_of_ble_eq_true rfl) (Nat.le_of_ble_eq_true rfl) dX5_appendToOrder_30 ⟨hI, hN, rfl⟩

set_option maxHeartbeats 4000000 in
set_option maxRecDepth 100000 in
theorem t_X5_cellsReadBy {τ : Tp} (l : Launch) (B : Nat) (D : va_G) (cA : Nat → ClassId) (kd : sK) (ig : sI) (rg : sR) (lg : sG) (sz : Nat) (x : Int32) (hI : IC τ B kd ig rg) : MC l B D cA yX5_cellsReadBy cX5_cellsReadBy 4 (some .int) (rL 1 0 0) [.ref (B + 15), .int x] kd ig rg lg sz (Pu kd ig rg lg sz (fun r => ∃ z : Int32, r = some (.int z) ∧ True)) := by
  refine MC.of (own := RX5) (by decide +kernel) rfl (Nat.le_of_ble_eq_true rfl) ?_
  intro p e s m args below meth c ls C hr hlk hnm hw hsz hl
  have hx := C.1.1
  have hb := C.1.2.1
  have hown := C.1.2.2.2.1
  have hts := C.1.2.2.2.2
  have hl : lv_has ls 4 [(0, .ref (B + 15)), (1, .int x)] := hl
  have hsh := hI.sh
  have hrs := hI.rs
  refine lv_iconst (v := 0) hx hb dX5_cellsReadBy_0 (by decide) (ti_c 0 (by decide) fun z1 hz1 => ?_)
  refine lv_istore_n (lv' := [(2, .int z1), (0, .ref (B + 15)), (1, .int x)]) hx hb dX5_cellsReadBy_1 rfl hl (by decide) rfl (fun ls hl => ?_)
  refine lv_iload_n hx hb dX5_cellsReadBy_2 rfl (lv_at hl 2 rfl) ?_
  refine r_callN (As := [.int x]) (rest := []) C hw (t_X11_onSheet l B D cA kd ig rg lg _ x  hI) sn_X5_75 rfl hl.1 rfl (Nat.le_of_ble_eq_true rfl) ⟨Nat.le_of_ble_eq_true rfl, Nat.le_of_ble_eq_true rfl⟩ ⟨Nat.le_of_ble_eq_true rfl, Nat.le_of_ble_eq_true rfl⟩ dX5_cellsReadBy_3 (fun r6 kd2 ig3 rg4 lg5 H locs hw hH hp7 => ?_)
  obtain ⟨rfl, rfl, rfl, rfl, hzhp7, hrhp7⟩ := hp7
  have hsz := hzhp7.trans hsz
  obtain ⟨z8, rfl, hz8⟩ := hrhp7
  refine z_eq (tgt := 38) hx hb dX5_cellsReadBy_6 (by decide) (fun c6 => ?_) (fun c6 => ?_)
  · refine lv_iload_n hx hb dX5_cellsReadBy_38 rfl (lv_at hl 0 rfl) ?_
    exact r_iret C hw hr hlk rfl (Nat.le_of_ble_eq_true rfl) (Nat.le_of_ble_eq_true rfl) dX5_cellsReadBy_39 ⟨rfl, rfl, rfl, rfl, hsz, ⟨_, rfl, trivial⟩⟩
  · refine lv_iconst (v := 0) hx hb dX5_cellsReadBy_9 (by decide) (ti_c 0 (by decide) fun z9 hz9 => ?_)
    refine lv_istore_n (lv' := [(3, .int z9), (2, .int z1), (0, .ref (B + 15)), (1, .int x)]) hx hb dX5_cellsReadBy_10 rfl hl (by decide) rfl (fun ls hl => ?_)
    have L11 : ∀ (n : Nat) (ls : Array Slot) (H : Heap) (locs : List Loc) (v10 : Int32) (v11 : Int32), lv_has ls 4 [(3, .int v10), (2, .int v11), (0, .ref (B + 15)), (1, .int x)] → WD B D cA s.heap kd ig rg lg H locs → H.size = sz → (0 ≤ v10.toInt) → (v10.toInt ≤ 5) → 5 - v10.toInt < (n : Int) → W p l e (rL 1 0 0) s m args below meth c H locs 0 0 (MQ below (QcW B D cA (Pu kd ig rg lg sz (fun r => ∃ z : Int32, r = some (.int z) ∧ True))) args s 0 0 (fun q => B ≤ q)) (F0 m 11 ls []) := by
      intro n11
      induction n11 with
      | zero => intro ls H locs v10 v11 hl hw hsz g11_0 g11_1 hmu; exact absurd hmu (by omega)
      | succ n11 ih11 =>
        intro ls H locs v10 v11 hl hw hsz g11_0 g11_1 hmu
        refine lv_iload_n hx hb dX5_cellsReadBy_11 rfl (lv_at hl 0 rfl) ?_
        refine lv_iconst (v := 5) hx hb dX5_cellsReadBy_12 (by decide) (ti_c 5 (by decide) fun z12 hz12 => ?_)
        refine b_ge (tgt := 38) hx hb dX5_cellsReadBy_13 (by decide) (fun c13 => ?_) (fun c13 => ?_)
        · refine lv_iload_n hx hb dX5_cellsReadBy_38 rfl (lv_at hl 1 rfl) ?_
          exact r_iret C hw hr hlk rfl (Nat.le_of_ble_eq_true rfl) (Nat.le_of_ble_eq_true rfl) dX5_cellsReadBy_39 ⟨rfl, rfl, rfl, rfl, hsz, ⟨_, rfl, trivial⟩⟩
        · refine lv_iload_n hx hb dX5_cellsReadBy_16 rfl (lv_at hl 1 rfl) ?_
          refine lv_aload_n hx hb dX5_cellsReadBy_17 rfl (lv_at hl 2 rfl) ?_
          refine r_get C hw (hsh 15 _ rfl) fl_X5_23 (oV_r rfl (hrs (15, 4, 18) (by decide))) dX5_cellsReadBy_18 ?_
          refine lv_iload_n hx hb dX5_cellsReadBy_21 rfl (lv_at hl 3 rfl) ?_
          refine lv_iconst (v := 5) hx hb dX5_cellsReadBy_22 (by decide) (ti_c 5 (by decide) fun z13 hz13 => ?_)
          refine lv_imul hx hb dX5_cellsReadBy_23 (tc_mulR 5 hz13 fun z14 hz14 => ?_)
          first | replace hz14 := hz14 (by omega) | clear hz14
          refine lv_iload_n hx hb dX5_cellsReadBy_24 rfl (lv_at hl 0 rfl) ?_
          refine lv_iadd hx hb dX5_cellsReadBy_25 (tc_add fun z15 hz15 => ?_)
          first | replace hz15 := hz15 (by omega) | clear hz15
          refine r_lald C hw (hsh 18 _ rfl) (by omega) (by omega) dX5_cellsReadBy_26 (lv_topl fun x16 hx16 => ?_)
          refine r_callS (As := [.long x16]) (rest := [.int v11]) C hw (t_J13_bitCount_95d88 l B D cA kd ig rg lg _ x16  hI) ss_X5_79 rfl hl.1 rfl (Nat.le_of_ble_eq_true rfl) ⟨Nat.le_of_ble_eq_true rfl, Nat.le_of_ble_eq_true rfl⟩ ⟨Nat.le_of_ble_eq_true rfl, Nat.le_of_ble_eq_true rfl⟩ dX5_cellsReadBy_27 (fun r21 kd17 ig18 rg19 lg20 H locs hw hH hp22 => ?_)
          obtain ⟨rfl, rfl, rfl, rfl, hzhp22, hrhp22⟩ := hp22
          have hsz := hzhp22.trans hsz
          obtain ⟨z23, rfl, hz23⟩ := hrhp22
          refine lv_iadd hx hb dX5_cellsReadBy_30 (tc_add fun z24 hz24 => ?_)
          first | replace hz24 := hz24 (by omega) | clear hz24
          refine lv_istore_n (lv' := [(2, .int z24), (3, .int v10), (0, .ref (B + 15)), (1, .int x)]) hx hb dX5_cellsReadBy_31 rfl hl (by decide) rfl (fun ls hl => ?_)
          refine tc_inc hx hb dX5_cellsReadBy_32 hl (k := 1) rfl (by decide) (by decide) (fun z25 hz25 ls hl => ?_)
          first | replace hz25 := hz25 (by omega) | clear hz25
          have hl : lv_has ls 4 [(3, .int z25), (2, .int z24), (0, .ref (B + 15)), (1, .int x)] := hl
          refine lv_goto (tgt := 11) hx hb dX5_cellsReadBy_35 (by decide) ?_
          exact ih11 ls H locs z25 z24 (lv_sub hl [0, 1, 2, 3] rfl) hw hsz (by omega) (by omega) (by omega)
    exact L11 ((5 - z9.toInt) + 1).toNat ls H locs z9 z1 (lv_sub hl [0, 1, 2, 3] rfl) hw hsz (by omega) (by omega) (by omega)

set_option maxHeartbeats 4000000 in
set_option maxRecDepth 100000 in
theorem t_X5_inOrder {τ : Tp} (l : Launch) (B : Nat) (D : va_G) (cA : Nat → ClassId) (kd : sK) (ig : sI) (rg : sR) (lg : sG) (sz : Nat) (x : Int32) (hI : IC τ B kd ig rg) : MC l B D cA yX5_inOrder cX5_inOrder 2 (some .int) (rL 0 0 0) [.ref (B + 15), .int x] kd ig rg lg sz (Pu kd ig rg lg sz (fun r => ∃ z : Int32, r = some (.int z) ∧ True)) := by
  refine MC.of (own := RX5) (by decide +kernel) rfl (Nat.le_of_ble_eq_true rfl) ?_
  intro p e s m args below meth c ls C hr hlk hnm hw hsz hl
  have hx := C.1.1
  have hb := C.1.2.1
  have hown := C.1.2.2.2.1
  have hts := C.1.2.2.2.2
  have hl : lv_has ls 2 [(0, .ref (B + 15)), (1, .int x)] := hl
  have hsh := hI.sh
  have hrs := hI.rs
  refine lv_iload_n hx hb dX5_inOrder_0 rfl (lv_at hl 1 rfl) ?_
  refine z_lt (tgt := 28) hx hb dX5_inOrder_1 (by decide) (fun c1 => ?_) (fun c1 => ?_)
  · refine lv_iconst (v := (-1)) hx hb dX5_inOrder_28 (by decide) (ti_c (-1) (by decide) fun z1 hz1 => ?_)
    exact r_iret C hw hr hlk rfl (Nat.le_of_ble_eq_true rfl) (Nat.le_of_ble_eq_true rfl) dX5_inOrder_29 ⟨rfl, rfl, rfl, rfl, hsz, ⟨_, rfl, trivial⟩⟩
  · refine lv_iload_n hx hb dX5_inOrder_4 rfl (lv_at hl 1 rfl) ?_
    refine lv_aload_n hx hb dX5_inOrder_5 rfl (lv_at hl 0 rfl) ?_
    refine r_get C hw (hsh 15 _ rfl) fl_X5_55 (oV_i rfl) dX5_inOrder_6 (ti_c (ig (B + 15) 9).toInt rfl fun z2 hz2 => ?_)
    have k3 : 0 ≤ (ig (B + 15) 9).toInt ∧ (ig (B + 15) 9).toInt ≤ 288 := hI.i 15 9 (by decide)
    refine b_ge (tgt := 28) hx hb dX5_inOrder_9 (by decide) (fun c9 => ?_) (fun c9 => ?_)
    · refine lv_iconst (v := (-1)) hx hb dX5_inOrder_28 (by decide) (ti_c (-1) (by decide) fun z4 hz4 => ?_)
      exact r_iret C hw hr hlk rfl (Nat.le_of_ble_eq_true rfl) (Nat.le_of_ble_eq_true rfl) dX5_inOrder_29 ⟨rfl, rfl, rfl, rfl, hsz, ⟨_, rfl, trivial⟩⟩
    · refine lv_iload_n hx hb dX5_inOrder_12 rfl (lv_at hl 1 rfl) ?_
      refine lv_sipush (v := 288) hx hb dX5_inOrder_13 (by decide) (ti_c 288 (by decide) fun z5 hz5 => ?_)
      refine b_ge (tgt := 28) hx hb dX5_inOrder_16 (by decide) (fun c16 => ?_) (fun c16 => ?_)
      · refine lv_iconst (v := (-1)) hx hb dX5_inOrder_28 (by decide) (ti_c (-1) (by decide) fun z6 hz6 => ?_)
        exact r_iret C hw hr hlk rfl (Nat.le_of_ble_eq_true rfl) (Nat.le_of_ble_eq_true rfl) dX5_inOrder_29 ⟨rfl, rfl, rfl, rfl, hsz, ⟨_, rfl, trivial⟩⟩
      · refine lv_aload_n hx hb dX5_inOrder_19 rfl (lv_at hl 0 rfl) ?_
        refine r_get C hw (hsh 15 _ rfl) fl_X5_36 (oV_r rfl (hrs (15, 8, 22) (by decide))) dX5_inOrder_20 ?_
        refine lv_iload_n hx hb dX5_inOrder_23 rfl (lv_at hl 1 rfl) ?_
        refine r_iald C hw (hsh 22 _ rfl) (by omega) (by omega) dX5_inOrder_24 (ti_c (ig (B + 22) x.toInt.toNat).toInt rfl fun z7 hz7 => ?_)
        refine lv_goto (tgt := 29) hx hb dX5_inOrder_25 (by decide) ?_
        exact r_iret C hw hr hlk rfl (Nat.le_of_ble_eq_true rfl) (Nat.le_of_ble_eq_true rfl) dX5_inOrder_29 ⟨rfl, rfl, rfl, rfl, hsz, ⟨_, rfl, trivial⟩⟩

set_option maxHeartbeats 4000000 in
set_option maxRecDepth 100000 in
theorem t_X5_inRing {τ : Tp} (l : Launch) (B : Nat) (D : va_G) (cA : Nat → ClassId) (kd : sK) (ig : sI) (rg : sR) (lg : sG) (sz : Nat) (x : Int32) (hI : IC τ B kd ig rg) : MC l B D cA yX5_inRing cX5_inRing 2 (some .boolean) (rL 1 0 0) [.ref (B + 15), .int x] kd ig rg lg sz (Pu kd ig rg lg sz (fun r => ∃ z : Int32, r = some (.int z) ∧ (z.toInt = 0 ∨ z.toInt = 1))) := by
  refine MC.of (own := RX5) (by decide +kernel) rfl (Nat.le_of_ble_eq_true rfl) ?_
  intro p e s m args below meth c ls C hr hlk hnm hw hsz hl
  have hx := C.1.1
  have hb := C.1.2.1
  have hown := C.1.2.2.2.1
  have hts := C.1.2.2.2.2
  have hl : lv_has ls 2 [(0, .ref (B + 15)), (1, .int x)] := hl
  have hsh := hI.sh
  have hrs := hI.rs
  refine lv_iload_n hx hb dX5_inRing_0 rfl (lv_at hl 1 rfl) ?_
  refine r_callN (As := [.int x]) (rest := []) C hw (t_X11_onSheet l B D cA kd ig rg lg _ x  hI) sn_X5_75 rfl hl.1 rfl (Nat.le_of_ble_eq_true rfl) ⟨Nat.le_of_ble_eq_true rfl, Nat.le_of_ble_eq_true rfl⟩ ⟨Nat.le_of_ble_eq_true rfl, Nat.le_of_ble_eq_true rfl⟩ dX5_inRing_1 (fun r5 kd1 ig2 rg3 lg4 H locs hw hH hp6 => ?_)
  obtain ⟨rfl, rfl, rfl, rfl, hzhp6, hrhp6⟩ := hp6
  have hsz := hzhp6.trans hsz
  obtain ⟨z7, rfl, hz7⟩ := hrhp6
  refine z_eq (tgt := 20) hx hb dX5_inRing_4 (by decide) (fun c4 => ?_) (fun c4 => ?_)
  · refine lv_iconst (v := 0) hx hb dX5_inRing_20 (by decide) (ti_c 0 (by decide) fun z8 hz8 => ?_)
    exact r_iret C hw hr hlk (nar_b (by omega)) (Nat.le_of_ble_eq_true rfl) (Nat.le_of_ble_eq_true rfl) dX5_inRing_21 ⟨rfl, rfl, rfl, rfl, hsz, ⟨_, rfl, by omega⟩⟩
  · refine lv_aload_n hx hb dX5_inRing_7 rfl (lv_at hl 0 rfl) ?_
    refine r_get C hw (hsh 15 _ rfl) fl_X5_29 (oV_r rfl (hrs (15, 6, 20) (by decide))) dX5_inRing_8 ?_
    refine lv_iload_n hx hb dX5_inRing_11 rfl (lv_at hl 1 rfl) ?_
    refine r_zald C hw (hsh 20 _ rfl) (by omega) (by omega) dX5_inRing_12 (ti_c (ig (B + 20) x.toInt.toNat).toInt rfl fun z9 hz9 => ?_)
    refine z_eq (tgt := 20) hx hb dX5_inRing_13 (by decide) (fun c13 => ?_) (fun c13 => ?_)
    · refine lv_iconst (v := 0) hx hb dX5_inRing_20 (by decide) (ti_c 0 (by decide) fun z10 hz10 => ?_)
      exact r_iret C hw hr hlk (nar_b (by omega)) (Nat.le_of_ble_eq_true rfl) (Nat.le_of_ble_eq_true rfl) dX5_inRing_21 ⟨rfl, rfl, rfl, rfl, hsz, ⟨_, rfl, by omega⟩⟩
    · refine lv_iconst (v := 1) hx hb dX5_inRing_16 (by decide) (ti_c 1 (by decide) fun z11 hz11 => ?_)
      refine lv_goto (tgt := 21) hx hb dX5_inRing_17 (by decide) ?_
      exact r_iret C hw hr hlk (nar_b (by omega)) (Nat.le_of_ble_eq_true rfl) (Nat.le_of_ble_eq_true rfl) dX5_inRing_21 ⟨rfl, rfl, rfl, rfl, hsz, ⟨_, rfl, by omega⟩⟩

set_option maxHeartbeats 4000000 in
set_option maxRecDepth 100000 in
theorem t_X5_orderSize {τ : Tp} (l : Launch) (B : Nat) (D : va_G) (cA : Nat → ClassId) (kd : sK) (ig : sI) (rg : sR) (lg : sG) (sz : Nat)  (hI : IC τ B kd ig rg) : MC l B D cA yX5_orderSize cX5_orderSize 1 (some .int) (rL 0 0 0) [.ref (B + 15)] kd ig rg lg sz (Pu kd ig rg lg sz (fun r => ∃ z : Int32, r = some (.int z) ∧ (0 ≤ z.toInt ∧ z.toInt ≤ 288))) := by
  refine MC.of (own := RX5) (by decide +kernel) rfl (Nat.le_of_ble_eq_true rfl) ?_
  intro p e s m args below meth c ls C hr hlk hnm hw hsz hl
  have hx := C.1.1
  have hb := C.1.2.1
  have hown := C.1.2.2.2.1
  have hts := C.1.2.2.2.2
  have hl : lv_has ls 1 [(0, .ref (B + 15))] := hl
  have hsh := hI.sh
  have hrs := hI.rs
  refine lv_aload_n hx hb dX5_orderSize_0 rfl (lv_at hl 0 rfl) ?_
  refine r_get C hw (hsh 15 _ rfl) fl_X5_55 (oV_i rfl) dX5_orderSize_1 (ti_c (ig (B + 15) 9).toInt rfl fun z1 hz1 => ?_)
  have k2 : 0 ≤ (ig (B + 15) 9).toInt ∧ (ig (B + 15) 9).toInt ≤ 288 := hI.i 15 9 (by decide)
  exact r_iret C hw hr hlk rfl (Nat.le_of_ble_eq_true rfl) (Nat.le_of_ble_eq_true rfl) dX5_orderSize_4 ⟨rfl, rfl, rfl, rfl, hsz, ⟨_, rfl, by omega⟩⟩

set_option maxHeartbeats 4000000 in
set_option maxRecDepth 100000 in
theorem t_X5_forgetReads {τ : Tp} (l : Launch) (B : Nat) (D : va_G) (cA : Nat → ClassId) (kd : sK) (ig : sI) (rg : sR) (lg : sG) (sz : Nat)  (hI : IC τ B kd ig rg) : MC l B D cA yX5_forgetReads cX5_forgetReads 3 none (rL 0 0 0) [.ref (B + 15)] kd ig rg lg sz (PI 1014 τ B none kd ig rg lg (fun r kd' ig' rg' lg' => r = none)) := by
  refine MC.of (own := RX5) (by decide +kernel) rfl (Nat.le_of_ble_eq_true rfl) ?_
  intro p e s m args below meth c ls C hr hlk hnm hw hsz hl
  have hx := C.1.1
  have hb := C.1.2.1
  have hown := C.1.2.2.2.1
  have hts := C.1.2.2.2.2
  have hl : lv_has ls 3 [(0, .ref (B + 15))] := hl
  have hN : Nx 1014 B none kd ig rg lg kd ig rg lg := Nx.rf
  have hsh := hI.sh
  have hrs := hI.rs
  refine lv_iconst (v := 0) hx hb dX5_forgetReads_0 (by decide) (ti_c 0 (by decide) fun z1 hz1 => ?_)
  refine lv_istore_n (lv' := [(1, .int z1), (0, .ref (B + 15))]) hx hb dX5_forgetReads_1 rfl hl (by decide) rfl (fun ls hl => ?_)
  have L2 : ∀ (n : Nat) (ls : Array Slot) (H : Heap) (locs : List Loc) (kd3 : sK) (ig4 : sI) (rg5 : sR) (lg6 : sG) (v2 : Int32), lv_has ls 3 [(1, .int v2), (0, .ref (B + 15))] → WD B D cA s.heap kd3 ig4 rg5 lg6 H locs → IC τ B kd3 ig4 rg5 → Nx 1014 B none kd ig rg lg kd3 ig4 rg5 lg6 → (0 ≤ v2.toInt) → (v2.toInt ≤ 288) → 288 - v2.toInt < (n : Int) → W p l e (rL 0 0 0) s m args below meth c H locs 0 0 (MQ below (QcW B D cA (PI 1014 τ B none kd ig rg lg (fun r kd' ig' rg' lg' => r = none))) args s 0 0 (fun q => B ≤ q)) (F0 m 2 ls []) := by
    intro n2
    induction n2 with
    | zero => intro ls H locs kd3 ig4 rg5 lg6 v2 hl hw hI hN g2_0 g2_1 hmu; exact absurd hmu (by omega)
    | succ n2 ih2 =>
      intro ls H locs kd3 ig4 rg5 lg6 v2 hl hw hI hN g2_0 g2_1 hmu
      have hsh := hI.sh
      have hrs := hI.rs
      refine lv_iload_n hx hb dX5_forgetReads_2 rfl (lv_at hl 0 rfl) ?_
      refine lv_aload_n hx hb dX5_forgetReads_3 rfl (lv_at hl 1 rfl) ?_
      refine r_get C hw (hsh 15 _ rfl) fl_X5_58 (oV_i rfl) dX5_forgetReads_4 (ti_c (ig4 (B + 15) 2).toInt rfl fun z7 hz7 => ?_)
      have k8 : 0 ≤ (ig4 (B + 15) 2).toInt ∧ (ig4 (B + 15) 2).toInt ≤ 288 := hI.i 15 2 (by decide)
      refine b_ge (tgt := 45) hx hb dX5_forgetReads_7 (by decide) (fun c7 => ?_) (fun c7 => ?_)
      · refine lv_iconst (v := 0) hx hb dX5_forgetReads_45 (by decide) (ti_c 0 (by decide) fun z9 hz9 => ?_)
        refine lv_istore_n (lv' := [(1, .int z9), (0, .ref (B + 15))]) hx hb dX5_forgetReads_46 rfl hl (by decide) rfl (fun ls hl => ?_)
        have L47 : ∀ (n : Nat) (ls : Array Slot) (H : Heap) (locs : List Loc) (kd11 : sK) (ig12 : sI) (rg13 : sR) (lg14 : sG) (v10 : Int32), lv_has ls 3 [(1, .int v10), (0, .ref (B + 15))] → WD B D cA s.heap kd11 ig12 rg13 lg14 H locs → IC τ B kd11 ig12 rg13 → Nx 1014 B none kd ig rg lg kd11 ig12 rg13 lg14 → (0 ≤ v10.toInt) → (v10.toInt ≤ 5) → 5 - v10.toInt < (n : Int) → W p l e (rL 0 0 0) s m args below meth c H locs 0 0 (MQ below (QcW B D cA (PI 1014 τ B none kd ig rg lg (fun r kd' ig' rg' lg' => r = none))) args s 0 0 (fun q => B ≤ q)) (F0 m 47 ls []) := by
          intro n47
          induction n47 with
          | zero => intro ls H locs kd11 ig12 rg13 lg14 v10 hl hw hI hN g47_0 g47_1 hmu; exact absurd hmu (by omega)
          | succ n47 ih47 =>
            intro ls H locs kd11 ig12 rg13 lg14 v10 hl hw hI hN g47_0 g47_1 hmu
            have hsh := hI.sh
            have hrs := hI.rs
            refine lv_iload_n hx hb dX5_forgetReads_47 rfl (lv_at hl 0 rfl) ?_
            refine lv_iconst (v := 5) hx hb dX5_forgetReads_48 (by decide) (ti_c 5 (by decide) fun z15 hz15 => ?_)
            refine b_ge (tgt := 65) hx hb dX5_forgetReads_49 (by decide) (fun c49 => ?_) (fun c49 => ?_)
            · refine lv_aload_n hx hb dX5_forgetReads_65 rfl (lv_at hl 1 rfl) ?_
              refine lv_iconst (v := 0) hx hb dX5_forgetReads_66 (by decide) (ti_c 0 (by decide) fun z16 hz16 => ?_)
              refine r_puti C hw (hsh 15 _ rfl) fl_X5_58 rfl rfl rfl dX5_forgetReads_67 (fun H locs hH hw => ?_)
              obtain ⟨ig17, eig17⟩ : ∃ f, f = up2 ig12 (B + 15) 2 z16 := ⟨_, rfl⟩
              rw [← eig17] at hw
              have hN : Nx 1014 B none kd ig rg lg kd11 ig17 rg13 lg14 := by rw [eig17]; exact hN.pi (by omega)
              have hI : IC τ B kd11 ig17 rg13 := by rw [eig17]; exact hI.pi (show okR (some (0, 288)) _ from ⟨by show (0 : Int) ≤ _; omega, by show _ ≤ (288 : Int); omega⟩)
              have wig17 : (ig17 (B + 15) 2).toInt = z16.toInt := by rw [eig17, up2_eq]
              exact r_vret C hw hr hlk (Nat.le_of_ble_eq_true rfl) (Nat.le_of_ble_eq_true rfl) dX5_forgetReads_70 ⟨hI, hN, rfl⟩
            · refine lv_aload_n hx hb dX5_forgetReads_52 rfl (lv_at hl 1 rfl) ?_
              refine r_get C hw (hsh 15 _ rfl) fl_X5_19 (oV_r rfl (hrs (15, 3, 17) (by decide))) dX5_forgetReads_53 ?_
              refine lv_iload_n hx hb dX5_forgetReads_56 rfl (lv_at hl 0 rfl) ?_
              refine lv_lconst (v := 0) hx hb dX5_forgetReads_57 (by decide) (lv_topl fun x18 hx18 => ?_)
              refine r_last C hw (hsh 17 _ rfl) (by omega) (by omega) dX5_forgetReads_58 (fun H locs hH hw => ?_)
              obtain ⟨lg19, elg19⟩ : ∃ f, f = up2 lg14 (B + 17) v10.toInt.toNat x18 := ⟨_, rfl⟩
              rw [← elg19] at hw
              have hN : Nx 1014 B none kd ig rg lg kd11 ig12 rg13 lg19 := by rw [elg19]; exact hN.pl (by omega)
              refine tc_inc hx hb dX5_forgetReads_59 hl (k := 0) rfl (by decide) (by decide) (fun z20 hz20 ls hl => ?_)
              first | replace hz20 := hz20 (by omega) | clear hz20
              have hl : lv_has ls 3 [(1, .int z20), (0, .ref (B + 15))] := hl
              refine lv_goto (tgt := 47) hx hb dX5_forgetReads_62 (by decide) ?_
              exact ih47 ls H locs kd11 ig12 rg13 lg19 z20 (lv_sub hl [0, 1] rfl) hw hI hN (by omega) (by omega) (by omega)
        exact L47 ((5 - z9.toInt) + 1).toNat ls H locs kd3 ig4 rg5 lg6 z9 (lv_sub hl [0, 1] rfl) hw hI hN (by omega) (by omega) (by omega)
      · refine lv_iconst (v := 0) hx hb dX5_forgetReads_10 (by decide) (ti_c 0 (by decide) fun z21 hz21 => ?_)
        refine lv_istore_n (lv' := [(2, .int z21), (1, .int v2), (0, .ref (B + 15))]) hx hb dX5_forgetReads_11 rfl hl (by decide) rfl (fun ls hl => ?_)
        have L12 : ∀ (n : Nat) (ls : Array Slot) (H : Heap) (locs : List Loc) (kd23 : sK) (ig24 : sI) (rg25 : sR) (lg26 : sG) (v22 : Int32), lv_has ls 3 [(2, .int v22), (1, .int v2), (0, .ref (B + 15))] → WD B D cA s.heap kd23 ig24 rg25 lg26 H locs → IC τ B kd23 ig24 rg25 → Nx 1014 B none kd ig rg lg kd23 ig24 rg25 lg26 → (0 ≤ v22.toInt) → (v22.toInt ≤ 5) → 5 - v22.toInt < (n : Int) → W p l e (rL 0 0 0) s m args below meth c H locs 0 0 (MQ below (QcW B D cA (PI 1014 τ B none kd ig rg lg (fun r kd' ig' rg' lg' => r = none))) args s 0 0 (fun q => B ≤ q)) (F0 m 12 ls []) := by
          intro n12
          induction n12 with
          | zero => intro ls H locs kd23 ig24 rg25 lg26 v22 hl hw hI hN g12_0 g12_1 hmu; exact absurd hmu (by omega)
          | succ n12 ih12 =>
            intro ls H locs kd23 ig24 rg25 lg26 v22 hl hw hI hN g12_0 g12_1 hmu
            have hsh := hI.sh
            have hrs := hI.rs
            refine lv_iload_n hx hb dX5_forgetReads_12 rfl (lv_at hl 0 rfl) ?_
            refine lv_iconst (v := 5) hx hb dX5_forgetReads_13 (by decide) (ti_c 5 (by decide) fun z27 hz27 => ?_)
            refine b_ge (tgt := 39) hx hb dX5_forgetReads_14 (by decide) (fun c14 => ?_) (fun c14 => ?_)
            · refine tc_inc hx hb dX5_forgetReads_39 hl (k := 1) rfl (by decide) (by decide) (fun z28 hz28 ls hl => ?_)
              first | replace hz28 := hz28 (by omega) | clear hz28
              have hl : lv_has ls 3 [(1, .int z28), (2, .int v22), (0, .ref (B + 15))] := hl
              refine lv_goto (tgt := 2) hx hb dX5_forgetReads_42 (by decide) ?_
              exact ih2 ls H locs kd23 ig24 rg25 lg26 z28 (lv_sub hl [0, 2] rfl) hw hI hN (by omega) (by omega) (by omega)
            · refine lv_aload_n hx hb dX5_forgetReads_17 rfl (lv_at hl 2 rfl) ?_
              refine r_get C hw (hsh 15 _ rfl) fl_X5_23 (oV_r rfl (hrs (15, 4, 18) (by decide))) dX5_forgetReads_18 ?_
              refine lv_aload_n hx hb dX5_forgetReads_21 rfl (lv_at hl 2 rfl) ?_
              refine r_get C hw (hsh 15 _ rfl) fl_X5_15 (oV_r rfl (hrs (15, 1, 16) (by decide))) dX5_forgetReads_22 ?_
              refine lv_iload_n hx hb dX5_forgetReads_25 rfl (lv_at hl 1 rfl) ?_
              refine r_iald C hw (hsh 16 _ rfl) (by omega) (by omega) dX5_forgetReads_26 (ti_c (ig24 (B + 16) v2.toInt.toNat).toInt rfl fun z29 hz29 => ?_)
              have k30 : 0 ≤ (ig24 (B + 16) v2.toInt.toNat).toInt ∧ (ig24 (B + 16) v2.toInt.toNat).toInt ≤ 287 := hI.i 16 v2.toInt.toNat (by decide)
              refine lv_iconst (v := 5) hx hb dX5_forgetReads_27 (by decide) (ti_c 5 (by decide) fun z31 hz31 => ?_)
              refine lv_imul hx hb dX5_forgetReads_28 (tc_mulR 5 hz31 fun z32 hz32 => ?_)
              first | replace hz32 := hz32 (by omega) | clear hz32
              refine lv_iload_n hx hb dX5_forgetReads_29 rfl (lv_at hl 0 rfl) ?_
              refine lv_iadd hx hb dX5_forgetReads_30 (tc_add fun z33 hz33 => ?_)
              first | replace hz33 := hz33 (by omega) | clear hz33
              refine lv_lconst (v := 0) hx hb dX5_forgetReads_31 (by decide) (lv_topl fun x34 hx34 => ?_)
              refine r_last C hw (hsh 18 _ rfl) (by omega) (by omega) dX5_forgetReads_32 (fun H locs hH hw => ?_)
              obtain ⟨lg35, elg35⟩ : ∃ f, f = up2 lg26 (B + 18) z33.toInt.toNat x34 := ⟨_, rfl⟩
              rw [← elg35] at hw
              have hN : Nx 1014 B none kd ig rg lg kd23 ig24 rg25 lg35 := by rw [elg35]; exact hN.pl (by omega)
              refine tc_inc hx hb dX5_forgetReads_33 hl (k := 0) rfl (by decide) (by decide) (fun z36 hz36 ls hl => ?_)
              first | replace hz36 := hz36 (by omega) | clear hz36
              have hl : lv_has ls 3 [(2, .int z36), (1, .int v2), (0, .ref (B + 15))] := hl
              refine lv_goto (tgt := 12) hx hb dX5_forgetReads_36 (by decide) ?_
              exact ih12 ls H locs kd23 ig24 rg25 lg35 z36 (lv_sub hl [0, 1, 2] rfl) hw hI hN (by omega) (by omega) (by omega)
        exact L12 ((5 - z21.toInt) + 1).toNat ls H locs kd3 ig4 rg5 lg6 z21 (lv_sub hl [0, 1, 2] rfl) hw hI hN (by omega) (by omega) (by omega)
  exact L2 ((288 - z1.toInt) + 1).toNat ls s.heap [] kd ig rg lg z1 (lv_sub hl [0, 1] rfl) hw hI hN (by omega) (by omega) (by omega)

set_option maxHeartbeats 4000000 in
set_option maxRecDepth 100000 in
theorem t_X5_gatherReadsOf {τ : Tp} (l : Launch) (B : Nat) (D : va_G) (cA : Nat → ClassId) (kd : sK) (ig : sI) (rg : sR) (lg : sG) (sz : Nat) (x : Int32) (g ng : Nat) (Fg : isFn B kd rg g ng) (hI : IC τ B kd ig rg) : MC l B D cA yX5_gatherReadsOf cX5_gatherReadsOf 6 none (rL 3 0 0) [.ref (B + 15), .int x, .ref g] kd ig rg lg sz (PI 1014 τ B none kd ig rg lg (fun r kd' ig' rg' lg' => r = none)) := by
  refine MC.of (own := RX5) (by decide +kernel) rfl (Nat.le_of_ble_eq_true rfl) ?_
  intro p e s m args below meth c ls C hr hlk hnm hw hsz hl
  have hx := C.1.1
  have hb := C.1.2.1
  have hown := C.1.2.2.2.1
  have hts := C.1.2.2.2.2
  have hl : lv_has ls 6 [(0, .ref (B + 15)), (1, .int x), (2, .ref g)] := hl
  have hN : Nx 1014 B none kd ig rg lg kd ig rg lg := Nx.rf
  have hsh := hI.sh
  have hrs := hI.rs
  have lng := Fg.le
  refine lv_iconst (v := 0) hx hb dX5_gatherReadsOf_0 (by decide) (ti_c 0 (by decide) fun z1 hz1 => ?_)
  refine lv_istore_n (lv' := [(3, .int z1), (0, .ref (B + 15)), (1, .int x), (2, .ref g)]) hx hb dX5_gatherReadsOf_1 rfl hl (by decide) rfl (fun ls hl => ?_)
  have L2 : ∀ (n : Nat) (ls : Array Slot) (H : Heap) (locs : List Loc) (kd3 : sK) (ig4 : sI) (rg5 : sR) (lg6 : sG) (v2 : Int32), lv_has ls 6 [(3, .int v2), (0, .ref (B + 15)), (1, .int x), (2, .ref g)] → WD B D cA s.heap kd3 ig4 rg5 lg6 H locs → IC τ B kd3 ig4 rg5 → Nx 1014 B none kd ig rg lg kd3 ig4 rg5 lg6 → isFn B kd3 rg5 g ng → (0 ≤ v2.toInt) → (v2.toInt ≤ 120) → 120 - v2.toInt < (n : Int) → W p l e (rL 3 0 0) s m args below meth c H locs 0 0 (MQ below (QcW B D cA (PI 1014 τ B none kd ig rg lg (fun r kd' ig' rg' lg' => r = none))) args s 0 0 (fun q => B ≤ q)) (F0 m 2 ls []) := by
    intro n2
    induction n2 with
    | zero => intro ls H locs kd3 ig4 rg5 lg6 v2 hl hw hI hN Fg g2_0 g2_1 hmu; exact absurd hmu (by omega)
    | succ n2 ih2 =>
      intro ls H locs kd3 ig4 rg5 lg6 v2 hl hw hI hN Fg g2_0 g2_1 hmu
      have hsh := hI.sh
      have hrs := hI.rs
      refine lv_iload_n hx hb dX5_gatherReadsOf_2 rfl (lv_at hl 0 rfl) ?_
      refine lv_aload_n hx hb dX5_gatherReadsOf_3 rfl (lv_at hl 3 rfl) ?_
      refine r_callV (As := []) (rest := [.int v2]) C hw (t_X4_size l B D cA kd3 ig4 rg5 lg6 _ g ng Fg  hI) sv_X5_101 (isFn.k Fg) rfl hl.1 rfl (Nat.le_of_ble_eq_true rfl) ⟨Nat.le_of_ble_eq_true rfl, Nat.le_of_ble_eq_true rfl⟩ ⟨Nat.le_of_ble_eq_true rfl, Nat.le_of_ble_eq_true rfl⟩ dX5_gatherReadsOf_4 (fun r11 kd7 ig8 rg9 lg10 H locs hw hH hp12 => ?_)
      obtain ⟨rfl, rfl, rfl, rfl, hzhp12, hrhp12⟩ := hp12
      obtain ⟨z13, rfl, hz13⟩ := hrhp12
      refine b_ge (tgt := 79) hx hb dX5_gatherReadsOf_7 (by decide) (fun c7 => ?_) (fun c7 => ?_)
      · exact r_vret C hw hr hlk (Nat.le_of_ble_eq_true rfl) (Nat.le_of_ble_eq_true rfl) dX5_gatherReadsOf_79 ⟨hI, hN, rfl⟩
      · refine lv_aload_n hx hb dX5_gatherReadsOf_10 rfl (lv_at hl 3 rfl) ?_
        refine lv_iload_n hx hb dX5_gatherReadsOf_11 rfl (lv_at hl 0 rfl) ?_
        refine r_callV (As := [.int v2]) (rest := []) C hw (t_X4_readsAt l B D cA kd3 ig4 rg5 lg6 _ g ng Fg v2  hI) sv_X5_107 (isFn.k Fg) rfl hl.1 rfl (Nat.le_of_ble_eq_true rfl) ⟨Nat.le_of_ble_eq_true rfl, Nat.le_of_ble_eq_true rfl⟩ ⟨Nat.le_of_ble_eq_true rfl, Nat.le_of_ble_eq_true rfl⟩ dX5_gatherReadsOf_12 (fun r18 kd14 ig15 rg16 lg17 H locs hw hH hp19 => ?_)
        obtain ⟨rfl, rfl, rfl, rfl, hzhp19, hrhp19⟩ := hp19
        obtain ⟨z20, rfl, hz20⟩ := hrhp19
        refine z_eq (tgt := 31) hx hb dX5_gatherReadsOf_15 (by decide) (fun c15 => ?_) (fun c15 => ?_)
        · refine lv_iconst (v := 0) hx hb dX5_gatherReadsOf_31 (by decide) (ti_c 0 (by decide) fun z21 hz21 => ?_)
          refine lv_istore (lv' := [(4, .int z21), (3, .int v2), (0, .ref (B + 15)), (1, .int x), (2, .ref g)]) hx hb dX5_gatherReadsOf_32 hl (by decide) rfl (fun ls hl => ?_)
          refine lv_iconst (v := 0) hx hb dX5_gatherReadsOf_34 (by decide) (ti_c 0 (by decide) fun z22 hz22 => ?_)
          refine lv_istore (lv' := [(5, .int z22), (4, .int z21), (3, .int v2), (0, .ref (B + 15)), (1, .int x), (2, .ref g)]) hx hb dX5_gatherReadsOf_35 hl (by decide) rfl (fun ls hl => ?_)
          have L37 : ∀ (n : Nat) (ls : Array Slot) (H : Heap) (locs : List Loc) (kd24 : sK) (ig25 : sI) (rg26 : sR) (lg27 : sG) (v23 : Int32), lv_has ls 6 [(5, .int v23), (4, .int z21), (3, .int v2), (0, .ref (B + 15)), (1, .int x), (2, .ref g)] → WD B D cA s.heap kd24 ig25 rg26 lg27 H locs → IC τ B kd24 ig25 rg26 → Nx 1014 B none kd ig rg lg kd24 ig25 rg26 lg27 → isFn B kd24 rg26 g ng → (0 ≤ v23.toInt) → (v23.toInt ≤ 288) → 288 - v23.toInt < (n : Int) → W p l e (rL 3 0 0) s m args below meth c H locs 0 0 (MQ below (QcW B D cA (PI 1014 τ B none kd ig rg lg (fun r kd' ig' rg' lg' => r = none))) args s 0 0 (fun q => B ≤ q)) (F0 m 37 ls []) := by
            intro n37
            induction n37 with
            | zero => intro ls H locs kd24 ig25 rg26 lg27 v23 hl hw hI hN Fg g37_0 g37_1 hmu; exact absurd hmu (by omega)
            | succ n37 ih37 =>
              intro ls H locs kd24 ig25 rg26 lg27 v23 hl hw hI hN Fg g37_0 g37_1 hmu
              have hsh := hI.sh
              have hrs := hI.rs
              refine lv_iload hx hb dX5_gatherReadsOf_37 (lv_at hl 0 rfl) ?_
              refine lv_iload hx hb dX5_gatherReadsOf_39 (lv_at hl 1 rfl) ?_
              refine b_ge (tgt := 73) hx hb dX5_gatherReadsOf_41 (by decide) (fun c41 => ?_) (fun c41 => ?_)
              · refine tc_inc hx hb dX5_gatherReadsOf_73 hl (k := 2) rfl (by decide) (by decide) (fun z28 hz28 ls hl => ?_)
                first | replace hz28 := hz28 (by omega) | clear hz28
                have hl : lv_has ls 6 [(3, .int z28), (5, .int v23), (4, .int z21), (0, .ref (B + 15)), (1, .int x), (2, .ref g)] := hl
                refine lv_goto (tgt := 2) hx hb dX5_gatherReadsOf_76 (by decide) ?_
                exact ih2 ls H locs kd24 ig25 rg26 lg27 z28 (lv_sub hl [0, 3, 4, 5] rfl) hw hI hN Fg (by omega) (by omega) (by omega)
              · refine lv_iload hx hb dX5_gatherReadsOf_44 (lv_at hl 0 rfl) ?_
                refine lv_sipush (v := 288) hx hb dX5_gatherReadsOf_46 (by decide) (ti_c 288 (by decide) fun z29 hz29 => ?_)
                refine b_ge (tgt := 73) hx hb dX5_gatherReadsOf_49 (by decide) (fun c49 => ?_) (fun c49 => ?_)
                · refine tc_inc hx hb dX5_gatherReadsOf_73 hl (k := 2) rfl (by decide) (by decide) (fun z30 hz30 ls hl => ?_)
                  first | replace hz30 := hz30 (by omega) | clear hz30
                  have hl : lv_has ls 6 [(3, .int z30), (5, .int v23), (4, .int z21), (0, .ref (B + 15)), (1, .int x), (2, .ref g)] := hl
                  refine lv_goto (tgt := 2) hx hb dX5_gatherReadsOf_76 (by decide) ?_
                  exact ih2 ls H locs kd24 ig25 rg26 lg27 z30 (lv_sub hl [0, 3, 4, 5] rfl) hw hI hN Fg (by omega) (by omega) (by omega)
                · refine lv_aload_n hx hb dX5_gatherReadsOf_52 rfl (lv_at hl 3 rfl) ?_
                  refine r_get C hw (hsh 15 _ rfl) fl_X5_23 (oV_r rfl (hrs (15, 4, 18) (by decide))) dX5_gatherReadsOf_53 ?_
                  refine lv_iload_n hx hb dX5_gatherReadsOf_56 rfl (lv_at hl 4 rfl) ?_
                  refine lv_aload_n hx hb dX5_gatherReadsOf_57 rfl (lv_at hl 3 rfl) ?_
                  refine r_get C hw (hsh 15 _ rfl) fl_X5_39 (oV_r rfl (hrs (15, 10, 23) (by decide))) dX5_gatherReadsOf_58 ?_
                  refine lv_iload hx hb dX5_gatherReadsOf_61 (lv_at hl 0 rfl) ?_
                  refine r_iald C hw (hsh 23 _ rfl) (by omega) (by omega) dX5_gatherReadsOf_63 (ti_c (ig25 (B + 23) v23.toInt.toNat).toInt rfl fun z31 hz31 => ?_)
                  refine r_callN (As := [.ref (B + 18), .int x, .int z31]) (rest := []) C hw (t_X11_setBit l B D cA kd24 ig25 rg26 lg27 _ 18 (Or.inl rfl) (nWl.lit (by decide)) x z31  hI) sn_X5_93 rfl hl.1 rfl (Nat.le_of_ble_eq_true rfl) ⟨Nat.le_of_ble_eq_true rfl, Nat.le_of_ble_eq_true rfl⟩ ⟨Nat.le_of_ble_eq_true rfl, Nat.le_of_ble_eq_true rfl⟩ dX5_gatherReadsOf_64 (fun r36 kd32 ig33 rg34 lg35 H locs hw hH hp37 => ?_)
                  obtain ⟨hI, hchp37, hrhp37⟩ := hp37
                  have Fg := Nx.F hchp37 Fg
                  have hN := hN.tr hchp37
                  have hsh := hI.sh
                  have hrs := hI.rs
                  obtain ⟨rfl, hvhp37⟩ := hrhp37
                  refine tc_inc hx hb dX5_gatherReadsOf_67 hl (k := 0) rfl (by decide) (by decide) (fun z38 hz38 ls hl => ?_)
                  first | replace hz38 := hz38 (by omega) | clear hz38
                  have hl : lv_has ls 6 [(5, .int z38), (4, .int z21), (3, .int v2), (0, .ref (B + 15)), (1, .int x), (2, .ref g)] := hl
                  refine lv_goto (tgt := 37) hx hb dX5_gatherReadsOf_70 (by decide) ?_
                  exact ih37 ls H locs kd32 ig33 rg34 lg35 z38 (lv_sub hl [0, 1, 2, 3, 4, 5] rfl) hw hI hN Fg (by omega) (by omega) (by omega)
          exact L37 ((288 - z22.toInt) + 1).toNat ls H locs kd3 ig4 rg5 lg6 z22 (lv_sub hl [0, 1, 2, 3, 4, 5] rfl) hw hI hN Fg (by omega) (by omega) (by omega)
        · refine lv_aload_n hx hb dX5_gatherReadsOf_18 rfl (lv_at hl 3 rfl) ?_
          refine lv_iload_n hx hb dX5_gatherReadsOf_19 rfl (lv_at hl 0 rfl) ?_
          refine lv_iload_n hx hb dX5_gatherReadsOf_20 rfl (lv_at hl 2 rfl) ?_
          refine lv_aload_n hx hb dX5_gatherReadsOf_21 rfl (lv_at hl 1 rfl) ?_
          refine r_get C hw (hsh 15 _ rfl) fl_X5_39 (oV_r rfl (hrs (15, 10, 23) (by decide))) dX5_gatherReadsOf_22 ?_
          refine r_callV (As := [.int v2, .int x, .ref (B + 23)]) (rest := []) C hw (t_X4_listPlaces l B D cA kd3 ig4 rg5 lg6 _ g ng Fg v2 x 23 (Or.inl rfl)  hI) sv_X5_110 (isFn.k Fg) rfl hl.1 rfl (Nat.le_of_ble_eq_true rfl) ⟨Nat.le_of_ble_eq_true rfl, Nat.le_of_ble_eq_true rfl⟩ ⟨Nat.le_of_ble_eq_true rfl, Nat.le_of_ble_eq_true rfl⟩ dX5_gatherReadsOf_25 (fun r43 kd39 ig40 rg41 lg42 H locs hw hH hp44 => ?_)
          obtain ⟨hI, hchp44, hrhp44⟩ := hp44
          have Fg := Nx.F hchp44 Fg
          have hN := hN.tr hchp44
          have hsh := hI.sh
          have hrs := hI.rs
          obtain ⟨z45, rfl, hz45⟩ := hrhp44
          refine lv_goto (tgt := 32) hx hb dX5_gatherReadsOf_28 (by decide) ?_
          refine lv_istore (lv' := [(4, .int z45), (3, .int v2), (0, .ref (B + 15)), (1, .int x), (2, .ref g)]) hx hb dX5_gatherReadsOf_32 hl (by decide) rfl (fun ls hl => ?_)
          refine lv_iconst (v := 0) hx hb dX5_gatherReadsOf_34 (by decide) (ti_c 0 (by decide) fun z46 hz46 => ?_)
          refine lv_istore (lv' := [(5, .int z46), (4, .int z45), (3, .int v2), (0, .ref (B + 15)), (1, .int x), (2, .ref g)]) hx hb dX5_gatherReadsOf_35 hl (by decide) rfl (fun ls hl => ?_)
          have L37 : ∀ (n : Nat) (ls : Array Slot) (H : Heap) (locs : List Loc) (kd48 : sK) (ig49 : sI) (rg50 : sR) (lg51 : sG) (v47 : Int32), lv_has ls 6 [(5, .int v47), (4, .int z45), (3, .int v2), (0, .ref (B + 15)), (1, .int x), (2, .ref g)] → WD B D cA s.heap kd48 ig49 rg50 lg51 H locs → IC τ B kd48 ig49 rg50 → Nx 1014 B none kd ig rg lg kd48 ig49 rg50 lg51 → isFn B kd48 rg50 g ng → (0 ≤ v47.toInt) → (v47.toInt ≤ 288) → 288 - v47.toInt < (n : Int) → W p l e (rL 3 0 0) s m args below meth c H locs 0 0 (MQ below (QcW B D cA (PI 1014 τ B none kd ig rg lg (fun r kd' ig' rg' lg' => r = none))) args s 0 0 (fun q => B ≤ q)) (F0 m 37 ls []) := by
            intro n37
            induction n37 with
            | zero => intro ls H locs kd48 ig49 rg50 lg51 v47 hl hw hI hN Fg g37_0 g37_1 hmu; exact absurd hmu (by omega)
            | succ n37 ih37 =>
              intro ls H locs kd48 ig49 rg50 lg51 v47 hl hw hI hN Fg g37_0 g37_1 hmu
              have hsh := hI.sh
              have hrs := hI.rs
              refine lv_iload hx hb dX5_gatherReadsOf_37 (lv_at hl 0 rfl) ?_
              refine lv_iload hx hb dX5_gatherReadsOf_39 (lv_at hl 1 rfl) ?_
              refine b_ge (tgt := 73) hx hb dX5_gatherReadsOf_41 (by decide) (fun c41 => ?_) (fun c41 => ?_)
              · refine tc_inc hx hb dX5_gatherReadsOf_73 hl (k := 2) rfl (by decide) (by decide) (fun z52 hz52 ls hl => ?_)
                first | replace hz52 := hz52 (by omega) | clear hz52
                have hl : lv_has ls 6 [(3, .int z52), (5, .int v47), (4, .int z45), (0, .ref (B + 15)), (1, .int x), (2, .ref g)] := hl
                refine lv_goto (tgt := 2) hx hb dX5_gatherReadsOf_76 (by decide) ?_
                exact ih2 ls H locs kd48 ig49 rg50 lg51 z52 (lv_sub hl [0, 3, 4, 5] rfl) hw hI hN Fg (by omega) (by omega) (by omega)
              · refine lv_iload hx hb dX5_gatherReadsOf_44 (lv_at hl 0 rfl) ?_
                refine lv_sipush (v := 288) hx hb dX5_gatherReadsOf_46 (by decide) (ti_c 288 (by decide) fun z53 hz53 => ?_)
                refine b_ge (tgt := 73) hx hb dX5_gatherReadsOf_49 (by decide) (fun c49 => ?_) (fun c49 => ?_)
                · refine tc_inc hx hb dX5_gatherReadsOf_73 hl (k := 2) rfl (by decide) (by decide) (fun z54 hz54 ls hl => ?_)
                  first | replace hz54 := hz54 (by omega) | clear hz54
                  have hl : lv_has ls 6 [(3, .int z54), (5, .int v47), (4, .int z45), (0, .ref (B + 15)), (1, .int x), (2, .ref g)] := hl
                  refine lv_goto (tgt := 2) hx hb dX5_gatherReadsOf_76 (by decide) ?_
                  exact ih2 ls H locs kd48 ig49 rg50 lg51 z54 (lv_sub hl [0, 3, 4, 5] rfl) hw hI hN Fg (by omega) (by omega) (by omega)
                · refine lv_aload_n hx hb dX5_gatherReadsOf_52 rfl (lv_at hl 3 rfl) ?_
                  refine r_get C hw (hsh 15 _ rfl) fl_X5_23 (oV_r rfl (hrs (15, 4, 18) (by decide))) dX5_gatherReadsOf_53 ?_
                  refine lv_iload_n hx hb dX5_gatherReadsOf_56 rfl (lv_at hl 4 rfl) ?_
                  refine lv_aload_n hx hb dX5_gatherReadsOf_57 rfl (lv_at hl 3 rfl) ?_
                  refine r_get C hw (hsh 15 _ rfl) fl_X5_39 (oV_r rfl (hrs (15, 10, 23) (by decide))) dX5_gatherReadsOf_58 ?_
                  refine lv_iload hx hb dX5_gatherReadsOf_61 (lv_at hl 0 rfl) ?_
                  refine r_iald C hw (hsh 23 _ rfl) (by omega) (by omega) dX5_gatherReadsOf_63 (ti_c (ig49 (B + 23) v47.toInt.toNat).toInt rfl fun z55 hz55 => ?_)
                  refine r_callN (As := [.ref (B + 18), .int x, .int z55]) (rest := []) C hw (t_X11_setBit l B D cA kd48 ig49 rg50 lg51 _ 18 (Or.inl rfl) (nWl.lit (by decide)) x z55  hI) sn_X5_93 rfl hl.1 rfl (Nat.le_of_ble_eq_true rfl) ⟨Nat.le_of_ble_eq_true rfl, Nat.le_of_ble_eq_true rfl⟩ ⟨Nat.le_of_ble_eq_true rfl, Nat.le_of_ble_eq_true rfl⟩ dX5_gatherReadsOf_64 (fun r60 kd56 ig57 rg58 lg59 H locs hw hH hp61 => ?_)
                  obtain ⟨hI, hchp61, hrhp61⟩ := hp61
                  have Fg := Nx.F hchp61 Fg
                  have hN := hN.tr hchp61
                  have hsh := hI.sh
                  have hrs := hI.rs
                  obtain ⟨rfl, hvhp61⟩ := hrhp61
                  refine tc_inc hx hb dX5_gatherReadsOf_67 hl (k := 0) rfl (by decide) (by decide) (fun z62 hz62 ls hl => ?_)
                  first | replace hz62 := hz62 (by omega) | clear hz62
                  have hl : lv_has ls 6 [(5, .int z62), (4, .int z45), (3, .int v2), (0, .ref (B + 15)), (1, .int x), (2, .ref g)] := hl
                  refine lv_goto (tgt := 37) hx hb dX5_gatherReadsOf_70 (by decide) ?_
                  exact ih37 ls H locs kd56 ig57 rg58 lg59 z62 (lv_sub hl [0, 1, 2, 3, 4, 5] rfl) hw hI hN Fg (by omega) (by omega) (by omega)
          exact L37 ((288 - z46.toInt) + 1).toNat ls H locs kd39 ig40 rg41 lg42 z46 (lv_sub hl [0, 1, 2, 3, 4, 5] rfl) hw hI hN Fg (by omega) (by omega) (by omega)
  exact L2 ((120 - z1.toInt) + 1).toNat ls s.heap [] kd ig rg lg z1 (lv_sub hl [0, 1, 2, 3] rfl) hw hI hN Fg (by omega) (by omega) (by omega)

set_option maxHeartbeats 4000000 in
set_option maxRecDepth 100000 in
theorem t_X5_gatherReads {τ : Tp} (l : Launch) (B : Nat) (D : va_G) (cA : Nat → ClassId) (kd : sK) (ig : sI) (rg : sR) (lg : sG) (sz : Nat)  (hI : IC τ B kd ig rg) : MC l B D cA yX5_gatherReads cX5_gatherReads 3 none (rL 4 0 0) [.ref (B + 15)] kd ig rg lg sz (PI 1014 τ B none kd ig rg lg (fun r kd' ig' rg' lg' => r = none)) := by
  refine MC.of (own := RX5) (by decide +kernel) rfl (Nat.le_of_ble_eq_true rfl) ?_
  intro p e s m args below meth c ls C hr hlk hnm hw hsz hl
  have hx := C.1.1
  have hb := C.1.2.1
  have hown := C.1.2.2.2.1
  have hts := C.1.2.2.2.2
  have hl : lv_has ls 3 [(0, .ref (B + 15))] := hl
  have hN : Nx 1014 B none kd ig rg lg kd ig rg lg := Nx.rf
  have hsh := hI.sh
  have hrs := hI.rs
  refine lv_iconst (v := 0) hx hb dX5_gatherReads_0 (by decide) (ti_c 0 (by decide) fun z1 hz1 => ?_)
  refine lv_istore_n (lv' := [(1, .int z1), (0, .ref (B + 15))]) hx hb dX5_gatherReads_1 rfl hl (by decide) rfl (fun ls hl => ?_)
  have L2 : ∀ (n : Nat) (ls : Array Slot) (H : Heap) (locs : List Loc) (kd3 : sK) (ig4 : sI) (rg5 : sR) (lg6 : sG) (v2 : Int32), lv_has ls 3 [(1, .int v2), (0, .ref (B + 15))] → WD B D cA s.heap kd3 ig4 rg5 lg6 H locs → IC τ B kd3 ig4 rg5 → Nx 1014 B none kd ig rg lg kd3 ig4 rg5 lg6 → (0 ≤ v2.toInt) → (v2.toInt ≤ 288) → 288 - v2.toInt < (n : Int) → W p l e (rL 4 0 0) s m args below meth c H locs 0 0 (MQ below (QcW B D cA (PI 1014 τ B none kd ig rg lg (fun r kd' ig' rg' lg' => r = none))) args s 0 0 (fun q => B ≤ q)) (F0 m 2 ls []) := by
    intro n2
    induction n2 with
    | zero => intro ls H locs kd3 ig4 rg5 lg6 v2 hl hw hI hN g2_0 g2_1 hmu; exact absurd hmu (by omega)
    | succ n2 ih2 =>
      intro ls H locs kd3 ig4 rg5 lg6 v2 hl hw hI hN g2_0 g2_1 hmu
      have hsh := hI.sh
      have hrs := hI.rs
      refine lv_iload_n hx hb dX5_gatherReads_2 rfl (lv_at hl 0 rfl) ?_
      refine lv_sipush (v := 288) hx hb dX5_gatherReads_3 (by decide) (ti_c 288 (by decide) fun z7 hz7 => ?_)
      refine b_ge (tgt := 87) hx hb dX5_gatherReads_6 (by decide) (fun c6 => ?_) (fun c6 => ?_)
      · exact r_vret C hw hr hlk (Nat.le_of_ble_eq_true rfl) (Nat.le_of_ble_eq_true rfl) dX5_gatherReads_87 ⟨hI, hN, rfl⟩
      · refine lv_aload_n hx hb dX5_gatherReads_9 rfl (lv_at hl 1 rfl) ?_
        refine r_get C hw (hsh 15 _ rfl) fl_X5_29 (oV_r rfl (hrs (15, 6, 20) (by decide))) dX5_gatherReads_10 ?_
        refine lv_iload_n hx hb dX5_gatherReads_13 rfl (lv_at hl 0 rfl) ?_
        refine lv_iconst (v := 0) hx hb dX5_gatherReads_14 (by decide) (ti_c 0 (by decide) fun z8 hz8 => ?_)
        refine r_zast C hw (hsh 20 _ rfl) (by omega) (by omega) (nar_b (by omega)) dX5_gatherReads_15 (fun H locs hH hw => ?_)
        obtain ⟨ig9, eig9⟩ : ∃ f, f = up2 ig4 (B + 20) v2.toInt.toNat z8 := ⟨_, rfl⟩
        rw [← eig9] at hw
        have hN : Nx 1014 B none kd ig rg lg kd3 ig9 rg5 lg6 := by rw [eig9]; exact hN.pi (by omega)
        have hI : IC τ B kd3 ig9 rg5 := by rw [eig9]; exact hI.pi (show okR none _ from trivial)
        have wig9_15_2 : (ig9 (B + 15) 2).toInt = (ig4 (B + 15) 2).toInt := by rw [eig9, up2_a (by omega)]
        refine lv_aload_n hx hb dX5_gatherReads_16 rfl (lv_at hl 1 rfl) ?_
        refine r_get C hw (hsh 15 _ rfl) fl_X5_33 (oV_r rfl (hrs (15, 7, 21) (by decide))) dX5_gatherReads_17 ?_
        refine lv_iload_n hx hb dX5_gatherReads_20 rfl (lv_at hl 0 rfl) ?_
        refine lv_iconst (v := 0) hx hb dX5_gatherReads_21 (by decide) (ti_c 0 (by decide) fun z10 hz10 => ?_)
        refine r_iast C hw (hsh 21 _ rfl) (by omega) (by omega) dX5_gatherReads_22 (fun H locs hH hw => ?_)
        obtain ⟨ig11, eig11⟩ : ∃ f, f = up2 ig9 (B + 21) v2.toInt.toNat z10 := ⟨_, rfl⟩
        rw [← eig11] at hw
        have hN : Nx 1014 B none kd ig rg lg kd3 ig11 rg5 lg6 := by rw [eig11]; exact hN.pi (by omega)
        have hI : IC τ B kd3 ig11 rg5 := by rw [eig11]; exact hI.pi (show okR none _ from trivial)
        have wig11_15_2 : (ig11 (B + 15) 2).toInt = (ig9 (B + 15) 2).toInt := by rw [eig11, up2_a (by omega)]
        refine lv_aload_n hx hb dX5_gatherReads_23 rfl (lv_at hl 1 rfl) ?_
        refine r_get C hw (hsh 15 _ rfl) fl_X5_9 (oV_r rfl (hrs (15, 0, 9) (by decide))) dX5_gatherReads_24 ?_
        refine lv_iload_n hx hb dX5_gatherReads_27 rfl (lv_at hl 0 rfl) ?_
        refine r_callV (As := [.int v2]) (rest := []) C hw (t_X6_formulaAt l B D cA kd3 ig11 rg5 lg6 _ v2  hI) sv_X5_89 (hsh 9 _ rfl) rfl hl.1 rfl (Nat.le_of_ble_eq_true rfl) ⟨Nat.le_of_ble_eq_true rfl, Nat.le_of_ble_eq_true rfl⟩ ⟨Nat.le_of_ble_eq_true rfl, Nat.le_of_ble_eq_true rfl⟩ dX5_gatherReads_28 (fun r16 kd12 ig13 rg14 lg15 H locs hw hH hp17 => ?_)
        obtain ⟨rfl, rfl, rfl, rfl, hzhp17, hrhp17⟩ := hp17
        rcases hrhp17 with rfl | ⟨f18, nf18, rfl, Ff18⟩
        · refine lv_astore_nN (lv' := [(2, .null), (1, .int v2), (0, .ref (B + 15))]) hx hb dX5_gatherReads_31 rfl hl (by decide) rfl (fun ls hl => ?_)
          refine lv_aload_nN hx hb dX5_gatherReads_32 rfl (lv_at hl 0 rfl) ?_
          refine lv_ifnullN (tgt := 81) hx hb dX5_gatherReads_33 (by decide) ?_
          refine tc_inc hx hb dX5_gatherReads_81 hl (k := 1) rfl (by decide) (by decide) (fun z19 hz19 ls hl => ?_)
          first | replace hz19 := hz19 (by omega) | clear hz19
          have hl : lv_has ls 3 [(1, .int z19), (2, .null), (0, .ref (B + 15))] := hl
          refine lv_goto (tgt := 2) hx hb dX5_gatherReads_84 (by decide) ?_
          exact ih2 ls H locs kd3 ig11 rg5 lg6 z19 (lv_sub hl [0, 2] rfl) hw hI hN (by omega) (by omega) (by omega)
        · have lf18 := isFn.le Ff18
          refine lv_astore_n (lv' := [(2, .ref f18), (1, .int v2), (0, .ref (B + 15))]) hx hb dX5_gatherReads_31 rfl hl (by decide) rfl (fun ls hl => ?_)
          refine lv_aload_n hx hb dX5_gatherReads_32 rfl (lv_at hl 0 rfl) ?_
          refine lv_ifnull hx hb dX5_gatherReads_33 ?_
          refine lv_aload_n hx hb dX5_gatherReads_36 rfl (lv_at hl 2 rfl) ?_
          refine r_get C hw (hsh 15 _ rfl) fl_X5_58 (oV_i rfl) dX5_gatherReads_37 (ti_c (ig11 (B + 15) 2).toInt rfl fun z20 hz20 => ?_)
          have k21 : 0 ≤ (ig11 (B + 15) 2).toInt ∧ (ig11 (B + 15) 2).toInt ≤ 288 := hI.i 15 2 (by decide)
          refine lv_sipush (v := 288) hx hb dX5_gatherReads_40 (by decide) (ti_c 288 (by decide) fun z22 hz22 => ?_)
          refine b_ge (tgt := 81) hx hb dX5_gatherReads_43 (by decide) (fun c43 => ?_) (fun c43 => ?_)
          · refine tc_inc hx hb dX5_gatherReads_81 hl (k := 1) rfl (by decide) (by decide) (fun z23 hz23 ls hl => ?_)
            first | replace hz23 := hz23 (by omega) | clear hz23
            have hl : lv_has ls 3 [(1, .int z23), (2, .ref f18), (0, .ref (B + 15))] := hl
            refine lv_goto (tgt := 2) hx hb dX5_gatherReads_84 (by decide) ?_
            exact ih2 ls H locs kd3 ig11 rg5 lg6 z23 (lv_sub hl [0, 2] rfl) hw hI hN (by omega) (by omega) (by omega)
          · refine lv_aload_n hx hb dX5_gatherReads_46 rfl (lv_at hl 2 rfl) ?_
            refine r_get C hw (hsh 15 _ rfl) fl_X5_15 (oV_r rfl (hrs (15, 1, 16) (by decide))) dX5_gatherReads_47 ?_
            refine lv_aload_n hx hb dX5_gatherReads_50 rfl (lv_at hl 2 rfl) ?_
            refine r_get C hw (hsh 15 _ rfl) fl_X5_58 (oV_i rfl) dX5_gatherReads_51 (ti_c (ig11 (B + 15) 2).toInt rfl fun z24 hz24 => ?_)
            have k25 : 0 ≤ (ig11 (B + 15) 2).toInt ∧ (ig11 (B + 15) 2).toInt ≤ 288 := hI.i 15 2 (by decide)
            refine lv_iload_n hx hb dX5_gatherReads_54 rfl (lv_at hl 1 rfl) ?_
            refine r_iast C hw (hsh 16 _ rfl) (by omega) (by omega) dX5_gatherReads_55 (fun H locs hH hw => ?_)
            obtain ⟨ig26, eig26⟩ : ∃ f, f = up2 ig11 (B + 16) z24.toInt.toNat v2 := ⟨_, rfl⟩
            rw [← eig26] at hw
            have hN : Nx 1014 B none kd ig rg lg kd3 ig26 rg5 lg6 := by rw [eig26]; exact hN.pi (by omega)
            have hI : IC τ B kd3 ig26 rg5 := by rw [eig26]; exact hI.pi (show okR (some (0, 287)) _ from ⟨by show (0 : Int) ≤ _; omega, by show _ ≤ (287 : Int); omega⟩)
            have wig26_15_2 : (ig26 (B + 15) 2).toInt = (ig11 (B + 15) 2).toInt := by rw [eig26, up2_a (by omega)]
            refine lv_aload_n hx hb dX5_gatherReads_56 rfl (lv_at hl 2 rfl) ?_
            refine lv_dup hx hb dX5_gatherReads_57 rfl ?_
            refine r_get C hw (hsh 15 _ rfl) fl_X5_58 (oV_i rfl) dX5_gatherReads_58 (ti_c (ig26 (B + 15) 2).toInt rfl fun z27 hz27 => ?_)
            have k28 : 0 ≤ (ig26 (B + 15) 2).toInt ∧ (ig26 (B + 15) 2).toInt ≤ 288 := hI.i 15 2 (by decide)
            refine lv_iconst (v := 1) hx hb dX5_gatherReads_61 (by decide) (ti_c 1 (by decide) fun z29 hz29 => ?_)
            refine lv_iadd hx hb dX5_gatherReads_62 (tc_add fun z30 hz30 => ?_)
            first | replace hz30 := hz30 (by omega) | clear hz30
            refine r_puti C hw (hsh 15 _ rfl) fl_X5_58 rfl rfl rfl dX5_gatherReads_63 (fun H locs hH hw => ?_)
            obtain ⟨ig31, eig31⟩ : ∃ f, f = up2 ig26 (B + 15) 2 z30 := ⟨_, rfl⟩
            rw [← eig31] at hw
            have hN : Nx 1014 B none kd ig rg lg kd3 ig31 rg5 lg6 := by rw [eig31]; exact hN.pi (by omega)
            have hI : IC τ B kd3 ig31 rg5 := by rw [eig31]; exact hI.pi (show okR (some (0, 288)) _ from ⟨by show (0 : Int) ≤ _; omega, by show _ ≤ (288 : Int); omega⟩)
            have wig31 : (ig31 (B + 15) 2).toInt = z30.toInt := by rw [eig31, up2_eq]
            refine lv_aload_n hx hb dX5_gatherReads_66 rfl (lv_at hl 2 rfl) ?_
            refine r_get C hw (hsh 15 _ rfl) fl_X5_19 (oV_r rfl (hrs (15, 3, 17) (by decide))) dX5_gatherReads_67 ?_
            refine lv_iconst (v := 0) hx hb dX5_gatherReads_70 (by decide) (ti_c 0 (by decide) fun z32 hz32 => ?_)
            refine lv_iload_n hx hb dX5_gatherReads_71 rfl (lv_at hl 1 rfl) ?_
            refine r_callN (As := [.ref (B + 17), .int z32, .int v2]) (rest := []) C hw (t_X11_setBit5 l B D cA kd3 ig31 rg5 lg6 _ z32 v2 (by omega) hI) sn_X5_93 rfl hl.1 rfl (Nat.le_of_ble_eq_true rfl) ⟨Nat.le_of_ble_eq_true rfl, Nat.le_of_ble_eq_true rfl⟩ ⟨Nat.le_of_ble_eq_true rfl, Nat.le_of_ble_eq_true rfl⟩ dX5_gatherReads_72 (fun r37 kd33 ig34 rg35 lg36 H locs hw hH hp38 => ?_)
            obtain ⟨hI, hchp38, hrhp38⟩ := hp38
            have Ff18 := Nx.F hchp38 Ff18
            have hN := hN.tr hchp38
            have hsh := hI.sh
            have hrs := hI.rs
            obtain rfl := hrhp38
            refine lv_aload_n hx hb dX5_gatherReads_75 rfl (lv_at hl 2 rfl) ?_
            refine lv_iload_n hx hb dX5_gatherReads_76 rfl (lv_at hl 1 rfl) ?_
            refine lv_aload_n hx hb dX5_gatherReads_77 rfl (lv_at hl 0 rfl) ?_
            refine r_callV (As := [.int v2, .ref f18]) (rest := []) C hw (t_X5_gatherReadsOf l B D cA kd33 ig34 rg35 lg36 _ v2 f18 nf18 Ff18  hI) sv_X5_97 (hsh 15 _ rfl) rfl hl.1 rfl (Nat.le_of_ble_eq_true rfl) ⟨Nat.le_of_ble_eq_true rfl, Nat.le_of_ble_eq_true rfl⟩ ⟨Nat.le_of_ble_eq_true rfl, Nat.le_of_ble_eq_true rfl⟩ dX5_gatherReads_78 (fun r43 kd39 ig40 rg41 lg42 H locs hw hH hp44 => ?_)
            obtain ⟨hI, hchp44, hrhp44⟩ := hp44
            have hN := hN.tr hchp44
            have hsh := hI.sh
            have hrs := hI.rs
            obtain rfl := hrhp44
            refine tc_inc hx hb dX5_gatherReads_81 hl (k := 1) rfl (by decide) (by decide) (fun z45 hz45 ls hl => ?_)
            first | replace hz45 := hz45 (by omega) | clear hz45
            have hl : lv_has ls 3 [(1, .int z45), (2, .ref f18), (0, .ref (B + 15))] := hl
            refine lv_goto (tgt := 2) hx hb dX5_gatherReads_84 (by decide) ?_
            exact ih2 ls H locs kd39 ig40 rg41 lg42 z45 (lv_sub hl [0, 2] rfl) hw hI hN (by omega) (by omega) (by omega)
  exact L2 ((288 - z1.toInt) + 1).toNat ls s.heap [] kd ig rg lg z1 (lv_sub hl [0, 1] rfl) hw hI hN (by omega) (by omega) (by omega)

set_option maxHeartbeats 4000000 in
set_option maxRecDepth 100000 in
theorem t_X5_formulasReadBy {τ : Tp} (l : Launch) (B : Nat) (D : va_G) (cA : Nat → ClassId) (kd : sK) (ig : sI) (rg : sR) (lg : sG) (sz : Nat) (x : Int32) (hx0 : 0 ≤ x.toInt ∧ x.toInt < 288) (hI : IC τ B kd ig rg) : MC l B D cA yX5_formulasReadBy cX5_formulasReadBy 4 (some .int) (rL 1 0 0) [.ref (B + 15), .int x] kd ig rg lg sz (Pu kd ig rg lg sz (fun r => ∃ z : Int32, r = some (.int z) ∧ True)) := by
  refine MC.of (own := RX5) (by decide +kernel) rfl (Nat.le_of_ble_eq_true rfl) ?_
  intro p e s m args below meth c ls C hr hlk hnm hw hsz hl
  have hx := C.1.1
  have hb := C.1.2.1
  have hown := C.1.2.2.2.1
  have hts := C.1.2.2.2.2
  have hl : lv_has ls 4 [(0, .ref (B + 15)), (1, .int x)] := hl
  have hsh := hI.sh
  have hrs := hI.rs
  refine lv_iconst (v := 0) hx hb dX5_formulasReadBy_0 (by decide) (ti_c 0 (by decide) fun z1 hz1 => ?_)
  refine lv_istore_n (lv' := [(2, .int z1), (0, .ref (B + 15)), (1, .int x)]) hx hb dX5_formulasReadBy_1 rfl hl (by decide) rfl (fun ls hl => ?_)
  refine lv_iconst (v := 0) hx hb dX5_formulasReadBy_2 (by decide) (ti_c 0 (by decide) fun z2 hz2 => ?_)
  refine lv_istore_n (lv' := [(3, .int z2), (2, .int z1), (0, .ref (B + 15)), (1, .int x)]) hx hb dX5_formulasReadBy_3 rfl hl (by decide) rfl (fun ls hl => ?_)
  have L4 : ∀ (n : Nat) (ls : Array Slot) (H : Heap) (locs : List Loc) (v3 : Int32) (v4 : Int32), lv_has ls 4 [(3, .int v3), (2, .int v4), (0, .ref (B + 15)), (1, .int x)] → WD B D cA s.heap kd ig rg lg H locs → H.size = sz → (0 ≤ v3.toInt) → (v3.toInt ≤ 5) → 5 - v3.toInt < (n : Int) → W p l e (rL 1 0 0) s m args below meth c H locs 0 0 (MQ below (QcW B D cA (Pu kd ig rg lg sz (fun r => ∃ z : Int32, r = some (.int z) ∧ True))) args s 0 0 (fun q => B ≤ q)) (F0 m 4 ls []) := by
    intro n4
    induction n4 with
    | zero => intro ls H locs v3 v4 hl hw hsz g4_0 g4_1 hmu; exact absurd hmu (by omega)
    | succ n4 ih4 =>
      intro ls H locs v3 v4 hl hw hsz g4_0 g4_1 hmu
      refine lv_iload_n hx hb dX5_formulasReadBy_4 rfl (lv_at hl 0 rfl) ?_
      refine lv_iconst (v := 5) hx hb dX5_formulasReadBy_5 (by decide) (ti_c 5 (by decide) fun z5 hz5 => ?_)
      refine b_ge (tgt := 38) hx hb dX5_formulasReadBy_6 (by decide) (fun c6 => ?_) (fun c6 => ?_)
      · refine lv_iload_n hx hb dX5_formulasReadBy_38 rfl (lv_at hl 1 rfl) ?_
        exact r_iret C hw hr hlk rfl (Nat.le_of_ble_eq_true rfl) (Nat.le_of_ble_eq_true rfl) dX5_formulasReadBy_39 ⟨rfl, rfl, rfl, rfl, hsz, ⟨_, rfl, trivial⟩⟩
      · refine lv_iload_n hx hb dX5_formulasReadBy_9 rfl (lv_at hl 1 rfl) ?_
        refine lv_aload_n hx hb dX5_formulasReadBy_10 rfl (lv_at hl 2 rfl) ?_
        refine r_get C hw (hsh 15 _ rfl) fl_X5_23 (oV_r rfl (hrs (15, 4, 18) (by decide))) dX5_formulasReadBy_11 ?_
        refine lv_iload_n hx hb dX5_formulasReadBy_14 rfl (lv_at hl 3 rfl) ?_
        refine lv_iconst (v := 5) hx hb dX5_formulasReadBy_15 (by decide) (ti_c 5 (by decide) fun z6 hz6 => ?_)
        refine lv_imul hx hb dX5_formulasReadBy_16 (tc_mulR 5 hz6 fun z7 hz7 => ?_)
        first | replace hz7 := hz7 (by omega) | clear hz7
        refine lv_iload_n hx hb dX5_formulasReadBy_17 rfl (lv_at hl 0 rfl) ?_
        refine lv_iadd hx hb dX5_formulasReadBy_18 (tc_add fun z8 hz8 => ?_)
        first | replace hz8 := hz8 (by omega) | clear hz8
        refine r_lald C hw (hsh 18 _ rfl) (by omega) (by omega) dX5_formulasReadBy_19 (lv_topl fun x9 hx9 => ?_)
        refine lv_aload_n hx hb dX5_formulasReadBy_20 rfl (lv_at hl 2 rfl) ?_
        refine r_get C hw (hsh 15 _ rfl) fl_X5_19 (oV_r rfl (hrs (15, 3, 17) (by decide))) dX5_formulasReadBy_21 ?_
        refine lv_iload_n hx hb dX5_formulasReadBy_24 rfl (lv_at hl 0 rfl) ?_
        refine r_lald C hw (hsh 17 _ rfl) (by omega) (by omega) dX5_formulasReadBy_25 (lv_topl fun x10 hx10 => ?_)
        refine lv_land hx hb dX5_formulasReadBy_26 (lv_topl fun x11 hx11 => ?_)
        refine r_callS (As := [.long x11]) (rest := [.int v4]) C hw (t_J13_bitCount_95d88 l B D cA kd ig rg lg _ x11  hI) ss_X5_79 rfl hl.1 rfl (Nat.le_of_ble_eq_true rfl) ⟨Nat.le_of_ble_eq_true rfl, Nat.le_of_ble_eq_true rfl⟩ ⟨Nat.le_of_ble_eq_true rfl, Nat.le_of_ble_eq_true rfl⟩ dX5_formulasReadBy_27 (fun r16 kd12 ig13 rg14 lg15 H locs hw hH hp17 => ?_)
        obtain ⟨rfl, rfl, rfl, rfl, hzhp17, hrhp17⟩ := hp17
        have hsz := hzhp17.trans hsz
        obtain ⟨z18, rfl, hz18⟩ := hrhp17
        refine lv_iadd hx hb dX5_formulasReadBy_30 (tc_add fun z19 hz19 => ?_)
        first | replace hz19 := hz19 (by omega) | clear hz19
        refine lv_istore_n (lv' := [(2, .int z19), (3, .int v3), (0, .ref (B + 15)), (1, .int x)]) hx hb dX5_formulasReadBy_31 rfl hl (by decide) rfl (fun ls hl => ?_)
        refine tc_inc hx hb dX5_formulasReadBy_32 hl (k := 1) rfl (by decide) (by decide) (fun z20 hz20 ls hl => ?_)
        first | replace hz20 := hz20 (by omega) | clear hz20
        have hl : lv_has ls 4 [(3, .int z20), (2, .int z19), (0, .ref (B + 15)), (1, .int x)] := hl
        refine lv_goto (tgt := 4) hx hb dX5_formulasReadBy_35 (by decide) ?_
        exact ih4 ls H locs z20 z19 (lv_sub hl [0, 1, 2, 3] rfl) hw hsz (by omega) (by omega) (by omega)
  exact L4 ((5 - z2.toInt) + 1).toNat ls s.heap [] z2 z1 (lv_sub hl [0, 1, 2, 3] rfl) hw hsz (by omega) (by omega) (by omega)

set_option maxHeartbeats 4000000 in
set_option maxRecDepth 100000 in
theorem t_X5_readersOf {τ : Tp} (l : Launch) (B : Nat) (D : va_G) (cA : Nat → ClassId) (kd : sK) (ig : sI) (rg : sR) (lg : sG) (sz : Nat) (x : Int32) (hI : IC τ B kd ig rg) : MC l B D cA yX5_readersOf cX5_readersOf 4 (some .int) (rL 2 0 0) [.ref (B + 15), .int x] kd ig rg lg sz (Pu kd ig rg lg sz (fun r => ∃ z : Int32, r = some (.int z) ∧ True)) := by
  refine MC.of (own := RX5) (by decide +kernel) rfl (Nat.le_of_ble_eq_true rfl) ?_
  intro p e s m args below meth c ls C hr hlk hnm hw hsz hl
  have hx := C.1.1
  have hb := C.1.2.1
  have hown := C.1.2.2.2.1
  have hts := C.1.2.2.2.2
  have hl : lv_has ls 4 [(0, .ref (B + 15)), (1, .int x)] := hl
  have hsh := hI.sh
  have hrs := hI.rs
  refine lv_iconst (v := 0) hx hb dX5_readersOf_0 (by decide) (ti_c 0 (by decide) fun z1 hz1 => ?_)
  refine lv_istore_n (lv' := [(2, .int z1), (0, .ref (B + 15)), (1, .int x)]) hx hb dX5_readersOf_1 rfl hl (by decide) rfl (fun ls hl => ?_)
  refine lv_iconst (v := 0) hx hb dX5_readersOf_2 (by decide) (ti_c 0 (by decide) fun z2 hz2 => ?_)
  refine lv_istore_n (lv' := [(3, .int z2), (2, .int z1), (0, .ref (B + 15)), (1, .int x)]) hx hb dX5_readersOf_3 rfl hl (by decide) rfl (fun ls hl => ?_)
  have L4 : ∀ (n : Nat) (ls : Array Slot) (H : Heap) (locs : List Loc) (v3 : Int32) (v4 : Int32), lv_has ls 4 [(3, .int v3), (2, .int v4), (0, .ref (B + 15)), (1, .int x)] → WD B D cA s.heap kd ig rg lg H locs → H.size = sz → (0 ≤ v3.toInt) → (v3.toInt ≤ 288) → 288 - v3.toInt < (n : Int) → W p l e (rL 2 0 0) s m args below meth c H locs 0 0 (MQ below (QcW B D cA (Pu kd ig rg lg sz (fun r => ∃ z : Int32, r = some (.int z) ∧ True))) args s 0 0 (fun q => B ≤ q)) (F0 m 4 ls []) := by
    intro n4
    induction n4 with
    | zero => intro ls H locs v3 v4 hl hw hsz g4_0 g4_1 hmu; exact absurd hmu (by omega)
    | succ n4 ih4 =>
      intro ls H locs v3 v4 hl hw hsz g4_0 g4_1 hmu
      refine lv_iload_n hx hb dX5_readersOf_4 rfl (lv_at hl 0 rfl) ?_
      refine lv_aload_n hx hb dX5_readersOf_5 rfl (lv_at hl 2 rfl) ?_
      refine r_get C hw (hsh 15 _ rfl) fl_X5_58 (oV_i rfl) dX5_readersOf_6 (ti_c (ig (B + 15) 2).toInt rfl fun z5 hz5 => ?_)
      have k6 : 0 ≤ (ig (B + 15) 2).toInt ∧ (ig (B + 15) 2).toInt ≤ 288 := hI.i 15 2 (by decide)
      refine b_ge (tgt := 38) hx hb dX5_readersOf_9 (by decide) (fun c9 => ?_) (fun c9 => ?_)
      · refine lv_iload_n hx hb dX5_readersOf_38 rfl (lv_at hl 1 rfl) ?_
        exact r_iret C hw hr hlk rfl (Nat.le_of_ble_eq_true rfl) (Nat.le_of_ble_eq_true rfl) dX5_readersOf_39 ⟨rfl, rfl, rfl, rfl, hsz, ⟨_, rfl, trivial⟩⟩
      · refine lv_aload_n hx hb dX5_readersOf_12 rfl (lv_at hl 2 rfl) ?_
        refine r_get C hw (hsh 15 _ rfl) fl_X5_23 (oV_r rfl (hrs (15, 4, 18) (by decide))) dX5_readersOf_13 ?_
        refine lv_aload_n hx hb dX5_readersOf_16 rfl (lv_at hl 2 rfl) ?_
        refine r_get C hw (hsh 15 _ rfl) fl_X5_15 (oV_r rfl (hrs (15, 1, 16) (by decide))) dX5_readersOf_17 ?_
        refine lv_iload_n hx hb dX5_readersOf_20 rfl (lv_at hl 0 rfl) ?_
        refine r_iald C hw (hsh 16 _ rfl) (by omega) (by omega) dX5_readersOf_21 (ti_c (ig (B + 16) v3.toInt.toNat).toInt rfl fun z7 hz7 => ?_)
        have k8 : 0 ≤ (ig (B + 16) v3.toInt.toNat).toInt ∧ (ig (B + 16) v3.toInt.toNat).toInt ≤ 287 := hI.i 16 v3.toInt.toNat (by decide)
        refine lv_iload_n hx hb dX5_readersOf_22 rfl (lv_at hl 3 rfl) ?_
        refine r_callN (As := [.ref (B + 18), .int z7, .int x]) (rest := []) C hw (t_X11_hasBit l B D cA kd ig rg lg _ 18 (Or.inl rfl) z7 x  hI) sn_X5_85 rfl hl.1 rfl (Nat.le_of_ble_eq_true rfl) ⟨Nat.le_of_ble_eq_true rfl, Nat.le_of_ble_eq_true rfl⟩ ⟨Nat.le_of_ble_eq_true rfl, Nat.le_of_ble_eq_true rfl⟩ dX5_readersOf_23 (fun r13 kd9 ig10 rg11 lg12 H locs hw hH hp14 => ?_)
        obtain ⟨rfl, rfl, rfl, rfl, hzhp14, hrhp14⟩ := hp14
        have hsz := hzhp14.trans hsz
        obtain ⟨z15, rfl, hz15⟩ := hrhp14
        refine z_eq (tgt := 32) hx hb dX5_readersOf_26 (by decide) (fun c26 => ?_) (fun c26 => ?_)
        · refine tc_inc hx hb dX5_readersOf_32 hl (k := 0) rfl (by decide) (by decide) (fun z16 hz16 ls hl => ?_)
          first | replace hz16 := hz16 (by omega) | clear hz16
          have hl : lv_has ls 4 [(3, .int z16), (2, .int v4), (0, .ref (B + 15)), (1, .int x)] := hl
          refine lv_goto (tgt := 4) hx hb dX5_readersOf_35 (by decide) ?_
          exact ih4 ls H locs z16 v4 (lv_sub hl [0, 1, 2, 3] rfl) hw hsz (by omega) (by omega) (by omega)
        · refine tc_inc hx hb dX5_readersOf_29 hl (k := 1) rfl (by decide) (by decide) (fun z17 hz17 ls hl => ?_)
          first | replace hz17 := hz17 (by omega) | clear hz17
          have hl : lv_has ls 4 [(2, .int z17), (3, .int v3), (0, .ref (B + 15)), (1, .int x)] := hl
          refine tc_inc hx hb dX5_readersOf_32 hl (k := 1) rfl (by decide) (by decide) (fun z18 hz18 ls hl => ?_)
          first | replace hz18 := hz18 (by omega) | clear hz18
          have hl : lv_has ls 4 [(3, .int z18), (2, .int z17), (0, .ref (B + 15)), (1, .int x)] := hl
          refine lv_goto (tgt := 4) hx hb dX5_readersOf_35 (by decide) ?_
          exact ih4 ls H locs z18 z17 (lv_sub hl [0, 1, 2, 3] rfl) hw hsz (by omega) (by omega) (by omega)
  exact L4 ((288 - z2.toInt) + 1).toNat ls s.heap [] z2 z1 (lv_sub hl [0, 1, 2, 3] rfl) hw hsz (by omega) (by omega) (by omega)

set_option maxHeartbeats 4000000 in
set_option maxRecDepth 100000 in
theorem t_X5_release {τ : Tp} (l : Launch) (B : Nat) (D : va_G) (cA : Nat → ClassId) (kd : sK) (ig : sI) (rg : sR) (lg : sG) (sz : Nat) (x : Int32) (hx0 : 0 ≤ x.toInt ∧ x.toInt ≤ 288) (hI : IC τ B kd ig rg) : MC l B D cA yX5_release cX5_release 5 none (rL 2 0 0) [.ref (B + 15), .int x] kd ig rg lg sz (PI 1014 τ B none kd ig rg lg (fun r kd' ig' rg' lg' => r = none)) := by
  refine MC.of (own := RX5) (by decide +kernel) rfl (Nat.le_of_ble_eq_true rfl) ?_
  intro p e s m args below meth c ls C hr hlk hnm hw hsz hl
  have hx := C.1.1
  have hb := C.1.2.1
  have hown := C.1.2.2.2.1
  have hts := C.1.2.2.2.2
  have hl : lv_has ls 5 [(0, .ref (B + 15)), (1, .int x)] := hl
  have hN : Nx 1014 B none kd ig rg lg kd ig rg lg := Nx.rf
  have hsh := hI.sh
  have hrs := hI.rs
  refine lv_iload_n hx hb dX5_release_0 rfl (lv_at hl 1 rfl) ?_
  refine lv_istore_n (lv' := [(2, .int x), (0, .ref (B + 15)), (1, .int x)]) hx hb dX5_release_1 rfl hl (by decide) rfl (fun ls hl => ?_)
  have L2 : ∀ (n : Nat) (ls : Array Slot) (H : Heap) (locs : List Loc) (kd2 : sK) (ig3 : sI) (rg4 : sR) (lg5 : sG) (v1 : Int32), lv_has ls 5 [(2, .int v1), (0, .ref (B + 15))] → WD B D cA s.heap kd2 ig3 rg4 lg5 H locs → IC τ B kd2 ig3 rg4 → Nx 1014 B none kd ig rg lg kd2 ig3 rg4 lg5 → (0 ≤ v1.toInt) → (v1.toInt ≤ 288) → 288 - v1.toInt < (n : Int) → W p l e (rL 2 0 0) s m args below meth c H locs 0 0 (MQ below (QcW B D cA (PI 1014 τ B none kd ig rg lg (fun r kd' ig' rg' lg' => r = none))) args s 0 0 (fun q => B ≤ q)) (F0 m 2 ls []) := by
    intro n2
    induction n2 with
    | zero => intro ls H locs kd2 ig3 rg4 lg5 v1 hl hw hI hN g2_0 g2_1 hmu; exact absurd hmu (by omega)
    | succ n2 ih2 =>
      intro ls H locs kd2 ig3 rg4 lg5 v1 hl hw hI hN g2_0 g2_1 hmu
      have hsh := hI.sh
      have hrs := hI.rs
      refine lv_iload_n hx hb dX5_release_2 rfl (lv_at hl 0 rfl) ?_
      refine lv_aload_n hx hb dX5_release_3 rfl (lv_at hl 1 rfl) ?_
      refine r_get C hw (hsh 15 _ rfl) fl_X5_55 (oV_i rfl) dX5_release_4 (ti_c (ig3 (B + 15) 9).toInt rfl fun z6 hz6 => ?_)
      have k7 : 0 ≤ (ig3 (B + 15) 9).toInt ∧ (ig3 (B + 15) 9).toInt ≤ 288 := hI.i 15 9 (by decide)
      refine b_ge (tgt := 102) hx hb dX5_release_7 (by decide) (fun c7 => ?_) (fun c7 => ?_)
      · exact r_vret C hw hr hlk (Nat.le_of_ble_eq_true rfl) (Nat.le_of_ble_eq_true rfl) dX5_release_102 ⟨hI, hN, rfl⟩
      · refine lv_iload_n hx hb dX5_release_10 rfl (lv_at hl 0 rfl) ?_
        refine lv_sipush (v := 288) hx hb dX5_release_11 (by decide) (ti_c 288 (by decide) fun z8 hz8 => ?_)
        refine b_ge (tgt := 102) hx hb dX5_release_14 (by decide) (fun c14 => ?_) (fun c14 => ?_)
        · exact r_vret C hw hr hlk (Nat.le_of_ble_eq_true rfl) (Nat.le_of_ble_eq_true rfl) dX5_release_102 ⟨hI, hN, rfl⟩
        · refine lv_iconst (v := 0) hx hb dX5_release_17 (by decide) (ti_c 0 (by decide) fun z9 hz9 => ?_)
          refine lv_istore_n (lv' := [(3, .int z9), (2, .int v1), (0, .ref (B + 15))]) hx hb dX5_release_18 rfl hl (by decide) rfl (fun ls hl => ?_)
          have L19 : ∀ (n : Nat) (ls : Array Slot) (H : Heap) (locs : List Loc) (kd11 : sK) (ig12 : sI) (rg13 : sR) (lg14 : sG) (v10 : Int32), lv_has ls 5 [(3, .int v10), (2, .int v1), (0, .ref (B + 15))] → WD B D cA s.heap kd11 ig12 rg13 lg14 H locs → IC τ B kd11 ig12 rg13 → Nx 1014 B none kd ig rg lg kd11 ig12 rg13 lg14 → (0 ≤ v10.toInt) → (v10.toInt ≤ 288) → 288 - v10.toInt < (n : Int) → W p l e (rL 2 0 0) s m args below meth c H locs 0 0 (MQ below (QcW B D cA (PI 1014 τ B none kd ig rg lg (fun r kd' ig' rg' lg' => r = none))) args s 0 0 (fun q => B ≤ q)) (F0 m 19 ls []) := by
            intro n19
            induction n19 with
            | zero => intro ls H locs kd11 ig12 rg13 lg14 v10 hl hw hI hN g19_0 g19_1 hmu; exact absurd hmu (by omega)
            | succ n19 ih19 =>
              intro ls H locs kd11 ig12 rg13 lg14 v10 hl hw hI hN g19_0 g19_1 hmu
              have hsh := hI.sh
              have hrs := hI.rs
              refine lv_iload_n hx hb dX5_release_19 rfl (lv_at hl 0 rfl) ?_
              refine lv_aload_n hx hb dX5_release_20 rfl (lv_at hl 2 rfl) ?_
              refine r_get C hw (hsh 15 _ rfl) fl_X5_58 (oV_i rfl) dX5_release_21 (ti_c (ig12 (B + 15) 2).toInt rfl fun z15 hz15 => ?_)
              have k16 : 0 ≤ (ig12 (B + 15) 2).toInt ∧ (ig12 (B + 15) 2).toInt ≤ 288 := hI.i 15 2 (by decide)
              refine b_ge (tgt := 96) hx hb dX5_release_24 (by decide) (fun c24 => ?_) (fun c24 => ?_)
              · refine tc_inc hx hb dX5_release_96 hl (k := 1) rfl (by decide) (by decide) (fun z17 hz17 ls hl => ?_)
                first | replace hz17 := hz17 (by omega) | clear hz17
                have hl : lv_has ls 5 [(2, .int z17), (3, .int v10), (0, .ref (B + 15))] := hl
                refine lv_goto (tgt := 2) hx hb dX5_release_99 (by decide) ?_
                exact ih2 ls H locs kd11 ig12 rg13 lg14 z17 (lv_sub hl [0, 2] rfl) hw hI hN (by omega) (by omega) (by omega)
              · refine lv_aload_n hx hb dX5_release_27 rfl (lv_at hl 2 rfl) ?_
                refine r_get C hw (hsh 15 _ rfl) fl_X5_15 (oV_r rfl (hrs (15, 1, 16) (by decide))) dX5_release_28 ?_
                refine lv_iload_n hx hb dX5_release_31 rfl (lv_at hl 0 rfl) ?_
                refine r_iald C hw (hsh 16 _ rfl) (by omega) (by omega) dX5_release_32 (ti_c (ig12 (B + 16) v10.toInt.toNat).toInt rfl fun z18 hz18 => ?_)
                have k19 : 0 ≤ (ig12 (B + 16) v10.toInt.toNat).toInt ∧ (ig12 (B + 16) v10.toInt.toNat).toInt ≤ 287 := hI.i 16 v10.toInt.toNat (by decide)
                refine lv_istore (lv' := [(4, .int z18), (3, .int v10), (2, .int v1), (0, .ref (B + 15))]) hx hb dX5_release_33 hl (by decide) rfl (fun ls hl => ?_)
                refine lv_aload_n hx hb dX5_release_35 rfl (lv_at hl 3 rfl) ?_
                refine r_get C hw (hsh 15 _ rfl) fl_X5_33 (oV_r rfl (hrs (15, 7, 21) (by decide))) dX5_release_36 ?_
                refine lv_iload hx hb dX5_release_39 (lv_at hl 0 rfl) ?_
                refine r_iald C hw (hsh 21 _ rfl) (by omega) (by omega) dX5_release_41 (ti_c (ig12 (B + 21) z18.toInt.toNat).toInt rfl fun z20 hz20 => ?_)
                refine z_le (tgt := 90) hx hb dX5_release_42 (by decide) (fun c42 => ?_) (fun c42 => ?_)
                · refine tc_inc hx hb dX5_release_90 hl (k := 1) rfl (by decide) (by decide) (fun z21 hz21 ls hl => ?_)
                  first | replace hz21 := hz21 (by omega) | clear hz21
                  have hl : lv_has ls 5 [(3, .int z21), (4, .int z18), (2, .int v1), (0, .ref (B + 15))] := hl
                  refine lv_goto (tgt := 19) hx hb dX5_release_93 (by decide) ?_
                  exact ih19 ls H locs kd11 ig12 rg13 lg14 z21 (lv_sub hl [0, 2, 3] rfl) hw hI hN (by omega) (by omega) (by omega)
                · refine lv_aload_n hx hb dX5_release_45 rfl (lv_at hl 3 rfl) ?_
                  refine r_get C hw (hsh 15 _ rfl) fl_X5_23 (oV_r rfl (hrs (15, 4, 18) (by decide))) dX5_release_46 ?_
                  refine lv_iload hx hb dX5_release_49 (lv_at hl 0 rfl) ?_
                  refine lv_aload_n hx hb dX5_release_51 rfl (lv_at hl 3 rfl) ?_
                  refine r_get C hw (hsh 15 _ rfl) fl_X5_36 (oV_r rfl (hrs (15, 8, 22) (by decide))) dX5_release_52 ?_
                  refine lv_iload_n hx hb dX5_release_55 rfl (lv_at hl 2 rfl) ?_
                  refine r_iald C hw (hsh 22 _ rfl) (by omega) (by omega) dX5_release_56 (ti_c (ig12 (B + 22) v1.toInt.toNat).toInt rfl fun z22 hz22 => ?_)
                  refine r_callN (As := [.ref (B + 18), .int z18, .int z22]) (rest := []) C hw (t_X11_hasBit l B D cA kd11 ig12 rg13 lg14 _ 18 (Or.inl rfl) z18 z22  hI) sn_X5_85 rfl hl.1 rfl (Nat.le_of_ble_eq_true rfl) ⟨Nat.le_of_ble_eq_true rfl, Nat.le_of_ble_eq_true rfl⟩ ⟨Nat.le_of_ble_eq_true rfl, Nat.le_of_ble_eq_true rfl⟩ dX5_release_57 (fun r27 kd23 ig24 rg25 lg26 H locs hw hH hp28 => ?_)
                  obtain ⟨rfl, rfl, rfl, rfl, hzhp28, hrhp28⟩ := hp28
                  obtain ⟨z29, rfl, hz29⟩ := hrhp28
                  refine z_eq (tgt := 90) hx hb dX5_release_60 (by decide) (fun c60 => ?_) (fun c60 => ?_)
                  · refine tc_inc hx hb dX5_release_90 hl (k := 1) rfl (by decide) (by decide) (fun z30 hz30 ls hl => ?_)
                    first | replace hz30 := hz30 (by omega) | clear hz30
                    have hl : lv_has ls 5 [(3, .int z30), (4, .int z18), (2, .int v1), (0, .ref (B + 15))] := hl
                    refine lv_goto (tgt := 19) hx hb dX5_release_93 (by decide) ?_
                    exact ih19 ls H locs kd11 ig12 rg13 lg14 z30 (lv_sub hl [0, 2, 3] rfl) hw hI hN (by omega) (by omega) (by omega)
                  · refine lv_aload_n hx hb dX5_release_63 rfl (lv_at hl 3 rfl) ?_
                    refine r_get C hw (hsh 15 _ rfl) fl_X5_33 (oV_r rfl (hrs (15, 7, 21) (by decide))) dX5_release_64 ?_
                    refine lv_iload hx hb dX5_release_67 (lv_at hl 0 rfl) ?_
                    refine lv_dup2_11 hx hb dX5_release_69 rfl rfl ?_
                    refine r_iald C hw (hsh 21 _ rfl) (by omega) (by omega) dX5_release_70 (ti_c (ig12 (B + 21) z18.toInt.toNat).toInt rfl fun z31 hz31 => ?_)
                    refine lv_iconst (v := 1) hx hb dX5_release_71 (by decide) (ti_c 1 (by decide) fun z32 hz32 => ?_)
                    refine lv_isub hx hb dX5_release_72 (tc_sub fun z33 hz33 => ?_)
                    first | replace hz33 := hz33 (by omega) | clear hz33
                    refine r_iast C hw (hsh 21 _ rfl) (by omega) (by omega) dX5_release_73 (fun H locs hH hw => ?_)
                    obtain ⟨ig34, eig34⟩ : ∃ f, f = up2 ig12 (B + 21) z18.toInt.toNat z33 := ⟨_, rfl⟩
                    rw [← eig34] at hw
                    have hN : Nx 1014 B none kd ig rg lg kd11 ig34 rg13 lg14 := by rw [eig34]; exact hN.pi (by omega)
                    have hI : IC τ B kd11 ig34 rg13 := by rw [eig34]; exact hI.pi (show okR none _ from trivial)
                    have wig34_15_9 : (ig34 (B + 15) 9).toInt = (ig12 (B + 15) 9).toInt := by rw [eig34, up2_a (by omega)]
                    have wig34_15_2 : (ig34 (B + 15) 2).toInt = (ig12 (B + 15) 2).toInt := by rw [eig34, up2_a (by omega)]
                    refine lv_aload_n hx hb dX5_release_74 rfl (lv_at hl 3 rfl) ?_
                    refine r_get C hw (hsh 15 _ rfl) fl_X5_33 (oV_r rfl (hrs (15, 7, 21) (by decide))) dX5_release_75 ?_
                    refine lv_iload hx hb dX5_release_78 (lv_at hl 0 rfl) ?_
                    refine r_iald C hw (hsh 21 _ rfl) (by omega) (by omega) dX5_release_80 (ti_c (ig34 (B + 21) z18.toInt.toNat).toInt rfl fun z35 hz35 => ?_)
                    refine z_ne (tgt := 90) hx hb dX5_release_81 (by decide) (fun c81 => ?_) (fun c81 => ?_)
                    · refine tc_inc hx hb dX5_release_90 hl (k := 1) rfl (by decide) (by decide) (fun z36 hz36 ls hl => ?_)
                      first | replace hz36 := hz36 (by omega) | clear hz36
                      have hl : lv_has ls 5 [(3, .int z36), (4, .int z18), (2, .int v1), (0, .ref (B + 15))] := hl
                      refine lv_goto (tgt := 19) hx hb dX5_release_93 (by decide) ?_
                      exact ih19 ls H locs kd11 ig34 rg13 lg14 z36 (lv_sub hl [0, 2, 3] rfl) hw hI hN (by omega) (by omega) (by omega)
                    · refine lv_aload_n hx hb dX5_release_84 rfl (lv_at hl 3 rfl) ?_
                      refine lv_iload hx hb dX5_release_85 (lv_at hl 0 rfl) ?_
                      refine r_callV (As := [.int z18]) (rest := []) C hw (t_X5_appendToOrder l B D cA kd11 ig34 rg13 lg14 _ z18  hI) sv_X5_65 (hsh 15 _ rfl) rfl hl.1 rfl (Nat.le_of_ble_eq_true rfl) ⟨Nat.le_of_ble_eq_true rfl, Nat.le_of_ble_eq_true rfl⟩ ⟨Nat.le_of_ble_eq_true rfl, Nat.le_of_ble_eq_true rfl⟩ dX5_release_87 (fun r41 kd37 ig38 rg39 lg40 H locs hw hH hp42 => ?_)
                      obtain ⟨hI, hchp42, hrhp42⟩ := hp42
                      have hN := hN.tr hchp42
                      have hsh := hI.sh
                      have hrs := hI.rs
                      obtain rfl := hrhp42
                      refine tc_inc hx hb dX5_release_90 hl (k := 1) rfl (by decide) (by decide) (fun z43 hz43 ls hl => ?_)
                      first | replace hz43 := hz43 (by omega) | clear hz43
                      have hl : lv_has ls 5 [(3, .int z43), (4, .int z18), (2, .int v1), (0, .ref (B + 15))] := hl
                      refine lv_goto (tgt := 19) hx hb dX5_release_93 (by decide) ?_
                      exact ih19 ls H locs kd37 ig38 rg39 lg40 z43 (lv_sub hl [0, 2, 3] rfl) hw hI hN (by omega) (by omega) (by omega)
          exact L19 ((288 - z9.toInt) + 1).toNat ls H locs kd2 ig3 rg4 lg5 z9 (lv_sub hl [0, 1, 2] rfl) hw hI hN (by omega) (by omega) (by omega)
  exact L2 ((288 - x.toInt) + 1).toNat ls s.heap [] kd ig rg lg x (lv_sub hl [0, 1] rfl) hw hI hN (by omega) (by omega) (by omega)

set_option maxHeartbeats 4000000 in
set_option maxRecDepth 100000 in
theorem t_X5_reachThrough {τ : Tp} (l : Launch) (B : Nat) (D : va_G) (cA : Nat → ClassId) (kd : sK) (ig : sI) (rg : sR) (lg : sG) (sz : Nat) (x : Int32) (hx0 : 0 ≤ x.toInt ∧ x.toInt < 288) (hI : IC τ B kd ig rg) : MC l B D cA yX5_reachThrough cX5_reachThrough 5 none (rL 2 0 0) [.ref (B + 15), .int x] kd ig rg lg sz (PI 1014 τ B none kd ig rg lg (fun r kd' ig' rg' lg' => r = none)) := by
  refine MC.of (own := RX5) (by decide +kernel) rfl (Nat.le_of_ble_eq_true rfl) ?_
  intro p e s m args below meth c ls C hr hlk hnm hw hsz hl
  have hx := C.1.1
  have hb := C.1.2.1
  have hown := C.1.2.2.2.1
  have hts := C.1.2.2.2.2
  have hl : lv_has ls 5 [(0, .ref (B + 15)), (1, .int x)] := hl
  have hN : Nx 1014 B none kd ig rg lg kd ig rg lg := Nx.rf
  have hsh := hI.sh
  have hrs := hI.rs
  refine lv_iconst (v := 0) hx hb dX5_reachThrough_0 (by decide) (ti_c 0 (by decide) fun z1 hz1 => ?_)
  refine lv_istore_n (lv' := [(2, .int z1), (0, .ref (B + 15)), (1, .int x)]) hx hb dX5_reachThrough_1 rfl hl (by decide) rfl (fun ls hl => ?_)
  have L2 : ∀ (n : Nat) (ls : Array Slot) (H : Heap) (locs : List Loc) (kd3 : sK) (ig4 : sI) (rg5 : sR) (lg6 : sG) (v2 : Int32), lv_has ls 5 [(2, .int v2), (0, .ref (B + 15)), (1, .int x)] → WD B D cA s.heap kd3 ig4 rg5 lg6 H locs → IC τ B kd3 ig4 rg5 → Nx 1014 B none kd ig rg lg kd3 ig4 rg5 lg6 → (0 ≤ v2.toInt) → (v2.toInt ≤ 288) → 288 - v2.toInt < (n : Int) → W p l e (rL 2 0 0) s m args below meth c H locs 0 0 (MQ below (QcW B D cA (PI 1014 τ B none kd ig rg lg (fun r kd' ig' rg' lg' => r = none))) args s 0 0 (fun q => B ≤ q)) (F0 m 2 ls []) := by
    intro n2
    induction n2 with
    | zero => intro ls H locs kd3 ig4 rg5 lg6 v2 hl hw hI hN g2_0 g2_1 hmu; exact absurd hmu (by omega)
    | succ n2 ih2 =>
      intro ls H locs kd3 ig4 rg5 lg6 v2 hl hw hI hN g2_0 g2_1 hmu
      have hsh := hI.sh
      have hrs := hI.rs
      refine lv_iload_n hx hb dX5_reachThrough_2 rfl (lv_at hl 0 rfl) ?_
      refine lv_aload_n hx hb dX5_reachThrough_3 rfl (lv_at hl 1 rfl) ?_
      refine r_get C hw (hsh 15 _ rfl) fl_X5_58 (oV_i rfl) dX5_reachThrough_4 (ti_c (ig4 (B + 15) 2).toInt rfl fun z7 hz7 => ?_)
      have k8 : 0 ≤ (ig4 (B + 15) 2).toInt ∧ (ig4 (B + 15) 2).toInt ≤ 288 := hI.i 15 2 (by decide)
      refine b_ge (tgt := 84) hx hb dX5_reachThrough_7 (by decide) (fun c7 => ?_) (fun c7 => ?_)
      · exact r_vret C hw hr hlk (Nat.le_of_ble_eq_true rfl) (Nat.le_of_ble_eq_true rfl) dX5_reachThrough_84 ⟨hI, hN, rfl⟩
      · refine lv_aload_n hx hb dX5_reachThrough_10 rfl (lv_at hl 1 rfl) ?_
        refine r_get C hw (hsh 15 _ rfl) fl_X5_15 (oV_r rfl (hrs (15, 1, 16) (by decide))) dX5_reachThrough_11 ?_
        refine lv_iload_n hx hb dX5_reachThrough_14 rfl (lv_at hl 0 rfl) ?_
        refine r_iald C hw (hsh 16 _ rfl) (by omega) (by omega) dX5_reachThrough_15 (ti_c (ig4 (B + 16) v2.toInt.toNat).toInt rfl fun z9 hz9 => ?_)
        have k10 : 0 ≤ (ig4 (B + 16) v2.toInt.toNat).toInt ∧ (ig4 (B + 16) v2.toInt.toNat).toInt ≤ 287 := hI.i 16 v2.toInt.toNat (by decide)
        refine lv_istore_n (lv' := [(3, .int z9), (2, .int v2), (0, .ref (B + 15)), (1, .int x)]) hx hb dX5_reachThrough_16 rfl hl (by decide) rfl (fun ls hl => ?_)
        refine lv_aload_n hx hb dX5_reachThrough_17 rfl (lv_at hl 2 rfl) ?_
        refine r_get C hw (hsh 15 _ rfl) fl_X5_33 (oV_r rfl (hrs (15, 7, 21) (by decide))) dX5_reachThrough_18 ?_
        refine lv_iload_n hx hb dX5_reachThrough_21 rfl (lv_at hl 0 rfl) ?_
        refine r_iald C hw (hsh 21 _ rfl) (by omega) (by omega) dX5_reachThrough_22 (ti_c (ig4 (B + 21) z9.toInt.toNat).toInt rfl fun z11 hz11 => ?_)
        refine z_le (tgt := 78) hx hb dX5_reachThrough_23 (by decide) (fun c23 => ?_) (fun c23 => ?_)
        · refine tc_inc hx hb dX5_reachThrough_78 hl (k := 1) rfl (by decide) (by decide) (fun z12 hz12 ls hl => ?_)
          first | replace hz12 := hz12 (by omega) | clear hz12
          have hl : lv_has ls 5 [(2, .int z12), (3, .int z9), (0, .ref (B + 15)), (1, .int x)] := hl
          refine lv_goto (tgt := 2) hx hb dX5_reachThrough_81 (by decide) ?_
          exact ih2 ls H locs kd3 ig4 rg5 lg6 z12 (lv_sub hl [0, 2, 3] rfl) hw hI hN (by omega) (by omega) (by omega)
        · refine lv_aload_n hx hb dX5_reachThrough_26 rfl (lv_at hl 2 rfl) ?_
          refine r_get C hw (hsh 15 _ rfl) fl_X5_26 (oV_r rfl (hrs (15, 5, 19) (by decide))) dX5_reachThrough_27 ?_
          refine lv_iload_n hx hb dX5_reachThrough_30 rfl (lv_at hl 0 rfl) ?_
          refine lv_iload_n hx hb dX5_reachThrough_31 rfl (lv_at hl 3 rfl) ?_
          refine r_callN (As := [.ref (B + 19), .int z9, .int x]) (rest := []) C hw (t_X11_hasBit l B D cA kd3 ig4 rg5 lg6 _ 19 (Or.inr (Or.inl rfl)) z9 x  hI) sn_X5_85 rfl hl.1 rfl (Nat.le_of_ble_eq_true rfl) ⟨Nat.le_of_ble_eq_true rfl, Nat.le_of_ble_eq_true rfl⟩ ⟨Nat.le_of_ble_eq_true rfl, Nat.le_of_ble_eq_true rfl⟩ dX5_reachThrough_32 (fun r17 kd13 ig14 rg15 lg16 H locs hw hH hp18 => ?_)
          obtain ⟨rfl, rfl, rfl, rfl, hzhp18, hrhp18⟩ := hp18
          obtain ⟨z19, rfl, hz19⟩ := hrhp18
          refine z_eq (tgt := 78) hx hb dX5_reachThrough_35 (by decide) (fun c35 => ?_) (fun c35 => ?_)
          · refine tc_inc hx hb dX5_reachThrough_78 hl (k := 1) rfl (by decide) (by decide) (fun z20 hz20 ls hl => ?_)
            first | replace hz20 := hz20 (by omega) | clear hz20
            have hl : lv_has ls 5 [(2, .int z20), (3, .int z9), (0, .ref (B + 15)), (1, .int x)] := hl
            refine lv_goto (tgt := 2) hx hb dX5_reachThrough_81 (by decide) ?_
            exact ih2 ls H locs kd3 ig4 rg5 lg6 z20 (lv_sub hl [0, 2, 3] rfl) hw hI hN (by omega) (by omega) (by omega)
          · refine lv_iconst (v := 0) hx hb dX5_reachThrough_38 (by decide) (ti_c 0 (by decide) fun z21 hz21 => ?_)
            refine lv_istore (lv' := [(4, .int z21), (3, .int z9), (2, .int v2), (0, .ref (B + 15)), (1, .int x)]) hx hb dX5_reachThrough_39 hl (by decide) rfl (fun ls hl => ?_)
            have L41 : ∀ (n : Nat) (ls : Array Slot) (H : Heap) (locs : List Loc) (kd23 : sK) (ig24 : sI) (rg25 : sR) (lg26 : sG) (v22 : Int32), lv_has ls 5 [(4, .int v22), (3, .int z9), (2, .int v2), (0, .ref (B + 15)), (1, .int x)] → WD B D cA s.heap kd23 ig24 rg25 lg26 H locs → IC τ B kd23 ig24 rg25 → Nx 1014 B none kd ig rg lg kd23 ig24 rg25 lg26 → (0 ≤ v22.toInt) → (v22.toInt ≤ 5) → 5 - v22.toInt < (n : Int) → W p l e (rL 2 0 0) s m args below meth c H locs 0 0 (MQ below (QcW B D cA (PI 1014 τ B none kd ig rg lg (fun r kd' ig' rg' lg' => r = none))) args s 0 0 (fun q => B ≤ q)) (F0 m 41 ls []) := by
              intro n41
              induction n41 with
              | zero => intro ls H locs kd23 ig24 rg25 lg26 v22 hl hw hI hN g41_0 g41_1 hmu; exact absurd hmu (by omega)
              | succ n41 ih41 =>
                intro ls H locs kd23 ig24 rg25 lg26 v22 hl hw hI hN g41_0 g41_1 hmu
                have hsh := hI.sh
                have hrs := hI.rs
                refine lv_iload hx hb dX5_reachThrough_41 (lv_at hl 0 rfl) ?_
                refine lv_iconst (v := 5) hx hb dX5_reachThrough_43 (by decide) (ti_c 5 (by decide) fun z27 hz27 => ?_)
                refine b_ge (tgt := 78) hx hb dX5_reachThrough_44 (by decide) (fun c44 => ?_) (fun c44 => ?_)
                · refine tc_inc hx hb dX5_reachThrough_78 hl (k := 2) rfl (by decide) (by decide) (fun z28 hz28 ls hl => ?_)
                  first | replace hz28 := hz28 (by omega) | clear hz28
                  have hl : lv_has ls 5 [(2, .int z28), (4, .int v22), (3, .int z9), (0, .ref (B + 15)), (1, .int x)] := hl
                  refine lv_goto (tgt := 2) hx hb dX5_reachThrough_81 (by decide) ?_
                  exact ih2 ls H locs kd23 ig24 rg25 lg26 z28 (lv_sub hl [0, 3, 4] rfl) hw hI hN (by omega) (by omega) (by omega)
                · refine lv_aload_n hx hb dX5_reachThrough_47 rfl (lv_at hl 3 rfl) ?_
                  refine r_get C hw (hsh 15 _ rfl) fl_X5_26 (oV_r rfl (hrs (15, 5, 19) (by decide))) dX5_reachThrough_48 ?_
                  refine lv_iload_n hx hb dX5_reachThrough_51 rfl (lv_at hl 1 rfl) ?_
                  refine lv_iconst (v := 5) hx hb dX5_reachThrough_52 (by decide) (ti_c 5 (by decide) fun z29 hz29 => ?_)
                  refine lv_imul hx hb dX5_reachThrough_53 (tc_mulR 5 hz29 fun z30 hz30 => ?_)
                  first | replace hz30 := hz30 (by omega) | clear hz30
                  refine lv_iload hx hb dX5_reachThrough_54 (lv_at hl 0 rfl) ?_
                  refine lv_iadd hx hb dX5_reachThrough_56 (tc_add fun z31 hz31 => ?_)
                  first | replace hz31 := hz31 (by omega) | clear hz31
                  refine lv_dup2_11 hx hb dX5_reachThrough_57 rfl rfl ?_
                  refine r_lald C hw (hsh 19 _ rfl) (by omega) (by omega) dX5_reachThrough_58 (lv_topl fun x32 hx32 => ?_)
                  refine lv_aload_n hx hb dX5_reachThrough_59 rfl (lv_at hl 3 rfl) ?_
                  refine r_get C hw (hsh 15 _ rfl) fl_X5_26 (oV_r rfl (hrs (15, 5, 19) (by decide))) dX5_reachThrough_60 ?_
                  refine lv_iload_n hx hb dX5_reachThrough_63 rfl (lv_at hl 4 rfl) ?_
                  refine lv_iconst (v := 5) hx hb dX5_reachThrough_64 (by decide) (ti_c 5 (by decide) fun z33 hz33 => ?_)
                  refine lv_imul hx hb dX5_reachThrough_65 (tc_mulR 5 hz33 fun z34 hz34 => ?_)
                  first | replace hz34 := hz34 (by omega) | clear hz34
                  refine lv_iload hx hb dX5_reachThrough_66 (lv_at hl 0 rfl) ?_
                  refine lv_iadd hx hb dX5_reachThrough_68 (tc_add fun z35 hz35 => ?_)
                  first | replace hz35 := hz35 (by omega) | clear hz35
                  refine r_lald C hw (hsh 19 _ rfl) (by omega) (by omega) dX5_reachThrough_69 (lv_topl fun x36 hx36 => ?_)
                  refine lv_lor hx hb dX5_reachThrough_70 (lv_topl fun x37 hx37 => ?_)
                  refine r_last C hw (hsh 19 _ rfl) (by omega) (by omega) dX5_reachThrough_71 (fun H locs hH hw => ?_)
                  obtain ⟨lg38, elg38⟩ : ∃ f, f = up2 lg26 (B + 19) z31.toInt.toNat x37 := ⟨_, rfl⟩
                  rw [← elg38] at hw
                  have hN : Nx 1014 B none kd ig rg lg kd23 ig24 rg25 lg38 := by rw [elg38]; exact hN.pl (by omega)
                  refine tc_inc hx hb dX5_reachThrough_72 hl (k := 0) rfl (by decide) (by decide) (fun z39 hz39 ls hl => ?_)
                  first | replace hz39 := hz39 (by omega) | clear hz39
                  have hl : lv_has ls 5 [(4, .int z39), (3, .int z9), (2, .int v2), (0, .ref (B + 15)), (1, .int x)] := hl
                  refine lv_goto (tgt := 41) hx hb dX5_reachThrough_75 (by decide) ?_
                  exact ih41 ls H locs kd23 ig24 rg25 lg38 z39 (lv_sub hl [0, 1, 2, 3, 4] rfl) hw hI hN (by omega) (by omega) (by omega)
            exact L41 ((5 - z21.toInt) + 1).toNat ls H locs kd3 ig4 rg5 lg6 z21 (lv_sub hl [0, 1, 2, 3, 4] rfl) hw hI hN (by omega) (by omega) (by omega)
  exact L2 ((288 - z1.toInt) + 1).toNat ls s.heap [] kd ig rg lg z1 (lv_sub hl [0, 1, 2] rfl) hw hI hN (by omega) (by omega) (by omega)

set_option maxHeartbeats 4000000 in
set_option maxRecDepth 100000 in
theorem t_X5_findRings {τ : Tp} (l : Launch) (B : Nat) (D : va_G) (cA : Nat → ClassId) (kd : sK) (ig : sI) (rg : sR) (lg : sG) (sz : Nat)  (hI : IC τ B kd ig rg) : MC l B D cA yX5_findRings cX5_findRings 3 none (rL 3 0 0) [.ref (B + 15)] kd ig rg lg sz (PI 1014 τ B none kd ig rg lg (fun r kd' ig' rg' lg' => r = none)) := by
  refine MC.of (own := RX5) (by decide +kernel) rfl (Nat.le_of_ble_eq_true rfl) ?_
  intro p e s m args below meth c ls C hr hlk hnm hw hsz hl
  have hx := C.1.1
  have hb := C.1.2.1
  have hown := C.1.2.2.2.1
  have hts := C.1.2.2.2.2
  have hl : lv_has ls 3 [(0, .ref (B + 15))] := hl
  have hN : Nx 1014 B none kd ig rg lg kd ig rg lg := Nx.rf
  have hsh := hI.sh
  have hrs := hI.rs
  refine lv_aload_n hx hb dX5_findRings_0 rfl (lv_at hl 0 rfl) ?_
  refine r_get C hw (hsh 15 _ rfl) fl_X5_23 (oV_r rfl (hrs (15, 4, 18) (by decide))) dX5_findRings_1 ?_
  refine lv_iconst (v := 0) hx hb dX5_findRings_4 (by decide) (ti_c 0 (by decide) fun z1 hz1 => ?_)
  refine lv_aload_n hx hb dX5_findRings_5 rfl (lv_at hl 0 rfl) ?_
  refine r_get C hw (hsh 15 _ rfl) fl_X5_26 (oV_r rfl (hrs (15, 5, 19) (by decide))) dX5_findRings_6 ?_
  refine lv_iconst (v := 0) hx hb dX5_findRings_9 (by decide) (ti_c 0 (by decide) fun z2 hz2 => ?_)
  refine lv_aload_n hx hb dX5_findRings_10 rfl (lv_at hl 0 rfl) ?_
  refine r_get C hw (hsh 15 _ rfl) fl_X5_23 (oV_r rfl (hrs (15, 4, 18) (by decide))) dX5_findRings_11 ?_
  refine r_alen C hw (hsh 18 _ rfl) (by omega) (by omega) dX5_findRings_14 (fun z3 hz3 => ?_)
  refine r_acopy (k := 23) (Or.inr rfl) C hw ay_X5 ay_n ay_s ay_i (hsh 18 _ rfl) (hsh 19 _ rfl) (by omega) (by omega) (by omega) (by omega) (by omega) hl.1 (Nat.le_of_ble_eq_true rfl) (Nat.le_of_ble_eq_true rfl) dX5_findRings_15 (fun H locs ig5 lg4 q1 q2 q3 q4 hH hw => ?_)
  obtain ⟨eq4, -⟩ := q4 rfl
  rw [eq4] at hw
  have hN := Nx.ol hN (fun b i h1 h2 => q2 b i (by show b ≠ B + 19; omega)) (fun c j hc => q2 (B + c) j (by show B + c ≠ B + 19; intro e; obtain rfl : c = 19 := (by omega); exact absurd hc (by decide)))
  refine lv_iconst (v := 0) hx hb dX5_findRings_18 (by decide) (ti_c 0 (by decide) fun z6 hz6 => ?_)
  refine lv_istore_n (lv' := [(1, .int z6), (0, .ref (B + 15))]) hx hb dX5_findRings_19 rfl hl (by decide) rfl (fun ls hl => ?_)
  have L20 : ∀ (n : Nat) (ls : Array Slot) (H : Heap) (locs : List Loc) (kd8 : sK) (ig9 : sI) (rg10 : sR) (lg11 : sG) (v7 : Int32), lv_has ls 3 [(1, .int v7), (0, .ref (B + 15))] → WD B D cA s.heap kd8 ig9 rg10 lg11 H locs → IC τ B kd8 ig9 rg10 → Nx 1014 B none kd ig rg lg kd8 ig9 rg10 lg11 → (0 ≤ v7.toInt) → (v7.toInt ≤ 288) → 288 - v7.toInt < (n : Int) → W p l e (rL 3 0 0) s m args below meth c H locs 0 0 (MQ below (QcW B D cA (PI 1014 τ B none kd ig rg lg (fun r kd' ig' rg' lg' => r = none))) args s 0 0 (fun q => B ≤ q)) (F0 m 20 ls []) := by
    intro n20
    induction n20 with
    | zero => intro ls H locs kd8 ig9 rg10 lg11 v7 hl hw hI hN g20_0 g20_1 hmu; exact absurd hmu (by omega)
    | succ n20 ih20 =>
      intro ls H locs kd8 ig9 rg10 lg11 v7 hl hw hI hN g20_0 g20_1 hmu
      have hsh := hI.sh
      have hrs := hI.rs
      refine lv_iload_n hx hb dX5_findRings_20 rfl (lv_at hl 0 rfl) ?_
      refine lv_aload_n hx hb dX5_findRings_21 rfl (lv_at hl 1 rfl) ?_
      refine r_get C hw (hsh 15 _ rfl) fl_X5_58 (oV_i rfl) dX5_findRings_22 (ti_c (ig9 (B + 15) 2).toInt rfl fun z12 hz12 => ?_)
      have k13 : 0 ≤ (ig9 (B + 15) 2).toInt ∧ (ig9 (B + 15) 2).toInt ≤ 288 := hI.i 15 2 (by decide)
      refine b_ge (tgt := 58) hx hb dX5_findRings_25 (by decide) (fun c25 => ?_) (fun c25 => ?_)
      · refine lv_iconst (v := 0) hx hb dX5_findRings_58 (by decide) (ti_c 0 (by decide) fun z14 hz14 => ?_)
        refine lv_istore_n (lv' := [(1, .int z14), (0, .ref (B + 15))]) hx hb dX5_findRings_59 rfl hl (by decide) rfl (fun ls hl => ?_)
        have L60 : ∀ (n : Nat) (ls : Array Slot) (H : Heap) (locs : List Loc) (kd16 : sK) (ig17 : sI) (rg18 : sR) (lg19 : sG) (v15 : Int32), lv_has ls 3 [(1, .int v15), (0, .ref (B + 15))] → WD B D cA s.heap kd16 ig17 rg18 lg19 H locs → IC τ B kd16 ig17 rg18 → Nx 1014 B none kd ig rg lg kd16 ig17 rg18 lg19 → (0 ≤ v15.toInt) → (v15.toInt ≤ 288) → 288 - v15.toInt < (n : Int) → W p l e (rL 3 0 0) s m args below meth c H locs 0 0 (MQ below (QcW B D cA (PI 1014 τ B none kd ig rg lg (fun r kd' ig' rg' lg' => r = none))) args s 0 0 (fun q => B ≤ q)) (F0 m 60 ls []) := by
          intro n60
          induction n60 with
          | zero => intro ls H locs kd16 ig17 rg18 lg19 v15 hl hw hI hN g60_0 g60_1 hmu; exact absurd hmu (by omega)
          | succ n60 ih60 =>
            intro ls H locs kd16 ig17 rg18 lg19 v15 hl hw hI hN g60_0 g60_1 hmu
            have hsh := hI.sh
            have hrs := hI.rs
            refine lv_iload_n hx hb dX5_findRings_60 rfl (lv_at hl 0 rfl) ?_
            refine lv_aload_n hx hb dX5_findRings_61 rfl (lv_at hl 1 rfl) ?_
            refine r_get C hw (hsh 15 _ rfl) fl_X5_58 (oV_i rfl) dX5_findRings_62 (ti_c (ig17 (B + 15) 2).toInt rfl fun z20 hz20 => ?_)
            have k21 : 0 ≤ (ig17 (B + 15) 2).toInt ∧ (ig17 (B + 15) 2).toInt ≤ 288 := hI.i 15 2 (by decide)
            refine b_ge (tgt := 121) hx hb dX5_findRings_65 (by decide) (fun c65 => ?_) (fun c65 => ?_)
            · exact r_vret C hw hr hlk (Nat.le_of_ble_eq_true rfl) (Nat.le_of_ble_eq_true rfl) dX5_findRings_121 ⟨hI, hN, rfl⟩
            · refine lv_aload_n hx hb dX5_findRings_68 rfl (lv_at hl 1 rfl) ?_
              refine r_get C hw (hsh 15 _ rfl) fl_X5_15 (oV_r rfl (hrs (15, 1, 16) (by decide))) dX5_findRings_69 ?_
              refine lv_iload_n hx hb dX5_findRings_72 rfl (lv_at hl 0 rfl) ?_
              refine r_iald C hw (hsh 16 _ rfl) (by omega) (by omega) dX5_findRings_73 (ti_c (ig17 (B + 16) v15.toInt.toNat).toInt rfl fun z22 hz22 => ?_)
              have k23 : 0 ≤ (ig17 (B + 16) v15.toInt.toNat).toInt ∧ (ig17 (B + 16) v15.toInt.toNat).toInt ≤ 287 := hI.i 16 v15.toInt.toNat (by decide)
              refine lv_istore_n (lv' := [(2, .int z22), (1, .int v15), (0, .ref (B + 15))]) hx hb dX5_findRings_74 rfl hl (by decide) rfl (fun ls hl => ?_)
              refine lv_aload_n hx hb dX5_findRings_75 rfl (lv_at hl 2 rfl) ?_
              refine r_get C hw (hsh 15 _ rfl) fl_X5_33 (oV_r rfl (hrs (15, 7, 21) (by decide))) dX5_findRings_76 ?_
              refine lv_iload_n hx hb dX5_findRings_79 rfl (lv_at hl 0 rfl) ?_
              refine r_iald C hw (hsh 21 _ rfl) (by omega) (by omega) dX5_findRings_80 (ti_c (ig17 (B + 21) z22.toInt.toNat).toInt rfl fun z24 hz24 => ?_)
              refine z_le (tgt := 115) hx hb dX5_findRings_81 (by decide) (fun c81 => ?_) (fun c81 => ?_)
              · refine tc_inc hx hb dX5_findRings_115 hl (k := 1) rfl (by decide) (by decide) (fun z25 hz25 ls hl => ?_)
                first | replace hz25 := hz25 (by omega) | clear hz25
                have hl : lv_has ls 3 [(1, .int z25), (2, .int z22), (0, .ref (B + 15))] := hl
                refine lv_goto (tgt := 60) hx hb dX5_findRings_118 (by decide) ?_
                exact ih60 ls H locs kd16 ig17 rg18 lg19 z25 (lv_sub hl [0, 2] rfl) hw hI hN (by omega) (by omega) (by omega)
              · refine lv_aload_n hx hb dX5_findRings_84 rfl (lv_at hl 2 rfl) ?_
                refine r_get C hw (hsh 15 _ rfl) fl_X5_26 (oV_r rfl (hrs (15, 5, 19) (by decide))) dX5_findRings_85 ?_
                refine lv_iload_n hx hb dX5_findRings_88 rfl (lv_at hl 0 rfl) ?_
                refine lv_iload_n hx hb dX5_findRings_89 rfl (lv_at hl 0 rfl) ?_
                refine r_callN (As := [.ref (B + 19), .int z22, .int z22]) (rest := []) C hw (t_X11_hasBit l B D cA kd16 ig17 rg18 lg19 _ 19 (Or.inr (Or.inl rfl)) z22 z22  hI) sn_X5_85 rfl hl.1 rfl (Nat.le_of_ble_eq_true rfl) ⟨Nat.le_of_ble_eq_true rfl, Nat.le_of_ble_eq_true rfl⟩ ⟨Nat.le_of_ble_eq_true rfl, Nat.le_of_ble_eq_true rfl⟩ dX5_findRings_90 (fun r30 kd26 ig27 rg28 lg29 H locs hw hH hp31 => ?_)
                obtain ⟨rfl, rfl, rfl, rfl, hzhp31, hrhp31⟩ := hp31
                obtain ⟨z32, rfl, hz32⟩ := hrhp31
                refine z_eq (tgt := 115) hx hb dX5_findRings_93 (by decide) (fun c93 => ?_) (fun c93 => ?_)
                · refine tc_inc hx hb dX5_findRings_115 hl (k := 1) rfl (by decide) (by decide) (fun z33 hz33 ls hl => ?_)
                  first | replace hz33 := hz33 (by omega) | clear hz33
                  have hl : lv_has ls 3 [(1, .int z33), (2, .int z22), (0, .ref (B + 15))] := hl
                  refine lv_goto (tgt := 60) hx hb dX5_findRings_118 (by decide) ?_
                  exact ih60 ls H locs kd16 ig17 rg18 lg19 z33 (lv_sub hl [0, 2] rfl) hw hI hN (by omega) (by omega) (by omega)
                · refine lv_aload_n hx hb dX5_findRings_96 rfl (lv_at hl 2 rfl) ?_
                  refine r_get C hw (hsh 15 _ rfl) fl_X5_29 (oV_r rfl (hrs (15, 6, 20) (by decide))) dX5_findRings_97 ?_
                  refine lv_iload_n hx hb dX5_findRings_100 rfl (lv_at hl 0 rfl) ?_
                  refine lv_iconst (v := 1) hx hb dX5_findRings_101 (by decide) (ti_c 1 (by decide) fun z34 hz34 => ?_)
                  refine r_zast C hw (hsh 20 _ rfl) (by omega) (by omega) (nar_b (by omega)) dX5_findRings_102 (fun H locs hH hw => ?_)
                  obtain ⟨ig35, eig35⟩ : ∃ f, f = up2 ig17 (B + 20) z22.toInt.toNat z34 := ⟨_, rfl⟩
                  rw [← eig35] at hw
                  have hN : Nx 1014 B none kd ig rg lg kd16 ig35 rg18 lg19 := by rw [eig35]; exact hN.pi (by omega)
                  have hI : IC τ B kd16 ig35 rg18 := by rw [eig35]; exact hI.pi (show okR none _ from trivial)
                  have wig35_15_2 : (ig35 (B + 15) 2).toInt = (ig17 (B + 15) 2).toInt := by rw [eig35, up2_a (by omega)]
                  refine lv_aload_n hx hb dX5_findRings_103 rfl (lv_at hl 2 rfl) ?_
                  refine r_get C hw (hsh 15 _ rfl) fl_X5_33 (oV_r rfl (hrs (15, 7, 21) (by decide))) dX5_findRings_104 ?_
                  refine lv_iload_n hx hb dX5_findRings_107 rfl (lv_at hl 0 rfl) ?_
                  refine lv_iconst (v := 0) hx hb dX5_findRings_108 (by decide) (ti_c 0 (by decide) fun z36 hz36 => ?_)
                  refine r_iast C hw (hsh 21 _ rfl) (by omega) (by omega) dX5_findRings_109 (fun H locs hH hw => ?_)
                  obtain ⟨ig37, eig37⟩ : ∃ f, f = up2 ig35 (B + 21) z22.toInt.toNat z36 := ⟨_, rfl⟩
                  rw [← eig37] at hw
                  have hN : Nx 1014 B none kd ig rg lg kd16 ig37 rg18 lg19 := by rw [eig37]; exact hN.pi (by omega)
                  have hI : IC τ B kd16 ig37 rg18 := by rw [eig37]; exact hI.pi (show okR none _ from trivial)
                  have wig37_15_2 : (ig37 (B + 15) 2).toInt = (ig35 (B + 15) 2).toInt := by rw [eig37, up2_a (by omega)]
                  refine lv_aload_n hx hb dX5_findRings_110 rfl (lv_at hl 2 rfl) ?_
                  refine lv_iload_n hx hb dX5_findRings_111 rfl (lv_at hl 0 rfl) ?_
                  refine r_callV (As := [.int z22]) (rest := []) C hw (t_X5_appendToOrder l B D cA kd16 ig37 rg18 lg19 _ z22  hI) sv_X5_65 (hsh 15 _ rfl) rfl hl.1 rfl (Nat.le_of_ble_eq_true rfl) ⟨Nat.le_of_ble_eq_true rfl, Nat.le_of_ble_eq_true rfl⟩ ⟨Nat.le_of_ble_eq_true rfl, Nat.le_of_ble_eq_true rfl⟩ dX5_findRings_112 (fun r42 kd38 ig39 rg40 lg41 H locs hw hH hp43 => ?_)
                  obtain ⟨hI, hchp43, hrhp43⟩ := hp43
                  have hN := hN.tr hchp43
                  have hsh := hI.sh
                  have hrs := hI.rs
                  obtain rfl := hrhp43
                  refine tc_inc hx hb dX5_findRings_115 hl (k := 1) rfl (by decide) (by decide) (fun z44 hz44 ls hl => ?_)
                  first | replace hz44 := hz44 (by omega) | clear hz44
                  have hl : lv_has ls 3 [(1, .int z44), (2, .int z22), (0, .ref (B + 15))] := hl
                  refine lv_goto (tgt := 60) hx hb dX5_findRings_118 (by decide) ?_
                  exact ih60 ls H locs kd38 ig39 rg40 lg41 z44 (lv_sub hl [0, 2] rfl) hw hI hN (by omega) (by omega) (by omega)
        exact L60 ((288 - z14.toInt) + 1).toNat ls H locs kd8 ig9 rg10 lg11 z14 (lv_sub hl [0, 1] rfl) hw hI hN (by omega) (by omega) (by omega)
      · refine lv_aload_n hx hb dX5_findRings_28 rfl (lv_at hl 1 rfl) ?_
        refine r_get C hw (hsh 15 _ rfl) fl_X5_33 (oV_r rfl (hrs (15, 7, 21) (by decide))) dX5_findRings_29 ?_
        refine lv_aload_n hx hb dX5_findRings_32 rfl (lv_at hl 1 rfl) ?_
        refine r_get C hw (hsh 15 _ rfl) fl_X5_15 (oV_r rfl (hrs (15, 1, 16) (by decide))) dX5_findRings_33 ?_
        refine lv_iload_n hx hb dX5_findRings_36 rfl (lv_at hl 0 rfl) ?_
        refine r_iald C hw (hsh 16 _ rfl) (by omega) (by omega) dX5_findRings_37 (ti_c (ig9 (B + 16) v7.toInt.toNat).toInt rfl fun z45 hz45 => ?_)
        have k46 : 0 ≤ (ig9 (B + 16) v7.toInt.toNat).toInt ∧ (ig9 (B + 16) v7.toInt.toNat).toInt ≤ 287 := hI.i 16 v7.toInt.toNat (by decide)
        refine r_iald C hw (hsh 21 _ rfl) (by omega) (by omega) dX5_findRings_38 (ti_c (ig9 (B + 21) z45.toInt.toNat).toInt rfl fun z47 hz47 => ?_)
        refine z_le (tgt := 52) hx hb dX5_findRings_39 (by decide) (fun c39 => ?_) (fun c39 => ?_)
        · refine tc_inc hx hb dX5_findRings_52 hl (k := 0) rfl (by decide) (by decide) (fun z48 hz48 ls hl => ?_)
          first | replace hz48 := hz48 (by omega) | clear hz48
          have hl : lv_has ls 3 [(1, .int z48), (0, .ref (B + 15))] := hl
          refine lv_goto (tgt := 20) hx hb dX5_findRings_55 (by decide) ?_
          exact ih20 ls H locs kd8 ig9 rg10 lg11 z48 (lv_sub hl [0, 1] rfl) hw hI hN (by omega) (by omega) (by omega)
        · refine lv_aload_n hx hb dX5_findRings_42 rfl (lv_at hl 1 rfl) ?_
          refine lv_aload_n hx hb dX5_findRings_43 rfl (lv_at hl 1 rfl) ?_
          refine r_get C hw (hsh 15 _ rfl) fl_X5_15 (oV_r rfl (hrs (15, 1, 16) (by decide))) dX5_findRings_44 ?_
          refine lv_iload_n hx hb dX5_findRings_47 rfl (lv_at hl 0 rfl) ?_
          refine r_iald C hw (hsh 16 _ rfl) (by omega) (by omega) dX5_findRings_48 (ti_c (ig9 (B + 16) v7.toInt.toNat).toInt rfl fun z49 hz49 => ?_)
          have k50 : 0 ≤ (ig9 (B + 16) v7.toInt.toNat).toInt ∧ (ig9 (B + 16) v7.toInt.toNat).toInt ≤ 287 := hI.i 16 v7.toInt.toNat (by decide)
          refine r_callV (As := [.int z49]) (rest := []) C hw (t_X5_reachThrough l B D cA kd8 ig9 rg10 lg11 _ z49 (by omega) hI) sv_X5_120 (hsh 15 _ rfl) rfl hl.1 rfl (Nat.le_of_ble_eq_true rfl) ⟨Nat.le_of_ble_eq_true rfl, Nat.le_of_ble_eq_true rfl⟩ ⟨Nat.le_of_ble_eq_true rfl, Nat.le_of_ble_eq_true rfl⟩ dX5_findRings_49 (fun r55 kd51 ig52 rg53 lg54 H locs hw hH hp56 => ?_)
          obtain ⟨hI, hchp56, hrhp56⟩ := hp56
          have hN := hN.tr hchp56
          have hsh := hI.sh
          have hrs := hI.rs
          obtain rfl := hrhp56
          refine tc_inc hx hb dX5_findRings_52 hl (k := 0) rfl (by decide) (by decide) (fun z57 hz57 ls hl => ?_)
          first | replace hz57 := hz57 (by omega) | clear hz57
          have hl : lv_has ls 3 [(1, .int z57), (0, .ref (B + 15))] := hl
          refine lv_goto (tgt := 20) hx hb dX5_findRings_55 (by decide) ?_
          exact ih20 ls H locs kd51 ig52 rg53 lg54 z57 (lv_sub hl [0, 1] rfl) hw hI hN (by omega) (by omega) (by omega)
  exact L20 ((288 - z6.toInt) + 1).toNat ls H locs kd ig rg lg4 z6 (lv_sub hl [0, 1] rfl) hw hI hN (by omega) (by omega) (by omega)

set_option maxHeartbeats 4000000 in
set_option maxRecDepth 100000 in
theorem t_X5_settle {τ : Tp} (l : Launch) (B : Nat) (D : va_G) (cA : Nat → ClassId) (kd : sK) (ig : sI) (rg : sR) (lg : sG) (sz : Nat)  (hI : IC τ B kd ig rg) : MC l B D cA yX5_settle cX5_settle 3 none (rL 5 0 0) [.ref (B + 15)] kd ig rg lg sz (PI 1014 τ B none kd ig rg lg (fun r kd' ig' rg' lg' => r = none)) := by
  refine MC.of (own := RX5) (by decide +kernel) rfl (Nat.le_of_ble_eq_true rfl) ?_
  intro p e s m args below meth c ls C hr hlk hnm hw hsz hl
  have hx := C.1.1
  have hb := C.1.2.1
  have hown := C.1.2.2.2.1
  have hts := C.1.2.2.2.2
  have hl : lv_has ls 3 [(0, .ref (B + 15))] := hl
  have hN : Nx 1014 B none kd ig rg lg kd ig rg lg := Nx.rf
  have hsh := hI.sh
  have hrs := hI.rs
  refine lv_aload_n hx hb dX5_settle_0 rfl (lv_at hl 0 rfl) ?_
  refine r_get C hw (hsh 15 _ rfl) fl_X5_42 (oV_i rfl) dX5_settle_1 (ti_c (ig (B + 15) 11).toInt rfl fun z1 hz1 => ?_)
  refine lv_aload_n hx hb dX5_settle_4 rfl (lv_at hl 0 rfl) ?_
  refine r_get C hw (hsh 15 _ rfl) fl_X5_9 (oV_r rfl (hrs (15, 0, 9) (by decide))) dX5_settle_5 ?_
  refine r_get C hw (hsh 9 _ rfl) fl_X5_46 (oV_i rfl) dX5_settle_8 (ti_c (ig (B + 9) 6).toInt rfl fun z2 hz2 => ?_)
  refine b_ne (tgt := 15) hx hb dX5_settle_11 (by decide) (fun c11 => ?_) (fun c11 => ?_)
  · refine lv_aload_n hx hb dX5_settle_15 rfl (lv_at hl 0 rfl) ?_
    refine lv_aload_n hx hb dX5_settle_16 rfl (lv_at hl 0 rfl) ?_
    refine r_get C hw (hsh 15 _ rfl) fl_X5_9 (oV_r rfl (hrs (15, 0, 9) (by decide))) dX5_settle_17 ?_
    refine r_get C hw (hsh 9 _ rfl) fl_X5_46 (oV_i rfl) dX5_settle_20 (ti_c (ig (B + 9) 6).toInt rfl fun z3 hz3 => ?_)
    refine r_puti C hw (hsh 15 _ rfl) fl_X5_42 rfl rfl rfl dX5_settle_23 (fun H locs hH hw => ?_)
    obtain ⟨ig4, eig4⟩ : ∃ f, f = up2 ig (B + 15) 11 z3 := ⟨_, rfl⟩
    rw [← eig4] at hw
    have hN : Nx 1014 B none kd ig rg lg kd ig4 rg lg := by rw [eig4]; exact hN.pi (by omega)
    have hI : IC τ B kd ig4 rg := by rw [eig4]; exact hI.pi (show okR none _ from trivial)
    have wig4_15_2 : (ig4 (B + 15) 2).toInt = (ig (B + 15) 2).toInt := by rw [eig4, up2_j (by decide)]
    have wig4_15_9 : (ig4 (B + 15) 9).toInt = (ig (B + 15) 9).toInt := by rw [eig4, up2_j (by decide)]
    refine lv_aload_n hx hb dX5_settle_26 rfl (lv_at hl 0 rfl) ?_
    refine r_callV (As := []) (rest := []) C hw (t_X5_forgetReads l B D cA kd ig4 rg lg _   hI) sv_X5_49 (hsh 15 _ rfl) rfl hl.1 rfl (Nat.le_of_ble_eq_true rfl) ⟨Nat.le_of_ble_eq_true rfl, Nat.le_of_ble_eq_true rfl⟩ ⟨Nat.le_of_ble_eq_true rfl, Nat.le_of_ble_eq_true rfl⟩ dX5_settle_27 (fun r9 kd5 ig6 rg7 lg8 H locs hw hH hp10 => ?_)
    obtain ⟨hI, hchp10, hrhp10⟩ := hp10
    have hN := hN.tr hchp10
    have hsh := hI.sh
    have hrs := hI.rs
    obtain rfl := hrhp10
    refine lv_aload_n hx hb dX5_settle_30 rfl (lv_at hl 0 rfl) ?_
    refine r_callV (As := []) (rest := []) C hw (t_X5_gatherReads l B D cA kd5 ig6 rg7 lg8 _   hI) sv_X5_52 (hsh 15 _ rfl) rfl hl.1 rfl (Nat.le_of_ble_eq_true rfl) ⟨Nat.le_of_ble_eq_true rfl, Nat.le_of_ble_eq_true rfl⟩ ⟨Nat.le_of_ble_eq_true rfl, Nat.le_of_ble_eq_true rfl⟩ dX5_settle_31 (fun r15 kd11 ig12 rg13 lg14 H locs hw hH hp16 => ?_)
    obtain ⟨hI, hchp16, hrhp16⟩ := hp16
    have hN := hN.tr hchp16
    have hsh := hI.sh
    have hrs := hI.rs
    obtain rfl := hrhp16
    refine lv_aload_n hx hb dX5_settle_34 rfl (lv_at hl 0 rfl) ?_
    refine lv_iconst (v := 0) hx hb dX5_settle_35 (by decide) (ti_c 0 (by decide) fun z17 hz17 => ?_)
    refine r_puti C hw (hsh 15 _ rfl) fl_X5_55 rfl rfl rfl dX5_settle_36 (fun H locs hH hw => ?_)
    obtain ⟨ig18, eig18⟩ : ∃ f, f = up2 ig12 (B + 15) 9 z17 := ⟨_, rfl⟩
    rw [← eig18] at hw
    have hN : Nx 1014 B none kd ig rg lg kd11 ig18 rg13 lg14 := by rw [eig18]; exact hN.pi (by omega)
    have hI : IC τ B kd11 ig18 rg13 := by rw [eig18]; exact hI.pi (show okR (some (0, 288)) _ from ⟨by show (0 : Int) ≤ _; omega, by show _ ≤ (288 : Int); omega⟩)
    have wig18_15_2 : (ig18 (B + 15) 2).toInt = (ig12 (B + 15) 2).toInt := by rw [eig18, up2_j (by decide)]
    have wig18 : (ig18 (B + 15) 9).toInt = z17.toInt := by rw [eig18, up2_eq]
    refine lv_iconst (v := 0) hx hb dX5_settle_39 (by decide) (ti_c 0 (by decide) fun z19 hz19 => ?_)
    refine lv_istore_n (lv' := [(1, .int z19), (0, .ref (B + 15))]) hx hb dX5_settle_40 rfl hl (by decide) rfl (fun ls hl => ?_)
    have L41 : ∀ (n : Nat) (ls : Array Slot) (H : Heap) (locs : List Loc) (kd21 : sK) (ig22 : sI) (rg23 : sR) (lg24 : sG) (v20 : Int32), lv_has ls 3 [(1, .int v20), (0, .ref (B + 15))] → WD B D cA s.heap kd21 ig22 rg23 lg24 H locs → IC τ B kd21 ig22 rg23 → Nx 1014 B none kd ig rg lg kd21 ig22 rg23 lg24 → (0 ≤ v20.toInt) → (v20.toInt ≤ 288) → 288 - v20.toInt < (n : Int) → W p l e (rL 5 0 0) s m args below meth c H locs 0 0 (MQ below (QcW B D cA (PI 1014 τ B none kd ig rg lg (fun r kd' ig' rg' lg' => r = none))) args s 0 0 (fun q => B ≤ q)) (F0 m 41 ls []) := by
      intro n41
      induction n41 with
      | zero => intro ls H locs kd21 ig22 rg23 lg24 v20 hl hw hI hN g41_0 g41_1 hmu; exact absurd hmu (by omega)
      | succ n41 ih41 =>
        intro ls H locs kd21 ig22 rg23 lg24 v20 hl hw hI hN g41_0 g41_1 hmu
        have hsh := hI.sh
        have hrs := hI.rs
        refine lv_iload_n hx hb dX5_settle_41 rfl (lv_at hl 0 rfl) ?_
        refine lv_aload_n hx hb dX5_settle_42 rfl (lv_at hl 1 rfl) ?_
        refine r_get C hw (hsh 15 _ rfl) fl_X5_58 (oV_i rfl) dX5_settle_43 (ti_c (ig22 (B + 15) 2).toInt rfl fun z25 hz25 => ?_)
        have k26 : 0 ≤ (ig22 (B + 15) 2).toInt ∧ (ig22 (B + 15) 2).toInt ≤ 288 := hI.i 15 2 (by decide)
        refine b_ge (tgt := 87) hx hb dX5_settle_46 (by decide) (fun c46 => ?_) (fun c46 => ?_)
        · refine lv_aload_n hx hb dX5_settle_87 rfl (lv_at hl 1 rfl) ?_
          refine lv_iconst (v := 0) hx hb dX5_settle_88 (by decide) (ti_c 0 (by decide) fun z27 hz27 => ?_)
          refine r_callV (As := [.int z27]) (rest := []) C hw (t_X5_release l B D cA kd21 ig22 rg23 lg24 _ z27 (by omega) hI) sv_X5_69 (hsh 15 _ rfl) rfl hl.1 rfl (Nat.le_of_ble_eq_true rfl) ⟨Nat.le_of_ble_eq_true rfl, Nat.le_of_ble_eq_true rfl⟩ ⟨Nat.le_of_ble_eq_true rfl, Nat.le_of_ble_eq_true rfl⟩ dX5_settle_89 (fun r32 kd28 ig29 rg30 lg31 H locs hw hH hp33 => ?_)
          obtain ⟨hI, hchp33, hrhp33⟩ := hp33
          have hN := hN.tr hchp33
          have hsh := hI.sh
          have hrs := hI.rs
          obtain rfl := hrhp33
          refine lv_aload_n hx hb dX5_settle_92 rfl (lv_at hl 1 rfl) ?_
          refine r_get C hw (hsh 15 _ rfl) fl_X5_55 (oV_i rfl) dX5_settle_93 (ti_c (ig29 (B + 15) 9).toInt rfl fun z34 hz34 => ?_)
          have k35 : 0 ≤ (ig29 (B + 15) 9).toInt ∧ (ig29 (B + 15) 9).toInt ≤ 288 := hI.i 15 9 (by decide)
          refine lv_aload_n hx hb dX5_settle_96 rfl (lv_at hl 1 rfl) ?_
          refine r_get C hw (hsh 15 _ rfl) fl_X5_58 (oV_i rfl) dX5_settle_97 (ti_c (ig29 (B + 15) 2).toInt rfl fun z36 hz36 => ?_)
          have k37 : 0 ≤ (ig29 (B + 15) 2).toInt ∧ (ig29 (B + 15) 2).toInt ≤ 288 := hI.i 15 2 (by decide)
          refine b_ge (tgt := 117) hx hb dX5_settle_100 (by decide) (fun c100 => ?_) (fun c100 => ?_)
          · exact r_vret C hw hr hlk (Nat.le_of_ble_eq_true rfl) (Nat.le_of_ble_eq_true rfl) dX5_settle_117 ⟨hI, hN, rfl⟩
          · refine lv_aload_n hx hb dX5_settle_103 rfl (lv_at hl 1 rfl) ?_
            refine r_get C hw (hsh 15 _ rfl) fl_X5_55 (oV_i rfl) dX5_settle_104 (ti_c (ig29 (B + 15) 9).toInt rfl fun z38 hz38 => ?_)
            have k39 : 0 ≤ (ig29 (B + 15) 9).toInt ∧ (ig29 (B + 15) 9).toInt ≤ 288 := hI.i 15 9 (by decide)
            refine lv_istore_n (lv' := [(1, .int z38), (0, .ref (B + 15))]) hx hb dX5_settle_107 rfl hl (by decide) rfl (fun ls hl => ?_)
            refine lv_aload_n hx hb dX5_settle_108 rfl (lv_at hl 1 rfl) ?_
            refine r_callV (As := []) (rest := []) C hw (t_X5_findRings l B D cA kd28 ig29 rg30 lg31 _   hI) sv_X5_72 (hsh 15 _ rfl) rfl hl.1 rfl (Nat.le_of_ble_eq_true rfl) ⟨Nat.le_of_ble_eq_true rfl, Nat.le_of_ble_eq_true rfl⟩ ⟨Nat.le_of_ble_eq_true rfl, Nat.le_of_ble_eq_true rfl⟩ dX5_settle_109 (fun r44 kd40 ig41 rg42 lg43 H locs hw hH hp45 => ?_)
            obtain ⟨hI, hchp45, hrhp45⟩ := hp45
            have hN := hN.tr hchp45
            have hsh := hI.sh
            have hrs := hI.rs
            obtain rfl := hrhp45
            refine lv_aload_n hx hb dX5_settle_112 rfl (lv_at hl 1 rfl) ?_
            refine lv_iload_n hx hb dX5_settle_113 rfl (lv_at hl 0 rfl) ?_
            refine r_callV (As := [.int z38]) (rest := []) C hw (t_X5_release l B D cA kd40 ig41 rg42 lg43 _ z38 (by omega) hI) sv_X5_69 (hsh 15 _ rfl) rfl hl.1 rfl (Nat.le_of_ble_eq_true rfl) ⟨Nat.le_of_ble_eq_true rfl, Nat.le_of_ble_eq_true rfl⟩ ⟨Nat.le_of_ble_eq_true rfl, Nat.le_of_ble_eq_true rfl⟩ dX5_settle_114 (fun r50 kd46 ig47 rg48 lg49 H locs hw hH hp51 => ?_)
            obtain ⟨hI, hchp51, hrhp51⟩ := hp51
            have hN := hN.tr hchp51
            have hsh := hI.sh
            have hrs := hI.rs
            obtain rfl := hrhp51
            exact r_vret C hw hr hlk (Nat.le_of_ble_eq_true rfl) (Nat.le_of_ble_eq_true rfl) dX5_settle_117 ⟨hI, hN, rfl⟩
        · refine lv_aload_n hx hb dX5_settle_49 rfl (lv_at hl 1 rfl) ?_
          refine r_get C hw (hsh 15 _ rfl) fl_X5_15 (oV_r rfl (hrs (15, 1, 16) (by decide))) dX5_settle_50 ?_
          refine lv_iload_n hx hb dX5_settle_53 rfl (lv_at hl 0 rfl) ?_
          refine r_iald C hw (hsh 16 _ rfl) (by omega) (by omega) dX5_settle_54 (ti_c (ig22 (B + 16) v20.toInt.toNat).toInt rfl fun z52 hz52 => ?_)
          have k53 : 0 ≤ (ig22 (B + 16) v20.toInt.toNat).toInt ∧ (ig22 (B + 16) v20.toInt.toNat).toInt ≤ 287 := hI.i 16 v20.toInt.toNat (by decide)
          refine lv_istore_n (lv' := [(2, .int z52), (1, .int v20), (0, .ref (B + 15))]) hx hb dX5_settle_55 rfl hl (by decide) rfl (fun ls hl => ?_)
          refine lv_aload_n hx hb dX5_settle_56 rfl (lv_at hl 2 rfl) ?_
          refine r_get C hw (hsh 15 _ rfl) fl_X5_33 (oV_r rfl (hrs (15, 7, 21) (by decide))) dX5_settle_57 ?_
          refine lv_iload_n hx hb dX5_settle_60 rfl (lv_at hl 0 rfl) ?_
          refine lv_aload_n hx hb dX5_settle_61 rfl (lv_at hl 2 rfl) ?_
          refine lv_iload_n hx hb dX5_settle_62 rfl (lv_at hl 0 rfl) ?_
          refine r_callV (As := [.int z52]) (rest := [.int z52, .ref (B + 21)]) C hw (t_X5_formulasReadBy l B D cA kd21 ig22 rg23 lg24 _ z52 (by omega) hI) sv_X5_61 (hsh 15 _ rfl) rfl hl.1 rfl (Nat.le_of_ble_eq_true rfl) ⟨Nat.le_of_ble_eq_true rfl, Nat.le_of_ble_eq_true rfl⟩ ⟨Nat.le_of_ble_eq_true rfl, Nat.le_of_ble_eq_true rfl⟩ dX5_settle_63 (fun r58 kd54 ig55 rg56 lg57 H locs hw hH hp59 => ?_)
          obtain ⟨rfl, rfl, rfl, rfl, hzhp59, hrhp59⟩ := hp59
          obtain ⟨z60, rfl, hz60⟩ := hrhp59
          refine r_iast C hw (hsh 21 _ rfl) (by omega) (by omega) dX5_settle_66 (fun H locs hH hw => ?_)
          obtain ⟨ig61, eig61⟩ : ∃ f, f = up2 ig22 (B + 21) z52.toInt.toNat z60 := ⟨_, rfl⟩
          rw [← eig61] at hw
          have hN : Nx 1014 B none kd ig rg lg kd21 ig61 rg23 lg24 := by rw [eig61]; exact hN.pi (by omega)
          have hI : IC τ B kd21 ig61 rg23 := by rw [eig61]; exact hI.pi (show okR none _ from trivial)
          have wig61_15_2 : (ig61 (B + 15) 2).toInt = (ig22 (B + 15) 2).toInt := by rw [eig61, up2_a (by omega)]
          have wig61_15_9 : (ig61 (B + 15) 9).toInt = (ig22 (B + 15) 9).toInt := by rw [eig61, up2_a (by omega)]
          refine lv_aload_n hx hb dX5_settle_67 rfl (lv_at hl 2 rfl) ?_
          refine r_get C hw (hsh 15 _ rfl) fl_X5_33 (oV_r rfl (hrs (15, 7, 21) (by decide))) dX5_settle_68 ?_
          refine lv_iload_n hx hb dX5_settle_71 rfl (lv_at hl 0 rfl) ?_
          refine r_iald C hw (hsh 21 _ rfl) (by omega) (by omega) dX5_settle_72 (ti_c (ig61 (B + 21) z52.toInt.toNat).toInt rfl fun z62 hz62 => ?_)
          refine z_ne (tgt := 81) hx hb dX5_settle_73 (by decide) (fun c73 => ?_) (fun c73 => ?_)
          · refine tc_inc hx hb dX5_settle_81 hl (k := 1) rfl (by decide) (by decide) (fun z63 hz63 ls hl => ?_)
            first | replace hz63 := hz63 (by omega) | clear hz63
            have hl : lv_has ls 3 [(1, .int z63), (2, .int z52), (0, .ref (B + 15))] := hl
            refine lv_goto (tgt := 41) hx hb dX5_settle_84 (by decide) ?_
            exact ih41 ls H locs kd21 ig61 rg23 lg24 z63 (lv_sub hl [0, 2] rfl) hw hI hN (by omega) (by omega) (by omega)
          · refine lv_aload_n hx hb dX5_settle_76 rfl (lv_at hl 2 rfl) ?_
            refine lv_iload_n hx hb dX5_settle_77 rfl (lv_at hl 0 rfl) ?_
            refine r_callV (As := [.int z52]) (rest := []) C hw (t_X5_appendToOrder l B D cA kd21 ig61 rg23 lg24 _ z52  hI) sv_X5_65 (hsh 15 _ rfl) rfl hl.1 rfl (Nat.le_of_ble_eq_true rfl) ⟨Nat.le_of_ble_eq_true rfl, Nat.le_of_ble_eq_true rfl⟩ ⟨Nat.le_of_ble_eq_true rfl, Nat.le_of_ble_eq_true rfl⟩ dX5_settle_78 (fun r68 kd64 ig65 rg66 lg67 H locs hw hH hp69 => ?_)
            obtain ⟨hI, hchp69, hrhp69⟩ := hp69
            have hN := hN.tr hchp69
            have hsh := hI.sh
            have hrs := hI.rs
            obtain rfl := hrhp69
            refine tc_inc hx hb dX5_settle_81 hl (k := 1) rfl (by decide) (by decide) (fun z70 hz70 ls hl => ?_)
            first | replace hz70 := hz70 (by omega) | clear hz70
            have hl : lv_has ls 3 [(1, .int z70), (2, .int z52), (0, .ref (B + 15))] := hl
            refine lv_goto (tgt := 41) hx hb dX5_settle_84 (by decide) ?_
            exact ih41 ls H locs kd64 ig65 rg66 lg67 z70 (lv_sub hl [0, 2] rfl) hw hI hN (by omega) (by omega) (by omega)
    exact L41 ((288 - z19.toInt) + 1).toNat ls H locs kd11 ig18 rg13 lg14 z19 (lv_sub hl [0, 1] rfl) hw hI hN (by omega) (by omega) (by omega)
  · exact r_vret C hw hr hlk (Nat.le_of_ble_eq_true rfl) (Nat.le_of_ble_eq_true rfl) dX5_settle_14 ⟨hI, hN, rfl⟩

set_option maxHeartbeats 4000000 in
set_option maxRecDepth 100000 in
theorem t_X10_valueAt {τ : Tp} (l : Launch) (B : Nat) (D : va_G) (cA : Nat → ClassId) (kd : sK) (ig : sI) (rg : sR) (lg : sG) (sz : Nat) (x : Int32) (hI : IC τ B kd ig rg) : MC l B D cA yX10_valueAt cX10_valueAt 2 (some .int) (rL 1 0 0) [.ref (B + 24), .int x] kd ig rg lg sz (Pu kd ig rg lg sz (fun r => ∃ z : Int32, r = some (.int z) ∧ True)) := by
  refine MC.of (own := RX10) (by decide +kernel) rfl (Nat.le_of_ble_eq_true rfl) ?_
  intro p e s m args below meth c ls C hr hlk hnm hw hsz hl
  have hx := C.1.1
  have hb := C.1.2.1
  have hown := C.1.2.2.2.1
  have hts := C.1.2.2.2.2
  have hl : lv_has ls 2 [(0, .ref (B + 24)), (1, .int x)] := hl
  have hsh := hI.sh
  have hrs := hI.rs
  refine lv_iload_n hx hb dX10_valueAt_0 rfl (lv_at hl 1 rfl) ?_
  refine r_callN (As := [.int x]) (rest := []) C hw (t_X11_onSheet l B D cA kd ig rg lg _ x  hI) sn_X10_65 rfl hl.1 rfl (Nat.le_of_ble_eq_true rfl) ⟨Nat.le_of_ble_eq_true rfl, Nat.le_of_ble_eq_true rfl⟩ ⟨Nat.le_of_ble_eq_true rfl, Nat.le_of_ble_eq_true rfl⟩ dX10_valueAt_1 (fun r5 kd1 ig2 rg3 lg4 H locs hw hH hp6 => ?_)
  obtain ⟨rfl, rfl, rfl, rfl, hzhp6, hrhp6⟩ := hp6
  have hsz := hzhp6.trans hsz
  obtain ⟨z7, rfl, hz7⟩ := hrhp6
  refine z_eq (tgt := 16) hx hb dX10_valueAt_4 (by decide) (fun c4 => ?_) (fun c4 => ?_)
  · refine lv_iconst (v := 0) hx hb dX10_valueAt_16 (by decide) (ti_c 0 (by decide) fun z8 hz8 => ?_)
    exact r_iret C hw hr hlk rfl (Nat.le_of_ble_eq_true rfl) (Nat.le_of_ble_eq_true rfl) dX10_valueAt_17 ⟨rfl, rfl, rfl, rfl, hsz, ⟨_, rfl, trivial⟩⟩
  · refine lv_aload_n hx hb dX10_valueAt_7 rfl (lv_at hl 0 rfl) ?_
    refine r_get C hw (hsh 24 _ rfl) fl_X10_19 (oV_r rfl (hrs (24, 2, 25) (by decide))) dX10_valueAt_8 ?_
    refine lv_iload_n hx hb dX10_valueAt_11 rfl (lv_at hl 1 rfl) ?_
    refine r_iald C hw (hsh 25 _ rfl) (by omega) (by omega) dX10_valueAt_12 (ti_c (ig (B + 25) x.toInt.toNat).toInt rfl fun z9 hz9 => ?_)
    refine lv_goto (tgt := 17) hx hb dX10_valueAt_13 (by decide) ?_
    exact r_iret C hw hr hlk rfl (Nat.le_of_ble_eq_true rfl) (Nat.le_of_ble_eq_true rfl) dX10_valueAt_17 ⟨rfl, rfl, rfl, rfl, hsz, ⟨_, rfl, trivial⟩⟩

set_option maxHeartbeats 4000000 in
set_option maxRecDepth 100000 in
theorem t_X10_errorAt {τ : Tp} (l : Launch) (B : Nat) (D : va_G) (cA : Nat → ClassId) (kd : sK) (ig : sI) (rg : sR) (lg : sG) (sz : Nat) (x : Int32) (hI : IC τ B kd ig rg) : MC l B D cA yX10_errorAt cX10_errorAt 2 (some .int) (rL 1 0 0) [.ref (B + 24), .int x] kd ig rg lg sz (Pu kd ig rg lg sz (fun r => ∃ z : Int32, r = some (.int z) ∧ True)) := by
  refine MC.of (own := RX10) (by decide +kernel) rfl (Nat.le_of_ble_eq_true rfl) ?_
  intro p e s m args below meth c ls C hr hlk hnm hw hsz hl
  have hx := C.1.1
  have hb := C.1.2.1
  have hown := C.1.2.2.2.1
  have hts := C.1.2.2.2.2
  have hl : lv_has ls 2 [(0, .ref (B + 24)), (1, .int x)] := hl
  have hsh := hI.sh
  have hrs := hI.rs
  refine lv_iload_n hx hb dX10_errorAt_0 rfl (lv_at hl 1 rfl) ?_
  refine r_callN (As := [.int x]) (rest := []) C hw (t_X11_onSheet l B D cA kd ig rg lg _ x  hI) sn_X10_65 rfl hl.1 rfl (Nat.le_of_ble_eq_true rfl) ⟨Nat.le_of_ble_eq_true rfl, Nat.le_of_ble_eq_true rfl⟩ ⟨Nat.le_of_ble_eq_true rfl, Nat.le_of_ble_eq_true rfl⟩ dX10_errorAt_1 (fun r5 kd1 ig2 rg3 lg4 H locs hw hH hp6 => ?_)
  obtain ⟨rfl, rfl, rfl, rfl, hzhp6, hrhp6⟩ := hp6
  have hsz := hzhp6.trans hsz
  obtain ⟨z7, rfl, hz7⟩ := hrhp6
  refine z_eq (tgt := 16) hx hb dX10_errorAt_4 (by decide) (fun c4 => ?_) (fun c4 => ?_)
  · refine lv_iconst (v := 0) hx hb dX10_errorAt_16 (by decide) (ti_c 0 (by decide) fun z8 hz8 => ?_)
    exact r_iret C hw hr hlk rfl (Nat.le_of_ble_eq_true rfl) (Nat.le_of_ble_eq_true rfl) dX10_errorAt_17 ⟨rfl, rfl, rfl, rfl, hsz, ⟨_, rfl, trivial⟩⟩
  · refine lv_aload_n hx hb dX10_errorAt_7 rfl (lv_at hl 0 rfl) ?_
    refine r_get C hw (hsh 24 _ rfl) fl_X10_23 (oV_r rfl (hrs (24, 3, 26) (by decide))) dX10_errorAt_8 ?_
    refine lv_iload_n hx hb dX10_errorAt_11 rfl (lv_at hl 1 rfl) ?_
    refine r_iald C hw (hsh 26 _ rfl) (by omega) (by omega) dX10_errorAt_12 (ti_c (ig (B + 26) x.toInt.toNat).toInt rfl fun z9 hz9 => ?_)
    refine lv_goto (tgt := 17) hx hb dX10_errorAt_13 (by decide) ?_
    exact r_iret C hw hr hlk rfl (Nat.le_of_ble_eq_true rfl) (Nat.le_of_ble_eq_true rfl) dX10_errorAt_17 ⟨rfl, rfl, rfl, rfl, hsz, ⟨_, rfl, trivial⟩⟩

set_option maxHeartbeats 4000000 in
set_option maxRecDepth 100000 in
theorem t_X10_errors {τ : Tp} (l : Launch) (B : Nat) (D : va_G) (cA : Nat → ClassId) (kd : sK) (ig : sI) (rg : sR) (lg : sG) (sz : Nat)  (hI : IC τ B kd ig rg) : MC l B D cA yX10_errors cX10_errors 3 (some .int) (rL 0 0 0) [.ref (B + 24)] kd ig rg lg sz (Pu kd ig rg lg sz (fun r => ∃ z : Int32, r = some (.int z) ∧ True)) := by
  refine MC.of (own := RX10) (by decide +kernel) rfl (Nat.le_of_ble_eq_true rfl) ?_
  intro p e s m args below meth c ls C hr hlk hnm hw hsz hl
  have hx := C.1.1
  have hb := C.1.2.1
  have hown := C.1.2.2.2.1
  have hts := C.1.2.2.2.2
  have hl : lv_has ls 3 [(0, .ref (B + 24))] := hl
  have hsh := hI.sh
  have hrs := hI.rs
  refine lv_iconst (v := 0) hx hb dX10_errors_0 (by decide) (ti_c 0 (by decide) fun z1 hz1 => ?_)
  refine lv_istore_n (lv' := [(1, .int z1), (0, .ref (B + 24))]) hx hb dX10_errors_1 rfl hl (by decide) rfl (fun ls hl => ?_)
  refine lv_iconst (v := 0) hx hb dX10_errors_2 (by decide) (ti_c 0 (by decide) fun z2 hz2 => ?_)
  refine lv_istore_n (lv' := [(2, .int z2), (1, .int z1), (0, .ref (B + 24))]) hx hb dX10_errors_3 rfl hl (by decide) rfl (fun ls hl => ?_)
  have L4 : ∀ (n : Nat) (ls : Array Slot) (H : Heap) (locs : List Loc) (v3 : Int32) (v4 : Int32), lv_has ls 3 [(2, .int v3), (1, .int v4), (0, .ref (B + 24))] → WD B D cA s.heap kd ig rg lg H locs → H.size = sz → (0 ≤ v3.toInt) → (v3.toInt ≤ 288) → 288 - v3.toInt < (n : Int) → W p l e (rL 0 0 0) s m args below meth c H locs 0 0 (MQ below (QcW B D cA (Pu kd ig rg lg sz (fun r => ∃ z : Int32, r = some (.int z) ∧ True))) args s 0 0 (fun q => B ≤ q)) (F0 m 4 ls []) := by
    intro n4
    induction n4 with
    | zero => intro ls H locs v3 v4 hl hw hsz g4_0 g4_1 hmu; exact absurd hmu (by omega)
    | succ n4 ih4 =>
      intro ls H locs v3 v4 hl hw hsz g4_0 g4_1 hmu
      refine lv_iload_n hx hb dX10_errors_4 rfl (lv_at hl 0 rfl) ?_
      refine lv_sipush (v := 288) hx hb dX10_errors_5 (by decide) (ti_c 288 (by decide) fun z5 hz5 => ?_)
      refine b_ge (tgt := 29) hx hb dX10_errors_8 (by decide) (fun c8 => ?_) (fun c8 => ?_)
      · refine lv_iload_n hx hb dX10_errors_29 rfl (lv_at hl 1 rfl) ?_
        exact r_iret C hw hr hlk rfl (Nat.le_of_ble_eq_true rfl) (Nat.le_of_ble_eq_true rfl) dX10_errors_30 ⟨rfl, rfl, rfl, rfl, hsz, ⟨_, rfl, trivial⟩⟩
      · refine lv_aload_n hx hb dX10_errors_11 rfl (lv_at hl 2 rfl) ?_
        refine r_get C hw (hsh 24 _ rfl) fl_X10_23 (oV_r rfl (hrs (24, 3, 26) (by decide))) dX10_errors_12 ?_
        refine lv_iload_n hx hb dX10_errors_15 rfl (lv_at hl 0 rfl) ?_
        refine r_iald C hw (hsh 26 _ rfl) (by omega) (by omega) dX10_errors_16 (ti_c (ig (B + 26) v3.toInt.toNat).toInt rfl fun z6 hz6 => ?_)
        refine z_eq (tgt := 23) hx hb dX10_errors_17 (by decide) (fun c17 => ?_) (fun c17 => ?_)
        · refine tc_inc hx hb dX10_errors_23 hl (k := 0) rfl (by decide) (by decide) (fun z7 hz7 ls hl => ?_)
          first | replace hz7 := hz7 (by omega) | clear hz7
          have hl : lv_has ls 3 [(2, .int z7), (1, .int v4), (0, .ref (B + 24))] := hl
          refine lv_goto (tgt := 4) hx hb dX10_errors_26 (by decide) ?_
          exact ih4 ls H locs z7 v4 (lv_sub hl [0, 1, 2] rfl) hw hsz (by omega) (by omega) (by omega)
        · refine tc_inc hx hb dX10_errors_20 hl (k := 1) rfl (by decide) (by decide) (fun z8 hz8 ls hl => ?_)
          first | replace hz8 := hz8 (by omega) | clear hz8
          have hl : lv_has ls 3 [(1, .int z8), (2, .int v3), (0, .ref (B + 24))] := hl
          refine tc_inc hx hb dX10_errors_23 hl (k := 1) rfl (by decide) (by decide) (fun z9 hz9 ls hl => ?_)
          first | replace hz9 := hz9 (by omega) | clear hz9
          have hl : lv_has ls 3 [(2, .int z9), (1, .int z8), (0, .ref (B + 24))] := hl
          refine lv_goto (tgt := 4) hx hb dX10_errors_26 (by decide) ?_
          exact ih4 ls H locs z9 z8 (lv_sub hl [0, 1, 2] rfl) hw hsz (by omega) (by omega) (by omega)
  exact L4 ((288 - z2.toInt) + 1).toNat ls s.heap [] z2 z1 (lv_sub hl [0, 1, 2] rfl) hw hsz (by omega) (by omega) (by omega)

set_option maxHeartbeats 4000000 in
set_option maxRecDepth 100000 in
theorem t_X10_push {τ : Tp} (l : Launch) (B : Nat) (D : va_G) (cA : Nat → ClassId) (kd : sK) (ig : sI) (rg : sR) (lg : sG) (sz : Nat) (x : Int32) (hI : IC τ B kd ig rg) : MC l B D cA yX10_push cX10_push 2 none (rL 0 0 0) [.ref (B + 24), .int x] kd ig rg lg sz (PI 1006 τ B none kd ig rg lg (fun r kd' ig' rg' lg' => r = none)) := by
  refine MC.of (own := RX10) (by decide +kernel) rfl (Nat.le_of_ble_eq_true rfl) ?_
  intro p e s m args below meth c ls C hr hlk hnm hw hsz hl
  have hx := C.1.1
  have hb := C.1.2.1
  have hown := C.1.2.2.2.1
  have hts := C.1.2.2.2.2
  have hl : lv_has ls 2 [(0, .ref (B + 24)), (1, .int x)] := hl
  have hN : Nx 1006 B none kd ig rg lg kd ig rg lg := Nx.rf
  have hsh := hI.sh
  have hrs := hI.rs
  refine lv_aload_n hx hb dX10_push_0 rfl (lv_at hl 0 rfl) ?_
  refine r_get C hw (hsh 24 _ rfl) fl_X10_79 (oV_i rfl) dX10_push_1 (ti_c (ig (B + 24) 6).toInt rfl fun z1 hz1 => ?_)
  have k2 : 0 ≤ (ig (B + 24) 6).toInt ∧ (ig (B + 24) 6).toInt ≤ 32 := hI.i 24 6 (by decide)
  refine lv_bipush (v := 32) hx hb dX10_push_4 (by decide) (ti_c 32 (by decide) fun z3 hz3 => ?_)
  refine b_ge (tgt := 29) hx hb dX10_push_6 (by decide) (fun c6 => ?_) (fun c6 => ?_)
  · exact r_vret C hw hr hlk (Nat.le_of_ble_eq_true rfl) (Nat.le_of_ble_eq_true rfl) dX10_push_29 ⟨hI, hN, rfl⟩
  · refine lv_aload_n hx hb dX10_push_9 rfl (lv_at hl 0 rfl) ?_
    refine r_get C hw (hsh 24 _ rfl) fl_X10_29 (oV_r rfl (hrs (24, 5, 28) (by decide))) dX10_push_10 ?_
    refine lv_aload_n hx hb dX10_push_13 rfl (lv_at hl 0 rfl) ?_
    refine r_get C hw (hsh 24 _ rfl) fl_X10_79 (oV_i rfl) dX10_push_14 (ti_c (ig (B + 24) 6).toInt rfl fun z4 hz4 => ?_)
    have k5 : 0 ≤ (ig (B + 24) 6).toInt ∧ (ig (B + 24) 6).toInt ≤ 32 := hI.i 24 6 (by decide)
    refine lv_iload_n hx hb dX10_push_17 rfl (lv_at hl 1 rfl) ?_
    refine r_iast C hw (hsh 28 _ rfl) (by omega) (by omega) dX10_push_18 (fun H locs hH hw => ?_)
    obtain ⟨ig6, eig6⟩ : ∃ f, f = up2 ig (B + 28) z4.toInt.toNat x := ⟨_, rfl⟩
    rw [← eig6] at hw
    have hN : Nx 1006 B none kd ig rg lg kd ig6 rg lg := by rw [eig6]; exact hN.pi (by omega)
    have hI : IC τ B kd ig6 rg := by rw [eig6]; exact hI.pi (show okR none _ from trivial)
    have wig6_24_6 : (ig6 (B + 24) 6).toInt = (ig (B + 24) 6).toInt := by rw [eig6, up2_a (by omega)]
    refine lv_aload_n hx hb dX10_push_19 rfl (lv_at hl 0 rfl) ?_
    refine lv_dup hx hb dX10_push_20 rfl ?_
    refine r_get C hw (hsh 24 _ rfl) fl_X10_79 (oV_i rfl) dX10_push_21 (ti_c (ig6 (B + 24) 6).toInt rfl fun z7 hz7 => ?_)
    have k8 : 0 ≤ (ig6 (B + 24) 6).toInt ∧ (ig6 (B + 24) 6).toInt ≤ 32 := hI.i 24 6 (by decide)
    refine lv_iconst (v := 1) hx hb dX10_push_24 (by decide) (ti_c 1 (by decide) fun z9 hz9 => ?_)
    refine lv_iadd hx hb dX10_push_25 (tc_add fun z10 hz10 => ?_)
    first | replace hz10 := hz10 (by omega) | clear hz10
    refine r_puti C hw (hsh 24 _ rfl) fl_X10_79 rfl rfl rfl dX10_push_26 (fun H locs hH hw => ?_)
    obtain ⟨ig11, eig11⟩ : ∃ f, f = up2 ig6 (B + 24) 6 z10 := ⟨_, rfl⟩
    rw [← eig11] at hw
    have hN : Nx 1006 B none kd ig rg lg kd ig11 rg lg := by rw [eig11]; exact hN.pi (by omega)
    have hI : IC τ B kd ig11 rg := by rw [eig11]; exact hI.pi (show okR (some (0, 32)) _ from ⟨by show (0 : Int) ≤ _; omega, by show _ ≤ (32 : Int); omega⟩)
    have wig11 : (ig11 (B + 24) 6).toInt = z10.toInt := by rw [eig11, up2_eq]
    exact r_vret C hw hr hlk (Nat.le_of_ble_eq_true rfl) (Nat.le_of_ble_eq_true rfl) dX10_push_29 ⟨hI, hN, rfl⟩

set_option maxHeartbeats 4000000 in
set_option maxRecDepth 100000 in
theorem t_X10_pop {τ : Tp} (l : Launch) (B : Nat) (D : va_G) (cA : Nat → ClassId) (kd : sK) (ig : sI) (rg : sR) (lg : sG) (sz : Nat)  (hI : IC τ B kd ig rg) : MC l B D cA yX10_pop cX10_pop 1 (some .int) (rL 0 0 0) [.ref (B + 24)] kd ig rg lg sz (PI 1006 τ B none kd ig rg lg (fun r kd' ig' rg' lg' => ∃ z : Int32, r = some (.int z) ∧ True)) := by
  refine MC.of (own := RX10) (by decide +kernel) rfl (Nat.le_of_ble_eq_true rfl) ?_
  intro p e s m args below meth c ls C hr hlk hnm hw hsz hl
  have hx := C.1.1
  have hb := C.1.2.1
  have hown := C.1.2.2.2.1
  have hts := C.1.2.2.2.2
  have hl : lv_has ls 1 [(0, .ref (B + 24))] := hl
  have hN : Nx 1006 B none kd ig rg lg kd ig rg lg := Nx.rf
  have hsh := hI.sh
  have hrs := hI.rs
  refine lv_aload_n hx hb dX10_pop_0 rfl (lv_at hl 0 rfl) ?_
  refine r_get C hw (hsh 24 _ rfl) fl_X10_79 (oV_i rfl) dX10_pop_1 (ti_c (ig (B + 24) 6).toInt rfl fun z1 hz1 => ?_)
  have k2 : 0 ≤ (ig (B + 24) 6).toInt ∧ (ig (B + 24) 6).toInt ≤ 32 := hI.i 24 6 (by decide)
  refine z_gt (tgt := 9) hx hb dX10_pop_4 (by decide) (fun c4 => ?_) (fun c4 => ?_)
  · refine lv_aload_n hx hb dX10_pop_9 rfl (lv_at hl 0 rfl) ?_
    refine lv_dup hx hb dX10_pop_10 rfl ?_
    refine r_get C hw (hsh 24 _ rfl) fl_X10_79 (oV_i rfl) dX10_pop_11 (ti_c (ig (B + 24) 6).toInt rfl fun z3 hz3 => ?_)
    have k4 : 0 ≤ (ig (B + 24) 6).toInt ∧ (ig (B + 24) 6).toInt ≤ 32 := hI.i 24 6 (by decide)
    refine lv_iconst (v := 1) hx hb dX10_pop_14 (by decide) (ti_c 1 (by decide) fun z5 hz5 => ?_)
    refine lv_isub hx hb dX10_pop_15 (tc_sub fun z6 hz6 => ?_)
    first | replace hz6 := hz6 (by omega) | clear hz6
    refine r_puti C hw (hsh 24 _ rfl) fl_X10_79 rfl rfl rfl dX10_pop_16 (fun H locs hH hw => ?_)
    obtain ⟨ig7, eig7⟩ : ∃ f, f = up2 ig (B + 24) 6 z6 := ⟨_, rfl⟩
    rw [← eig7] at hw
    have hN : Nx 1006 B none kd ig rg lg kd ig7 rg lg := by rw [eig7]; exact hN.pi (by omega)
    have hI : IC τ B kd ig7 rg := by rw [eig7]; exact hI.pi (show okR (some (0, 32)) _ from ⟨by show (0 : Int) ≤ _; omega, by show _ ≤ (32 : Int); omega⟩)
    have wig7 : (ig7 (B + 24) 6).toInt = z6.toInt := by rw [eig7, up2_eq]
    refine lv_aload_n hx hb dX10_pop_19 rfl (lv_at hl 0 rfl) ?_
    refine r_get C hw (hsh 24 _ rfl) fl_X10_29 (oV_r rfl (hrs (24, 5, 28) (by decide))) dX10_pop_20 ?_
    refine lv_aload_n hx hb dX10_pop_23 rfl (lv_at hl 0 rfl) ?_
    refine r_get C hw (hsh 24 _ rfl) fl_X10_79 (oV_i rfl) dX10_pop_24 (ti_c (ig7 (B + 24) 6).toInt rfl fun z8 hz8 => ?_)
    have k9 : 0 ≤ (ig7 (B + 24) 6).toInt ∧ (ig7 (B + 24) 6).toInt ≤ 32 := hI.i 24 6 (by decide)
    refine r_iald C hw (hsh 28 _ rfl) (by omega) (by omega) dX10_pop_27 (ti_c (ig7 (B + 28) z8.toInt.toNat).toInt rfl fun z10 hz10 => ?_)
    exact r_iret C hw hr hlk rfl (Nat.le_of_ble_eq_true rfl) (Nat.le_of_ble_eq_true rfl) dX10_pop_28 ⟨hI, hN, ⟨_, rfl, trivial⟩⟩
  · refine lv_iconst (v := 0) hx hb dX10_pop_7 (by decide) (ti_c 0 (by decide) fun z11 hz11 => ?_)
    exact r_iret C hw hr hlk rfl (Nat.le_of_ble_eq_true rfl) (Nat.le_of_ble_eq_true rfl) dX10_pop_8 ⟨hI, hN, ⟨_, rfl, trivial⟩⟩

set_option maxHeartbeats 4000000 in
set_option maxRecDepth 100000 in
theorem t_X10_quotient {τ : Tp} (l : Launch) (B : Nat) (D : va_G) (cA : Nat → ClassId) (kd : sK) (ig : sI) (rg : sR) (lg : sG) (sz : Nat) (x : Int32) (y : Int32) (hI : IC τ B kd ig rg) : MC l B D cA yX10_quotient cX10_quotient 3 (some .int) (rL 0 0 0) [.ref (B + 24), .int x, .int y] kd ig rg lg sz (PI 1006 τ B none kd ig rg lg (fun r kd' ig' rg' lg' => ∃ z : Int32, r = some (.int z) ∧ True)) := by
  refine MC.of (own := RX10) (by decide +kernel) rfl (Nat.le_of_ble_eq_true rfl) ?_
  intro p e s m args below meth c ls C hr hlk hnm hw hsz hl
  have hx := C.1.1
  have hb := C.1.2.1
  have hown := C.1.2.2.2.1
  have hts := C.1.2.2.2.2
  have hl : lv_has ls 3 [(0, .ref (B + 24)), (1, .int x), (2, .int y)] := hl
  have hN : Nx 1006 B none kd ig rg lg kd ig rg lg := Nx.rf
  have hsh := hI.sh
  have hrs := hI.rs
  refine lv_iload_n hx hb dX10_quotient_0 rfl (lv_at hl 2 rfl) ?_
  refine z_ne (tgt := 11) hx hb dX10_quotient_1 (by decide) (fun c1 => ?_) (fun c1 => ?_)
  · refine lv_iload_n hx hb dX10_quotient_11 rfl (lv_at hl 1 rfl) ?_
    refine lv_iload_n hx hb dX10_quotient_12 rfl (lv_at hl 2 rfl) ?_
    refine lv_idiv hx hb dX10_quotient_13 (ne0_of (by omega)) (ti_any fun z1 => ?_)
    exact r_iret C hw hr hlk rfl (Nat.le_of_ble_eq_true rfl) (Nat.le_of_ble_eq_true rfl) dX10_quotient_14 ⟨hI, hN, ⟨_, rfl, trivial⟩⟩
  · refine lv_aload_n hx hb dX10_quotient_4 rfl (lv_at hl 0 rfl) ?_
    refine lv_iconst (v := 1) hx hb dX10_quotient_5 (by decide) (ti_c 1 (by decide) fun z2 hz2 => ?_)
    refine r_puti C hw (hsh 24 _ rfl) fl_X10_76 rfl rfl rfl dX10_quotient_6 (fun H locs hH hw => ?_)
    obtain ⟨ig3, eig3⟩ : ∃ f, f = up2 ig (B + 24) 7 z2 := ⟨_, rfl⟩
    rw [← eig3] at hw
    have hN : Nx 1006 B none kd ig rg lg kd ig3 rg lg := by rw [eig3]; exact hN.pi (by omega)
    have hI : IC τ B kd ig3 rg := by rw [eig3]; exact hI.pi (show okR none _ from trivial)
    refine lv_iconst (v := 0) hx hb dX10_quotient_9 (by decide) (ti_c 0 (by decide) fun z4 hz4 => ?_)
    exact r_iret C hw hr hlk rfl (Nat.le_of_ble_eq_true rfl) (Nat.le_of_ble_eq_true rfl) dX10_quotient_10 ⟨hI, hN, ⟨_, rfl, trivial⟩⟩

set_option maxHeartbeats 4000000 in
set_option maxRecDepth 100000 in
theorem t_X10_join {τ : Tp} (l : Launch) (B : Nat) (D : va_G) (cA : Nat → ClassId) (kd : sK) (ig : sI) (rg : sR) (lg : sG) (sz : Nat) (x : Int32) (hI : IC τ B kd ig rg) : MC l B D cA yX10_join cX10_join 4 none (rL 1 0 0) [.ref (B + 24), .int x] kd ig rg lg sz (PI 1006 τ B none kd ig rg lg (fun r kd' ig' rg' lg' => r = none)) := by
  refine MC.of (own := RX10) (by decide +kernel) rfl (Nat.le_of_ble_eq_true rfl) ?_
  intro p e s m args below meth c ls C hr hlk hnm hw hsz hl
  have hx := C.1.1
  have hb := C.1.2.1
  have hown := C.1.2.2.2.1
  have hts := C.1.2.2.2.2
  have hl : lv_has ls 4 [(0, .ref (B + 24)), (1, .int x)] := hl
  have hN : Nx 1006 B none kd ig rg lg kd ig rg lg := Nx.rf
  have hsh := hI.sh
  have hrs := hI.rs
  refine lv_aload_n hx hb dX10_join_0 rfl (lv_at hl 0 rfl) ?_
  refine r_callV (As := []) (rest := []) C hw (t_X10_pop l B D cA kd ig rg lg _   hI) sv_X10_104 (hsh 24 _ rfl) rfl hl.1 rfl (Nat.le_of_ble_eq_true rfl) ⟨Nat.le_of_ble_eq_true rfl, Nat.le_of_ble_eq_true rfl⟩ ⟨Nat.le_of_ble_eq_true rfl, Nat.le_of_ble_eq_true rfl⟩ dX10_join_1 (fun r5 kd1 ig2 rg3 lg4 H locs hw hH hp6 => ?_)
  obtain ⟨hI, hchp6, hrhp6⟩ := hp6
  have hN := hN.tr hchp6
  have hsh := hI.sh
  have hrs := hI.rs
  obtain ⟨z7, rfl, hz7⟩ := hrhp6
  refine lv_istore_n (lv' := [(2, .int z7), (0, .ref (B + 24)), (1, .int x)]) hx hb dX10_join_4 rfl hl (by decide) rfl (fun ls hl => ?_)
  refine lv_aload_n hx hb dX10_join_5 rfl (lv_at hl 1 rfl) ?_
  refine r_callV (As := []) (rest := []) C hw (t_X10_pop l B D cA kd1 ig2 rg3 lg4 _   hI) sv_X10_104 (hsh 24 _ rfl) rfl hl.1 rfl (Nat.le_of_ble_eq_true rfl) ⟨Nat.le_of_ble_eq_true rfl, Nat.le_of_ble_eq_true rfl⟩ ⟨Nat.le_of_ble_eq_true rfl, Nat.le_of_ble_eq_true rfl⟩ dX10_join_6 (fun r12 kd8 ig9 rg10 lg11 H locs hw hH hp13 => ?_)
  obtain ⟨hI, hchp13, hrhp13⟩ := hp13
  have hN := hN.tr hchp13
  have hsh := hI.sh
  have hrs := hI.rs
  obtain ⟨z14, rfl, hz14⟩ := hrhp13
  refine lv_istore_n (lv' := [(3, .int z14), (2, .int z7), (0, .ref (B + 24)), (1, .int x)]) hx hb dX10_join_9 rfl hl (by decide) rfl (fun ls hl => ?_)
  refine lv_iload_n hx hb dX10_join_10 rfl (lv_at hl 3 rfl) ?_
  by_cases s11_5 : x.toInt = 5
  · refine lv_tableIn hx hb dX10_join_11 (by omega) (by omega) (off := 25) (by rw [s11_5]; rfl) (tgt := 36) (by decide) ?_
    refine lv_aload_n hx hb dX10_join_36 rfl (lv_at hl 2 rfl) ?_
    refine lv_iload_n hx hb dX10_join_37 rfl (lv_at hl 0 rfl) ?_
    refine lv_iload_n hx hb dX10_join_38 rfl (lv_at hl 1 rfl) ?_
    refine lv_iadd hx hb dX10_join_39 (tc_add fun z15 hz15 => ?_)
    first | replace hz15 := hz15 (by omega) | clear hz15
    refine r_callV (As := [.int z15]) (rest := []) C hw (t_X10_push l B D cA kd8 ig9 rg10 lg11 _ z15  hI) sv_X10_93 (hsh 24 _ rfl) rfl hl.1 rfl (Nat.le_of_ble_eq_true rfl) ⟨Nat.le_of_ble_eq_true rfl, Nat.le_of_ble_eq_true rfl⟩ ⟨Nat.le_of_ble_eq_true rfl, Nat.le_of_ble_eq_true rfl⟩ dX10_join_40 (fun r20 kd16 ig17 rg18 lg19 H locs hw hH hp21 => ?_)
    obtain ⟨hI, hchp21, hrhp21⟩ := hp21
    have hN := hN.tr hchp21
    have hsh := hI.sh
    have hrs := hI.rs
    obtain rfl := hrhp21
    refine lv_goto (tgt := 76) hx hb dX10_join_43 (by decide) ?_
    exact r_vret C hw hr hlk (Nat.le_of_ble_eq_true rfl) (Nat.le_of_ble_eq_true rfl) dX10_join_76 ⟨hI, hN, rfl⟩
  by_cases s11_6 : x.toInt = 6
  · refine lv_tableIn hx hb dX10_join_11 (by omega) (by omega) (off := 35) (by rw [s11_6]; rfl) (tgt := 46) (by decide) ?_
    refine lv_aload_n hx hb dX10_join_46 rfl (lv_at hl 2 rfl) ?_
    refine lv_iload_n hx hb dX10_join_47 rfl (lv_at hl 0 rfl) ?_
    refine lv_iload_n hx hb dX10_join_48 rfl (lv_at hl 1 rfl) ?_
    refine lv_isub hx hb dX10_join_49 (tc_sub fun z22 hz22 => ?_)
    first | replace hz22 := hz22 (by omega) | clear hz22
    refine r_callV (As := [.int z22]) (rest := []) C hw (t_X10_push l B D cA kd8 ig9 rg10 lg11 _ z22  hI) sv_X10_93 (hsh 24 _ rfl) rfl hl.1 rfl (Nat.le_of_ble_eq_true rfl) ⟨Nat.le_of_ble_eq_true rfl, Nat.le_of_ble_eq_true rfl⟩ ⟨Nat.le_of_ble_eq_true rfl, Nat.le_of_ble_eq_true rfl⟩ dX10_join_50 (fun r27 kd23 ig24 rg25 lg26 H locs hw hH hp28 => ?_)
    obtain ⟨hI, hchp28, hrhp28⟩ := hp28
    have hN := hN.tr hchp28
    have hsh := hI.sh
    have hrs := hI.rs
    obtain rfl := hrhp28
    refine lv_goto (tgt := 76) hx hb dX10_join_53 (by decide) ?_
    exact r_vret C hw hr hlk (Nat.le_of_ble_eq_true rfl) (Nat.le_of_ble_eq_true rfl) dX10_join_76 ⟨hI, hN, rfl⟩
  by_cases s11_7 : x.toInt = 7
  · refine lv_tableIn hx hb dX10_join_11 (by omega) (by omega) (off := 45) (by rw [s11_7]; rfl) (tgt := 56) (by decide) ?_
    refine lv_aload_n hx hb dX10_join_56 rfl (lv_at hl 2 rfl) ?_
    refine lv_iload_n hx hb dX10_join_57 rfl (lv_at hl 0 rfl) ?_
    refine lv_iload_n hx hb dX10_join_58 rfl (lv_at hl 1 rfl) ?_
    refine lv_imul hx hb dX10_join_59 (ti_any fun z29 => ?_)
    refine r_callV (As := [.int z29]) (rest := []) C hw (t_X10_push l B D cA kd8 ig9 rg10 lg11 _ z29  hI) sv_X10_93 (hsh 24 _ rfl) rfl hl.1 rfl (Nat.le_of_ble_eq_true rfl) ⟨Nat.le_of_ble_eq_true rfl, Nat.le_of_ble_eq_true rfl⟩ ⟨Nat.le_of_ble_eq_true rfl, Nat.le_of_ble_eq_true rfl⟩ dX10_join_60 (fun r34 kd30 ig31 rg32 lg33 H locs hw hH hp35 => ?_)
    obtain ⟨hI, hchp35, hrhp35⟩ := hp35
    have hN := hN.tr hchp35
    have hsh := hI.sh
    have hrs := hI.rs
    obtain rfl := hrhp35
    refine lv_goto (tgt := 76) hx hb dX10_join_63 (by decide) ?_
    exact r_vret C hw hr hlk (Nat.le_of_ble_eq_true rfl) (Nat.le_of_ble_eq_true rfl) dX10_join_76 ⟨hI, hN, rfl⟩
  refine lv_tableOut hx hb dX10_join_11 (by omega) (tgt := 66) (by decide) ?_
  refine lv_aload_n hx hb dX10_join_66 rfl (lv_at hl 2 rfl) ?_
  refine lv_aload_n hx hb dX10_join_67 rfl (lv_at hl 2 rfl) ?_
  refine lv_iload_n hx hb dX10_join_68 rfl (lv_at hl 0 rfl) ?_
  refine lv_iload_n hx hb dX10_join_69 rfl (lv_at hl 1 rfl) ?_
  refine r_callV (As := [.int z14, .int z7]) (rest := [.ref (B + 24)]) C hw (t_X10_quotient l B D cA kd8 ig9 rg10 lg11 _ z14 z7  hI) sv_X10_120 (hsh 24 _ rfl) rfl hl.1 rfl (Nat.le_of_ble_eq_true rfl) ⟨Nat.le_of_ble_eq_true rfl, Nat.le_of_ble_eq_true rfl⟩ ⟨Nat.le_of_ble_eq_true rfl, Nat.le_of_ble_eq_true rfl⟩ dX10_join_70 (fun r40 kd36 ig37 rg38 lg39 H locs hw hH hp41 => ?_)
  obtain ⟨hI, hchp41, hrhp41⟩ := hp41
  have hN := hN.tr hchp41
  have hsh := hI.sh
  have hrs := hI.rs
  obtain ⟨z42, rfl, hz42⟩ := hrhp41
  refine r_callV (As := [.int z42]) (rest := []) C hw (t_X10_push l B D cA kd36 ig37 rg38 lg39 _ z42  hI) sv_X10_93 (hsh 24 _ rfl) rfl hl.1 rfl (Nat.le_of_ble_eq_true rfl) ⟨Nat.le_of_ble_eq_true rfl, Nat.le_of_ble_eq_true rfl⟩ ⟨Nat.le_of_ble_eq_true rfl, Nat.le_of_ble_eq_true rfl⟩ dX10_join_73 (fun r47 kd43 ig44 rg45 lg46 H locs hw hH hp48 => ?_)
  obtain ⟨hI, hchp48, hrhp48⟩ := hp48
  have hN := hN.tr hchp48
  have hsh := hI.sh
  have hrs := hI.rs
  obtain rfl := hrhp48
  exact r_vret C hw hr hlk (Nat.le_of_ble_eq_true rfl) (Nat.le_of_ble_eq_true rfl) dX10_join_76 ⟨hI, hN, rfl⟩

set_option maxHeartbeats 4000000 in
set_option maxRecDepth 100000 in
theorem t_X10_spanSum {τ : Tp} (l : Launch) (B : Nat) (D : va_G) (cA : Nat → ClassId) (kd : sK) (ig : sI) (rg : sR) (lg : sG) (sz : Nat) (x : Int32) (g ng : Nat) (Fg : isFn B kd rg g ng) (y : Int32) (hI : IC τ B kd ig rg) : MC l B D cA yX10_spanSum cX10_spanSum 7 (some .int) (rL 3 0 0) [.ref (B + 24), .int x, .ref g, .int y] kd ig rg lg sz (PI 1006 τ B none kd ig rg lg (fun r kd' ig' rg' lg' => ∃ z : Int32, r = some (.int z) ∧ True)) := by
  refine MC.of (own := RX10) (by decide +kernel) rfl (Nat.le_of_ble_eq_true rfl) ?_
  intro p e s m args below meth c ls C hr hlk hnm hw hsz hl
  have hx := C.1.1
  have hb := C.1.2.1
  have hown := C.1.2.2.2.1
  have hts := C.1.2.2.2.2
  have hl : lv_has ls 7 [(0, .ref (B + 24)), (1, .int x), (2, .ref g), (3, .int y)] := hl
  have hN : Nx 1006 B none kd ig rg lg kd ig rg lg := Nx.rf
  have hsh := hI.sh
  have hrs := hI.rs
  have lng := Fg.le
  refine lv_iconst (v := 0) hx hb dX10_spanSum_0 (by decide) (ti_c 0 (by decide) fun z1 hz1 => ?_)
  refine lv_istore (lv' := [(4, .int z1), (0, .ref (B + 24)), (1, .int x), (2, .ref g), (3, .int y)]) hx hb dX10_spanSum_1 hl (by decide) rfl (fun ls hl => ?_)
  refine lv_aload_n hx hb dX10_spanSum_3 rfl (lv_at hl 3 rfl) ?_
  refine lv_iload_n hx hb dX10_spanSum_4 rfl (lv_at hl 4 rfl) ?_
  refine lv_iload_n hx hb dX10_spanSum_5 rfl (lv_at hl 2 rfl) ?_
  refine lv_aload_n hx hb dX10_spanSum_6 rfl (lv_at hl 1 rfl) ?_
  refine r_get C hw (hsh 24 _ rfl) fl_X10_26 (oV_r rfl (hrs (24, 4, 27) (by decide))) dX10_spanSum_7 ?_
  refine r_callV (As := [.int y, .int x, .ref (B + 27)]) (rest := []) C hw (t_X4_listPlaces l B D cA kd ig rg lg _ g ng Fg y x 27 (Or.inr (Or.inl rfl))  hI) sv_X10_110 (isFn.k Fg) rfl hl.1 rfl (Nat.le_of_ble_eq_true rfl) ⟨Nat.le_of_ble_eq_true rfl, Nat.le_of_ble_eq_true rfl⟩ ⟨Nat.le_of_ble_eq_true rfl, Nat.le_of_ble_eq_true rfl⟩ dX10_spanSum_10 (fun r6 kd2 ig3 rg4 lg5 H locs hw hH hp7 => ?_)
  obtain ⟨hI, hchp7, hrhp7⟩ := hp7
  have hN := hN.tr hchp7
  have hsh := hI.sh
  have hrs := hI.rs
  obtain ⟨z8, rfl, hz8⟩ := hrhp7
  refine lv_istore (lv' := [(5, .int z8), (4, .int z1), (0, .ref (B + 24)), (1, .int x), (2, .ref g), (3, .int y)]) hx hb dX10_spanSum_13 hl (by decide) rfl (fun ls hl => ?_)
  refine lv_iconst (v := 0) hx hb dX10_spanSum_15 (by decide) (ti_c 0 (by decide) fun z9 hz9 => ?_)
  refine lv_istore (lv' := [(6, .int z9), (5, .int z8), (4, .int z1), (0, .ref (B + 24)), (1, .int x), (2, .ref g), (3, .int y)]) hx hb dX10_spanSum_16 hl (by decide) rfl (fun ls hl => ?_)
  have L18 : ∀ (n : Nat) (ls : Array Slot) (H : Heap) (locs : List Loc) (kd12 : sK) (ig13 : sI) (rg14 : sR) (lg15 : sG) (v10 : Int32) (v11 : Int32), lv_has ls 7 [(6, .int v10), (5, .int z8), (4, .int v11), (0, .ref (B + 24))] → WD B D cA s.heap kd12 ig13 rg14 lg15 H locs → IC τ B kd12 ig13 rg14 → Nx 1006 B none kd ig rg lg kd12 ig13 rg14 lg15 → (0 ≤ v10.toInt) → (v10.toInt ≤ 288) → 288 - v10.toInt < (n : Int) → W p l e (rL 3 0 0) s m args below meth c H locs 0 0 (MQ below (QcW B D cA (PI 1006 τ B none kd ig rg lg (fun r kd' ig' rg' lg' => ∃ z : Int32, r = some (.int z) ∧ True))) args s 0 0 (fun q => B ≤ q)) (F0 m 18 ls []) := by
    intro n18
    induction n18 with
    | zero => intro ls H locs kd12 ig13 rg14 lg15 v10 v11 hl hw hI hN g18_0 g18_1 hmu; exact absurd hmu (by omega)
    | succ n18 ih18 =>
      intro ls H locs kd12 ig13 rg14 lg15 v10 v11 hl hw hI hN g18_0 g18_1 hmu
      have hsh := hI.sh
      have hrs := hI.rs
      refine lv_iload hx hb dX10_spanSum_18 (lv_at hl 0 rfl) ?_
      refine lv_iload hx hb dX10_spanSum_20 (lv_at hl 1 rfl) ?_
      refine b_ge (tgt := 77) hx hb dX10_spanSum_22 (by decide) (fun c22 => ?_) (fun c22 => ?_)
      · refine lv_iload hx hb dX10_spanSum_77 (lv_at hl 2 rfl) ?_
        exact r_iret C hw hr hlk rfl (Nat.le_of_ble_eq_true rfl) (Nat.le_of_ble_eq_true rfl) dX10_spanSum_79 ⟨hI, hN, ⟨_, rfl, trivial⟩⟩
      · refine lv_iload hx hb dX10_spanSum_25 (lv_at hl 0 rfl) ?_
        refine lv_sipush (v := 288) hx hb dX10_spanSum_27 (by decide) (ti_c 288 (by decide) fun z16 hz16 => ?_)
        refine b_ge (tgt := 77) hx hb dX10_spanSum_30 (by decide) (fun c30 => ?_) (fun c30 => ?_)
        · refine lv_iload hx hb dX10_spanSum_77 (lv_at hl 2 rfl) ?_
          exact r_iret C hw hr hlk rfl (Nat.le_of_ble_eq_true rfl) (Nat.le_of_ble_eq_true rfl) dX10_spanSum_79 ⟨hI, hN, ⟨_, rfl, trivial⟩⟩
        · refine lv_aload_n hx hb dX10_spanSum_33 rfl (lv_at hl 3 rfl) ?_
          refine r_get C hw (hsh 24 _ rfl) fl_X10_76 (oV_i rfl) dX10_spanSum_34 (ti_c (ig13 (B + 24) 7).toInt rfl fun z17 hz17 => ?_)
          refine z_ne (tgt := 77) hx hb dX10_spanSum_37 (by decide) (fun c37 => ?_) (fun c37 => ?_)
          · refine lv_iload hx hb dX10_spanSum_77 (lv_at hl 2 rfl) ?_
            exact r_iret C hw hr hlk rfl (Nat.le_of_ble_eq_true rfl) (Nat.le_of_ble_eq_true rfl) dX10_spanSum_79 ⟨hI, hN, ⟨_, rfl, trivial⟩⟩
          · refine lv_aload_n hx hb dX10_spanSum_40 rfl (lv_at hl 3 rfl) ?_
            refine lv_aload_n hx hb dX10_spanSum_41 rfl (lv_at hl 3 rfl) ?_
            refine lv_aload_n hx hb dX10_spanSum_42 rfl (lv_at hl 3 rfl) ?_
            refine r_get C hw (hsh 24 _ rfl) fl_X10_26 (oV_r rfl (hrs (24, 4, 27) (by decide))) dX10_spanSum_43 ?_
            refine lv_iload hx hb dX10_spanSum_46 (lv_at hl 0 rfl) ?_
            refine r_iald C hw (hsh 27 _ rfl) (by omega) (by omega) dX10_spanSum_48 (ti_c (ig13 (B + 27) v10.toInt.toNat).toInt rfl fun z18 hz18 => ?_)
            refine r_callV (As := [.int z18]) (rest := [.ref (B + 24)]) C hw (t_X10_errorAt l B D cA kd12 ig13 rg14 lg15 _ z18  hI) sv_X10_114 (hsh 24 _ rfl) rfl hl.1 rfl (Nat.le_of_ble_eq_true rfl) ⟨Nat.le_of_ble_eq_true rfl, Nat.le_of_ble_eq_true rfl⟩ ⟨Nat.le_of_ble_eq_true rfl, Nat.le_of_ble_eq_true rfl⟩ dX10_spanSum_49 (fun r23 kd19 ig20 rg21 lg22 H locs hw hH hp24 => ?_)
            obtain ⟨rfl, rfl, rfl, rfl, hzhp24, hrhp24⟩ := hp24
            obtain ⟨z25, rfl, hz25⟩ := hrhp24
            refine r_puti C hw (hsh 24 _ rfl) fl_X10_76 rfl rfl rfl dX10_spanSum_52 (fun H locs hH hw => ?_)
            obtain ⟨ig26, eig26⟩ : ∃ f, f = up2 ig13 (B + 24) 7 z25 := ⟨_, rfl⟩
            rw [← eig26] at hw
            have hN : Nx 1006 B none kd ig rg lg kd12 ig26 rg14 lg15 := by rw [eig26]; exact hN.pi (by omega)
            have hI : IC τ B kd12 ig26 rg14 := by rw [eig26]; exact hI.pi (show okR none _ from trivial)
            refine lv_iload hx hb dX10_spanSum_55 (lv_at hl 2 rfl) ?_
            refine lv_aload_n hx hb dX10_spanSum_57 rfl (lv_at hl 3 rfl) ?_
            refine lv_aload_n hx hb dX10_spanSum_58 rfl (lv_at hl 3 rfl) ?_
            refine r_get C hw (hsh 24 _ rfl) fl_X10_26 (oV_r rfl (hrs (24, 4, 27) (by decide))) dX10_spanSum_59 ?_
            refine lv_iload hx hb dX10_spanSum_62 (lv_at hl 0 rfl) ?_
            refine r_iald C hw (hsh 27 _ rfl) (by omega) (by omega) dX10_spanSum_64 (ti_c (ig26 (B + 27) v10.toInt.toNat).toInt rfl fun z27 hz27 => ?_)
            refine r_callV (As := [.int z27]) (rest := [.int v11]) C hw (t_X10_valueAt l B D cA kd12 ig26 rg14 lg15 _ z27  hI) sv_X10_117 (hsh 24 _ rfl) rfl hl.1 rfl (Nat.le_of_ble_eq_true rfl) ⟨Nat.le_of_ble_eq_true rfl, Nat.le_of_ble_eq_true rfl⟩ ⟨Nat.le_of_ble_eq_true rfl, Nat.le_of_ble_eq_true rfl⟩ dX10_spanSum_65 (fun r32 kd28 ig29 rg30 lg31 H locs hw hH hp33 => ?_)
            obtain ⟨rfl, rfl, rfl, rfl, hzhp33, hrhp33⟩ := hp33
            obtain ⟨z34, rfl, hz34⟩ := hrhp33
            refine lv_iadd hx hb dX10_spanSum_68 (tc_add fun z35 hz35 => ?_)
            first | replace hz35 := hz35 (by omega) | clear hz35
            refine lv_istore (lv' := [(4, .int z35), (6, .int v10), (5, .int z8), (0, .ref (B + 24))]) hx hb dX10_spanSum_69 hl (by decide) rfl (fun ls hl => ?_)
            refine tc_inc hx hb dX10_spanSum_71 hl (k := 1) rfl (by decide) (by decide) (fun z36 hz36 ls hl => ?_)
            first | replace hz36 := hz36 (by omega) | clear hz36
            have hl : lv_has ls 7 [(6, .int z36), (4, .int z35), (5, .int z8), (0, .ref (B + 24))] := hl
            refine lv_goto (tgt := 18) hx hb dX10_spanSum_74 (by decide) ?_
            exact ih18 ls H locs kd12 ig26 rg14 lg15 z36 z35 (lv_sub hl [0, 2, 1, 3] rfl) hw hI hN (by omega) (by omega) (by omega)
  exact L18 ((288 - z9.toInt) + 1).toNat ls H locs kd2 ig3 rg4 lg5 z9 z1 (lv_sub hl [0, 1, 2, 3] rfl) hw hI hN (by omega) (by omega) (by omega)

set_option maxHeartbeats 4000000 in
set_option maxRecDepth 100000 in
theorem t_X10_workOut {τ : Tp} (l : Launch) (B : Nat) (D : va_G) (cA : Nat → ClassId) (kd : sK) (ig : sI) (rg : sR) (lg : sG) (sz : Nat) (x : Int32) (g ng : Nat) (Fg : isFn B kd rg g ng) (hx0 : 0 ≤ x.toInt ∧ x.toInt < 288) (hI : IC τ B kd ig rg) : MC l B D cA yX10_workOut cX10_workOut 5 none (rL 4 0 0) [.ref (B + 24), .int x, .ref g] kd ig rg lg sz (PI 1006 τ B none kd ig rg lg (fun r kd' ig' rg' lg' => r = none)) := by
  refine MC.of (own := RX10) (by decide +kernel) rfl (Nat.le_of_ble_eq_true rfl) ?_
  intro p e s m args below meth c ls C hr hlk hnm hw hsz hl
  have hx := C.1.1
  have hb := C.1.2.1
  have hown := C.1.2.2.2.1
  have hts := C.1.2.2.2.2
  have hl : lv_has ls 5 [(0, .ref (B + 24)), (1, .int x), (2, .ref g)] := hl
  have hN : Nx 1006 B none kd ig rg lg kd ig rg lg := Nx.rf
  have hsh := hI.sh
  have hrs := hI.rs
  have lng := Fg.le
  refine lv_aload_n hx hb dX10_workOut_0 rfl (lv_at hl 0 rfl) ?_
  refine lv_aload_n hx hb dX10_workOut_1 rfl (lv_at hl 0 rfl) ?_
  refine r_get C hw (hsh 24 _ rfl) fl_X10_15 (oV_r rfl (hrs (24, 1, 15) (by decide))) dX10_workOut_2 ?_
  refine lv_iload_n hx hb dX10_workOut_5 rfl (lv_at hl 1 rfl) ?_
  refine r_callV (As := [.int x]) (rest := [.ref (B + 24)]) C hw (t_X5_inRing l B D cA kd ig rg lg _ x  hI) sv_X10_73 (hsh 15 _ rfl) rfl hl.1 rfl (Nat.le_of_ble_eq_true rfl) ⟨Nat.le_of_ble_eq_true rfl, Nat.le_of_ble_eq_true rfl⟩ ⟨Nat.le_of_ble_eq_true rfl, Nat.le_of_ble_eq_true rfl⟩ dX10_workOut_6 (fun r5 kd1 ig2 rg3 lg4 H locs hw hH hp6 => ?_)
  obtain ⟨rfl, rfl, rfl, rfl, hzhp6, hrhp6⟩ := hp6
  obtain ⟨z7, rfl, hz7⟩ := hrhp6
  refine z_eq (tgt := 16) hx hb dX10_workOut_9 (by decide) (fun c9 => ?_) (fun c9 => ?_)
  · refine lv_iconst (v := 0) hx hb dX10_workOut_16 (by decide) (ti_c 0 (by decide) fun z8 hz8 => ?_)
    refine r_puti C hw (hsh 24 _ rfl) fl_X10_76 rfl rfl rfl dX10_workOut_17 (fun H locs hH hw => ?_)
    obtain ⟨ig9, eig9⟩ : ∃ f, f = up2 ig (B + 24) 7 z8 := ⟨_, rfl⟩
    rw [← eig9] at hw
    have hN : Nx 1006 B none kd ig rg lg kd ig9 rg lg := by rw [eig9]; exact hN.pi (by omega)
    have hI : IC τ B kd ig9 rg := by rw [eig9]; exact hI.pi (show okR none _ from trivial)
    refine lv_aload_n hx hb dX10_workOut_20 rfl (lv_at hl 0 rfl) ?_
    refine lv_iconst (v := 0) hx hb dX10_workOut_21 (by decide) (ti_c 0 (by decide) fun z10 hz10 => ?_)
    refine r_puti C hw (hsh 24 _ rfl) fl_X10_79 rfl rfl rfl dX10_workOut_22 (fun H locs hH hw => ?_)
    obtain ⟨ig11, eig11⟩ : ∃ f, f = up2 ig9 (B + 24) 6 z10 := ⟨_, rfl⟩
    rw [← eig11] at hw
    have hN : Nx 1006 B none kd ig rg lg kd ig11 rg lg := by rw [eig11]; exact hN.pi (by omega)
    have hI : IC τ B kd ig11 rg := by rw [eig11]; exact hI.pi (show okR (some (0, 32)) _ from ⟨by show (0 : Int) ≤ _; omega, by show _ ≤ (32 : Int); omega⟩)
    refine lv_iconst (v := 0) hx hb dX10_workOut_25 (by decide) (ti_c 0 (by decide) fun z12 hz12 => ?_)
    refine lv_istore_n (lv' := [(3, .int z12), (0, .ref (B + 24)), (1, .int x), (2, .ref g)]) hx hb dX10_workOut_26 rfl hl (by decide) rfl (fun ls hl => ?_)
    have L27 : ∀ (n : Nat) (ls : Array Slot) (H : Heap) (locs : List Loc) (kd14 : sK) (ig15 : sI) (rg16 : sR) (lg17 : sG) (v13 : Int32), lv_has ls 5 [(3, .int v13), (0, .ref (B + 24)), (1, .int x), (2, .ref g)] → WD B D cA s.heap kd14 ig15 rg16 lg17 H locs → IC τ B kd14 ig15 rg16 → Nx 1006 B none kd ig rg lg kd14 ig15 rg16 lg17 → isFn B kd14 rg16 g ng → (0 ≤ v13.toInt) → (v13.toInt ≤ 120) → 120 - v13.toInt < (n : Int) → W p l e (rL 4 0 0) s m args below meth c H locs 0 0 (MQ below (QcW B D cA (PI 1006 τ B none kd ig rg lg (fun r kd' ig' rg' lg' => r = none))) args s 0 0 (fun q => B ≤ q)) (F0 m 27 ls []) := by
      intro n27
      induction n27 with
      | zero => intro ls H locs kd14 ig15 rg16 lg17 v13 hl hw hI hN Fg g27_0 g27_1 hmu; exact absurd hmu (by omega)
      | succ n27 ih27 =>
        intro ls H locs kd14 ig15 rg16 lg17 v13 hl hw hI hN Fg g27_0 g27_1 hmu
        have hsh := hI.sh
        have hrs := hI.rs
        refine lv_iload_n hx hb dX10_workOut_27 rfl (lv_at hl 0 rfl) ?_
        refine lv_aload_n hx hb dX10_workOut_28 rfl (lv_at hl 3 rfl) ?_
        refine r_callV (As := []) (rest := [.int v13]) C hw (t_X4_size l B D cA kd14 ig15 rg16 lg17 _ g ng Fg  hI) sv_X10_82 (isFn.k Fg) rfl hl.1 rfl (Nat.le_of_ble_eq_true rfl) ⟨Nat.le_of_ble_eq_true rfl, Nat.le_of_ble_eq_true rfl⟩ ⟨Nat.le_of_ble_eq_true rfl, Nat.le_of_ble_eq_true rfl⟩ dX10_workOut_29 (fun r22 kd18 ig19 rg20 lg21 H locs hw hH hp23 => ?_)
        obtain ⟨rfl, rfl, rfl, rfl, hzhp23, hrhp23⟩ := hp23
        obtain ⟨z24, rfl, hz24⟩ := hrhp23
        have J124 : ∀ (ls : Array Slot) (H : Heap) (locs : List Loc) (kd25 : sK) (ig26 : sI) (rg27 : sR) (lg28 : sG) , lv_has ls 5 [(0, .ref (B + 24)), (1, .int x)] → WD B D cA s.heap kd25 ig26 rg27 lg28 H locs → IC τ B kd25 ig26 rg27 → Nx 1006 B none kd ig rg lg kd25 ig26 rg27 lg28 → W p l e (rL 4 0 0) s m args below meth c H locs 0 0 (MQ below (QcW B D cA (PI 1006 τ B none kd ig rg lg (fun r kd' ig' rg' lg' => r = none))) args s 0 0 (fun q => B ≤ q)) (F0 m 124 ls []) := by
          intro ls H locs kd25 ig26 rg27 lg28 hl hw hI hN
          have hsh := hI.sh
          have hrs := hI.rs
          refine lv_aload_n hx hb dX10_workOut_124 rfl (lv_at hl 0 rfl) ?_
          refine r_get C hw (hsh 24 _ rfl) fl_X10_19 (oV_r rfl (hrs (24, 2, 25) (by decide))) dX10_workOut_125 ?_
          refine lv_iload_n hx hb dX10_workOut_128 rfl (lv_at hl 1 rfl) ?_
          refine lv_aload_n hx hb dX10_workOut_129 rfl (lv_at hl 0 rfl) ?_
          refine r_get C hw (hsh 24 _ rfl) fl_X10_76 (oV_i rfl) dX10_workOut_130 (ti_c (ig26 (B + 24) 7).toInt rfl fun z29 hz29 => ?_)
          have J144 : ∀ (ls : Array Slot) (H : Heap) (locs : List Loc) (kd31 : sK) (ig32 : sI) (rg33 : sR) (lg34 : sG) (u30 : Int32), lv_has ls 5 [(0, .ref (B + 24)), (1, .int x)] → WD B D cA s.heap kd31 ig32 rg33 lg34 H locs → IC τ B kd31 ig32 rg33 → Nx 1006 B none kd ig rg lg kd31 ig32 rg33 lg34 → W p l e (rL 4 0 0) s m args below meth c H locs 0 0 (MQ below (QcW B D cA (PI 1006 τ B none kd ig rg lg (fun r kd' ig' rg' lg' => r = none))) args s 0 0 (fun q => B ≤ q)) (F0 m 144 ls [.int u30, .int x, .ref (B + 25)]) := by
            intro ls H locs kd31 ig32 rg33 lg34 u30 hl hw hI hN
            have hsh := hI.sh
            have hrs := hI.rs
            refine r_iast C hw (hsh 25 _ rfl) (by omega) (by omega) dX10_workOut_144 (fun H locs hH hw => ?_)
            obtain ⟨ig35, eig35⟩ : ∃ f, f = up2 ig32 (B + 25) x.toInt.toNat u30 := ⟨_, rfl⟩
            rw [← eig35] at hw
            have hN : Nx 1006 B none kd ig rg lg kd31 ig35 rg33 lg34 := by rw [eig35]; exact hN.pi (by omega)
            have hI : IC τ B kd31 ig35 rg33 := by rw [eig35]; exact hI.pi (show okR none _ from trivial)
            refine lv_aload_n hx hb dX10_workOut_145 rfl (lv_at hl 0 rfl) ?_
            refine r_get C hw (hsh 24 _ rfl) fl_X10_23 (oV_r rfl (hrs (24, 3, 26) (by decide))) dX10_workOut_146 ?_
            refine lv_iload_n hx hb dX10_workOut_149 rfl (lv_at hl 1 rfl) ?_
            refine lv_aload_n hx hb dX10_workOut_150 rfl (lv_at hl 0 rfl) ?_
            refine r_get C hw (hsh 24 _ rfl) fl_X10_76 (oV_i rfl) dX10_workOut_151 (ti_c (ig35 (B + 24) 7).toInt rfl fun z36 hz36 => ?_)
            refine r_iast C hw (hsh 26 _ rfl) (by omega) (by omega) dX10_workOut_154 (fun H locs hH hw => ?_)
            obtain ⟨ig37, eig37⟩ : ∃ f, f = up2 ig35 (B + 26) x.toInt.toNat z36 := ⟨_, rfl⟩
            rw [← eig37] at hw
            have hN : Nx 1006 B none kd ig rg lg kd31 ig37 rg33 lg34 := by rw [eig37]; exact hN.pi (by omega)
            have hI : IC τ B kd31 ig37 rg33 := by rw [eig37]; exact hI.pi (show okR none _ from trivial)
            exact r_vret C hw hr hlk (Nat.le_of_ble_eq_true rfl) (Nat.le_of_ble_eq_true rfl) dX10_workOut_155 ⟨hI, hN, rfl⟩
          refine z_ne (tgt := 143) hx hb dX10_workOut_133 (by decide) (fun c133 => ?_) (fun c133 => ?_)
          · refine lv_iconst (v := 0) hx hb dX10_workOut_143 (by decide) (ti_c 0 (by decide) fun z38 hz38 => ?_)
            exact J144 ls H locs kd25 ig26 rg27 lg28 z38 (lv_sub hl [0, 1] rfl) hw hI hN
          · refine lv_aload_n hx hb dX10_workOut_136 rfl (lv_at hl 0 rfl) ?_
            refine r_callV (As := []) (rest := [.int x, .ref (B + 25)]) C hw (t_X10_pop l B D cA kd25 ig26 rg27 lg28 _   hI) sv_X10_104 (hsh 24 _ rfl) rfl hl.1 rfl (Nat.le_of_ble_eq_true rfl) ⟨Nat.le_of_ble_eq_true rfl, Nat.le_of_ble_eq_true rfl⟩ ⟨Nat.le_of_ble_eq_true rfl, Nat.le_of_ble_eq_true rfl⟩ dX10_workOut_137 (fun r43 kd39 ig40 rg41 lg42 H locs hw hH hp44 => ?_)
            obtain ⟨hI, hchp44, hrhp44⟩ := hp44
            have hN := hN.tr hchp44
            have hsh := hI.sh
            have hrs := hI.rs
            obtain ⟨z45, rfl, hz45⟩ := hrhp44
            refine lv_goto (tgt := 144) hx hb dX10_workOut_140 (by decide) ?_
            exact J144 ls H locs kd39 ig40 rg41 lg42 z45 (lv_sub hl [0, 1] rfl) hw hI hN
        refine b_ge (tgt := 124) hx hb dX10_workOut_32 (by decide) (fun c32 => ?_) (fun c32 => ?_)
        · exact J124 ls H locs kd14 ig15 rg16 lg17 (lv_sub hl [1, 2] rfl) hw hI hN
        · refine lv_aload_n hx hb dX10_workOut_35 rfl (lv_at hl 1 rfl) ?_
          refine r_get C hw (hsh 24 _ rfl) fl_X10_76 (oV_i rfl) dX10_workOut_36 (ti_c (ig15 (B + 24) 7).toInt rfl fun z46 hz46 => ?_)
          refine z_ne (tgt := 124) hx hb dX10_workOut_39 (by decide) (fun c39 => ?_) (fun c39 => ?_)
          · exact J124 ls H locs kd14 ig15 rg16 lg17 (lv_sub hl [1, 2] rfl) hw hI hN
          · refine lv_aload_n hx hb dX10_workOut_42 rfl (lv_at hl 3 rfl) ?_
            refine lv_iload_n hx hb dX10_workOut_43 rfl (lv_at hl 0 rfl) ?_
            refine r_callV (As := [.int v13]) (rest := []) C hw (t_X4_stepAt l B D cA kd14 ig15 rg16 lg17 _ g ng Fg v13  hI) sv_X10_87 (isFn.k Fg) rfl hl.1 rfl (Nat.le_of_ble_eq_true rfl) ⟨Nat.le_of_ble_eq_true rfl, Nat.le_of_ble_eq_true rfl⟩ ⟨Nat.le_of_ble_eq_true rfl, Nat.le_of_ble_eq_true rfl⟩ dX10_workOut_44 (fun r51 kd47 ig48 rg49 lg50 H locs hw hH hp52 => ?_)
            obtain ⟨rfl, rfl, rfl, rfl, hzhp52, hrhp52⟩ := hp52
            obtain ⟨z53, rfl, hz53⟩ := hrhp52
            refine lv_istore (lv' := [(4, .int z53), (3, .int v13), (0, .ref (B + 24)), (1, .int x), (2, .ref g)]) hx hb dX10_workOut_47 hl (by decide) rfl (fun ls hl => ?_)
            refine lv_iload hx hb dX10_workOut_49 (lv_at hl 0 rfl) ?_
            refine z_ne (tgt := 66) hx hb dX10_workOut_51 (by decide) (fun c51 => ?_) (fun c51 => ?_)
            · refine lv_aload_n hx hb dX10_workOut_66 rfl (lv_at hl 4 rfl) ?_
              refine lv_iload_n hx hb dX10_workOut_67 rfl (lv_at hl 1 rfl) ?_
              refine r_callV (As := [.int v13]) (rest := []) C hw (t_X4_readsAt l B D cA kd14 ig15 rg16 lg17 _ g ng Fg v13  hI) sv_X10_97 (isFn.k Fg) rfl hl.1 rfl (Nat.le_of_ble_eq_true rfl) ⟨Nat.le_of_ble_eq_true rfl, Nat.le_of_ble_eq_true rfl⟩ ⟨Nat.le_of_ble_eq_true rfl, Nat.le_of_ble_eq_true rfl⟩ dX10_workOut_68 (fun r58 kd54 ig55 rg56 lg57 H locs hw hH hp59 => ?_)
              obtain ⟨rfl, rfl, rfl, rfl, hzhp59, hrhp59⟩ := hp59
              obtain ⟨z60, rfl, hz60⟩ := hrhp59
              refine z_eq (tgt := 88) hx hb dX10_workOut_71 (by decide) (fun c71 => ?_) (fun c71 => ?_)
              · refine lv_iload hx hb dX10_workOut_88 (lv_at hl 0 rfl) ?_
                refine lv_iconst (v := 4) hx hb dX10_workOut_90 (by decide) (ti_c 4 (by decide) fun z61 hz61 => ?_)
                refine b_ne (tgt := 106) hx hb dX10_workOut_91 (by decide) (fun c91 => ?_) (fun c91 => ?_)
                · refine lv_iload hx hb dX10_workOut_106 (lv_at hl 0 rfl) ?_
                  refine lv_iconst (v := 3) hx hb dX10_workOut_108 (by decide) (ti_c 3 (by decide) fun z62 hz62 => ?_)
                  refine b_eq (tgt := 118) hx hb dX10_workOut_109 (by decide) (fun c109 => ?_) (fun c109 => ?_)
                  · refine tc_inc hx hb dX10_workOut_118 hl (k := 1) rfl (by decide) (by decide) (fun z63 hz63 ls hl => ?_)
                    first | replace hz63 := hz63 (by omega) | clear hz63
                    have hl : lv_has ls 5 [(3, .int z63), (4, .int z53), (0, .ref (B + 24)), (1, .int x), (2, .ref g)] := hl
                    refine lv_goto (tgt := 27) hx hb dX10_workOut_121 (by decide) ?_
                    exact ih27 ls H locs kd14 ig15 rg16 lg17 z63 (lv_sub hl [0, 2, 3, 4] rfl) hw hI hN Fg (by omega) (by omega) (by omega)
                  · refine lv_aload_n hx hb dX10_workOut_112 rfl (lv_at hl 2 rfl) ?_
                    refine lv_iload hx hb dX10_workOut_113 (lv_at hl 0 rfl) ?_
                    refine r_callV (As := [.int z53]) (rest := []) C hw (t_X10_join l B D cA kd14 ig15 rg16 lg17 _ z53  hI) sv_X10_107 (hsh 24 _ rfl) rfl hl.1 rfl (Nat.le_of_ble_eq_true rfl) ⟨Nat.le_of_ble_eq_true rfl, Nat.le_of_ble_eq_true rfl⟩ ⟨Nat.le_of_ble_eq_true rfl, Nat.le_of_ble_eq_true rfl⟩ dX10_workOut_115 (fun r68 kd64 ig65 rg66 lg67 H locs hw hH hp69 => ?_)
                    obtain ⟨hI, hchp69, hrhp69⟩ := hp69
                    have Fg := Nx.F hchp69 Fg
                    have hN := hN.tr hchp69
                    have hsh := hI.sh
                    have hrs := hI.rs
                    obtain rfl := hrhp69
                    refine tc_inc hx hb dX10_workOut_118 hl (k := 1) rfl (by decide) (by decide) (fun z70 hz70 ls hl => ?_)
                    first | replace hz70 := hz70 (by omega) | clear hz70
                    have hl : lv_has ls 5 [(3, .int z70), (4, .int z53), (0, .ref (B + 24)), (1, .int x), (2, .ref g)] := hl
                    refine lv_goto (tgt := 27) hx hb dX10_workOut_121 (by decide) ?_
                    exact ih27 ls H locs kd64 ig65 rg66 lg67 z70 (lv_sub hl [0, 2, 3, 4] rfl) hw hI hN Fg (by omega) (by omega) (by omega)
                · refine lv_aload_n hx hb dX10_workOut_94 rfl (lv_at hl 2 rfl) ?_
                  refine lv_aload_n hx hb dX10_workOut_95 rfl (lv_at hl 2 rfl) ?_
                  refine r_callV (As := []) (rest := [.ref (B + 24)]) C hw (t_X10_pop l B D cA kd14 ig15 rg16 lg17 _   hI) sv_X10_104 (hsh 24 _ rfl) rfl hl.1 rfl (Nat.le_of_ble_eq_true rfl) ⟨Nat.le_of_ble_eq_true rfl, Nat.le_of_ble_eq_true rfl⟩ ⟨Nat.le_of_ble_eq_true rfl, Nat.le_of_ble_eq_true rfl⟩ dX10_workOut_96 (fun r75 kd71 ig72 rg73 lg74 H locs hw hH hp76 => ?_)
                  obtain ⟨hI, hchp76, hrhp76⟩ := hp76
                  have Fg := Nx.F hchp76 Fg
                  have hN := hN.tr hchp76
                  have hsh := hI.sh
                  have hrs := hI.rs
                  obtain ⟨z77, rfl, hz77⟩ := hrhp76
                  refine lv_ineg hx hb dX10_workOut_99 (ti_any fun z78 => ?_)
                  refine r_callV (As := [.int z78]) (rest := []) C hw (t_X10_push l B D cA kd71 ig72 rg73 lg74 _ z78  hI) sv_X10_93 (hsh 24 _ rfl) rfl hl.1 rfl (Nat.le_of_ble_eq_true rfl) ⟨Nat.le_of_ble_eq_true rfl, Nat.le_of_ble_eq_true rfl⟩ ⟨Nat.le_of_ble_eq_true rfl, Nat.le_of_ble_eq_true rfl⟩ dX10_workOut_100 (fun r83 kd79 ig80 rg81 lg82 H locs hw hH hp84 => ?_)
                  obtain ⟨hI, hchp84, hrhp84⟩ := hp84
                  have Fg := Nx.F hchp84 Fg
                  have hN := hN.tr hchp84
                  have hsh := hI.sh
                  have hrs := hI.rs
                  obtain rfl := hrhp84
                  refine lv_goto (tgt := 118) hx hb dX10_workOut_103 (by decide) ?_
                  refine tc_inc hx hb dX10_workOut_118 hl (k := 1) rfl (by decide) (by decide) (fun z85 hz85 ls hl => ?_)
                  first | replace hz85 := hz85 (by omega) | clear hz85
                  have hl : lv_has ls 5 [(3, .int z85), (4, .int z53), (0, .ref (B + 24)), (1, .int x), (2, .ref g)] := hl
                  refine lv_goto (tgt := 27) hx hb dX10_workOut_121 (by decide) ?_
                  exact ih27 ls H locs kd79 ig80 rg81 lg82 z85 (lv_sub hl [0, 2, 3, 4] rfl) hw hI hN Fg (by omega) (by omega) (by omega)
              · refine lv_aload_n hx hb dX10_workOut_74 rfl (lv_at hl 2 rfl) ?_
                refine lv_aload_n hx hb dX10_workOut_75 rfl (lv_at hl 2 rfl) ?_
                refine lv_iload_n hx hb dX10_workOut_76 rfl (lv_at hl 3 rfl) ?_
                refine lv_aload_n hx hb dX10_workOut_77 rfl (lv_at hl 4 rfl) ?_
                refine lv_iload_n hx hb dX10_workOut_78 rfl (lv_at hl 1 rfl) ?_
                refine r_callV (As := [.int x, .ref g, .int v13]) (rest := [.ref (B + 24)]) C hw (t_X10_spanSum l B D cA kd14 ig15 rg16 lg17 _ x g ng Fg v13  hI) sv_X10_100 (hsh 24 _ rfl) rfl hl.1 rfl (Nat.le_of_ble_eq_true rfl) ⟨Nat.le_of_ble_eq_true rfl, Nat.le_of_ble_eq_true rfl⟩ ⟨Nat.le_of_ble_eq_true rfl, Nat.le_of_ble_eq_true rfl⟩ dX10_workOut_79 (fun r90 kd86 ig87 rg88 lg89 H locs hw hH hp91 => ?_)
                obtain ⟨hI, hchp91, hrhp91⟩ := hp91
                have Fg := Nx.F hchp91 Fg
                have hN := hN.tr hchp91
                have hsh := hI.sh
                have hrs := hI.rs
                obtain ⟨z92, rfl, hz92⟩ := hrhp91
                refine r_callV (As := [.int z92]) (rest := []) C hw (t_X10_push l B D cA kd86 ig87 rg88 lg89 _ z92  hI) sv_X10_93 (hsh 24 _ rfl) rfl hl.1 rfl (Nat.le_of_ble_eq_true rfl) ⟨Nat.le_of_ble_eq_true rfl, Nat.le_of_ble_eq_true rfl⟩ ⟨Nat.le_of_ble_eq_true rfl, Nat.le_of_ble_eq_true rfl⟩ dX10_workOut_82 (fun r97 kd93 ig94 rg95 lg96 H locs hw hH hp98 => ?_)
                obtain ⟨hI, hchp98, hrhp98⟩ := hp98
                have Fg := Nx.F hchp98 Fg
                have hN := hN.tr hchp98
                have hsh := hI.sh
                have hrs := hI.rs
                obtain rfl := hrhp98
                refine lv_goto (tgt := 118) hx hb dX10_workOut_85 (by decide) ?_
                refine tc_inc hx hb dX10_workOut_118 hl (k := 1) rfl (by decide) (by decide) (fun z99 hz99 ls hl => ?_)
                first | replace hz99 := hz99 (by omega) | clear hz99
                have hl : lv_has ls 5 [(3, .int z99), (4, .int z53), (0, .ref (B + 24)), (1, .int x), (2, .ref g)] := hl
                refine lv_goto (tgt := 27) hx hb dX10_workOut_121 (by decide) ?_
                exact ih27 ls H locs kd93 ig94 rg95 lg96 z99 (lv_sub hl [0, 2, 3, 4] rfl) hw hI hN Fg (by omega) (by omega) (by omega)
            · refine lv_aload_n hx hb dX10_workOut_54 rfl (lv_at hl 2 rfl) ?_
              refine lv_aload_n hx hb dX10_workOut_55 rfl (lv_at hl 4 rfl) ?_
              refine lv_iload_n hx hb dX10_workOut_56 rfl (lv_at hl 1 rfl) ?_
              refine r_callV (As := [.int v13]) (rest := [.ref (B + 24)]) C hw (t_X4_constantAt l B D cA kd14 ig15 rg16 lg17 _ g ng Fg v13  hI) sv_X10_90 (isFn.k Fg) rfl hl.1 rfl (Nat.le_of_ble_eq_true rfl) ⟨Nat.le_of_ble_eq_true rfl, Nat.le_of_ble_eq_true rfl⟩ ⟨Nat.le_of_ble_eq_true rfl, Nat.le_of_ble_eq_true rfl⟩ dX10_workOut_57 (fun r104 kd100 ig101 rg102 lg103 H locs hw hH hp105 => ?_)
              obtain ⟨rfl, rfl, rfl, rfl, hzhp105, hrhp105⟩ := hp105
              obtain ⟨z106, rfl, hz106⟩ := hrhp105
              refine r_callV (As := [.int z106]) (rest := []) C hw (t_X10_push l B D cA kd14 ig15 rg16 lg17 _ z106  hI) sv_X10_93 (hsh 24 _ rfl) rfl hl.1 rfl (Nat.le_of_ble_eq_true rfl) ⟨Nat.le_of_ble_eq_true rfl, Nat.le_of_ble_eq_true rfl⟩ ⟨Nat.le_of_ble_eq_true rfl, Nat.le_of_ble_eq_true rfl⟩ dX10_workOut_60 (fun r111 kd107 ig108 rg109 lg110 H locs hw hH hp112 => ?_)
              obtain ⟨hI, hchp112, hrhp112⟩ := hp112
              have Fg := Nx.F hchp112 Fg
              have hN := hN.tr hchp112
              have hsh := hI.sh
              have hrs := hI.rs
              obtain rfl := hrhp112
              refine lv_goto (tgt := 118) hx hb dX10_workOut_63 (by decide) ?_
              refine tc_inc hx hb dX10_workOut_118 hl (k := 1) rfl (by decide) (by decide) (fun z113 hz113 ls hl => ?_)
              first | replace hz113 := hz113 (by omega) | clear hz113
              have hl : lv_has ls 5 [(3, .int z113), (4, .int z53), (0, .ref (B + 24)), (1, .int x), (2, .ref g)] := hl
              refine lv_goto (tgt := 27) hx hb dX10_workOut_121 (by decide) ?_
              exact ih27 ls H locs kd107 ig108 rg109 lg110 z113 (lv_sub hl [0, 2, 3, 4] rfl) hw hI hN Fg (by omega) (by omega) (by omega)
    exact L27 ((120 - z12.toInt) + 1).toNat ls H locs kd ig11 rg lg z12 (lv_sub hl [0, 1, 2, 3] rfl) hw hI hN Fg (by omega) (by omega) (by omega)
  · refine lv_iconst (v := 2) hx hb dX10_workOut_12 (by decide) (ti_c 2 (by decide) fun z114 hz114 => ?_)
    refine lv_goto (tgt := 17) hx hb dX10_workOut_13 (by decide) ?_
    refine r_puti C hw (hsh 24 _ rfl) fl_X10_76 rfl rfl rfl dX10_workOut_17 (fun H locs hH hw => ?_)
    obtain ⟨ig115, eig115⟩ : ∃ f, f = up2 ig (B + 24) 7 z114 := ⟨_, rfl⟩
    rw [← eig115] at hw
    have hN : Nx 1006 B none kd ig rg lg kd ig115 rg lg := by rw [eig115]; exact hN.pi (by omega)
    have hI : IC τ B kd ig115 rg := by rw [eig115]; exact hI.pi (show okR none _ from trivial)
    refine lv_aload_n hx hb dX10_workOut_20 rfl (lv_at hl 0 rfl) ?_
    refine lv_iconst (v := 0) hx hb dX10_workOut_21 (by decide) (ti_c 0 (by decide) fun z116 hz116 => ?_)
    refine r_puti C hw (hsh 24 _ rfl) fl_X10_79 rfl rfl rfl dX10_workOut_22 (fun H locs hH hw => ?_)
    obtain ⟨ig117, eig117⟩ : ∃ f, f = up2 ig115 (B + 24) 6 z116 := ⟨_, rfl⟩
    rw [← eig117] at hw
    have hN : Nx 1006 B none kd ig rg lg kd ig117 rg lg := by rw [eig117]; exact hN.pi (by omega)
    have hI : IC τ B kd ig117 rg := by rw [eig117]; exact hI.pi (show okR (some (0, 32)) _ from ⟨by show (0 : Int) ≤ _; omega, by show _ ≤ (32 : Int); omega⟩)
    refine lv_iconst (v := 0) hx hb dX10_workOut_25 (by decide) (ti_c 0 (by decide) fun z118 hz118 => ?_)
    refine lv_istore_n (lv' := [(3, .int z118), (0, .ref (B + 24)), (1, .int x), (2, .ref g)]) hx hb dX10_workOut_26 rfl hl (by decide) rfl (fun ls hl => ?_)
    have L27 : ∀ (n : Nat) (ls : Array Slot) (H : Heap) (locs : List Loc) (kd120 : sK) (ig121 : sI) (rg122 : sR) (lg123 : sG) (v119 : Int32), lv_has ls 5 [(3, .int v119), (0, .ref (B + 24)), (1, .int x), (2, .ref g)] → WD B D cA s.heap kd120 ig121 rg122 lg123 H locs → IC τ B kd120 ig121 rg122 → Nx 1006 B none kd ig rg lg kd120 ig121 rg122 lg123 → isFn B kd120 rg122 g ng → (0 ≤ v119.toInt) → (v119.toInt ≤ 120) → 120 - v119.toInt < (n : Int) → W p l e (rL 4 0 0) s m args below meth c H locs 0 0 (MQ below (QcW B D cA (PI 1006 τ B none kd ig rg lg (fun r kd' ig' rg' lg' => r = none))) args s 0 0 (fun q => B ≤ q)) (F0 m 27 ls []) := by
      intro n27
      induction n27 with
      | zero => intro ls H locs kd120 ig121 rg122 lg123 v119 hl hw hI hN Fg g27_0 g27_1 hmu; exact absurd hmu (by omega)
      | succ n27 ih27 =>
        intro ls H locs kd120 ig121 rg122 lg123 v119 hl hw hI hN Fg g27_0 g27_1 hmu
        have hsh := hI.sh
        have hrs := hI.rs
        refine lv_iload_n hx hb dX10_workOut_27 rfl (lv_at hl 0 rfl) ?_
        refine lv_aload_n hx hb dX10_workOut_28 rfl (lv_at hl 3 rfl) ?_
        refine r_callV (As := []) (rest := [.int v119]) C hw (t_X4_size l B D cA kd120 ig121 rg122 lg123 _ g ng Fg  hI) sv_X10_82 (isFn.k Fg) rfl hl.1 rfl (Nat.le_of_ble_eq_true rfl) ⟨Nat.le_of_ble_eq_true rfl, Nat.le_of_ble_eq_true rfl⟩ ⟨Nat.le_of_ble_eq_true rfl, Nat.le_of_ble_eq_true rfl⟩ dX10_workOut_29 (fun r128 kd124 ig125 rg126 lg127 H locs hw hH hp129 => ?_)
        obtain ⟨rfl, rfl, rfl, rfl, hzhp129, hrhp129⟩ := hp129
        obtain ⟨z130, rfl, hz130⟩ := hrhp129
        have J124 : ∀ (ls : Array Slot) (H : Heap) (locs : List Loc) (kd131 : sK) (ig132 : sI) (rg133 : sR) (lg134 : sG) , lv_has ls 5 [(0, .ref (B + 24)), (1, .int x)] → WD B D cA s.heap kd131 ig132 rg133 lg134 H locs → IC τ B kd131 ig132 rg133 → Nx 1006 B none kd ig rg lg kd131 ig132 rg133 lg134 → W p l e (rL 4 0 0) s m args below meth c H locs 0 0 (MQ below (QcW B D cA (PI 1006 τ B none kd ig rg lg (fun r kd' ig' rg' lg' => r = none))) args s 0 0 (fun q => B ≤ q)) (F0 m 124 ls []) := by
          intro ls H locs kd131 ig132 rg133 lg134 hl hw hI hN
          have hsh := hI.sh
          have hrs := hI.rs
          refine lv_aload_n hx hb dX10_workOut_124 rfl (lv_at hl 0 rfl) ?_
          refine r_get C hw (hsh 24 _ rfl) fl_X10_19 (oV_r rfl (hrs (24, 2, 25) (by decide))) dX10_workOut_125 ?_
          refine lv_iload_n hx hb dX10_workOut_128 rfl (lv_at hl 1 rfl) ?_
          refine lv_aload_n hx hb dX10_workOut_129 rfl (lv_at hl 0 rfl) ?_
          refine r_get C hw (hsh 24 _ rfl) fl_X10_76 (oV_i rfl) dX10_workOut_130 (ti_c (ig132 (B + 24) 7).toInt rfl fun z135 hz135 => ?_)
          have J144 : ∀ (ls : Array Slot) (H : Heap) (locs : List Loc) (kd137 : sK) (ig138 : sI) (rg139 : sR) (lg140 : sG) (u136 : Int32), lv_has ls 5 [(0, .ref (B + 24)), (1, .int x)] → WD B D cA s.heap kd137 ig138 rg139 lg140 H locs → IC τ B kd137 ig138 rg139 → Nx 1006 B none kd ig rg lg kd137 ig138 rg139 lg140 → W p l e (rL 4 0 0) s m args below meth c H locs 0 0 (MQ below (QcW B D cA (PI 1006 τ B none kd ig rg lg (fun r kd' ig' rg' lg' => r = none))) args s 0 0 (fun q => B ≤ q)) (F0 m 144 ls [.int u136, .int x, .ref (B + 25)]) := by
            intro ls H locs kd137 ig138 rg139 lg140 u136 hl hw hI hN
            have hsh := hI.sh
            have hrs := hI.rs
            refine r_iast C hw (hsh 25 _ rfl) (by omega) (by omega) dX10_workOut_144 (fun H locs hH hw => ?_)
            obtain ⟨ig141, eig141⟩ : ∃ f, f = up2 ig138 (B + 25) x.toInt.toNat u136 := ⟨_, rfl⟩
            rw [← eig141] at hw
            have hN : Nx 1006 B none kd ig rg lg kd137 ig141 rg139 lg140 := by rw [eig141]; exact hN.pi (by omega)
            have hI : IC τ B kd137 ig141 rg139 := by rw [eig141]; exact hI.pi (show okR none _ from trivial)
            refine lv_aload_n hx hb dX10_workOut_145 rfl (lv_at hl 0 rfl) ?_
            refine r_get C hw (hsh 24 _ rfl) fl_X10_23 (oV_r rfl (hrs (24, 3, 26) (by decide))) dX10_workOut_146 ?_
            refine lv_iload_n hx hb dX10_workOut_149 rfl (lv_at hl 1 rfl) ?_
            refine lv_aload_n hx hb dX10_workOut_150 rfl (lv_at hl 0 rfl) ?_
            refine r_get C hw (hsh 24 _ rfl) fl_X10_76 (oV_i rfl) dX10_workOut_151 (ti_c (ig141 (B + 24) 7).toInt rfl fun z142 hz142 => ?_)
            refine r_iast C hw (hsh 26 _ rfl) (by omega) (by omega) dX10_workOut_154 (fun H locs hH hw => ?_)
            obtain ⟨ig143, eig143⟩ : ∃ f, f = up2 ig141 (B + 26) x.toInt.toNat z142 := ⟨_, rfl⟩
            rw [← eig143] at hw
            have hN : Nx 1006 B none kd ig rg lg kd137 ig143 rg139 lg140 := by rw [eig143]; exact hN.pi (by omega)
            have hI : IC τ B kd137 ig143 rg139 := by rw [eig143]; exact hI.pi (show okR none _ from trivial)
            exact r_vret C hw hr hlk (Nat.le_of_ble_eq_true rfl) (Nat.le_of_ble_eq_true rfl) dX10_workOut_155 ⟨hI, hN, rfl⟩
          refine z_ne (tgt := 143) hx hb dX10_workOut_133 (by decide) (fun c133 => ?_) (fun c133 => ?_)
          · refine lv_iconst (v := 0) hx hb dX10_workOut_143 (by decide) (ti_c 0 (by decide) fun z144 hz144 => ?_)
            exact J144 ls H locs kd131 ig132 rg133 lg134 z144 (lv_sub hl [0, 1] rfl) hw hI hN
          · refine lv_aload_n hx hb dX10_workOut_136 rfl (lv_at hl 0 rfl) ?_
            refine r_callV (As := []) (rest := [.int x, .ref (B + 25)]) C hw (t_X10_pop l B D cA kd131 ig132 rg133 lg134 _   hI) sv_X10_104 (hsh 24 _ rfl) rfl hl.1 rfl (Nat.le_of_ble_eq_true rfl) ⟨Nat.le_of_ble_eq_true rfl, Nat.le_of_ble_eq_true rfl⟩ ⟨Nat.le_of_ble_eq_true rfl, Nat.le_of_ble_eq_true rfl⟩ dX10_workOut_137 (fun r149 kd145 ig146 rg147 lg148 H locs hw hH hp150 => ?_)
            obtain ⟨hI, hchp150, hrhp150⟩ := hp150
            have hN := hN.tr hchp150
            have hsh := hI.sh
            have hrs := hI.rs
            obtain ⟨z151, rfl, hz151⟩ := hrhp150
            refine lv_goto (tgt := 144) hx hb dX10_workOut_140 (by decide) ?_
            exact J144 ls H locs kd145 ig146 rg147 lg148 z151 (lv_sub hl [0, 1] rfl) hw hI hN
        refine b_ge (tgt := 124) hx hb dX10_workOut_32 (by decide) (fun c32 => ?_) (fun c32 => ?_)
        · exact J124 ls H locs kd120 ig121 rg122 lg123 (lv_sub hl [1, 2] rfl) hw hI hN
        · refine lv_aload_n hx hb dX10_workOut_35 rfl (lv_at hl 1 rfl) ?_
          refine r_get C hw (hsh 24 _ rfl) fl_X10_76 (oV_i rfl) dX10_workOut_36 (ti_c (ig121 (B + 24) 7).toInt rfl fun z152 hz152 => ?_)
          refine z_ne (tgt := 124) hx hb dX10_workOut_39 (by decide) (fun c39 => ?_) (fun c39 => ?_)
          · exact J124 ls H locs kd120 ig121 rg122 lg123 (lv_sub hl [1, 2] rfl) hw hI hN
          · refine lv_aload_n hx hb dX10_workOut_42 rfl (lv_at hl 3 rfl) ?_
            refine lv_iload_n hx hb dX10_workOut_43 rfl (lv_at hl 0 rfl) ?_
            refine r_callV (As := [.int v119]) (rest := []) C hw (t_X4_stepAt l B D cA kd120 ig121 rg122 lg123 _ g ng Fg v119  hI) sv_X10_87 (isFn.k Fg) rfl hl.1 rfl (Nat.le_of_ble_eq_true rfl) ⟨Nat.le_of_ble_eq_true rfl, Nat.le_of_ble_eq_true rfl⟩ ⟨Nat.le_of_ble_eq_true rfl, Nat.le_of_ble_eq_true rfl⟩ dX10_workOut_44 (fun r157 kd153 ig154 rg155 lg156 H locs hw hH hp158 => ?_)
            obtain ⟨rfl, rfl, rfl, rfl, hzhp158, hrhp158⟩ := hp158
            obtain ⟨z159, rfl, hz159⟩ := hrhp158
            refine lv_istore (lv' := [(4, .int z159), (3, .int v119), (0, .ref (B + 24)), (1, .int x), (2, .ref g)]) hx hb dX10_workOut_47 hl (by decide) rfl (fun ls hl => ?_)
            refine lv_iload hx hb dX10_workOut_49 (lv_at hl 0 rfl) ?_
            refine z_ne (tgt := 66) hx hb dX10_workOut_51 (by decide) (fun c51 => ?_) (fun c51 => ?_)
            · refine lv_aload_n hx hb dX10_workOut_66 rfl (lv_at hl 4 rfl) ?_
              refine lv_iload_n hx hb dX10_workOut_67 rfl (lv_at hl 1 rfl) ?_
              refine r_callV (As := [.int v119]) (rest := []) C hw (t_X4_readsAt l B D cA kd120 ig121 rg122 lg123 _ g ng Fg v119  hI) sv_X10_97 (isFn.k Fg) rfl hl.1 rfl (Nat.le_of_ble_eq_true rfl) ⟨Nat.le_of_ble_eq_true rfl, Nat.le_of_ble_eq_true rfl⟩ ⟨Nat.le_of_ble_eq_true rfl, Nat.le_of_ble_eq_true rfl⟩ dX10_workOut_68 (fun r164 kd160 ig161 rg162 lg163 H locs hw hH hp165 => ?_)
              obtain ⟨rfl, rfl, rfl, rfl, hzhp165, hrhp165⟩ := hp165
              obtain ⟨z166, rfl, hz166⟩ := hrhp165
              refine z_eq (tgt := 88) hx hb dX10_workOut_71 (by decide) (fun c71 => ?_) (fun c71 => ?_)
              · refine lv_iload hx hb dX10_workOut_88 (lv_at hl 0 rfl) ?_
                refine lv_iconst (v := 4) hx hb dX10_workOut_90 (by decide) (ti_c 4 (by decide) fun z167 hz167 => ?_)
                refine b_ne (tgt := 106) hx hb dX10_workOut_91 (by decide) (fun c91 => ?_) (fun c91 => ?_)
                · refine lv_iload hx hb dX10_workOut_106 (lv_at hl 0 rfl) ?_
                  refine lv_iconst (v := 3) hx hb dX10_workOut_108 (by decide) (ti_c 3 (by decide) fun z168 hz168 => ?_)
                  refine b_eq (tgt := 118) hx hb dX10_workOut_109 (by decide) (fun c109 => ?_) (fun c109 => ?_)
                  · refine tc_inc hx hb dX10_workOut_118 hl (k := 1) rfl (by decide) (by decide) (fun z169 hz169 ls hl => ?_)
                    first | replace hz169 := hz169 (by omega) | clear hz169
                    have hl : lv_has ls 5 [(3, .int z169), (4, .int z159), (0, .ref (B + 24)), (1, .int x), (2, .ref g)] := hl
                    refine lv_goto (tgt := 27) hx hb dX10_workOut_121 (by decide) ?_
                    exact ih27 ls H locs kd120 ig121 rg122 lg123 z169 (lv_sub hl [0, 2, 3, 4] rfl) hw hI hN Fg (by omega) (by omega) (by omega)
                  · refine lv_aload_n hx hb dX10_workOut_112 rfl (lv_at hl 2 rfl) ?_
                    refine lv_iload hx hb dX10_workOut_113 (lv_at hl 0 rfl) ?_
                    refine r_callV (As := [.int z159]) (rest := []) C hw (t_X10_join l B D cA kd120 ig121 rg122 lg123 _ z159  hI) sv_X10_107 (hsh 24 _ rfl) rfl hl.1 rfl (Nat.le_of_ble_eq_true rfl) ⟨Nat.le_of_ble_eq_true rfl, Nat.le_of_ble_eq_true rfl⟩ ⟨Nat.le_of_ble_eq_true rfl, Nat.le_of_ble_eq_true rfl⟩ dX10_workOut_115 (fun r174 kd170 ig171 rg172 lg173 H locs hw hH hp175 => ?_)
                    obtain ⟨hI, hchp175, hrhp175⟩ := hp175
                    have Fg := Nx.F hchp175 Fg
                    have hN := hN.tr hchp175
                    have hsh := hI.sh
                    have hrs := hI.rs
                    obtain rfl := hrhp175
                    refine tc_inc hx hb dX10_workOut_118 hl (k := 1) rfl (by decide) (by decide) (fun z176 hz176 ls hl => ?_)
                    first | replace hz176 := hz176 (by omega) | clear hz176
                    have hl : lv_has ls 5 [(3, .int z176), (4, .int z159), (0, .ref (B + 24)), (1, .int x), (2, .ref g)] := hl
                    refine lv_goto (tgt := 27) hx hb dX10_workOut_121 (by decide) ?_
                    exact ih27 ls H locs kd170 ig171 rg172 lg173 z176 (lv_sub hl [0, 2, 3, 4] rfl) hw hI hN Fg (by omega) (by omega) (by omega)
                · refine lv_aload_n hx hb dX10_workOut_94 rfl (lv_at hl 2 rfl) ?_
                  refine lv_aload_n hx hb dX10_workOut_95 rfl (lv_at hl 2 rfl) ?_
                  refine r_callV (As := []) (rest := [.ref (B + 24)]) C hw (t_X10_pop l B D cA kd120 ig121 rg122 lg123 _   hI) sv_X10_104 (hsh 24 _ rfl) rfl hl.1 rfl (Nat.le_of_ble_eq_true rfl) ⟨Nat.le_of_ble_eq_true rfl, Nat.le_of_ble_eq_true rfl⟩ ⟨Nat.le_of_ble_eq_true rfl, Nat.le_of_ble_eq_true rfl⟩ dX10_workOut_96 (fun r181 kd177 ig178 rg179 lg180 H locs hw hH hp182 => ?_)
                  obtain ⟨hI, hchp182, hrhp182⟩ := hp182
                  have Fg := Nx.F hchp182 Fg
                  have hN := hN.tr hchp182
                  have hsh := hI.sh
                  have hrs := hI.rs
                  obtain ⟨z183, rfl, hz183⟩ := hrhp182
                  refine lv_ineg hx hb dX10_workOut_99 (ti_any fun z184 => ?_)
                  refine r_callV (As := [.int z184]) (rest := []) C hw (t_X10_push l B D cA kd177 ig178 rg179 lg180 _ z184  hI) sv_X10_93 (hsh 24 _ rfl) rfl hl.1 rfl (Nat.le_of_ble_eq_true rfl) ⟨Nat.le_of_ble_eq_true rfl, Nat.le_of_ble_eq_true rfl⟩ ⟨Nat.le_of_ble_eq_true rfl, Nat.le_of_ble_eq_true rfl⟩ dX10_workOut_100 (fun r189 kd185 ig186 rg187 lg188 H locs hw hH hp190 => ?_)
                  obtain ⟨hI, hchp190, hrhp190⟩ := hp190
                  have Fg := Nx.F hchp190 Fg
                  have hN := hN.tr hchp190
                  have hsh := hI.sh
                  have hrs := hI.rs
                  obtain rfl := hrhp190
                  refine lv_goto (tgt := 118) hx hb dX10_workOut_103 (by decide) ?_
                  refine tc_inc hx hb dX10_workOut_118 hl (k := 1) rfl (by decide) (by decide) (fun z191 hz191 ls hl => ?_)
                  first | replace hz191 := hz191 (by omega) | clear hz191
                  have hl : lv_has ls 5 [(3, .int z191), (4, .int z159), (0, .ref (B + 24)), (1, .int x), (2, .ref g)] := hl
                  refine lv_goto (tgt := 27) hx hb dX10_workOut_121 (by decide) ?_
                  exact ih27 ls H locs kd185 ig186 rg187 lg188 z191 (lv_sub hl [0, 2, 3, 4] rfl) hw hI hN Fg (by omega) (by omega) (by omega)
              · refine lv_aload_n hx hb dX10_workOut_74 rfl (lv_at hl 2 rfl) ?_
                refine lv_aload_n hx hb dX10_workOut_75 rfl (lv_at hl 2 rfl) ?_
                refine lv_iload_n hx hb dX10_workOut_76 rfl (lv_at hl 3 rfl) ?_
                refine lv_aload_n hx hb dX10_workOut_77 rfl (lv_at hl 4 rfl) ?_
                refine lv_iload_n hx hb dX10_workOut_78 rfl (lv_at hl 1 rfl) ?_
                refine r_callV (As := [.int x, .ref g, .int v119]) (rest := [.ref (B + 24)]) C hw (t_X10_spanSum l B D cA kd120 ig121 rg122 lg123 _ x g ng Fg v119  hI) sv_X10_100 (hsh 24 _ rfl) rfl hl.1 rfl (Nat.le_of_ble_eq_true rfl) ⟨Nat.le_of_ble_eq_true rfl, Nat.le_of_ble_eq_true rfl⟩ ⟨Nat.le_of_ble_eq_true rfl, Nat.le_of_ble_eq_true rfl⟩ dX10_workOut_79 (fun r196 kd192 ig193 rg194 lg195 H locs hw hH hp197 => ?_)
                obtain ⟨hI, hchp197, hrhp197⟩ := hp197
                have Fg := Nx.F hchp197 Fg
                have hN := hN.tr hchp197
                have hsh := hI.sh
                have hrs := hI.rs
                obtain ⟨z198, rfl, hz198⟩ := hrhp197
                refine r_callV (As := [.int z198]) (rest := []) C hw (t_X10_push l B D cA kd192 ig193 rg194 lg195 _ z198  hI) sv_X10_93 (hsh 24 _ rfl) rfl hl.1 rfl (Nat.le_of_ble_eq_true rfl) ⟨Nat.le_of_ble_eq_true rfl, Nat.le_of_ble_eq_true rfl⟩ ⟨Nat.le_of_ble_eq_true rfl, Nat.le_of_ble_eq_true rfl⟩ dX10_workOut_82 (fun r203 kd199 ig200 rg201 lg202 H locs hw hH hp204 => ?_)
                obtain ⟨hI, hchp204, hrhp204⟩ := hp204
                have Fg := Nx.F hchp204 Fg
                have hN := hN.tr hchp204
                have hsh := hI.sh
                have hrs := hI.rs
                obtain rfl := hrhp204
                refine lv_goto (tgt := 118) hx hb dX10_workOut_85 (by decide) ?_
                refine tc_inc hx hb dX10_workOut_118 hl (k := 1) rfl (by decide) (by decide) (fun z205 hz205 ls hl => ?_)
                first | replace hz205 := hz205 (by omega) | clear hz205
                have hl : lv_has ls 5 [(3, .int z205), (4, .int z159), (0, .ref (B + 24)), (1, .int x), (2, .ref g)] := hl
                refine lv_goto (tgt := 27) hx hb dX10_workOut_121 (by decide) ?_
                exact ih27 ls H locs kd199 ig200 rg201 lg202 z205 (lv_sub hl [0, 2, 3, 4] rfl) hw hI hN Fg (by omega) (by omega) (by omega)
            · refine lv_aload_n hx hb dX10_workOut_54 rfl (lv_at hl 2 rfl) ?_
              refine lv_aload_n hx hb dX10_workOut_55 rfl (lv_at hl 4 rfl) ?_
              refine lv_iload_n hx hb dX10_workOut_56 rfl (lv_at hl 1 rfl) ?_
              refine r_callV (As := [.int v119]) (rest := [.ref (B + 24)]) C hw (t_X4_constantAt l B D cA kd120 ig121 rg122 lg123 _ g ng Fg v119  hI) sv_X10_90 (isFn.k Fg) rfl hl.1 rfl (Nat.le_of_ble_eq_true rfl) ⟨Nat.le_of_ble_eq_true rfl, Nat.le_of_ble_eq_true rfl⟩ ⟨Nat.le_of_ble_eq_true rfl, Nat.le_of_ble_eq_true rfl⟩ dX10_workOut_57 (fun r210 kd206 ig207 rg208 lg209 H locs hw hH hp211 => ?_)
              obtain ⟨rfl, rfl, rfl, rfl, hzhp211, hrhp211⟩ := hp211
              obtain ⟨z212, rfl, hz212⟩ := hrhp211
              refine r_callV (As := [.int z212]) (rest := []) C hw (t_X10_push l B D cA kd120 ig121 rg122 lg123 _ z212  hI) sv_X10_93 (hsh 24 _ rfl) rfl hl.1 rfl (Nat.le_of_ble_eq_true rfl) ⟨Nat.le_of_ble_eq_true rfl, Nat.le_of_ble_eq_true rfl⟩ ⟨Nat.le_of_ble_eq_true rfl, Nat.le_of_ble_eq_true rfl⟩ dX10_workOut_60 (fun r217 kd213 ig214 rg215 lg216 H locs hw hH hp218 => ?_)
              obtain ⟨hI, hchp218, hrhp218⟩ := hp218
              have Fg := Nx.F hchp218 Fg
              have hN := hN.tr hchp218
              have hsh := hI.sh
              have hrs := hI.rs
              obtain rfl := hrhp218
              refine lv_goto (tgt := 118) hx hb dX10_workOut_63 (by decide) ?_
              refine tc_inc hx hb dX10_workOut_118 hl (k := 1) rfl (by decide) (by decide) (fun z219 hz219 ls hl => ?_)
              first | replace hz219 := hz219 (by omega) | clear hz219
              have hl : lv_has ls 5 [(3, .int z219), (4, .int z159), (0, .ref (B + 24)), (1, .int x), (2, .ref g)] := hl
              refine lv_goto (tgt := 27) hx hb dX10_workOut_121 (by decide) ?_
              exact ih27 ls H locs kd213 ig214 rg215 lg216 z219 (lv_sub hl [0, 2, 3, 4] rfl) hw hI hN Fg (by omega) (by omega) (by omega)
    exact L27 ((120 - z118.toInt) + 1).toNat ls H locs kd ig117 rg lg z118 (lv_sub hl [0, 1, 2, 3] rfl) hw hI hN Fg (by omega) (by omega) (by omega)

set_option maxHeartbeats 4000000 in
set_option maxRecDepth 100000 in
theorem t_X10_settle {τ : Tp} (l : Launch) (B : Nat) (D : va_G) (cA : Nat → ClassId) (kd : sK) (ig : sI) (rg : sR) (lg : sG) (sz : Nat)  (hI : IC τ B kd ig rg) : MC l B D cA yX10_settle cX10_settle 4 none (rL 6 0 0) [.ref (B + 24)] kd ig rg lg sz (PI 998 τ B none kd ig rg lg (fun r kd' ig' rg' lg' => r = none)) := by
  refine MC.of (own := RX10) (by decide +kernel) rfl (Nat.le_of_ble_eq_true rfl) ?_
  intro p e s m args below meth c ls C hr hlk hnm hw hsz hl
  have hx := C.1.1
  have hb := C.1.2.1
  have hown := C.1.2.2.2.1
  have hts := C.1.2.2.2.2
  have hl : lv_has ls 4 [(0, .ref (B + 24))] := hl
  have hN : Nx 998 B none kd ig rg lg kd ig rg lg := Nx.rf
  have hsh := hI.sh
  have hrs := hI.rs
  refine lv_aload_n hx hb dX10_settle_0 rfl (lv_at hl 0 rfl) ?_
  refine r_get C hw (hsh 24 _ rfl) fl_X10_32 (oV_i rfl) dX10_settle_1 (ti_c (ig (B + 24) 8).toInt rfl fun z1 hz1 => ?_)
  refine lv_aload_n hx hb dX10_settle_4 rfl (lv_at hl 0 rfl) ?_
  refine r_get C hw (hsh 24 _ rfl) fl_X10_9 (oV_r rfl (hrs (24, 0, 9) (by decide))) dX10_settle_5 ?_
  refine r_get C hw (hsh 9 _ rfl) fl_X10_36 (oV_i rfl) dX10_settle_8 (ti_c (ig (B + 9) 6).toInt rfl fun z2 hz2 => ?_)
  refine b_ne (tgt := 15) hx hb dX10_settle_11 (by decide) (fun c11 => ?_) (fun c11 => ?_)
  · refine lv_aload_n hx hb dX10_settle_15 rfl (lv_at hl 0 rfl) ?_
    refine lv_aload_n hx hb dX10_settle_16 rfl (lv_at hl 0 rfl) ?_
    refine r_get C hw (hsh 24 _ rfl) fl_X10_9 (oV_r rfl (hrs (24, 0, 9) (by decide))) dX10_settle_17 ?_
    refine r_get C hw (hsh 9 _ rfl) fl_X10_36 (oV_i rfl) dX10_settle_20 (ti_c (ig (B + 9) 6).toInt rfl fun z3 hz3 => ?_)
    refine r_puti C hw (hsh 24 _ rfl) fl_X10_32 rfl rfl rfl dX10_settle_23 (fun H locs hH hw => ?_)
    obtain ⟨ig4, eig4⟩ : ∃ f, f = up2 ig (B + 24) 8 z3 := ⟨_, rfl⟩
    rw [← eig4] at hw
    have hN : Nx 998 B none kd ig rg lg kd ig4 rg lg := by rw [eig4]; exact hN.pi (by omega)
    have hI : IC τ B kd ig4 rg := by rw [eig4]; exact hI.pi (show okR none _ from trivial)
    refine lv_aload_n hx hb dX10_settle_26 rfl (lv_at hl 0 rfl) ?_
    refine r_get C hw (hsh 24 _ rfl) fl_X10_15 (oV_r rfl (hrs (24, 1, 15) (by decide))) dX10_settle_27 ?_
    refine r_callV (As := []) (rest := []) C hw (t_X5_settle l B D cA kd ig4 rg lg _   hI) sv_X10_39 (hsh 15 _ rfl) rfl hl.1 rfl (Nat.le_of_ble_eq_true rfl) ⟨Nat.le_of_ble_eq_true rfl, Nat.le_of_ble_eq_true rfl⟩ ⟨Nat.le_of_ble_eq_true rfl, Nat.le_of_ble_eq_true rfl⟩ dX10_settle_30 (fun r9 kd5 ig6 rg7 lg8 H locs hw hH hp10 => ?_)
    obtain ⟨hI, hchp10, hrhp10⟩ := hp10
    have hN := hN.tr hchp10
    have hsh := hI.sh
    have hrs := hI.rs
    obtain rfl := hrhp10
    refine lv_iconst (v := 0) hx hb dX10_settle_33 (by decide) (ti_c 0 (by decide) fun z11 hz11 => ?_)
    refine lv_istore_n (lv' := [(1, .int z11), (0, .ref (B + 24))]) hx hb dX10_settle_34 rfl hl (by decide) rfl (fun ls hl => ?_)
    have L35 : ∀ (n : Nat) (ls : Array Slot) (H : Heap) (locs : List Loc) (kd13 : sK) (ig14 : sI) (rg15 : sR) (lg16 : sG) (v12 : Int32), lv_has ls 4 [(1, .int v12), (0, .ref (B + 24))] → WD B D cA s.heap kd13 ig14 rg15 lg16 H locs → IC τ B kd13 ig14 rg15 → Nx 998 B none kd ig rg lg kd13 ig14 rg15 lg16 → (0 ≤ v12.toInt) → (v12.toInt ≤ 288) → 288 - v12.toInt < (n : Int) → W p l e (rL 6 0 0) s m args below meth c H locs 0 0 (MQ below (QcW B D cA (PI 998 τ B none kd ig rg lg (fun r kd' ig' rg' lg' => r = none))) args s 0 0 (fun q => B ≤ q)) (F0 m 35 ls []) := by
      intro n35
      induction n35 with
      | zero => intro ls H locs kd13 ig14 rg15 lg16 v12 hl hw hI hN g35_0 g35_1 hmu; exact absurd hmu (by omega)
      | succ n35 ih35 =>
        intro ls H locs kd13 ig14 rg15 lg16 v12 hl hw hI hN g35_0 g35_1 hmu
        have hsh := hI.sh
        have hrs := hI.rs
        refine lv_iload_n hx hb dX10_settle_35 rfl (lv_at hl 0 rfl) ?_
        refine lv_sipush (v := 288) hx hb dX10_settle_36 (by decide) (ti_c 288 (by decide) fun z17 hz17 => ?_)
        refine b_ge (tgt := 72) hx hb dX10_settle_39 (by decide) (fun c39 => ?_) (fun c39 => ?_)
        · refine lv_iconst (v := 0) hx hb dX10_settle_72 (by decide) (ti_c 0 (by decide) fun z18 hz18 => ?_)
          refine lv_istore_n (lv' := [(1, .int z18), (0, .ref (B + 24))]) hx hb dX10_settle_73 rfl hl (by decide) rfl (fun ls hl => ?_)
          have L74 : ∀ (n : Nat) (ls : Array Slot) (H : Heap) (locs : List Loc) (kd20 : sK) (ig21 : sI) (rg22 : sR) (lg23 : sG) (v19 : Int32), lv_has ls 4 [(1, .int v19), (0, .ref (B + 24))] → WD B D cA s.heap kd20 ig21 rg22 lg23 H locs → IC τ B kd20 ig21 rg22 → Nx 998 B none kd ig rg lg kd20 ig21 rg22 lg23 → (0 ≤ v19.toInt) → (v19.toInt ≤ 288) → 288 - v19.toInt < (n : Int) → W p l e (rL 6 0 0) s m args below meth c H locs 0 0 (MQ below (QcW B D cA (PI 998 τ B none kd ig rg lg (fun r kd' ig' rg' lg' => r = none))) args s 0 0 (fun q => B ≤ q)) (F0 m 74 ls []) := by
            intro n74
            induction n74 with
            | zero => intro ls H locs kd20 ig21 rg22 lg23 v19 hl hw hI hN g74_0 g74_1 hmu; exact absurd hmu (by omega)
            | succ n74 ih74 =>
              intro ls H locs kd20 ig21 rg22 lg23 v19 hl hw hI hN g74_0 g74_1 hmu
              have hsh := hI.sh
              have hrs := hI.rs
              refine lv_iload_n hx hb dX10_settle_74 rfl (lv_at hl 0 rfl) ?_
              refine lv_aload_n hx hb dX10_settle_75 rfl (lv_at hl 1 rfl) ?_
              refine r_get C hw (hsh 24 _ rfl) fl_X10_15 (oV_r rfl (hrs (24, 1, 15) (by decide))) dX10_settle_76 ?_
              refine r_callV (As := []) (rest := [.int v19]) C hw (t_X5_orderSize l B D cA kd20 ig21 rg22 lg23 _   hI) sv_X10_53 (hsh 15 _ rfl) rfl hl.1 rfl (Nat.le_of_ble_eq_true rfl) ⟨Nat.le_of_ble_eq_true rfl, Nat.le_of_ble_eq_true rfl⟩ ⟨Nat.le_of_ble_eq_true rfl, Nat.le_of_ble_eq_true rfl⟩ dX10_settle_79 (fun r28 kd24 ig25 rg26 lg27 H locs hw hH hp29 => ?_)
              obtain ⟨rfl, rfl, rfl, rfl, hzhp29, hrhp29⟩ := hp29
              obtain ⟨z30, rfl, hz30⟩ := hrhp29
              refine b_ge (tgt := 126) hx hb dX10_settle_82 (by decide) (fun c82 => ?_) (fun c82 => ?_)
              · exact r_vret C hw hr hlk (Nat.le_of_ble_eq_true rfl) (Nat.le_of_ble_eq_true rfl) dX10_settle_126 ⟨hI, hN, rfl⟩
              · refine lv_aload_n hx hb dX10_settle_85 rfl (lv_at hl 1 rfl) ?_
                refine r_get C hw (hsh 24 _ rfl) fl_X10_15 (oV_r rfl (hrs (24, 1, 15) (by decide))) dX10_settle_86 ?_
                refine lv_iload_n hx hb dX10_settle_89 rfl (lv_at hl 0 rfl) ?_
                refine r_callV (As := [.int v19]) (rest := []) C hw (t_X5_inOrder l B D cA kd20 ig21 rg22 lg23 _ v19  hI) sv_X10_57 (hsh 15 _ rfl) rfl hl.1 rfl (Nat.le_of_ble_eq_true rfl) ⟨Nat.le_of_ble_eq_true rfl, Nat.le_of_ble_eq_true rfl⟩ ⟨Nat.le_of_ble_eq_true rfl, Nat.le_of_ble_eq_true rfl⟩ dX10_settle_90 (fun r35 kd31 ig32 rg33 lg34 H locs hw hH hp36 => ?_)
                obtain ⟨rfl, rfl, rfl, rfl, hzhp36, hrhp36⟩ := hp36
                obtain ⟨z37, rfl, hz37⟩ := hrhp36
                refine lv_istore_n (lv' := [(2, .int z37), (1, .int v19), (0, .ref (B + 24))]) hx hb dX10_settle_93 rfl hl (by decide) rfl (fun ls hl => ?_)
                refine lv_aload_n hx hb dX10_settle_94 rfl (lv_at hl 2 rfl) ?_
                refine r_get C hw (hsh 24 _ rfl) fl_X10_9 (oV_r rfl (hrs (24, 0, 9) (by decide))) dX10_settle_95 ?_
                refine lv_iload_n hx hb dX10_settle_98 rfl (lv_at hl 0 rfl) ?_
                refine r_callV (As := [.int z37]) (rest := []) C hw (t_X6_formulaAt l B D cA kd20 ig21 rg22 lg23 _ z37  hI) sv_X10_61 (hsh 9 _ rfl) rfl hl.1 rfl (Nat.le_of_ble_eq_true rfl) ⟨Nat.le_of_ble_eq_true rfl, Nat.le_of_ble_eq_true rfl⟩ ⟨Nat.le_of_ble_eq_true rfl, Nat.le_of_ble_eq_true rfl⟩ dX10_settle_99 (fun r42 kd38 ig39 rg40 lg41 H locs hw hH hp43 => ?_)
                obtain ⟨rfl, rfl, rfl, rfl, hzhp43, hrhp43⟩ := hp43
                rcases hrhp43 with rfl | ⟨f44, nf44, rfl, Ff44⟩
                · refine lv_astore_nN (lv' := [(3, .null), (2, .int z37), (1, .int v19), (0, .ref (B + 24))]) hx hb dX10_settle_102 rfl hl (by decide) rfl (fun ls hl => ?_)
                  refine lv_iload_n hx hb dX10_settle_103 rfl (lv_at hl 1 rfl) ?_
                  refine r_callN (As := [.int z37]) (rest := []) C hw (t_X11_onSheet l B D cA kd20 ig21 rg22 lg23 _ z37  hI) sn_X10_65 rfl hl.1 rfl (Nat.le_of_ble_eq_true rfl) ⟨Nat.le_of_ble_eq_true rfl, Nat.le_of_ble_eq_true rfl⟩ ⟨Nat.le_of_ble_eq_true rfl, Nat.le_of_ble_eq_true rfl⟩ dX10_settle_104 (fun r49 kd45 ig46 rg47 lg48 H locs hw hH hp50 => ?_)
                  obtain ⟨rfl, rfl, rfl, rfl, hzhp50, hrhp50⟩ := hp50
                  obtain ⟨z51, rfl, hz51⟩ := hrhp50
                  refine z_eq (tgt := 120) hx hb dX10_settle_107 (by decide) (fun c107 => ?_) (fun c107 => ?_)
                  · refine tc_inc hx hb dX10_settle_120 hl (k := 2) rfl (by decide) (by decide) (fun z52 hz52 ls hl => ?_)
                    first | replace hz52 := hz52 (by omega) | clear hz52
                    have hl : lv_has ls 4 [(1, .int z52), (3, .null), (2, .int z37), (0, .ref (B + 24))] := hl
                    refine lv_goto (tgt := 74) hx hb dX10_settle_123 (by decide) ?_
                    exact ih74 ls H locs kd20 ig21 rg22 lg23 z52 (lv_sub hl [0, 3] rfl) hw hI hN (by omega) (by omega) (by omega)
                  · refine lv_aload_nN hx hb dX10_settle_110 rfl (lv_at hl 0 rfl) ?_
                    refine lv_ifnullN (tgt := 120) hx hb dX10_settle_111 (by decide) ?_
                    refine tc_inc hx hb dX10_settle_120 hl (k := 2) rfl (by decide) (by decide) (fun z53 hz53 ls hl => ?_)
                    first | replace hz53 := hz53 (by omega) | clear hz53
                    have hl : lv_has ls 4 [(1, .int z53), (3, .null), (2, .int z37), (0, .ref (B + 24))] := hl
                    refine lv_goto (tgt := 74) hx hb dX10_settle_123 (by decide) ?_
                    exact ih74 ls H locs kd20 ig21 rg22 lg23 z53 (lv_sub hl [0, 3] rfl) hw hI hN (by omega) (by omega) (by omega)
                · have lf44 := isFn.le Ff44
                  refine lv_astore_n (lv' := [(3, .ref f44), (2, .int z37), (1, .int v19), (0, .ref (B + 24))]) hx hb dX10_settle_102 rfl hl (by decide) rfl (fun ls hl => ?_)
                  refine lv_iload_n hx hb dX10_settle_103 rfl (lv_at hl 1 rfl) ?_
                  refine r_callN (As := [.int z37]) (rest := []) C hw (t_X11_onSheet l B D cA kd20 ig21 rg22 lg23 _ z37  hI) sn_X10_65 rfl hl.1 rfl (Nat.le_of_ble_eq_true rfl) ⟨Nat.le_of_ble_eq_true rfl, Nat.le_of_ble_eq_true rfl⟩ ⟨Nat.le_of_ble_eq_true rfl, Nat.le_of_ble_eq_true rfl⟩ dX10_settle_104 (fun r58 kd54 ig55 rg56 lg57 H locs hw hH hp59 => ?_)
                  obtain ⟨rfl, rfl, rfl, rfl, hzhp59, hrhp59⟩ := hp59
                  obtain ⟨z60, rfl, hz60⟩ := hrhp59
                  refine z_eq (tgt := 120) hx hb dX10_settle_107 (by decide) (fun c107 => ?_) (fun c107 => ?_)
                  · refine tc_inc hx hb dX10_settle_120 hl (k := 2) rfl (by decide) (by decide) (fun z61 hz61 ls hl => ?_)
                    first | replace hz61 := hz61 (by omega) | clear hz61
                    have hl : lv_has ls 4 [(1, .int z61), (3, .ref f44), (2, .int z37), (0, .ref (B + 24))] := hl
                    refine lv_goto (tgt := 74) hx hb dX10_settle_123 (by decide) ?_
                    exact ih74 ls H locs kd20 ig21 rg22 lg23 z61 (lv_sub hl [0, 3] rfl) hw hI hN (by omega) (by omega) (by omega)
                  · refine lv_aload_n hx hb dX10_settle_110 rfl (lv_at hl 0 rfl) ?_
                    refine lv_ifnull hx hb dX10_settle_111 ?_
                    refine lv_aload_n hx hb dX10_settle_114 rfl (lv_at hl 3 rfl) ?_
                    refine lv_iload_n hx hb dX10_settle_115 rfl (lv_at hl 1 rfl) ?_
                    refine lv_aload_n hx hb dX10_settle_116 rfl (lv_at hl 0 rfl) ?_
                    refine r_callV (As := [.int z37, .ref f44]) (rest := []) C hw (t_X10_workOut l B D cA kd20 ig21 rg22 lg23 _ z37 f44 nf44 Ff44 (by omega) hI) sv_X10_69 (hsh 24 _ rfl) rfl hl.1 rfl (Nat.le_of_ble_eq_true rfl) ⟨Nat.le_of_ble_eq_true rfl, Nat.le_of_ble_eq_true rfl⟩ ⟨Nat.le_of_ble_eq_true rfl, Nat.le_of_ble_eq_true rfl⟩ dX10_settle_117 (fun r66 kd62 ig63 rg64 lg65 H locs hw hH hp67 => ?_)
                    obtain ⟨hI, hchp67, hrhp67⟩ := hp67
                    have hN := hN.tr hchp67
                    have hsh := hI.sh
                    have hrs := hI.rs
                    obtain rfl := hrhp67
                    refine tc_inc hx hb dX10_settle_120 hl (k := 2) rfl (by decide) (by decide) (fun z68 hz68 ls hl => ?_)
                    first | replace hz68 := hz68 (by omega) | clear hz68
                    have hl : lv_has ls 4 [(1, .int z68), (3, .ref f44), (2, .int z37), (0, .ref (B + 24))] := hl
                    refine lv_goto (tgt := 74) hx hb dX10_settle_123 (by decide) ?_
                    exact ih74 ls H locs kd62 ig63 rg64 lg65 z68 (lv_sub hl [0, 3] rfl) hw hI hN (by omega) (by omega) (by omega)
          exact L74 ((288 - z18.toInt) + 1).toNat ls H locs kd13 ig14 rg15 lg16 z18 (lv_sub hl [0, 1] rfl) hw hI hN (by omega) (by omega) (by omega)
        · refine lv_aload_n hx hb dX10_settle_42 rfl (lv_at hl 1 rfl) ?_
          refine r_get C hw (hsh 24 _ rfl) fl_X10_19 (oV_r rfl (hrs (24, 2, 25) (by decide))) dX10_settle_43 ?_
          refine lv_iload_n hx hb dX10_settle_46 rfl (lv_at hl 0 rfl) ?_
          refine lv_aload_n hx hb dX10_settle_47 rfl (lv_at hl 1 rfl) ?_
          refine r_get C hw (hsh 24 _ rfl) fl_X10_9 (oV_r rfl (hrs (24, 0, 9) (by decide))) dX10_settle_48 ?_
          refine lv_iload_n hx hb dX10_settle_51 rfl (lv_at hl 0 rfl) ?_
          refine r_callV (As := [.int v12]) (rest := [.int v12, .ref (B + 25)]) C hw (t_X6_at l B D cA kd13 ig14 rg15 lg16 _ v12  hI) sv_X10_44 (hsh 9 _ rfl) rfl hl.1 rfl (Nat.le_of_ble_eq_true rfl) ⟨Nat.le_of_ble_eq_true rfl, Nat.le_of_ble_eq_true rfl⟩ ⟨Nat.le_of_ble_eq_true rfl, Nat.le_of_ble_eq_true rfl⟩ dX10_settle_52 (fun r73 kd69 ig70 rg71 lg72 H locs hw hH hp74 => ?_)
          obtain ⟨rfl, rfl, rfl, rfl, hzhp74, hrhp74⟩ := hp74
          obtain ⟨q75, nq75, rfl, kq75⟩ := hrhp74
          refine r_get C hw kq75 fl_X10_48 (oV_i rfl) dX10_settle_55 (ti_c (ig14 q75 1).toInt rfl fun z76 hz76 => ?_)
          refine r_iast C hw (hsh 25 _ rfl) (by omega) (by omega) dX10_settle_58 (fun H locs hH hw => ?_)
          obtain ⟨ig77, eig77⟩ : ∃ f, f = up2 ig14 (B + 25) v12.toInt.toNat z76 := ⟨_, rfl⟩
          rw [← eig77] at hw
          have hN : Nx 998 B none kd ig rg lg kd13 ig77 rg15 lg16 := by rw [eig77]; exact hN.pi (by omega)
          have hI : IC τ B kd13 ig77 rg15 := by rw [eig77]; exact hI.pi (show okR none _ from trivial)
          refine lv_aload_n hx hb dX10_settle_59 rfl (lv_at hl 1 rfl) ?_
          refine r_get C hw (hsh 24 _ rfl) fl_X10_23 (oV_r rfl (hrs (24, 3, 26) (by decide))) dX10_settle_60 ?_
          refine lv_iload_n hx hb dX10_settle_63 rfl (lv_at hl 0 rfl) ?_
          refine lv_iconst (v := 0) hx hb dX10_settle_64 (by decide) (ti_c 0 (by decide) fun z78 hz78 => ?_)
          refine r_iast C hw (hsh 26 _ rfl) (by omega) (by omega) dX10_settle_65 (fun H locs hH hw => ?_)
          obtain ⟨ig79, eig79⟩ : ∃ f, f = up2 ig77 (B + 26) v12.toInt.toNat z78 := ⟨_, rfl⟩
          rw [← eig79] at hw
          have hN : Nx 998 B none kd ig rg lg kd13 ig79 rg15 lg16 := by rw [eig79]; exact hN.pi (by omega)
          have hI : IC τ B kd13 ig79 rg15 := by rw [eig79]; exact hI.pi (show okR none _ from trivial)
          refine tc_inc hx hb dX10_settle_66 hl (k := 0) rfl (by decide) (by decide) (fun z80 hz80 ls hl => ?_)
          first | replace hz80 := hz80 (by omega) | clear hz80
          have hl : lv_has ls 4 [(1, .int z80), (0, .ref (B + 24))] := hl
          refine lv_goto (tgt := 35) hx hb dX10_settle_69 (by decide) ?_
          exact ih35 ls H locs kd13 ig79 rg15 lg16 z80 (lv_sub hl [0, 1] rfl) hw hI hN (by omega) (by omega) (by omega)
    exact L35 ((288 - z11.toInt) + 1).toNat ls H locs kd5 ig6 rg7 lg8 z11 (lv_sub hl [0, 1] rfl) hw hI hN (by omega) (by omega) (by omega)
  · exact r_vret C hw hr hlk (Nat.le_of_ble_eq_true rfl) (Nat.le_of_ble_eq_true rfl) dX10_settle_14 ⟨hI, hN, rfl⟩

set_option maxHeartbeats 4000000 in
set_option maxRecDepth 100000 in
theorem t_X2_familyAt {τ : Tp} (l : Launch) (B : Nat) (D : va_G) (cA : Nat → ClassId) (kd : sK) (ig : sI) (rg : sR) (lg : sG) (sz : Nat) (x : Int32) (hI : IC τ B kd ig rg) : MC l B D cA yX2_familyAt cX2_familyAt 2 (some .int) (rL 1 0 0) [.ref (B + 29), .int x] kd ig rg lg sz (Pu kd ig rg lg sz (fun r => ∃ z : Int32, r = some (.int z) ∧ True)) := by
  refine MC.of (own := RX2) (by decide +kernel) rfl (Nat.le_of_ble_eq_true rfl) ?_
  intro p e s m args below meth c ls C hr hlk hnm hw hsz hl
  have hx := C.1.1
  have hb := C.1.2.1
  have hown := C.1.2.2.2.1
  have hts := C.1.2.2.2.2
  have hl : lv_has ls 2 [(0, .ref (B + 29)), (1, .int x)] := hl
  have hsh := hI.sh
  have hrs := hI.rs
  refine lv_iload_n hx hb dX2_familyAt_0 rfl (lv_at hl 1 rfl) ?_
  refine r_callN (As := [.int x]) (rest := []) C hw (t_X11_onSheet l B D cA kd ig rg lg _ x  hI) sn_X2_46 rfl hl.1 rfl (Nat.le_of_ble_eq_true rfl) ⟨Nat.le_of_ble_eq_true rfl, Nat.le_of_ble_eq_true rfl⟩ ⟨Nat.le_of_ble_eq_true rfl, Nat.le_of_ble_eq_true rfl⟩ dX2_familyAt_1 (fun r5 kd1 ig2 rg3 lg4 H locs hw hH hp6 => ?_)
  obtain ⟨rfl, rfl, rfl, rfl, hzhp6, hrhp6⟩ := hp6
  have hsz := hzhp6.trans hsz
  obtain ⟨z7, rfl, hz7⟩ := hrhp6
  refine z_eq (tgt := 16) hx hb dX2_familyAt_4 (by decide) (fun c4 => ?_) (fun c4 => ?_)
  · refine lv_iconst (v := (-1)) hx hb dX2_familyAt_16 (by decide) (ti_c (-1) (by decide) fun z8 hz8 => ?_)
    exact r_iret C hw hr hlk rfl (Nat.le_of_ble_eq_true rfl) (Nat.le_of_ble_eq_true rfl) dX2_familyAt_17 ⟨rfl, rfl, rfl, rfl, hsz, ⟨_, rfl, trivial⟩⟩
  · refine lv_aload_n hx hb dX2_familyAt_7 rfl (lv_at hl 0 rfl) ?_
    refine r_get C hw (hsh 29 _ rfl) fl_X2_15 (oV_r rfl (hrs (29, 1, 30) (by decide))) dX2_familyAt_8 ?_
    refine lv_iload_n hx hb dX2_familyAt_11 rfl (lv_at hl 1 rfl) ?_
    refine r_iald C hw (hsh 30 _ rfl) (by omega) (by omega) dX2_familyAt_12 (ti_c (ig (B + 30) x.toInt.toNat).toInt rfl fun z9 hz9 => ?_)
    refine lv_goto (tgt := 17) hx hb dX2_familyAt_13 (by decide) ?_
    exact r_iret C hw hr hlk rfl (Nat.le_of_ble_eq_true rfl) (Nat.le_of_ble_eq_true rfl) dX2_familyAt_17 ⟨rfl, rfl, rfl, rfl, hsz, ⟨_, rfl, trivial⟩⟩

set_option maxHeartbeats 4000000 in
set_option maxRecDepth 100000 in
theorem t_X2_areKin {τ : Tp} (l : Launch) (B : Nat) (D : va_G) (cA : Nat → ClassId) (kd : sK) (ig : sI) (rg : sR) (lg : sG) (sz : Nat) (x : Int32) (y : Int32) (hI : IC τ B kd ig rg) : MC l B D cA yX2_areKin cX2_areKin 3 (some .boolean) (rL 1 0 0) [.ref (B + 29), .int x, .int y] kd ig rg lg sz (Pu kd ig rg lg sz (fun r => ∃ z : Int32, r = some (.int z) ∧ (z.toInt = 0 ∨ z.toInt = 1))) := by
  refine MC.of (own := RX2) (by decide +kernel) rfl (Nat.le_of_ble_eq_true rfl) ?_
  intro p e s m args below meth c ls C hr hlk hnm hw hsz hl
  have hx := C.1.1
  have hb := C.1.2.1
  have hown := C.1.2.2.2.1
  have hts := C.1.2.2.2.2
  have hl : lv_has ls 3 [(0, .ref (B + 29)), (1, .int x), (2, .int y)] := hl
  have hsh := hI.sh
  have hrs := hI.rs
  refine lv_iload_n hx hb dX2_areKin_0 rfl (lv_at hl 1 rfl) ?_
  refine r_callN (As := [.int x]) (rest := []) C hw (t_X11_onSheet l B D cA kd ig rg lg _ x  hI) sn_X2_46 rfl hl.1 rfl (Nat.le_of_ble_eq_true rfl) ⟨Nat.le_of_ble_eq_true rfl, Nat.le_of_ble_eq_true rfl⟩ ⟨Nat.le_of_ble_eq_true rfl, Nat.le_of_ble_eq_true rfl⟩ dX2_areKin_1 (fun r5 kd1 ig2 rg3 lg4 H locs hw hH hp6 => ?_)
  obtain ⟨rfl, rfl, rfl, rfl, hzhp6, hrhp6⟩ := hp6
  have hsz := hzhp6.trans hsz
  obtain ⟨z7, rfl, hz7⟩ := hrhp6
  refine z_eq (tgt := 43) hx hb dX2_areKin_4 (by decide) (fun c4 => ?_) (fun c4 => ?_)
  · refine lv_iconst (v := 0) hx hb dX2_areKin_43 (by decide) (ti_c 0 (by decide) fun z8 hz8 => ?_)
    exact r_iret C hw hr hlk (nar_b (by omega)) (Nat.le_of_ble_eq_true rfl) (Nat.le_of_ble_eq_true rfl) dX2_areKin_44 ⟨rfl, rfl, rfl, rfl, hsz, ⟨_, rfl, by omega⟩⟩
  · refine lv_iload_n hx hb dX2_areKin_7 rfl (lv_at hl 2 rfl) ?_
    refine r_callN (As := [.int y]) (rest := []) C hw (t_X11_onSheet l B D cA kd ig rg lg _ y  hI) sn_X2_46 rfl hl.1 rfl (Nat.le_of_ble_eq_true rfl) ⟨Nat.le_of_ble_eq_true rfl, Nat.le_of_ble_eq_true rfl⟩ ⟨Nat.le_of_ble_eq_true rfl, Nat.le_of_ble_eq_true rfl⟩ dX2_areKin_8 (fun r13 kd9 ig10 rg11 lg12 H locs hw hH hp14 => ?_)
    obtain ⟨rfl, rfl, rfl, rfl, hzhp14, hrhp14⟩ := hp14
    have hsz := hzhp14.trans hsz
    obtain ⟨z15, rfl, hz15⟩ := hrhp14
    refine z_eq (tgt := 43) hx hb dX2_areKin_11 (by decide) (fun c11 => ?_) (fun c11 => ?_)
    · refine lv_iconst (v := 0) hx hb dX2_areKin_43 (by decide) (ti_c 0 (by decide) fun z16 hz16 => ?_)
      exact r_iret C hw hr hlk (nar_b (by omega)) (Nat.le_of_ble_eq_true rfl) (Nat.le_of_ble_eq_true rfl) dX2_areKin_44 ⟨rfl, rfl, rfl, rfl, hsz, ⟨_, rfl, by omega⟩⟩
    · refine lv_aload_n hx hb dX2_areKin_14 rfl (lv_at hl 0 rfl) ?_
      refine r_get C hw (hsh 29 _ rfl) fl_X2_15 (oV_r rfl (hrs (29, 1, 30) (by decide))) dX2_areKin_15 ?_
      refine lv_iload_n hx hb dX2_areKin_18 rfl (lv_at hl 1 rfl) ?_
      refine r_iald C hw (hsh 30 _ rfl) (by omega) (by omega) dX2_areKin_19 (ti_c (ig (B + 30) x.toInt.toNat).toInt rfl fun z17 hz17 => ?_)
      refine lv_iconst (v := (-1)) hx hb dX2_areKin_20 (by decide) (ti_c (-1) (by decide) fun z18 hz18 => ?_)
      refine b_eq (tgt := 43) hx hb dX2_areKin_21 (by decide) (fun c21 => ?_) (fun c21 => ?_)
      · refine lv_iconst (v := 0) hx hb dX2_areKin_43 (by decide) (ti_c 0 (by decide) fun z19 hz19 => ?_)
        exact r_iret C hw hr hlk (nar_b (by omega)) (Nat.le_of_ble_eq_true rfl) (Nat.le_of_ble_eq_true rfl) dX2_areKin_44 ⟨rfl, rfl, rfl, rfl, hsz, ⟨_, rfl, by omega⟩⟩
      · refine lv_aload_n hx hb dX2_areKin_24 rfl (lv_at hl 0 rfl) ?_
        refine r_get C hw (hsh 29 _ rfl) fl_X2_15 (oV_r rfl (hrs (29, 1, 30) (by decide))) dX2_areKin_25 ?_
        refine lv_iload_n hx hb dX2_areKin_28 rfl (lv_at hl 1 rfl) ?_
        refine r_iald C hw (hsh 30 _ rfl) (by omega) (by omega) dX2_areKin_29 (ti_c (ig (B + 30) x.toInt.toNat).toInt rfl fun z20 hz20 => ?_)
        refine lv_aload_n hx hb dX2_areKin_30 rfl (lv_at hl 0 rfl) ?_
        refine r_get C hw (hsh 29 _ rfl) fl_X2_15 (oV_r rfl (hrs (29, 1, 30) (by decide))) dX2_areKin_31 ?_
        refine lv_iload_n hx hb dX2_areKin_34 rfl (lv_at hl 2 rfl) ?_
        refine r_iald C hw (hsh 30 _ rfl) (by omega) (by omega) dX2_areKin_35 (ti_c (ig (B + 30) y.toInt.toNat).toInt rfl fun z21 hz21 => ?_)
        refine b_ne (tgt := 43) hx hb dX2_areKin_36 (by decide) (fun c36 => ?_) (fun c36 => ?_)
        · refine lv_iconst (v := 0) hx hb dX2_areKin_43 (by decide) (ti_c 0 (by decide) fun z22 hz22 => ?_)
          exact r_iret C hw hr hlk (nar_b (by omega)) (Nat.le_of_ble_eq_true rfl) (Nat.le_of_ble_eq_true rfl) dX2_areKin_44 ⟨rfl, rfl, rfl, rfl, hsz, ⟨_, rfl, by omega⟩⟩
        · refine lv_iconst (v := 1) hx hb dX2_areKin_39 (by decide) (ti_c 1 (by decide) fun z23 hz23 => ?_)
          refine lv_goto (tgt := 44) hx hb dX2_areKin_40 (by decide) ?_
          exact r_iret C hw hr hlk (nar_b (by omega)) (Nat.le_of_ble_eq_true rfl) (Nat.le_of_ble_eq_true rfl) dX2_areKin_44 ⟨rfl, rfl, rfl, rfl, hsz, ⟨_, rfl, by omega⟩⟩

set_option maxHeartbeats 4000000 in
set_option maxRecDepth 100000 in
theorem t_X2_isStranger {τ : Tp} (l : Launch) (B : Nat) (D : va_G) (cA : Nat → ClassId) (kd : sK) (ig : sI) (rg : sR) (lg : sG) (sz : Nat) (x : Int32) (y : Int32) (u : Int32) (hI : IC τ B kd ig rg) : MC l B D cA yX2_isStranger cX2_isStranger 4 (some .boolean) (rL 2 0 0) [.ref (B + 29), .int x, .int y, .int u] kd ig rg lg sz (Pu kd ig rg lg sz (fun r => ∃ z : Int32, r = some (.int z) ∧ (z.toInt = 0 ∨ z.toInt = 1))) := by
  refine MC.of (own := RX2) (by decide +kernel) rfl (Nat.le_of_ble_eq_true rfl) ?_
  intro p e s m args below meth c ls C hr hlk hnm hw hsz hl
  have hx := C.1.1
  have hb := C.1.2.1
  have hown := C.1.2.2.2.1
  have hts := C.1.2.2.2.2
  have hl : lv_has ls 4 [(0, .ref (B + 29)), (1, .int x), (2, .int y), (3, .int u)] := hl
  have hsh := hI.sh
  have hrs := hI.rs
  refine lv_aload_n hx hb dX2_isStranger_0 rfl (lv_at hl 0 rfl) ?_
  refine lv_iload_n hx hb dX2_isStranger_1 rfl (lv_at hl 2 rfl) ?_
  refine lv_iload_n hx hb dX2_isStranger_2 rfl (lv_at hl 3 rfl) ?_
  refine r_callV (As := [.int y, .int u]) (rest := []) C hw (t_X2_areKin l B D cA kd ig rg lg _ y u  hI) sv_X2_58 (hsh 29 _ rfl) rfl hl.1 rfl (Nat.le_of_ble_eq_true rfl) ⟨Nat.le_of_ble_eq_true rfl, Nat.le_of_ble_eq_true rfl⟩ ⟨Nat.le_of_ble_eq_true rfl, Nat.le_of_ble_eq_true rfl⟩ dX2_isStranger_3 (fun r5 kd1 ig2 rg3 lg4 H locs hw hH hp6 => ?_)
  obtain ⟨rfl, rfl, rfl, rfl, hzhp6, hrhp6⟩ := hp6
  have hsz := hzhp6.trans hsz
  obtain ⟨z7, rfl, hz7⟩ := hrhp6
  refine z_eq (tgt := 22) hx hb dX2_isStranger_6 (by decide) (fun c6 => ?_) (fun c6 => ?_)
  · refine lv_iconst (v := 0) hx hb dX2_isStranger_22 (by decide) (ti_c 0 (by decide) fun z8 hz8 => ?_)
    exact r_iret C hw hr hlk (nar_b (by omega)) (Nat.le_of_ble_eq_true rfl) (Nat.le_of_ble_eq_true rfl) dX2_isStranger_23 ⟨rfl, rfl, rfl, rfl, hsz, ⟨_, rfl, by omega⟩⟩
  · refine lv_aload_n hx hb dX2_isStranger_9 rfl (lv_at hl 0 rfl) ?_
    refine lv_iload_n hx hb dX2_isStranger_10 rfl (lv_at hl 2 rfl) ?_
    refine lv_iload_n hx hb dX2_isStranger_11 rfl (lv_at hl 1 rfl) ?_
    refine r_callV (As := [.int y, .int x]) (rest := []) C hw (t_X2_areKin l B D cA kd ig rg lg _ y x  hI) sv_X2_58 (hsh 29 _ rfl) rfl hl.1 rfl (Nat.le_of_ble_eq_true rfl) ⟨Nat.le_of_ble_eq_true rfl, Nat.le_of_ble_eq_true rfl⟩ ⟨Nat.le_of_ble_eq_true rfl, Nat.le_of_ble_eq_true rfl⟩ dX2_isStranger_12 (fun r13 kd9 ig10 rg11 lg12 H locs hw hH hp14 => ?_)
    obtain ⟨rfl, rfl, rfl, rfl, hzhp14, hrhp14⟩ := hp14
    have hsz := hzhp14.trans hsz
    obtain ⟨z15, rfl, hz15⟩ := hrhp14
    refine z_ne (tgt := 22) hx hb dX2_isStranger_15 (by decide) (fun c15 => ?_) (fun c15 => ?_)
    · refine lv_iconst (v := 0) hx hb dX2_isStranger_22 (by decide) (ti_c 0 (by decide) fun z16 hz16 => ?_)
      exact r_iret C hw hr hlk (nar_b (by omega)) (Nat.le_of_ble_eq_true rfl) (Nat.le_of_ble_eq_true rfl) dX2_isStranger_23 ⟨rfl, rfl, rfl, rfl, hsz, ⟨_, rfl, by omega⟩⟩
    · refine lv_iconst (v := 1) hx hb dX2_isStranger_18 (by decide) (ti_c 1 (by decide) fun z17 hz17 => ?_)
      refine lv_goto (tgt := 23) hx hb dX2_isStranger_19 (by decide) ?_
      exact r_iret C hw hr hlk (nar_b (by omega)) (Nat.le_of_ble_eq_true rfl) (Nat.le_of_ble_eq_true rfl) dX2_isStranger_23 ⟨rfl, rfl, rfl, rfl, hsz, ⟨_, rfl, by omega⟩⟩

set_option maxHeartbeats 4000000 in
set_option maxRecDepth 100000 in
theorem t_X2_neighbourToCopy {τ : Tp} (l : Launch) (B : Nat) (D : va_G) (cA : Nat → ClassId) (kd : sK) (ig : sI) (rg : sR) (lg : sG) (sz : Nat) (x : Int32) (hI : IC τ B kd ig rg) : MC l B D cA yX2_neighbourToCopy cX2_neighbourToCopy 3 (some .int) (rL 3 0 0) [.ref (B + 29), .int x] kd ig rg lg sz (Pu kd ig rg lg sz (fun r => ∃ z : Int32, r = some (.int z) ∧ True)) := by
  refine MC.of (own := RX2) (by decide +kernel) rfl (Nat.le_of_ble_eq_true rfl) ?_
  intro p e s m args below meth c ls C hr hlk hnm hw hsz hl
  have hx := C.1.1
  have hb := C.1.2.1
  have hown := C.1.2.2.2.1
  have hts := C.1.2.2.2.2
  have hl : lv_has ls 3 [(0, .ref (B + 29)), (1, .int x)] := hl
  have hsh := hI.sh
  have hrs := hI.rs
  refine lv_aload_n hx hb dX2_neighbourToCopy_0 rfl (lv_at hl 0 rfl) ?_
  refine r_get C hw (hsh 29 _ rfl) fl_X2_9 (oV_r rfl (hrs (29, 0, 9) (by decide))) dX2_neighbourToCopy_1 ?_
  refine lv_iload_n hx hb dX2_neighbourToCopy_4 rfl (lv_at hl 1 rfl) ?_
  refine r_callV (As := [.int x]) (rest := []) C hw (t_X6_kindAt l B D cA kd ig rg lg _ x  hI) sv_X2_50 (hsh 9 _ rfl) rfl hl.1 rfl (Nat.le_of_ble_eq_true rfl) ⟨Nat.le_of_ble_eq_true rfl, Nat.le_of_ble_eq_true rfl⟩ ⟨Nat.le_of_ble_eq_true rfl, Nat.le_of_ble_eq_true rfl⟩ dX2_neighbourToCopy_5 (fun r5 kd1 ig2 rg3 lg4 H locs hw hH hp6 => ?_)
  obtain ⟨rfl, rfl, rfl, rfl, hzhp6, hrhp6⟩ := hp6
  have hsz := hzhp6.trans hsz
  obtain ⟨z7, rfl, hz7⟩ := hrhp6
  refine z_ne (tgt := 13) hx hb dX2_neighbourToCopy_8 (by decide) (fun c8 => ?_) (fun c8 => ?_)
  · refine lv_iload_n hx hb dX2_neighbourToCopy_13 rfl (lv_at hl 1 rfl) ?_
    refine lv_bipush (v := 12) hx hb dX2_neighbourToCopy_14 (by decide) (ti_c 12 (by decide) fun z8 hz8 => ?_)
    refine lv_irem hx hb dX2_neighbourToCopy_16 (ne0_of (by omega)) (tc_rem 12 hz8 (by decide) fun z9 bz9 hz9 => ?_)
    first | replace hz9 := hz9 (by omega) | clear hz9
    refine lv_istore_n (lv' := [(2, .int z9), (0, .ref (B + 29)), (1, .int x)]) hx hb dX2_neighbourToCopy_17 rfl hl (by decide) rfl (fun ls hl => ?_)
    refine lv_iload_n hx hb dX2_neighbourToCopy_18 rfl (lv_at hl 0 rfl) ?_
    have J46 : ∀ (ls : Array Slot) (H : Heap) (locs : List Loc) , lv_has ls 3 [(0, .ref (B + 29)), (1, .int x)] → WD B D cA s.heap kd ig rg lg H locs → H.size = sz → W p l e (rL 3 0 0) s m args below meth c H locs 0 0 (MQ below (QcW B D cA (Pu kd ig rg lg sz (fun r => ∃ z : Int32, r = some (.int z) ∧ True))) args s 0 0 (fun q => B ≤ q)) (F0 m 46 ls []) := by
      intro ls H locs  hl hw hsz
      refine lv_aload_n hx hb dX2_neighbourToCopy_46 rfl (lv_at hl 0 rfl) ?_
      refine lv_iload_n hx hb dX2_neighbourToCopy_47 rfl (lv_at hl 1 rfl) ?_
      refine lv_iload_n hx hb dX2_neighbourToCopy_48 rfl (lv_at hl 1 rfl) ?_
      refine lv_bipush (v := 12) hx hb dX2_neighbourToCopy_49 (by decide) (ti_c 12 (by decide) fun z10 hz10 => ?_)
      refine lv_isub hx hb dX2_neighbourToCopy_51 (tc_sub fun z11 hz11 => ?_)
      first | replace hz11 := hz11 (by omega) | clear hz11
      refine lv_iload_n hx hb dX2_neighbourToCopy_52 rfl (lv_at hl 1 rfl) ?_
      refine lv_bipush (v := 12) hx hb dX2_neighbourToCopy_53 (by decide) (ti_c 12 (by decide) fun z12 hz12 => ?_)
      refine lv_iadd hx hb dX2_neighbourToCopy_55 (tc_add fun z13 hz13 => ?_)
      first | replace hz13 := hz13 (by omega) | clear hz13
      refine r_callV (As := [.int x, .int z11, .int z13]) (rest := []) C hw (t_X2_isStranger l B D cA kd ig rg lg _ x z11 z13  hI) sv_X2_54 (hsh 29 _ rfl) rfl hl.1 rfl (Nat.le_of_ble_eq_true rfl) ⟨Nat.le_of_ble_eq_true rfl, Nat.le_of_ble_eq_true rfl⟩ ⟨Nat.le_of_ble_eq_true rfl, Nat.le_of_ble_eq_true rfl⟩ dX2_neighbourToCopy_56 (fun r18 kd14 ig15 rg16 lg17 H locs hw hH hp19 => ?_)
      obtain ⟨rfl, rfl, rfl, rfl, hzhp19, hrhp19⟩ := hp19
      have hsz := hzhp19.trans hsz
      obtain ⟨z20, rfl, hz20⟩ := hrhp19
      refine z_eq (tgt := 69) hx hb dX2_neighbourToCopy_59 (by decide) (fun c59 => ?_) (fun c59 => ?_)
      · refine lv_iconst (v := (-1)) hx hb dX2_neighbourToCopy_69 (by decide) (ti_c (-1) (by decide) fun z21 hz21 => ?_)
        exact r_iret C hw hr hlk rfl (Nat.le_of_ble_eq_true rfl) (Nat.le_of_ble_eq_true rfl) dX2_neighbourToCopy_70 ⟨rfl, rfl, rfl, rfl, hsz, ⟨_, rfl, trivial⟩⟩
      · refine lv_iload_n hx hb dX2_neighbourToCopy_62 rfl (lv_at hl 1 rfl) ?_
        refine lv_bipush (v := 12) hx hb dX2_neighbourToCopy_63 (by decide) (ti_c 12 (by decide) fun z22 hz22 => ?_)
        refine lv_isub hx hb dX2_neighbourToCopy_65 (tc_sub fun z23 hz23 => ?_)
        first | replace hz23 := hz23 (by omega) | clear hz23
        refine lv_goto (tgt := 70) hx hb dX2_neighbourToCopy_66 (by decide) ?_
        exact r_iret C hw hr hlk rfl (Nat.le_of_ble_eq_true rfl) (Nat.le_of_ble_eq_true rfl) dX2_neighbourToCopy_70 ⟨rfl, rfl, rfl, rfl, hsz, ⟨_, rfl, trivial⟩⟩
    refine z_le (tgt := 46) hx hb dX2_neighbourToCopy_19 (by decide) (fun c19 => ?_) (fun c19 => ?_)
    · exact J46 ls H locs (lv_sub hl [1, 2] rfl) hw hsz
    · refine lv_iload_n hx hb dX2_neighbourToCopy_22 rfl (lv_at hl 0 rfl) ?_
      refine lv_bipush (v := 11) hx hb dX2_neighbourToCopy_23 (by decide) (ti_c 11 (by decide) fun z24 hz24 => ?_)
      refine b_ge (tgt := 46) hx hb dX2_neighbourToCopy_25 (by decide) (fun c25 => ?_) (fun c25 => ?_)
      · exact J46 ls H locs (lv_sub hl [1, 2] rfl) hw hsz
      · refine lv_aload_n hx hb dX2_neighbourToCopy_28 rfl (lv_at hl 1 rfl) ?_
        refine lv_iload_n hx hb dX2_neighbourToCopy_29 rfl (lv_at hl 2 rfl) ?_
        refine lv_iload_n hx hb dX2_neighbourToCopy_30 rfl (lv_at hl 2 rfl) ?_
        refine lv_iconst (v := 1) hx hb dX2_neighbourToCopy_31 (by decide) (ti_c 1 (by decide) fun z25 hz25 => ?_)
        refine lv_isub hx hb dX2_neighbourToCopy_32 (tc_sub fun z26 hz26 => ?_)
        first | replace hz26 := hz26 (by omega) | clear hz26
        refine lv_iload_n hx hb dX2_neighbourToCopy_33 rfl (lv_at hl 2 rfl) ?_
        refine lv_iconst (v := 1) hx hb dX2_neighbourToCopy_34 (by decide) (ti_c 1 (by decide) fun z27 hz27 => ?_)
        refine lv_iadd hx hb dX2_neighbourToCopy_35 (tc_add fun z28 hz28 => ?_)
        first | replace hz28 := hz28 (by omega) | clear hz28
        refine r_callV (As := [.int x, .int z26, .int z28]) (rest := []) C hw (t_X2_isStranger l B D cA kd ig rg lg _ x z26 z28  hI) sv_X2_54 (hsh 29 _ rfl) rfl hl.1 rfl (Nat.le_of_ble_eq_true rfl) ⟨Nat.le_of_ble_eq_true rfl, Nat.le_of_ble_eq_true rfl⟩ ⟨Nat.le_of_ble_eq_true rfl, Nat.le_of_ble_eq_true rfl⟩ dX2_neighbourToCopy_36 (fun r33 kd29 ig30 rg31 lg32 H locs hw hH hp34 => ?_)
        obtain ⟨rfl, rfl, rfl, rfl, hzhp34, hrhp34⟩ := hp34
        have hsz := hzhp34.trans hsz
        obtain ⟨z35, rfl, hz35⟩ := hrhp34
        refine z_eq (tgt := 46) hx hb dX2_neighbourToCopy_39 (by decide) (fun c39 => ?_) (fun c39 => ?_)
        · exact J46 ls H locs (lv_sub hl [1, 2] rfl) hw hsz
        · refine lv_iload_n hx hb dX2_neighbourToCopy_42 rfl (lv_at hl 2 rfl) ?_
          refine lv_iconst (v := 1) hx hb dX2_neighbourToCopy_43 (by decide) (ti_c 1 (by decide) fun z36 hz36 => ?_)
          refine lv_isub hx hb dX2_neighbourToCopy_44 (tc_sub fun z37 hz37 => ?_)
          first | replace hz37 := hz37 (by omega) | clear hz37
          exact r_iret C hw hr hlk rfl (Nat.le_of_ble_eq_true rfl) (Nat.le_of_ble_eq_true rfl) dX2_neighbourToCopy_45 ⟨rfl, rfl, rfl, rfl, hsz, ⟨_, rfl, trivial⟩⟩
  · refine lv_iconst (v := (-1)) hx hb dX2_neighbourToCopy_11 (by decide) (ti_c (-1) (by decide) fun z38 hz38 => ?_)
    exact r_iret C hw hr hlk rfl (Nat.le_of_ble_eq_true rfl) (Nat.le_of_ble_eq_true rfl) dX2_neighbourToCopy_12 ⟨rfl, rfl, rfl, rfl, hsz, ⟨_, rfl, trivial⟩⟩

set_option maxHeartbeats 4000000 in
set_option maxRecDepth 100000 in
theorem t_X2_familyOf {τ : Tp} (l : Launch) (B : Nat) (D : va_G) (cA : Nat → ClassId) (kd : sK) (ig : sI) (rg : sR) (lg : sG) (sz : Nat) (x : Int32) (g ng : Nat) (Fg : isFn B kd rg g ng) (hI : IC τ B kd ig rg) : MC l B D cA yX2_familyOf cX2_familyOf 5 (some .int) (rL 2 0 0) [.ref (B + 29), .int x, .ref g] kd ig rg lg sz (PI 1022 τ B none kd ig rg lg (fun r kd' ig' rg' lg' => ∃ z : Int32, r = some (.int z) ∧ True)) := by
  refine MC.of (own := RX2) (by decide +kernel) rfl (Nat.le_of_ble_eq_true rfl) ?_
  intro p e s m args below meth c ls C hr hlk hnm hw hsz hl
  have hx := C.1.1
  have hb := C.1.2.1
  have hown := C.1.2.2.2.1
  have hts := C.1.2.2.2.2
  have hl : lv_has ls 5 [(0, .ref (B + 29)), (1, .int x), (2, .ref g)] := hl
  have hN : Nx 1022 B none kd ig rg lg kd ig rg lg := Nx.rf
  have hsh := hI.sh
  have hrs := hI.rs
  have lng := Fg.le
  refine lv_iconst (v := 0) hx hb dX2_familyOf_0 (by decide) (ti_c 0 (by decide) fun z1 hz1 => ?_)
  refine lv_istore_n (lv' := [(3, .int z1), (0, .ref (B + 29)), (1, .int x), (2, .ref g)]) hx hb dX2_familyOf_1 rfl hl (by decide) rfl (fun ls hl => ?_)
  have L2 : ∀ (n : Nat) (ls : Array Slot) (H : Heap) (locs : List Loc) (kd3 : sK) (ig4 : sI) (rg5 : sR) (lg6 : sG) (v2 : Int32), lv_has ls 5 [(3, .int v2), (0, .ref (B + 29)), (1, .int x), (2, .ref g)] → WD B D cA s.heap kd3 ig4 rg5 lg6 H locs → IC τ B kd3 ig4 rg5 → Nx 1022 B none kd ig rg lg kd3 ig4 rg5 lg6 → isFn B kd3 rg5 g ng → (0 ≤ v2.toInt) → (v2.toInt ≤ 288) → 288 - v2.toInt < (n : Int) → W p l e (rL 2 0 0) s m args below meth c H locs 0 0 (MQ below (QcW B D cA (PI 1022 τ B none kd ig rg lg (fun r kd' ig' rg' lg' => ∃ z : Int32, r = some (.int z) ∧ True))) args s 0 0 (fun q => B ≤ q)) (F0 m 2 ls []) := by
    intro n2
    induction n2 with
    | zero => intro ls H locs kd3 ig4 rg5 lg6 v2 hl hw hI hN Fg g2_0 g2_1 hmu; exact absurd hmu (by omega)
    | succ n2 ih2 =>
      intro ls H locs kd3 ig4 rg5 lg6 v2 hl hw hI hN Fg g2_0 g2_1 hmu
      have hsh := hI.sh
      have hrs := hI.rs
      refine lv_iload_n hx hb dX2_familyOf_2 rfl (lv_at hl 0 rfl) ?_
      refine lv_aload_n hx hb dX2_familyOf_3 rfl (lv_at hl 1 rfl) ?_
      refine r_get C hw (hsh 29 _ rfl) fl_X2_29 (oV_i rfl) dX2_familyOf_4 (ti_c (ig4 (B + 29) 3).toInt rfl fun z7 hz7 => ?_)
      have k8 : 0 ≤ (ig4 (B + 29) 3).toInt ∧ (ig4 (B + 29) 3).toInt ≤ 288 := hI.i 29 3 (by decide)
      refine b_ge (tgt := 52) hx hb dX2_familyOf_7 (by decide) (fun c7 => ?_) (fun c7 => ?_)
      · refine lv_aload_n hx hb dX2_familyOf_52 rfl (lv_at hl 1 rfl) ?_
        refine r_get C hw (hsh 29 _ rfl) fl_X2_29 (oV_i rfl) dX2_familyOf_53 (ti_c (ig4 (B + 29) 3).toInt rfl fun z9 hz9 => ?_)
        have k10 : 0 ≤ (ig4 (B + 29) 3).toInt ∧ (ig4 (B + 29) 3).toInt ≤ 288 := hI.i 29 3 (by decide)
        refine lv_sipush (v := 288) hx hb dX2_familyOf_56 (by decide) (ti_c 288 (by decide) fun z11 hz11 => ?_)
        refine b_ge (tgt := 82) hx hb dX2_familyOf_59 (by decide) (fun c59 => ?_) (fun c59 => ?_)
        · refine lv_iload_n hx hb dX2_familyOf_82 rfl (lv_at hl 2 rfl) ?_
          exact r_iret C hw hr hlk rfl (Nat.le_of_ble_eq_true rfl) (Nat.le_of_ble_eq_true rfl) dX2_familyOf_83 ⟨hI, hN, ⟨_, rfl, trivial⟩⟩
        · refine lv_aload_n hx hb dX2_familyOf_62 rfl (lv_at hl 1 rfl) ?_
          refine r_get C hw (hsh 29 _ rfl) fl_X2_19 (oV_r rfl (hrs (29, 2, 31) (by decide))) dX2_familyOf_63 ?_
          refine lv_aload_n hx hb dX2_familyOf_66 rfl (lv_at hl 1 rfl) ?_
          refine r_get C hw (hsh 29 _ rfl) fl_X2_29 (oV_i rfl) dX2_familyOf_67 (ti_c (ig4 (B + 29) 3).toInt rfl fun z12 hz12 => ?_)
          have k13 : 0 ≤ (ig4 (B + 29) 3).toInt ∧ (ig4 (B + 29) 3).toInt ≤ 288 := hI.i 29 3 (by decide)
          refine lv_iload_n hx hb dX2_familyOf_70 rfl (lv_at hl 2 rfl) ?_
          refine r_iast C hw (hsh 31 _ rfl) (by omega) (by omega) dX2_familyOf_71 (fun H locs hH hw => ?_)
          obtain ⟨ig14, eig14⟩ : ∃ f, f = up2 ig4 (B + 31) z12.toInt.toNat x := ⟨_, rfl⟩
          rw [← eig14] at hw
          have hN : Nx 1022 B none kd ig rg lg kd3 ig14 rg5 lg6 := by rw [eig14]; exact hN.pi (by omega)
          have hI : IC τ B kd3 ig14 rg5 := by rw [eig14]; exact hI.pi (show okR none _ from trivial)
          have wig14_29_3 : (ig14 (B + 29) 3).toInt = (ig4 (B + 29) 3).toInt := by rw [eig14, up2_a (by omega)]
          refine lv_aload_n hx hb dX2_familyOf_72 rfl (lv_at hl 1 rfl) ?_
          refine lv_dup hx hb dX2_familyOf_73 rfl ?_
          refine r_get C hw (hsh 29 _ rfl) fl_X2_29 (oV_i rfl) dX2_familyOf_74 (ti_c (ig14 (B + 29) 3).toInt rfl fun z15 hz15 => ?_)
          have k16 : 0 ≤ (ig14 (B + 29) 3).toInt ∧ (ig14 (B + 29) 3).toInt ≤ 288 := hI.i 29 3 (by decide)
          refine lv_iconst (v := 1) hx hb dX2_familyOf_77 (by decide) (ti_c 1 (by decide) fun z17 hz17 => ?_)
          refine lv_iadd hx hb dX2_familyOf_78 (tc_add fun z18 hz18 => ?_)
          first | replace hz18 := hz18 (by omega) | clear hz18
          refine r_puti C hw (hsh 29 _ rfl) fl_X2_29 rfl rfl rfl dX2_familyOf_79 (fun H locs hH hw => ?_)
          obtain ⟨ig19, eig19⟩ : ∃ f, f = up2 ig14 (B + 29) 3 z18 := ⟨_, rfl⟩
          rw [← eig19] at hw
          have hN : Nx 1022 B none kd ig rg lg kd3 ig19 rg5 lg6 := by rw [eig19]; exact hN.pi (by omega)
          have hI : IC τ B kd3 ig19 rg5 := by rw [eig19]; exact hI.pi (show okR (some (0, 288)) _ from ⟨by show (0 : Int) ≤ _; omega, by show _ ≤ (288 : Int); omega⟩)
          have wig19 : (ig19 (B + 29) 3).toInt = z18.toInt := by rw [eig19, up2_eq]
          refine lv_iload_n hx hb dX2_familyOf_82 rfl (lv_at hl 2 rfl) ?_
          exact r_iret C hw hr hlk rfl (Nat.le_of_ble_eq_true rfl) (Nat.le_of_ble_eq_true rfl) dX2_familyOf_83 ⟨hI, hN, ⟨_, rfl, trivial⟩⟩
      · refine lv_aload_n hx hb dX2_familyOf_10 rfl (lv_at hl 1 rfl) ?_
        refine r_get C hw (hsh 29 _ rfl) fl_X2_9 (oV_r rfl (hrs (29, 0, 9) (by decide))) dX2_familyOf_11 ?_
        refine lv_aload_n hx hb dX2_familyOf_14 rfl (lv_at hl 1 rfl) ?_
        refine r_get C hw (hsh 29 _ rfl) fl_X2_19 (oV_r rfl (hrs (29, 2, 31) (by decide))) dX2_familyOf_15 ?_
        refine lv_iload_n hx hb dX2_familyOf_18 rfl (lv_at hl 0 rfl) ?_
        refine r_iald C hw (hsh 31 _ rfl) (by omega) (by omega) dX2_familyOf_19 (ti_c (ig4 (B + 31) v2.toInt.toNat).toInt rfl fun z20 hz20 => ?_)
        refine r_callV (As := [.int z20]) (rest := []) C hw (t_X6_formulaAt l B D cA kd3 ig4 rg5 lg6 _ z20  hI) sv_X2_32 (hsh 9 _ rfl) rfl hl.1 rfl (Nat.le_of_ble_eq_true rfl) ⟨Nat.le_of_ble_eq_true rfl, Nat.le_of_ble_eq_true rfl⟩ ⟨Nat.le_of_ble_eq_true rfl, Nat.le_of_ble_eq_true rfl⟩ dX2_familyOf_20 (fun r25 kd21 ig22 rg23 lg24 H locs hw hH hp26 => ?_)
        obtain ⟨rfl, rfl, rfl, rfl, hzhp26, hrhp26⟩ := hp26
        rcases hrhp26 with rfl | ⟨f27, nf27, rfl, Ff27⟩
        · refine lv_astoreN (lv' := [(4, .null), (3, .int v2), (0, .ref (B + 29)), (1, .int x), (2, .ref g)]) hx hb dX2_familyOf_23 hl (by decide) rfl (fun ls hl => ?_)
          refine lv_aloadN hx hb dX2_familyOf_25 (lv_at hl 0 rfl) ?_
          refine lv_ifnullN (tgt := 46) hx hb dX2_familyOf_27 (by decide) ?_
          refine tc_inc hx hb dX2_familyOf_46 hl (k := 1) rfl (by decide) (by decide) (fun z28 hz28 ls hl => ?_)
          first | replace hz28 := hz28 (by omega) | clear hz28
          have hl : lv_has ls 5 [(3, .int z28), (4, .null), (0, .ref (B + 29)), (1, .int x), (2, .ref g)] := hl
          refine lv_goto (tgt := 2) hx hb dX2_familyOf_49 (by decide) ?_
          exact ih2 ls H locs kd3 ig4 rg5 lg6 z28 (lv_sub hl [0, 2, 3, 4] rfl) hw hI hN Fg (by omega) (by omega) (by omega)
        · have lf27 := isFn.le Ff27
          refine lv_astore (lv' := [(4, .ref f27), (3, .int v2), (0, .ref (B + 29)), (1, .int x), (2, .ref g)]) hx hb dX2_familyOf_23 hl (by decide) rfl (fun ls hl => ?_)
          refine lv_aload hx hb dX2_familyOf_25 (lv_at hl 0 rfl) ?_
          refine lv_ifnull hx hb dX2_familyOf_27 ?_
          refine lv_aload hx hb dX2_familyOf_30 (lv_at hl 0 rfl) ?_
          refine lv_aload_n hx hb dX2_familyOf_32 rfl (lv_at hl 4 rfl) ?_
          refine r_callV (As := [.ref g]) (rest := []) C hw (t_X4_isKinOf l B D cA kd3 ig4 rg5 lg6 _ f27 nf27 Ff27 g ng Fg  hI) sv_X2_40 (isFn.k Ff27) rfl hl.1 rfl (Nat.le_of_ble_eq_true rfl) ⟨Nat.le_of_ble_eq_true rfl, Nat.le_of_ble_eq_true rfl⟩ ⟨Nat.le_of_ble_eq_true rfl, Nat.le_of_ble_eq_true rfl⟩ dX2_familyOf_33 (fun r33 kd29 ig30 rg31 lg32 H locs hw hH hp34 => ?_)
          obtain ⟨rfl, rfl, rfl, rfl, hzhp34, hrhp34⟩ := hp34
          obtain ⟨z35, rfl, hz35⟩ := hrhp34
          refine z_eq (tgt := 46) hx hb dX2_familyOf_36 (by decide) (fun c36 => ?_) (fun c36 => ?_)
          · refine tc_inc hx hb dX2_familyOf_46 hl (k := 1) rfl (by decide) (by decide) (fun z36 hz36 ls hl => ?_)
            first | replace hz36 := hz36 (by omega) | clear hz36
            have hl : lv_has ls 5 [(3, .int z36), (4, .ref f27), (0, .ref (B + 29)), (1, .int x), (2, .ref g)] := hl
            refine lv_goto (tgt := 2) hx hb dX2_familyOf_49 (by decide) ?_
            exact ih2 ls H locs kd3 ig4 rg5 lg6 z36 (lv_sub hl [0, 2, 3, 4] rfl) hw hI hN Fg (by omega) (by omega) (by omega)
          · refine lv_aload_n hx hb dX2_familyOf_39 rfl (lv_at hl 2 rfl) ?_
            refine r_get C hw (hsh 29 _ rfl) fl_X2_19 (oV_r rfl (hrs (29, 2, 31) (by decide))) dX2_familyOf_40 ?_
            refine lv_iload_n hx hb dX2_familyOf_43 rfl (lv_at hl 1 rfl) ?_
            refine r_iald C hw (hsh 31 _ rfl) (by omega) (by omega) dX2_familyOf_44 (ti_c (ig4 (B + 31) v2.toInt.toNat).toInt rfl fun z37 hz37 => ?_)
            exact r_iret C hw hr hlk rfl (Nat.le_of_ble_eq_true rfl) (Nat.le_of_ble_eq_true rfl) dX2_familyOf_45 ⟨hI, hN, ⟨_, rfl, trivial⟩⟩
  exact L2 ((288 - z1.toInt) + 1).toNat ls s.heap [] kd ig rg lg z1 (lv_sub hl [0, 1, 2, 3] rfl) hw hI hN Fg (by omega) (by omega) (by omega)

set_option maxHeartbeats 4000000 in
set_option maxRecDepth 100000 in
theorem t_X2_settle {τ : Tp} (l : Launch) (B : Nat) (D : va_G) (cA : Nat → ClassId) (kd : sK) (ig : sI) (rg : sR) (lg : sG) (sz : Nat)  (hI : IC τ B kd ig rg) : MC l B D cA yX2_settle cX2_settle 3 none (rL 3 0 0) [.ref (B + 29)] kd ig rg lg sz (PI 1018 τ B none kd ig rg lg (fun r kd' ig' rg' lg' => r = none)) := by
  refine MC.of (own := RX2) (by decide +kernel) rfl (Nat.le_of_ble_eq_true rfl) ?_
  intro p e s m args below meth c ls C hr hlk hnm hw hsz hl
  have hx := C.1.1
  have hb := C.1.2.1
  have hown := C.1.2.2.2.1
  have hts := C.1.2.2.2.2
  have hl : lv_has ls 3 [(0, .ref (B + 29))] := hl
  have hN : Nx 1018 B none kd ig rg lg kd ig rg lg := Nx.rf
  have hsh := hI.sh
  have hrs := hI.rs
  refine lv_aload_n hx hb dX2_settle_0 rfl (lv_at hl 0 rfl) ?_
  refine r_get C hw (hsh 29 _ rfl) fl_X2_22 (oV_i rfl) dX2_settle_1 (ti_c (ig (B + 29) 4).toInt rfl fun z1 hz1 => ?_)
  refine lv_aload_n hx hb dX2_settle_4 rfl (lv_at hl 0 rfl) ?_
  refine r_get C hw (hsh 29 _ rfl) fl_X2_9 (oV_r rfl (hrs (29, 0, 9) (by decide))) dX2_settle_5 ?_
  refine r_get C hw (hsh 9 _ rfl) fl_X2_26 (oV_i rfl) dX2_settle_8 (ti_c (ig (B + 9) 6).toInt rfl fun z2 hz2 => ?_)
  refine b_ne (tgt := 15) hx hb dX2_settle_11 (by decide) (fun c11 => ?_) (fun c11 => ?_)
  · refine lv_aload_n hx hb dX2_settle_15 rfl (lv_at hl 0 rfl) ?_
    refine lv_aload_n hx hb dX2_settle_16 rfl (lv_at hl 0 rfl) ?_
    refine r_get C hw (hsh 29 _ rfl) fl_X2_9 (oV_r rfl (hrs (29, 0, 9) (by decide))) dX2_settle_17 ?_
    refine r_get C hw (hsh 9 _ rfl) fl_X2_26 (oV_i rfl) dX2_settle_20 (ti_c (ig (B + 9) 6).toInt rfl fun z3 hz3 => ?_)
    refine r_puti C hw (hsh 29 _ rfl) fl_X2_22 rfl rfl rfl dX2_settle_23 (fun H locs hH hw => ?_)
    obtain ⟨ig4, eig4⟩ : ∃ f, f = up2 ig (B + 29) 4 z3 := ⟨_, rfl⟩
    rw [← eig4] at hw
    have hN : Nx 1018 B none kd ig rg lg kd ig4 rg lg := by rw [eig4]; exact hN.pi (by omega)
    have hI : IC τ B kd ig4 rg := by rw [eig4]; exact hI.pi (show okR none _ from trivial)
    refine lv_aload_n hx hb dX2_settle_26 rfl (lv_at hl 0 rfl) ?_
    refine lv_iconst (v := 0) hx hb dX2_settle_27 (by decide) (ti_c 0 (by decide) fun z5 hz5 => ?_)
    refine r_puti C hw (hsh 29 _ rfl) fl_X2_29 rfl rfl rfl dX2_settle_28 (fun H locs hH hw => ?_)
    obtain ⟨ig6, eig6⟩ : ∃ f, f = up2 ig4 (B + 29) 3 z5 := ⟨_, rfl⟩
    rw [← eig6] at hw
    have hN : Nx 1018 B none kd ig rg lg kd ig6 rg lg := by rw [eig6]; exact hN.pi (by omega)
    have hI : IC τ B kd ig6 rg := by rw [eig6]; exact hI.pi (show okR (some (0, 288)) _ from ⟨by show (0 : Int) ≤ _; omega, by show _ ≤ (288 : Int); omega⟩)
    refine lv_iconst (v := 0) hx hb dX2_settle_31 (by decide) (ti_c 0 (by decide) fun z7 hz7 => ?_)
    refine lv_istore_n (lv' := [(1, .int z7), (0, .ref (B + 29))]) hx hb dX2_settle_32 rfl hl (by decide) rfl (fun ls hl => ?_)
    have L33 : ∀ (n : Nat) (ls : Array Slot) (H : Heap) (locs : List Loc) (kd9 : sK) (ig10 : sI) (rg11 : sR) (lg12 : sG) (v8 : Int32), lv_has ls 3 [(1, .int v8), (0, .ref (B + 29))] → WD B D cA s.heap kd9 ig10 rg11 lg12 H locs → IC τ B kd9 ig10 rg11 → Nx 1018 B none kd ig rg lg kd9 ig10 rg11 lg12 → (0 ≤ v8.toInt) → (v8.toInt ≤ 288) → 288 - v8.toInt < (n : Int) → W p l e (rL 3 0 0) s m args below meth c H locs 0 0 (MQ below (QcW B D cA (PI 1018 τ B none kd ig rg lg (fun r kd' ig' rg' lg' => r = none))) args s 0 0 (fun q => B ≤ q)) (F0 m 33 ls []) := by
      intro n33
      induction n33 with
      | zero => intro ls H locs kd9 ig10 rg11 lg12 v8 hl hw hI hN g33_0 g33_1 hmu; exact absurd hmu (by omega)
      | succ n33 ih33 =>
        intro ls H locs kd9 ig10 rg11 lg12 v8 hl hw hI hN g33_0 g33_1 hmu
        have hsh := hI.sh
        have hrs := hI.rs
        refine lv_iload_n hx hb dX2_settle_33 rfl (lv_at hl 0 rfl) ?_
        refine lv_sipush (v := 288) hx hb dX2_settle_34 (by decide) (ti_c 288 (by decide) fun z13 hz13 => ?_)
        refine b_ge (tgt := 75) hx hb dX2_settle_37 (by decide) (fun c37 => ?_) (fun c37 => ?_)
        · exact r_vret C hw hr hlk (Nat.le_of_ble_eq_true rfl) (Nat.le_of_ble_eq_true rfl) dX2_settle_75 ⟨hI, hN, rfl⟩
        · refine lv_aload_n hx hb dX2_settle_40 rfl (lv_at hl 1 rfl) ?_
          refine r_get C hw (hsh 29 _ rfl) fl_X2_9 (oV_r rfl (hrs (29, 0, 9) (by decide))) dX2_settle_41 ?_
          refine lv_iload_n hx hb dX2_settle_44 rfl (lv_at hl 0 rfl) ?_
          refine r_callV (As := [.int v8]) (rest := []) C hw (t_X6_formulaAt l B D cA kd9 ig10 rg11 lg12 _ v8  hI) sv_X2_32 (hsh 9 _ rfl) rfl hl.1 rfl (Nat.le_of_ble_eq_true rfl) ⟨Nat.le_of_ble_eq_true rfl, Nat.le_of_ble_eq_true rfl⟩ ⟨Nat.le_of_ble_eq_true rfl, Nat.le_of_ble_eq_true rfl⟩ dX2_settle_45 (fun r18 kd14 ig15 rg16 lg17 H locs hw hH hp19 => ?_)
          obtain ⟨rfl, rfl, rfl, rfl, hzhp19, hrhp19⟩ := hp19
          rcases hrhp19 with rfl | ⟨f20, nf20, rfl, Ff20⟩
          · refine lv_astore_nN (lv' := [(2, .null), (1, .int v8), (0, .ref (B + 29))]) hx hb dX2_settle_48 rfl hl (by decide) rfl (fun ls hl => ?_)
            refine lv_aload_n hx hb dX2_settle_49 rfl (lv_at hl 2 rfl) ?_
            refine r_get C hw (hsh 29 _ rfl) fl_X2_15 (oV_r rfl (hrs (29, 1, 30) (by decide))) dX2_settle_50 ?_
            refine lv_iload_n hx hb dX2_settle_53 rfl (lv_at hl 1 rfl) ?_
            refine lv_aload_nN hx hb dX2_settle_54 rfl (lv_at hl 0 rfl) ?_
            refine lv_ifnonnullN hx hb dX2_settle_55 ?_
            refine lv_iconst (v := (-1)) hx hb dX2_settle_58 (by decide) (ti_c (-1) (by decide) fun z21 hz21 => ?_)
            refine lv_goto (tgt := 68) hx hb dX2_settle_59 (by decide) ?_
            refine r_iast C hw (hsh 30 _ rfl) (by omega) (by omega) dX2_settle_68 (fun H locs hH hw => ?_)
            obtain ⟨ig22, eig22⟩ : ∃ f, f = up2 ig10 (B + 30) v8.toInt.toNat z21 := ⟨_, rfl⟩
            rw [← eig22] at hw
            have hN : Nx 1018 B none kd ig rg lg kd9 ig22 rg11 lg12 := by rw [eig22]; exact hN.pi (by omega)
            have hI : IC τ B kd9 ig22 rg11 := by rw [eig22]; exact hI.pi (show okR none _ from trivial)
            refine tc_inc hx hb dX2_settle_69 hl (k := 1) rfl (by decide) (by decide) (fun z23 hz23 ls hl => ?_)
            first | replace hz23 := hz23 (by omega) | clear hz23
            have hl : lv_has ls 3 [(1, .int z23), (2, .null), (0, .ref (B + 29))] := hl
            refine lv_goto (tgt := 33) hx hb dX2_settle_72 (by decide) ?_
            exact ih33 ls H locs kd9 ig22 rg11 lg12 z23 (lv_sub hl [0, 2] rfl) hw hI hN (by omega) (by omega) (by omega)
          · have lf20 := isFn.le Ff20
            refine lv_astore_n (lv' := [(2, .ref f20), (1, .int v8), (0, .ref (B + 29))]) hx hb dX2_settle_48 rfl hl (by decide) rfl (fun ls hl => ?_)
            refine lv_aload_n hx hb dX2_settle_49 rfl (lv_at hl 2 rfl) ?_
            refine r_get C hw (hsh 29 _ rfl) fl_X2_15 (oV_r rfl (hrs (29, 1, 30) (by decide))) dX2_settle_50 ?_
            refine lv_iload_n hx hb dX2_settle_53 rfl (lv_at hl 1 rfl) ?_
            refine lv_aload_n hx hb dX2_settle_54 rfl (lv_at hl 0 rfl) ?_
            refine lv_ifnonnull (tgt := 62) hx hb dX2_settle_55 (by decide) ?_
            refine lv_aload_n hx hb dX2_settle_62 rfl (lv_at hl 2 rfl) ?_
            refine lv_iload_n hx hb dX2_settle_63 rfl (lv_at hl 1 rfl) ?_
            refine lv_aload_n hx hb dX2_settle_64 rfl (lv_at hl 0 rfl) ?_
            refine r_callV (As := [.int v8, .ref f20]) (rest := [.int v8, .ref (B + 30)]) C hw (t_X2_familyOf l B D cA kd9 ig10 rg11 lg12 _ v8 f20 nf20 Ff20  hI) sv_X2_36 (hsh 29 _ rfl) rfl hl.1 rfl (Nat.le_of_ble_eq_true rfl) ⟨Nat.le_of_ble_eq_true rfl, Nat.le_of_ble_eq_true rfl⟩ ⟨Nat.le_of_ble_eq_true rfl, Nat.le_of_ble_eq_true rfl⟩ dX2_settle_65 (fun r28 kd24 ig25 rg26 lg27 H locs hw hH hp29 => ?_)
            obtain ⟨hI, hchp29, hrhp29⟩ := hp29
            have hN := hN.tr hchp29
            have hsh := hI.sh
            have hrs := hI.rs
            obtain ⟨z30, rfl, hz30⟩ := hrhp29
            refine r_iast C hw (hsh 30 _ rfl) (by omega) (by omega) dX2_settle_68 (fun H locs hH hw => ?_)
            obtain ⟨ig31, eig31⟩ : ∃ f, f = up2 ig25 (B + 30) v8.toInt.toNat z30 := ⟨_, rfl⟩
            rw [← eig31] at hw
            have hN : Nx 1018 B none kd ig rg lg kd24 ig31 rg26 lg27 := by rw [eig31]; exact hN.pi (by omega)
            have hI : IC τ B kd24 ig31 rg26 := by rw [eig31]; exact hI.pi (show okR none _ from trivial)
            refine tc_inc hx hb dX2_settle_69 hl (k := 1) rfl (by decide) (by decide) (fun z32 hz32 ls hl => ?_)
            first | replace hz32 := hz32 (by omega) | clear hz32
            have hl : lv_has ls 3 [(1, .int z32), (2, .ref f20), (0, .ref (B + 29))] := hl
            refine lv_goto (tgt := 33) hx hb dX2_settle_72 (by decide) ?_
            exact ih33 ls H locs kd24 ig31 rg26 lg27 z32 (lv_sub hl [0, 2] rfl) hw hI hN (by omega) (by omega) (by omega)
    exact L33 ((288 - z7.toInt) + 1).toNat ls H locs kd ig6 rg lg z7 (lv_sub hl [0, 1] rfl) hw hI hN (by omega) (by omega) (by omega)
  · exact r_vret C hw hr hlk (Nat.le_of_ble_eq_true rfl) (Nat.le_of_ble_eq_true rfl) dX2_settle_14 ⟨hI, hN, rfl⟩

set_option maxHeartbeats 4000000 in
set_option maxRecDepth 100000 in
theorem t_X9_exponentAt {τ : Tp} (l : Launch) (B : Nat) (D : va_G) (cA : Nat → ClassId) (kd : sK) (ig : sI) (rg : sR) (lg : sG) (sz : Nat) (x : Int32) (y : Int32) (hI : IC τ B kd ig rg) : MC l B D cA yX9_exponentAt cX9_exponentAt 3 (some .int) (rL 1 0 0) [.ref (B + 32), .int x, .int y] kd ig rg lg sz (Pu kd ig rg lg sz (fun r => ∃ z : Int32, r = some (.int z) ∧ True)) := by
  refine MC.of (own := RX9) (by decide +kernel) rfl (Nat.le_of_ble_eq_true rfl) ?_
  intro p e s m args below meth c ls C hr hlk hnm hw hsz hl
  have hx := C.1.1
  have hb := C.1.2.1
  have hown := C.1.2.2.2.1
  have hts := C.1.2.2.2.2
  have hl : lv_has ls 3 [(0, .ref (B + 32)), (1, .int x), (2, .int y)] := hl
  have hsh := hI.sh
  have hrs := hI.rs
  refine lv_iload_n hx hb dX9_exponentAt_0 rfl (lv_at hl 1 rfl) ?_
  refine r_callN (As := [.int x]) (rest := []) C hw (t_X11_onSheet l B D cA kd ig rg lg _ x  hI) sn_X9_72 rfl hl.1 rfl (Nat.le_of_ble_eq_true rfl) ⟨Nat.le_of_ble_eq_true rfl, Nat.le_of_ble_eq_true rfl⟩ ⟨Nat.le_of_ble_eq_true rfl, Nat.le_of_ble_eq_true rfl⟩ dX9_exponentAt_1 (fun r5 kd1 ig2 rg3 lg4 H locs hw hH hp6 => ?_)
  obtain ⟨rfl, rfl, rfl, rfl, hzhp6, hrhp6⟩ := hp6
  have hsz := hzhp6.trans hsz
  obtain ⟨z7, rfl, hz7⟩ := hrhp6
  refine z_eq (tgt := 29) hx hb dX9_exponentAt_4 (by decide) (fun c4 => ?_) (fun c4 => ?_)
  · refine lv_iconst (v := 0) hx hb dX9_exponentAt_29 (by decide) (ti_c 0 (by decide) fun z8 hz8 => ?_)
    exact r_iret C hw hr hlk rfl (Nat.le_of_ble_eq_true rfl) (Nat.le_of_ble_eq_true rfl) dX9_exponentAt_30 ⟨rfl, rfl, rfl, rfl, hsz, ⟨_, rfl, trivial⟩⟩
  · refine lv_iload_n hx hb dX9_exponentAt_7 rfl (lv_at hl 2 rfl) ?_
    refine z_lt (tgt := 29) hx hb dX9_exponentAt_8 (by decide) (fun c8 => ?_) (fun c8 => ?_)
    · refine lv_iconst (v := 0) hx hb dX9_exponentAt_29 (by decide) (ti_c 0 (by decide) fun z9 hz9 => ?_)
      exact r_iret C hw hr hlk rfl (Nat.le_of_ble_eq_true rfl) (Nat.le_of_ble_eq_true rfl) dX9_exponentAt_30 ⟨rfl, rfl, rfl, rfl, hsz, ⟨_, rfl, trivial⟩⟩
    · refine lv_iload_n hx hb dX9_exponentAt_11 rfl (lv_at hl 2 rfl) ?_
      refine lv_iconst (v := 3) hx hb dX9_exponentAt_12 (by decide) (ti_c 3 (by decide) fun z10 hz10 => ?_)
      refine b_ge (tgt := 29) hx hb dX9_exponentAt_13 (by decide) (fun c13 => ?_) (fun c13 => ?_)
      · refine lv_iconst (v := 0) hx hb dX9_exponentAt_29 (by decide) (ti_c 0 (by decide) fun z11 hz11 => ?_)
        exact r_iret C hw hr hlk rfl (Nat.le_of_ble_eq_true rfl) (Nat.le_of_ble_eq_true rfl) dX9_exponentAt_30 ⟨rfl, rfl, rfl, rfl, hsz, ⟨_, rfl, trivial⟩⟩
      · refine lv_aload_n hx hb dX9_exponentAt_16 rfl (lv_at hl 0 rfl) ?_
        refine r_get C hw (hsh 32 _ rfl) fl_X9_19 (oV_r rfl (hrs (32, 2, 33) (by decide))) dX9_exponentAt_17 ?_
        refine lv_iload_n hx hb dX9_exponentAt_20 rfl (lv_at hl 1 rfl) ?_
        refine lv_iconst (v := 3) hx hb dX9_exponentAt_21 (by decide) (ti_c 3 (by decide) fun z12 hz12 => ?_)
        refine lv_imul hx hb dX9_exponentAt_22 (tc_mulR 3 hz12 fun z13 hz13 => ?_)
        first | replace hz13 := hz13 (by omega) | clear hz13
        refine lv_iload_n hx hb dX9_exponentAt_23 rfl (lv_at hl 2 rfl) ?_
        refine lv_iadd hx hb dX9_exponentAt_24 (tc_add fun z14 hz14 => ?_)
        first | replace hz14 := hz14 (by omega) | clear hz14
        refine r_iald C hw (hsh 33 _ rfl) (by omega) (by omega) dX9_exponentAt_25 (ti_c (ig (B + 33) z14.toInt.toNat).toInt rfl fun z15 hz15 => ?_)
        refine lv_goto (tgt := 30) hx hb dX9_exponentAt_26 (by decide) ?_
        exact r_iret C hw hr hlk rfl (Nat.le_of_ble_eq_true rfl) (Nat.le_of_ble_eq_true rfl) dX9_exponentAt_30 ⟨rfl, rfl, rfl, rfl, hsz, ⟨_, rfl, trivial⟩⟩

set_option maxHeartbeats 4000000 in
set_option maxRecDepth 100000 in
theorem t_X9_clashesAt {τ : Tp} (l : Launch) (B : Nat) (D : va_G) (cA : Nat → ClassId) (kd : sK) (ig : sI) (rg : sR) (lg : sG) (sz : Nat) (x : Int32) (hI : IC τ B kd ig rg) : MC l B D cA yX9_clashesAt cX9_clashesAt 2 (some .boolean) (rL 1 0 0) [.ref (B + 32), .int x] kd ig rg lg sz (Pu kd ig rg lg sz (fun r => ∃ z : Int32, r = some (.int z) ∧ (z.toInt = 0 ∨ z.toInt = 1))) := by
  refine MC.of (own := RX9) (by decide +kernel) rfl (Nat.le_of_ble_eq_true rfl) ?_
  intro p e s m args below meth c ls C hr hlk hnm hw hsz hl
  have hx := C.1.1
  have hb := C.1.2.1
  have hown := C.1.2.2.2.1
  have hts := C.1.2.2.2.2
  have hl : lv_has ls 2 [(0, .ref (B + 32)), (1, .int x)] := hl
  have hsh := hI.sh
  have hrs := hI.rs
  refine lv_iload_n hx hb dX9_clashesAt_0 rfl (lv_at hl 1 rfl) ?_
  refine r_callN (As := [.int x]) (rest := []) C hw (t_X11_onSheet l B D cA kd ig rg lg _ x  hI) sn_X9_72 rfl hl.1 rfl (Nat.le_of_ble_eq_true rfl) ⟨Nat.le_of_ble_eq_true rfl, Nat.le_of_ble_eq_true rfl⟩ ⟨Nat.le_of_ble_eq_true rfl, Nat.le_of_ble_eq_true rfl⟩ dX9_clashesAt_1 (fun r5 kd1 ig2 rg3 lg4 H locs hw hH hp6 => ?_)
  obtain ⟨rfl, rfl, rfl, rfl, hzhp6, hrhp6⟩ := hp6
  have hsz := hzhp6.trans hsz
  obtain ⟨z7, rfl, hz7⟩ := hrhp6
  refine z_eq (tgt := 20) hx hb dX9_clashesAt_4 (by decide) (fun c4 => ?_) (fun c4 => ?_)
  · refine lv_iconst (v := 0) hx hb dX9_clashesAt_20 (by decide) (ti_c 0 (by decide) fun z8 hz8 => ?_)
    exact r_iret C hw hr hlk (nar_b (by omega)) (Nat.le_of_ble_eq_true rfl) (Nat.le_of_ble_eq_true rfl) dX9_clashesAt_21 ⟨rfl, rfl, rfl, rfl, hsz, ⟨_, rfl, by omega⟩⟩
  · refine lv_aload_n hx hb dX9_clashesAt_7 rfl (lv_at hl 0 rfl) ?_
    refine r_get C hw (hsh 32 _ rfl) fl_X9_23 (oV_r rfl (hrs (32, 3, 34) (by decide))) dX9_clashesAt_8 ?_
    refine lv_iload_n hx hb dX9_clashesAt_11 rfl (lv_at hl 1 rfl) ?_
    refine r_zald C hw (hsh 34 _ rfl) (by omega) (by omega) dX9_clashesAt_12 (ti_c (ig (B + 34) x.toInt.toNat).toInt rfl fun z9 hz9 => ?_)
    refine z_eq (tgt := 20) hx hb dX9_clashesAt_13 (by decide) (fun c13 => ?_) (fun c13 => ?_)
    · refine lv_iconst (v := 0) hx hb dX9_clashesAt_20 (by decide) (ti_c 0 (by decide) fun z10 hz10 => ?_)
      exact r_iret C hw hr hlk (nar_b (by omega)) (Nat.le_of_ble_eq_true rfl) (Nat.le_of_ble_eq_true rfl) dX9_clashesAt_21 ⟨rfl, rfl, rfl, rfl, hsz, ⟨_, rfl, by omega⟩⟩
    · refine lv_iconst (v := 1) hx hb dX9_clashesAt_16 (by decide) (ti_c 1 (by decide) fun z11 hz11 => ?_)
      refine lv_goto (tgt := 21) hx hb dX9_clashesAt_17 (by decide) ?_
      exact r_iret C hw hr hlk (nar_b (by omega)) (Nat.le_of_ble_eq_true rfl) (Nat.le_of_ble_eq_true rfl) dX9_clashesAt_21 ⟨rfl, rfl, rfl, rfl, hsz, ⟨_, rfl, by omega⟩⟩

set_option maxHeartbeats 4000000 in
set_option maxRecDepth 100000 in
theorem t_X9_areSame {τ : Tp} (l : Launch) (B : Nat) (D : va_G) (cA : Nat → ClassId) (kd : sK) (ig : sI) (rg : sR) (lg : sG) (sz : Nat) (x : Int32) (y : Int32) (hI : IC τ B kd ig rg) : MC l B D cA yX9_areSame cX9_areSame 4 (some .boolean) (rL 2 0 0) [.ref (B + 32), .int x, .int y] kd ig rg lg sz (Pu kd ig rg lg sz (fun r => ∃ z : Int32, r = some (.int z) ∧ (z.toInt = 0 ∨ z.toInt = 1))) := by
  refine MC.of (own := RX9) (by decide +kernel) rfl (Nat.le_of_ble_eq_true rfl) ?_
  intro p e s m args below meth c ls C hr hlk hnm hw hsz hl
  have hx := C.1.1
  have hb := C.1.2.1
  have hown := C.1.2.2.2.1
  have hts := C.1.2.2.2.2
  have hl : lv_has ls 4 [(0, .ref (B + 32)), (1, .int x), (2, .int y)] := hl
  have hsh := hI.sh
  have hrs := hI.rs
  refine lv_iconst (v := 0) hx hb dX9_areSame_0 (by decide) (ti_c 0 (by decide) fun z1 hz1 => ?_)
  refine lv_istore_n (lv' := [(3, .int z1), (0, .ref (B + 32)), (1, .int x), (2, .int y)]) hx hb dX9_areSame_1 rfl hl (by decide) rfl (fun ls hl => ?_)
  have L2 : ∀ (n : Nat) (ls : Array Slot) (H : Heap) (locs : List Loc) (v2 : Int32), lv_has ls 4 [(3, .int v2), (0, .ref (B + 32)), (1, .int x), (2, .int y)] → WD B D cA s.heap kd ig rg lg H locs → H.size = sz → (0 ≤ v2.toInt) → (v2.toInt ≤ 3) → 3 - v2.toInt < (n : Int) → W p l e (rL 2 0 0) s m args below meth c H locs 0 0 (MQ below (QcW B D cA (Pu kd ig rg lg sz (fun r => ∃ z : Int32, r = some (.int z) ∧ (z.toInt = 0 ∨ z.toInt = 1)))) args s 0 0 (fun q => B ≤ q)) (F0 m 2 ls []) := by
    intro n2
    induction n2 with
    | zero => intro ls H locs v2 hl hw hsz g2_0 g2_1 hmu; exact absurd hmu (by omega)
    | succ n2 ih2 =>
      intro ls H locs v2 hl hw hsz g2_0 g2_1 hmu
      refine lv_iload_n hx hb dX9_areSame_2 rfl (lv_at hl 0 rfl) ?_
      refine lv_iconst (v := 3) hx hb dX9_areSame_3 (by decide) (ti_c 3 (by decide) fun z3 hz3 => ?_)
      refine b_ge (tgt := 30) hx hb dX9_areSame_4 (by decide) (fun c4 => ?_) (fun c4 => ?_)
      · refine lv_iconst (v := 1) hx hb dX9_areSame_30 (by decide) (ti_c 1 (by decide) fun z4 hz4 => ?_)
        exact r_iret C hw hr hlk (nar_b (by omega)) (Nat.le_of_ble_eq_true rfl) (Nat.le_of_ble_eq_true rfl) dX9_areSame_31 ⟨rfl, rfl, rfl, rfl, hsz, ⟨_, rfl, by omega⟩⟩
      · refine lv_aload_n hx hb dX9_areSame_7 rfl (lv_at hl 1 rfl) ?_
        refine lv_iload_n hx hb dX9_areSame_8 rfl (lv_at hl 2 rfl) ?_
        refine lv_iload_n hx hb dX9_areSame_9 rfl (lv_at hl 0 rfl) ?_
        refine r_callV (As := [.int x, .int v2]) (rest := []) C hw (t_X9_exponentAt l B D cA kd ig rg lg _ x v2  hI) sv_X9_123 (hsh 32 _ rfl) rfl hl.1 rfl (Nat.le_of_ble_eq_true rfl) ⟨Nat.le_of_ble_eq_true rfl, Nat.le_of_ble_eq_true rfl⟩ ⟨Nat.le_of_ble_eq_true rfl, Nat.le_of_ble_eq_true rfl⟩ dX9_areSame_10 (fun r9 kd5 ig6 rg7 lg8 H locs hw hH hp10 => ?_)
        obtain ⟨rfl, rfl, rfl, rfl, hzhp10, hrhp10⟩ := hp10
        have hsz := hzhp10.trans hsz
        obtain ⟨z11, rfl, hz11⟩ := hrhp10
        refine lv_aload_n hx hb dX9_areSame_13 rfl (lv_at hl 1 rfl) ?_
        refine lv_iload_n hx hb dX9_areSame_14 rfl (lv_at hl 3 rfl) ?_
        refine lv_iload_n hx hb dX9_areSame_15 rfl (lv_at hl 0 rfl) ?_
        refine r_callV (As := [.int y, .int v2]) (rest := [.int z11]) C hw (t_X9_exponentAt l B D cA kd ig rg lg _ y v2  hI) sv_X9_123 (hsh 32 _ rfl) rfl hl.1 rfl (Nat.le_of_ble_eq_true rfl) ⟨Nat.le_of_ble_eq_true rfl, Nat.le_of_ble_eq_true rfl⟩ ⟨Nat.le_of_ble_eq_true rfl, Nat.le_of_ble_eq_true rfl⟩ dX9_areSame_16 (fun r16 kd12 ig13 rg14 lg15 H locs hw hH hp17 => ?_)
        obtain ⟨rfl, rfl, rfl, rfl, hzhp17, hrhp17⟩ := hp17
        have hsz := hzhp17.trans hsz
        obtain ⟨z18, rfl, hz18⟩ := hrhp17
        refine b_eq (tgt := 24) hx hb dX9_areSame_19 (by decide) (fun c19 => ?_) (fun c19 => ?_)
        · refine tc_inc hx hb dX9_areSame_24 hl (k := 0) rfl (by decide) (by decide) (fun z19 hz19 ls hl => ?_)
          first | replace hz19 := hz19 (by omega) | clear hz19
          have hl : lv_has ls 4 [(3, .int z19), (0, .ref (B + 32)), (1, .int x), (2, .int y)] := hl
          refine lv_goto (tgt := 2) hx hb dX9_areSame_27 (by decide) ?_
          exact ih2 ls H locs z19 (lv_sub hl [0, 1, 2, 3] rfl) hw hsz (by omega) (by omega) (by omega)
        · refine lv_iconst (v := 0) hx hb dX9_areSame_22 (by decide) (ti_c 0 (by decide) fun z20 hz20 => ?_)
          exact r_iret C hw hr hlk (nar_b (by omega)) (Nat.le_of_ble_eq_true rfl) (Nat.le_of_ble_eq_true rfl) dX9_areSame_23 ⟨rfl, rfl, rfl, rfl, hsz, ⟨_, rfl, by omega⟩⟩
  exact L2 ((3 - z1.toInt) + 1).toNat ls s.heap [] z1 (lv_sub hl [0, 1, 2, 3] rfl) hw hsz (by omega) (by omega) (by omega)

set_option maxHeartbeats 4000000 in
set_option maxRecDepth 100000 in
theorem t_X9_firstFilled {τ : Tp} (l : Launch) (B : Nat) (D : va_G) (cA : Nat → ClassId) (kd : sK) (ig : sI) (rg : sR) (lg : sG) (sz : Nat) (x : Int32) (g ng : Nat) (Fg : isFn B kd rg g ng) (y : Int32) (hI : IC τ B kd ig rg) : MC l B D cA yX9_firstFilled cX9_firstFilled 7 (some .int) (rL 3 0 0) [.ref (B + 32), .int x, .ref g, .int y] kd ig rg lg sz (PI 990 τ B none kd ig rg lg (fun r kd' ig' rg' lg' => ∃ z : Int32, r = some (.int z) ∧ True)) := by
  refine MC.of (own := RX9) (by decide +kernel) rfl (Nat.le_of_ble_eq_true rfl) ?_
  intro p e s m args below meth c ls C hr hlk hnm hw hsz hl
  have hx := C.1.1
  have hb := C.1.2.1
  have hown := C.1.2.2.2.1
  have hts := C.1.2.2.2.2
  have hl : lv_has ls 7 [(0, .ref (B + 32)), (1, .int x), (2, .ref g), (3, .int y)] := hl
  have hN : Nx 990 B none kd ig rg lg kd ig rg lg := Nx.rf
  have hsh := hI.sh
  have hrs := hI.rs
  have lng := Fg.le
  refine lv_iconst (v := (-1)) hx hb dX9_firstFilled_0 (by decide) (ti_c (-1) (by decide) fun z1 hz1 => ?_)
  refine lv_istore (lv' := [(4, .int z1), (0, .ref (B + 32)), (1, .int x), (2, .ref g), (3, .int y)]) hx hb dX9_firstFilled_1 hl (by decide) rfl (fun ls hl => ?_)
  refine lv_aload_n hx hb dX9_firstFilled_3 rfl (lv_at hl 3 rfl) ?_
  refine lv_iload_n hx hb dX9_firstFilled_4 rfl (lv_at hl 4 rfl) ?_
  refine lv_iload_n hx hb dX9_firstFilled_5 rfl (lv_at hl 2 rfl) ?_
  refine lv_aload_n hx hb dX9_firstFilled_6 rfl (lv_at hl 1 rfl) ?_
  refine r_get C hw (hsh 32 _ rfl) fl_X9_27 (oV_r rfl (hrs (32, 4, 35) (by decide))) dX9_firstFilled_7 ?_
  refine r_callV (As := [.int y, .int x, .ref (B + 35)]) (rest := []) C hw (t_X4_listPlaces l B D cA kd ig rg lg _ g ng Fg y x 35 (Or.inr (Or.inr (Or.inl rfl)))  hI) sv_X9_112 (isFn.k Fg) rfl hl.1 rfl (Nat.le_of_ble_eq_true rfl) ⟨Nat.le_of_ble_eq_true rfl, Nat.le_of_ble_eq_true rfl⟩ ⟨Nat.le_of_ble_eq_true rfl, Nat.le_of_ble_eq_true rfl⟩ dX9_firstFilled_10 (fun r6 kd2 ig3 rg4 lg5 H locs hw hH hp7 => ?_)
  obtain ⟨hI, hchp7, hrhp7⟩ := hp7
  have hN := hN.tr hchp7
  have hsh := hI.sh
  have hrs := hI.rs
  obtain ⟨z8, rfl, hz8⟩ := hrhp7
  refine lv_istore (lv' := [(5, .int z8), (4, .int z1), (0, .ref (B + 32)), (1, .int x), (2, .ref g), (3, .int y)]) hx hb dX9_firstFilled_13 hl (by decide) rfl (fun ls hl => ?_)
  refine lv_iconst (v := 0) hx hb dX9_firstFilled_15 (by decide) (ti_c 0 (by decide) fun z9 hz9 => ?_)
  refine lv_istore (lv' := [(6, .int z9), (5, .int z8), (4, .int z1), (0, .ref (B + 32)), (1, .int x), (2, .ref g), (3, .int y)]) hx hb dX9_firstFilled_16 hl (by decide) rfl (fun ls hl => ?_)
  have L18 : ∀ (n : Nat) (ls : Array Slot) (H : Heap) (locs : List Loc) (kd12 : sK) (ig13 : sI) (rg14 : sR) (lg15 : sG) (v10 : Int32) (v11 : Int32), lv_has ls 7 [(6, .int v10), (5, .int z8), (4, .int v11), (0, .ref (B + 32))] → WD B D cA s.heap kd12 ig13 rg14 lg15 H locs → IC τ B kd12 ig13 rg14 → Nx 990 B none kd ig rg lg kd12 ig13 rg14 lg15 → (0 ≤ v10.toInt) → (v10.toInt ≤ 288) → 288 - v10.toInt < (n : Int) → W p l e (rL 3 0 0) s m args below meth c H locs 0 0 (MQ below (QcW B D cA (PI 990 τ B none kd ig rg lg (fun r kd' ig' rg' lg' => ∃ z : Int32, r = some (.int z) ∧ True))) args s 0 0 (fun q => B ≤ q)) (F0 m 18 ls []) := by
    intro n18
    induction n18 with
    | zero => intro ls H locs kd12 ig13 rg14 lg15 v10 v11 hl hw hI hN g18_0 g18_1 hmu; exact absurd hmu (by omega)
    | succ n18 ih18 =>
      intro ls H locs kd12 ig13 rg14 lg15 v10 v11 hl hw hI hN g18_0 g18_1 hmu
      have hsh := hI.sh
      have hrs := hI.rs
      refine lv_iload hx hb dX9_firstFilled_18 (lv_at hl 0 rfl) ?_
      refine lv_iload hx hb dX9_firstFilled_20 (lv_at hl 1 rfl) ?_
      refine b_ge (tgt := 95) hx hb dX9_firstFilled_22 (by decide) (fun c22 => ?_) (fun c22 => ?_)
      · refine lv_iload hx hb dX9_firstFilled_95 (lv_at hl 2 rfl) ?_
        exact r_iret C hw hr hlk rfl (Nat.le_of_ble_eq_true rfl) (Nat.le_of_ble_eq_true rfl) dX9_firstFilled_97 ⟨hI, hN, ⟨_, rfl, trivial⟩⟩
      · refine lv_iload hx hb dX9_firstFilled_25 (lv_at hl 0 rfl) ?_
        refine lv_sipush (v := 288) hx hb dX9_firstFilled_27 (by decide) (ti_c 288 (by decide) fun z16 hz16 => ?_)
        refine b_ge (tgt := 95) hx hb dX9_firstFilled_30 (by decide) (fun c30 => ?_) (fun c30 => ?_)
        · refine lv_iload hx hb dX9_firstFilled_95 (lv_at hl 2 rfl) ?_
          exact r_iret C hw hr hlk rfl (Nat.le_of_ble_eq_true rfl) (Nat.le_of_ble_eq_true rfl) dX9_firstFilled_97 ⟨hI, hN, ⟨_, rfl, trivial⟩⟩
        · refine lv_aload_n hx hb dX9_firstFilled_33 rfl (lv_at hl 3 rfl) ?_
          refine r_get C hw (hsh 32 _ rfl) fl_X9_9 (oV_r rfl (hrs (32, 0, 9) (by decide))) dX9_firstFilled_34 ?_
          refine lv_aload_n hx hb dX9_firstFilled_37 rfl (lv_at hl 3 rfl) ?_
          refine r_get C hw (hsh 32 _ rfl) fl_X9_27 (oV_r rfl (hrs (32, 4, 35) (by decide))) dX9_firstFilled_38 ?_
          refine lv_iload hx hb dX9_firstFilled_41 (lv_at hl 0 rfl) ?_
          refine r_iald C hw (hsh 35 _ rfl) (by omega) (by omega) dX9_firstFilled_43 (ti_c (ig13 (B + 35) v10.toInt.toNat).toInt rfl fun z17 hz17 => ?_)
          refine r_callV (As := [.int z17]) (rest := []) C hw (t_X6_kindAt l B D cA kd12 ig13 rg14 lg15 _ z17  hI) sv_X9_116 (hsh 9 _ rfl) rfl hl.1 rfl (Nat.le_of_ble_eq_true rfl) ⟨Nat.le_of_ble_eq_true rfl, Nat.le_of_ble_eq_true rfl⟩ ⟨Nat.le_of_ble_eq_true rfl, Nat.le_of_ble_eq_true rfl⟩ dX9_firstFilled_44 (fun r22 kd18 ig19 rg20 lg21 H locs hw hH hp23 => ?_)
          obtain ⟨rfl, rfl, rfl, rfl, hzhp23, hrhp23⟩ := hp23
          obtain ⟨z24, rfl, hz24⟩ := hrhp23
          refine z_eq (tgt := 89) hx hb dX9_firstFilled_47 (by decide) (fun c47 => ?_) (fun c47 => ?_)
          · refine tc_inc hx hb dX9_firstFilled_89 hl (k := 0) rfl (by decide) (by decide) (fun z25 hz25 ls hl => ?_)
            first | replace hz25 := hz25 (by omega) | clear hz25
            have hl : lv_has ls 7 [(6, .int z25), (5, .int z8), (4, .int v11), (0, .ref (B + 32))] := hl
            refine lv_goto (tgt := 18) hx hb dX9_firstFilled_92 (by decide) ?_
            exact ih18 ls H locs kd12 ig13 rg14 lg15 z25 v11 (lv_sub hl [0, 1, 2, 3] rfl) hw hI hN (by omega) (by omega) (by omega)
          · refine lv_iload hx hb dX9_firstFilled_50 (lv_at hl 2 rfl) ?_
            refine lv_iconst (v := (-1)) hx hb dX9_firstFilled_52 (by decide) (ti_c (-1) (by decide) fun z26 hz26 => ?_)
            refine b_ne (tgt := 68) hx hb dX9_firstFilled_53 (by decide) (fun c53 => ?_) (fun c53 => ?_)
            · refine lv_aload_n hx hb dX9_firstFilled_68 rfl (lv_at hl 3 rfl) ?_
              refine lv_iload hx hb dX9_firstFilled_69 (lv_at hl 2 rfl) ?_
              refine lv_aload_n hx hb dX9_firstFilled_71 rfl (lv_at hl 3 rfl) ?_
              refine r_get C hw (hsh 32 _ rfl) fl_X9_27 (oV_r rfl (hrs (32, 4, 35) (by decide))) dX9_firstFilled_72 ?_
              refine lv_iload hx hb dX9_firstFilled_75 (lv_at hl 0 rfl) ?_
              refine r_iald C hw (hsh 35 _ rfl) (by omega) (by omega) dX9_firstFilled_77 (ti_c (ig13 (B + 35) v10.toInt.toNat).toInt rfl fun z27 hz27 => ?_)
              refine r_callV (As := [.int v11, .int z27]) (rest := []) C hw (t_X9_areSame l B D cA kd12 ig13 rg14 lg15 _ v11 z27  hI) sv_X9_119 (hsh 32 _ rfl) rfl hl.1 rfl (Nat.le_of_ble_eq_true rfl) ⟨Nat.le_of_ble_eq_true rfl, Nat.le_of_ble_eq_true rfl⟩ ⟨Nat.le_of_ble_eq_true rfl, Nat.le_of_ble_eq_true rfl⟩ dX9_firstFilled_78 (fun r32 kd28 ig29 rg30 lg31 H locs hw hH hp33 => ?_)
              obtain ⟨rfl, rfl, rfl, rfl, hzhp33, hrhp33⟩ := hp33
              obtain ⟨z34, rfl, hz34⟩ := hrhp33
              refine z_ne (tgt := 89) hx hb dX9_firstFilled_81 (by decide) (fun c81 => ?_) (fun c81 => ?_)
              · refine tc_inc hx hb dX9_firstFilled_89 hl (k := 0) rfl (by decide) (by decide) (fun z35 hz35 ls hl => ?_)
                first | replace hz35 := hz35 (by omega) | clear hz35
                have hl : lv_has ls 7 [(6, .int z35), (5, .int z8), (4, .int v11), (0, .ref (B + 32))] := hl
                refine lv_goto (tgt := 18) hx hb dX9_firstFilled_92 (by decide) ?_
                exact ih18 ls H locs kd12 ig13 rg14 lg15 z35 v11 (lv_sub hl [0, 1, 2, 3] rfl) hw hI hN (by omega) (by omega) (by omega)
              · refine lv_aload_n hx hb dX9_firstFilled_84 rfl (lv_at hl 3 rfl) ?_
                refine lv_iconst (v := 1) hx hb dX9_firstFilled_85 (by decide) (ti_c 1 (by decide) fun z36 hz36 => ?_)
                refine r_puti C hw (hsh 32 _ rfl) fl_X9_83 rfl (nar_b (by omega)) (fit_b (by omega)) dX9_firstFilled_86 (fun H locs hH hw => ?_)
                obtain ⟨ig37, eig37⟩ : ∃ f, f = up2 ig13 (B + 32) 7 z36 := ⟨_, rfl⟩
                rw [← eig37] at hw
                have hN : Nx 990 B none kd ig rg lg kd12 ig37 rg14 lg15 := by rw [eig37]; exact hN.pi (by omega)
                have hI : IC τ B kd12 ig37 rg14 := by rw [eig37]; exact hI.pi (show okR (some (0, 1)) _ from ⟨by show (0 : Int) ≤ _; omega, by show _ ≤ (1 : Int); omega⟩)
                refine tc_inc hx hb dX9_firstFilled_89 hl (k := 0) rfl (by decide) (by decide) (fun z38 hz38 ls hl => ?_)
                first | replace hz38 := hz38 (by omega) | clear hz38
                have hl : lv_has ls 7 [(6, .int z38), (5, .int z8), (4, .int v11), (0, .ref (B + 32))] := hl
                refine lv_goto (tgt := 18) hx hb dX9_firstFilled_92 (by decide) ?_
                exact ih18 ls H locs kd12 ig37 rg14 lg15 z38 v11 (lv_sub hl [0, 1, 2, 3] rfl) hw hI hN (by omega) (by omega) (by omega)
            · refine lv_aload_n hx hb dX9_firstFilled_56 rfl (lv_at hl 3 rfl) ?_
              refine r_get C hw (hsh 32 _ rfl) fl_X9_27 (oV_r rfl (hrs (32, 4, 35) (by decide))) dX9_firstFilled_57 ?_
              refine lv_iload hx hb dX9_firstFilled_60 (lv_at hl 0 rfl) ?_
              refine r_iald C hw (hsh 35 _ rfl) (by omega) (by omega) dX9_firstFilled_62 (ti_c (ig13 (B + 35) v10.toInt.toNat).toInt rfl fun z39 hz39 => ?_)
              refine lv_istore (lv' := [(4, .int z39), (6, .int v10), (5, .int z8), (0, .ref (B + 32))]) hx hb dX9_firstFilled_63 hl (by decide) rfl (fun ls hl => ?_)
              refine lv_goto (tgt := 89) hx hb dX9_firstFilled_65 (by decide) ?_
              refine tc_inc hx hb dX9_firstFilled_89 hl (k := 1) rfl (by decide) (by decide) (fun z40 hz40 ls hl => ?_)
              first | replace hz40 := hz40 (by omega) | clear hz40
              have hl : lv_has ls 7 [(6, .int z40), (4, .int z39), (5, .int z8), (0, .ref (B + 32))] := hl
              refine lv_goto (tgt := 18) hx hb dX9_firstFilled_92 (by decide) ?_
              exact ih18 ls H locs kd12 ig13 rg14 lg15 z40 z39 (lv_sub hl [0, 2, 1, 3] rfl) hw hI hN (by omega) (by omega) (by omega)
  exact L18 ((288 - z9.toInt) + 1).toNat ls H locs kd2 ig3 rg4 lg5 z9 z1 (lv_sub hl [0, 1, 2, 3] rfl) hw hI hN (by omega) (by omega) (by omega)

set_option maxHeartbeats 4000000 in
set_option maxRecDepth 100000 in
theorem t_X9_pushUnitOf {τ : Tp} (l : Launch) (B : Nat) (D : va_G) (cA : Nat → ClassId) (kd : sK) (ig : sI) (rg : sR) (lg : sG) (sz : Nat) (x : Int32) (hI : IC τ B kd ig rg) : MC l B D cA yX9_pushUnitOf cX9_pushUnitOf 3 none (rL 2 0 0) [.ref (B + 32), .int x] kd ig rg lg sz (PI 990 τ B none kd ig rg lg (fun r kd' ig' rg' lg' => r = none)) := by
  refine MC.of (own := RX9) (by decide +kernel) rfl (Nat.le_of_ble_eq_true rfl) ?_
  intro p e s m args below meth c ls C hr hlk hnm hw hsz hl
  have hx := C.1.1
  have hb := C.1.2.1
  have hown := C.1.2.2.2.1
  have hts := C.1.2.2.2.2
  have hl : lv_has ls 3 [(0, .ref (B + 32)), (1, .int x)] := hl
  have hN : Nx 990 B none kd ig rg lg kd ig rg lg := Nx.rf
  have hsh := hI.sh
  have hrs := hI.rs
  refine lv_aload_n hx hb dX9_pushUnitOf_0 rfl (lv_at hl 0 rfl) ?_
  refine r_get C hw (hsh 32 _ rfl) fl_X9_87 (oV_i rfl) dX9_pushUnitOf_1 (ti_c (ig (B + 32) 6).toInt rfl fun z1 hz1 => ?_)
  have k2 : 0 ≤ (ig (B + 32) 6).toInt ∧ (ig (B + 32) 6).toInt ≤ 32 := hI.i 32 6 (by decide)
  refine lv_bipush (v := 32) hx hb dX9_pushUnitOf_4 (by decide) (ti_c 32 (by decide) fun z3 hz3 => ?_)
  refine b_ge (tgt := 51) hx hb dX9_pushUnitOf_6 (by decide) (fun c6 => ?_) (fun c6 => ?_)
  · exact r_vret C hw hr hlk (Nat.le_of_ble_eq_true rfl) (Nat.le_of_ble_eq_true rfl) dX9_pushUnitOf_51 ⟨hI, hN, rfl⟩
  · refine lv_iconst (v := 0) hx hb dX9_pushUnitOf_9 (by decide) (ti_c 0 (by decide) fun z4 hz4 => ?_)
    refine lv_istore_n (lv' := [(2, .int z4), (0, .ref (B + 32)), (1, .int x)]) hx hb dX9_pushUnitOf_10 rfl hl (by decide) rfl (fun ls hl => ?_)
    have L11 : ∀ (n : Nat) (ls : Array Slot) (H : Heap) (locs : List Loc) (kd6 : sK) (ig7 : sI) (rg8 : sR) (lg9 : sG) (v5 : Int32), lv_has ls 3 [(2, .int v5), (0, .ref (B + 32)), (1, .int x)] → WD B D cA s.heap kd6 ig7 rg8 lg9 H locs → IC τ B kd6 ig7 rg8 → Nx 990 B none kd ig rg lg kd6 ig7 rg8 lg9 → (0 ≤ v5.toInt) → (v5.toInt ≤ 3) → ((ig7 (B + 32) 6).toInt ≤ 31) → 3 - v5.toInt < (n : Int) → W p l e (rL 2 0 0) s m args below meth c H locs 0 0 (MQ below (QcW B D cA (PI 990 τ B none kd ig rg lg (fun r kd' ig' rg' lg' => r = none))) args s 0 0 (fun q => B ≤ q)) (F0 m 11 ls []) := by
      intro n11
      induction n11 with
      | zero => intro ls H locs kd6 ig7 rg8 lg9 v5 hl hw hI hN g11_0 g11_1 g11_2 hmu; exact absurd hmu (by omega)
      | succ n11 ih11 =>
        intro ls H locs kd6 ig7 rg8 lg9 v5 hl hw hI hN g11_0 g11_1 g11_2 hmu
        have hsh := hI.sh
        have hrs := hI.rs
        refine lv_iload_n hx hb dX9_pushUnitOf_11 rfl (lv_at hl 0 rfl) ?_
        refine lv_iconst (v := 3) hx hb dX9_pushUnitOf_12 (by decide) (ti_c 3 (by decide) fun z10 hz10 => ?_)
        refine b_ge (tgt := 41) hx hb dX9_pushUnitOf_13 (by decide) (fun c13 => ?_) (fun c13 => ?_)
        · refine lv_aload_n hx hb dX9_pushUnitOf_41 rfl (lv_at hl 1 rfl) ?_
          refine lv_dup hx hb dX9_pushUnitOf_42 rfl ?_
          refine r_get C hw (hsh 32 _ rfl) fl_X9_87 (oV_i rfl) dX9_pushUnitOf_43 (ti_c (ig7 (B + 32) 6).toInt rfl fun z11 hz11 => ?_)
          have k12 : 0 ≤ (ig7 (B + 32) 6).toInt ∧ (ig7 (B + 32) 6).toInt ≤ 32 := hI.i 32 6 (by decide)
          refine lv_iconst (v := 1) hx hb dX9_pushUnitOf_46 (by decide) (ti_c 1 (by decide) fun z13 hz13 => ?_)
          refine lv_iadd hx hb dX9_pushUnitOf_47 (tc_add fun z14 hz14 => ?_)
          first | replace hz14 := hz14 (by omega) | clear hz14
          refine r_puti C hw (hsh 32 _ rfl) fl_X9_87 rfl rfl rfl dX9_pushUnitOf_48 (fun H locs hH hw => ?_)
          obtain ⟨ig15, eig15⟩ : ∃ f, f = up2 ig7 (B + 32) 6 z14 := ⟨_, rfl⟩
          rw [← eig15] at hw
          have hN : Nx 990 B none kd ig rg lg kd6 ig15 rg8 lg9 := by rw [eig15]; exact hN.pi (by omega)
          have hI : IC τ B kd6 ig15 rg8 := by rw [eig15]; exact hI.pi (show okR (some (0, 32)) _ from ⟨by show (0 : Int) ≤ _; omega, by show _ ≤ (32 : Int); omega⟩)
          have wig15 : (ig15 (B + 32) 6).toInt = z14.toInt := by rw [eig15, up2_eq]
          exact r_vret C hw hr hlk (Nat.le_of_ble_eq_true rfl) (Nat.le_of_ble_eq_true rfl) dX9_pushUnitOf_51 ⟨hI, hN, rfl⟩
        · refine lv_aload_n hx hb dX9_pushUnitOf_16 rfl (lv_at hl 1 rfl) ?_
          refine r_get C hw (hsh 32 _ rfl) fl_X9_30 (oV_r rfl (hrs (32, 5, 36) (by decide))) dX9_pushUnitOf_17 ?_
          refine lv_aload_n hx hb dX9_pushUnitOf_20 rfl (lv_at hl 1 rfl) ?_
          refine r_get C hw (hsh 32 _ rfl) fl_X9_87 (oV_i rfl) dX9_pushUnitOf_21 (ti_c (ig7 (B + 32) 6).toInt rfl fun z16 hz16 => ?_)
          have k17 : 0 ≤ (ig7 (B + 32) 6).toInt ∧ (ig7 (B + 32) 6).toInt ≤ 32 := hI.i 32 6 (by decide)
          refine lv_iconst (v := 3) hx hb dX9_pushUnitOf_24 (by decide) (ti_c 3 (by decide) fun z18 hz18 => ?_)
          refine lv_imul hx hb dX9_pushUnitOf_25 (tc_mulR 3 hz18 fun z19 hz19 => ?_)
          first | replace hz19 := hz19 (by omega) | clear hz19
          refine lv_iload_n hx hb dX9_pushUnitOf_26 rfl (lv_at hl 0 rfl) ?_
          refine lv_iadd hx hb dX9_pushUnitOf_27 (tc_add fun z20 hz20 => ?_)
          first | replace hz20 := hz20 (by omega) | clear hz20
          refine lv_aload_n hx hb dX9_pushUnitOf_28 rfl (lv_at hl 1 rfl) ?_
          refine lv_iload_n hx hb dX9_pushUnitOf_29 rfl (lv_at hl 2 rfl) ?_
          refine lv_iload_n hx hb dX9_pushUnitOf_30 rfl (lv_at hl 0 rfl) ?_
          refine r_callV (As := [.int x, .int v5]) (rest := [.int z20, .ref (B + 36)]) C hw (t_X9_exponentAt l B D cA kd6 ig7 rg8 lg9 _ x v5  hI) sv_X9_123 (hsh 32 _ rfl) rfl hl.1 rfl (Nat.le_of_ble_eq_true rfl) ⟨Nat.le_of_ble_eq_true rfl, Nat.le_of_ble_eq_true rfl⟩ ⟨Nat.le_of_ble_eq_true rfl, Nat.le_of_ble_eq_true rfl⟩ dX9_pushUnitOf_31 (fun r25 kd21 ig22 rg23 lg24 H locs hw hH hp26 => ?_)
          obtain ⟨rfl, rfl, rfl, rfl, hzhp26, hrhp26⟩ := hp26
          obtain ⟨z27, rfl, hz27⟩ := hrhp26
          refine r_iast C hw (hsh 36 _ rfl) (by omega) (by omega) dX9_pushUnitOf_34 (fun H locs hH hw => ?_)
          obtain ⟨ig28, eig28⟩ : ∃ f, f = up2 ig7 (B + 36) z20.toInt.toNat z27 := ⟨_, rfl⟩
          rw [← eig28] at hw
          have hN : Nx 990 B none kd ig rg lg kd6 ig28 rg8 lg9 := by rw [eig28]; exact hN.pi (by omega)
          have hI : IC τ B kd6 ig28 rg8 := by rw [eig28]; exact hI.pi (show okR none _ from trivial)
          have wig28_32_6 : (ig28 (B + 32) 6).toInt = (ig7 (B + 32) 6).toInt := by rw [eig28, up2_a (by omega)]
          refine tc_inc hx hb dX9_pushUnitOf_35 hl (k := 0) rfl (by decide) (by decide) (fun z29 hz29 ls hl => ?_)
          first | replace hz29 := hz29 (by omega) | clear hz29
          have hl : lv_has ls 3 [(2, .int z29), (0, .ref (B + 32)), (1, .int x)] := hl
          refine lv_goto (tgt := 11) hx hb dX9_pushUnitOf_38 (by decide) ?_
          exact ih11 ls H locs kd6 ig28 rg8 lg9 z29 (lv_sub hl [0, 1, 2] rfl) hw hI hN (by omega) (by omega) (by omega) (by omega)
    exact L11 ((3 - z4.toInt) + 1).toNat ls s.heap [] kd ig rg lg z4 (lv_sub hl [0, 1, 2] rfl) hw hI hN (by omega) (by omega) (by omega) (by omega)

set_option maxHeartbeats 4000000 in
set_option maxRecDepth 100000 in
theorem t_X9_join {τ : Tp} (l : Launch) (B : Nat) (D : va_G) (cA : Nat → ClassId) (kd : sK) (ig : sI) (rg : sR) (lg : sG) (sz : Nat) (x : Int32) (hI : IC τ B kd ig rg) : MC l B D cA yX9_join cX9_join 5 none (rL 0 0 0) [.ref (B + 32), .int x] kd ig rg lg sz (PI 990 τ B none kd ig rg lg (fun r kd' ig' rg' lg' => r = none)) := by
  refine MC.of (own := RX9) (by decide +kernel) rfl (Nat.le_of_ble_eq_true rfl) ?_
  intro p e s m args below meth c ls C hr hlk hnm hw hsz hl
  have hx := C.1.1
  have hb := C.1.2.1
  have hown := C.1.2.2.2.1
  have hts := C.1.2.2.2.2
  have hl : lv_has ls 5 [(0, .ref (B + 32)), (1, .int x)] := hl
  have hN : Nx 990 B none kd ig rg lg kd ig rg lg := Nx.rf
  have hsh := hI.sh
  have hrs := hI.rs
  refine lv_aload_n hx hb dX9_join_0 rfl (lv_at hl 0 rfl) ?_
  refine r_get C hw (hsh 32 _ rfl) fl_X9_87 (oV_i rfl) dX9_join_1 (ti_c (ig (B + 32) 6).toInt rfl fun z1 hz1 => ?_)
  have k2 : 0 ≤ (ig (B + 32) 6).toInt ∧ (ig (B + 32) 6).toInt ≤ 32 := hI.i 32 6 (by decide)
  refine lv_iconst (v := 2) hx hb dX9_join_4 (by decide) (ti_c 2 (by decide) fun z3 hz3 => ?_)
  refine b_ge (tgt := 9) hx hb dX9_join_5 (by decide) (fun c5 => ?_) (fun c5 => ?_)
  · refine lv_aload_n hx hb dX9_join_9 rfl (lv_at hl 0 rfl) ?_
    refine lv_dup hx hb dX9_join_10 rfl ?_
    refine r_get C hw (hsh 32 _ rfl) fl_X9_87 (oV_i rfl) dX9_join_11 (ti_c (ig (B + 32) 6).toInt rfl fun z4 hz4 => ?_)
    have k5 : 0 ≤ (ig (B + 32) 6).toInt ∧ (ig (B + 32) 6).toInt ≤ 32 := hI.i 32 6 (by decide)
    refine lv_iconst (v := 1) hx hb dX9_join_14 (by decide) (ti_c 1 (by decide) fun z6 hz6 => ?_)
    refine lv_isub hx hb dX9_join_15 (tc_sub fun z7 hz7 => ?_)
    first | replace hz7 := hz7 (by omega) | clear hz7
    refine r_puti C hw (hsh 32 _ rfl) fl_X9_87 rfl rfl rfl dX9_join_16 (fun H locs hH hw => ?_)
    obtain ⟨ig8, eig8⟩ : ∃ f, f = up2 ig (B + 32) 6 z7 := ⟨_, rfl⟩
    rw [← eig8] at hw
    have hN : Nx 990 B none kd ig rg lg kd ig8 rg lg := by rw [eig8]; exact hN.pi (by omega)
    have hI : IC τ B kd ig8 rg := by rw [eig8]; exact hI.pi (show okR (some (0, 32)) _ from ⟨by show (0 : Int) ≤ _; omega, by show _ ≤ (32 : Int); omega⟩)
    have wig8 : (ig8 (B + 32) 6).toInt = z7.toInt := by rw [eig8, up2_eq]
    refine lv_iconst (v := 0) hx hb dX9_join_19 (by decide) (ti_c 0 (by decide) fun z9 hz9 => ?_)
    refine lv_istore_n (lv' := [(2, .int z9), (0, .ref (B + 32)), (1, .int x)]) hx hb dX9_join_20 rfl hl (by decide) rfl (fun ls hl => ?_)
    have L21 : ∀ (n : Nat) (ls : Array Slot) (H : Heap) (locs : List Loc) (kd11 : sK) (ig12 : sI) (rg13 : sR) (lg14 : sG) (v10 : Int32), lv_has ls 5 [(2, .int v10), (0, .ref (B + 32)), (1, .int x)] → WD B D cA s.heap kd11 ig12 rg13 lg14 H locs → IC τ B kd11 ig12 rg13 → Nx 990 B none kd ig rg lg kd11 ig12 rg13 lg14 → (0 ≤ v10.toInt) → (v10.toInt ≤ 3) → (1 ≤ (ig12 (B + 32) 6).toInt) → ((ig12 (B + 32) 6).toInt ≤ 31) → 3 - v10.toInt < (n : Int) → W p l e (rL 0 0 0) s m args below meth c H locs 0 0 (MQ below (QcW B D cA (PI 990 τ B none kd ig rg lg (fun r kd' ig' rg' lg' => r = none))) args s 0 0 (fun q => B ≤ q)) (F0 m 21 ls []) := by
      intro n21
      induction n21 with
      | zero => intro ls H locs kd11 ig12 rg13 lg14 v10 hl hw hI hN g21_0 g21_1 g21_2 g21_3 hmu; exact absurd hmu (by omega)
      | succ n21 ih21 =>
        intro ls H locs kd11 ig12 rg13 lg14 v10 hl hw hI hN g21_0 g21_1 g21_2 g21_3 hmu
        have hsh := hI.sh
        have hrs := hI.rs
        refine lv_iload_n hx hb dX9_join_21 rfl (lv_at hl 0 rfl) ?_
        refine lv_iconst (v := 3) hx hb dX9_join_22 (by decide) (ti_c 3 (by decide) fun z15 hz15 => ?_)
        refine b_ge (tgt := 124) hx hb dX9_join_23 (by decide) (fun c23 => ?_) (fun c23 => ?_)
        · exact r_vret C hw hr hlk (Nat.le_of_ble_eq_true rfl) (Nat.le_of_ble_eq_true rfl) dX9_join_124 ⟨hI, hN, rfl⟩
        · refine lv_aload_n hx hb dX9_join_26 rfl (lv_at hl 1 rfl) ?_
          refine r_get C hw (hsh 32 _ rfl) fl_X9_87 (oV_i rfl) dX9_join_27 (ti_c (ig12 (B + 32) 6).toInt rfl fun z16 hz16 => ?_)
          have k17 : 0 ≤ (ig12 (B + 32) 6).toInt ∧ (ig12 (B + 32) 6).toInt ≤ 32 := hI.i 32 6 (by decide)
          refine lv_iconst (v := 1) hx hb dX9_join_30 (by decide) (ti_c 1 (by decide) fun z18 hz18 => ?_)
          refine lv_isub hx hb dX9_join_31 (tc_sub fun z19 hz19 => ?_)
          first | replace hz19 := hz19 (by omega) | clear hz19
          refine lv_iconst (v := 3) hx hb dX9_join_32 (by decide) (ti_c 3 (by decide) fun z20 hz20 => ?_)
          refine lv_imul hx hb dX9_join_33 (tc_mulR 3 hz20 fun z21 hz21 => ?_)
          first | replace hz21 := hz21 (by omega) | clear hz21
          refine lv_iload_n hx hb dX9_join_34 rfl (lv_at hl 0 rfl) ?_
          refine lv_iadd hx hb dX9_join_35 (tc_add fun z22 hz22 => ?_)
          first | replace hz22 := hz22 (by omega) | clear hz22
          refine lv_istore_n (lv' := [(3, .int z22), (2, .int v10), (0, .ref (B + 32)), (1, .int x)]) hx hb dX9_join_36 rfl hl (by decide) rfl (fun ls hl => ?_)
          refine lv_aload_n hx hb dX9_join_37 rfl (lv_at hl 2 rfl) ?_
          refine r_get C hw (hsh 32 _ rfl) fl_X9_87 (oV_i rfl) dX9_join_38 (ti_c (ig12 (B + 32) 6).toInt rfl fun z23 hz23 => ?_)
          have k24 : 0 ≤ (ig12 (B + 32) 6).toInt ∧ (ig12 (B + 32) 6).toInt ≤ 32 := hI.i 32 6 (by decide)
          refine lv_iconst (v := 3) hx hb dX9_join_41 (by decide) (ti_c 3 (by decide) fun z25 hz25 => ?_)
          refine lv_imul hx hb dX9_join_42 (tc_mulR 3 hz25 fun z26 hz26 => ?_)
          first | replace hz26 := hz26 (by omega) | clear hz26
          refine lv_iload_n hx hb dX9_join_43 rfl (lv_at hl 1 rfl) ?_
          refine lv_iadd hx hb dX9_join_44 (tc_add fun z27 hz27 => ?_)
          first | replace hz27 := hz27 (by omega) | clear hz27
          refine lv_istore (lv' := [(4, .int z27), (3, .int z22), (2, .int v10), (0, .ref (B + 32)), (1, .int x)]) hx hb dX9_join_45 hl (by decide) rfl (fun ls hl => ?_)
          refine lv_iload_n hx hb dX9_join_47 rfl (lv_at hl 4 rfl) ?_
          refine lv_bipush (v := 7) hx hb dX9_join_48 (by decide) (ti_c 7 (by decide) fun z28 hz28 => ?_)
          refine b_ne (tgt := 72) hx hb dX9_join_50 (by decide) (fun c50 => ?_) (fun c50 => ?_)
          · refine lv_iload_n hx hb dX9_join_72 rfl (lv_at hl 4 rfl) ?_
            refine lv_bipush (v := 8) hx hb dX9_join_73 (by decide) (ti_c 8 (by decide) fun z29 hz29 => ?_)
            refine b_ne (tgt := 97) hx hb dX9_join_75 (by decide) (fun c75 => ?_) (fun c75 => ?_)
            · refine lv_aload_n hx hb dX9_join_97 rfl (lv_at hl 3 rfl) ?_
              refine r_get C hw (hsh 32 _ rfl) fl_X9_30 (oV_r rfl (hrs (32, 5, 36) (by decide))) dX9_join_98 ?_
              refine lv_iload_n hx hb dX9_join_101 rfl (lv_at hl 1 rfl) ?_
              refine r_iald C hw (hsh 36 _ rfl) (by omega) (by omega) dX9_join_102 (ti_c (ig12 (B + 36) z22.toInt.toNat).toInt rfl fun z30 hz30 => ?_)
              refine lv_aload_n hx hb dX9_join_103 rfl (lv_at hl 3 rfl) ?_
              refine r_get C hw (hsh 32 _ rfl) fl_X9_30 (oV_r rfl (hrs (32, 5, 36) (by decide))) dX9_join_104 ?_
              refine lv_iload hx hb dX9_join_107 (lv_at hl 0 rfl) ?_
              refine r_iald C hw (hsh 36 _ rfl) (by omega) (by omega) dX9_join_109 (ti_c (ig12 (B + 36) z27.toInt.toNat).toInt rfl fun z31 hz31 => ?_)
              refine b_eq (tgt := 118) hx hb dX9_join_110 (by decide) (fun c110 => ?_) (fun c110 => ?_)
              · refine tc_inc hx hb dX9_join_118 hl (k := 2) rfl (by decide) (by decide) (fun z32 hz32 ls hl => ?_)
                first | replace hz32 := hz32 (by omega) | clear hz32
                have hl : lv_has ls 5 [(2, .int z32), (4, .int z27), (3, .int z22), (0, .ref (B + 32)), (1, .int x)] := hl
                refine lv_goto (tgt := 21) hx hb dX9_join_121 (by decide) ?_
                exact ih21 ls H locs kd11 ig12 rg13 lg14 z32 (lv_sub hl [0, 3, 4] rfl) hw hI hN (by omega) (by omega) (by omega) (by omega) (by omega)
              · refine lv_aload_n hx hb dX9_join_113 rfl (lv_at hl 3 rfl) ?_
                refine lv_iconst (v := 1) hx hb dX9_join_114 (by decide) (ti_c 1 (by decide) fun z33 hz33 => ?_)
                refine r_puti C hw (hsh 32 _ rfl) fl_X9_83 rfl (nar_b (by omega)) (fit_b (by omega)) dX9_join_115 (fun H locs hH hw => ?_)
                obtain ⟨ig34, eig34⟩ : ∃ f, f = up2 ig12 (B + 32) 7 z33 := ⟨_, rfl⟩
                rw [← eig34] at hw
                have hN : Nx 990 B none kd ig rg lg kd11 ig34 rg13 lg14 := by rw [eig34]; exact hN.pi (by omega)
                have hI : IC τ B kd11 ig34 rg13 := by rw [eig34]; exact hI.pi (show okR (some (0, 1)) _ from ⟨by show (0 : Int) ≤ _; omega, by show _ ≤ (1 : Int); omega⟩)
                have wig34_32_6 : (ig34 (B + 32) 6).toInt = (ig12 (B + 32) 6).toInt := by rw [eig34, up2_j (by decide)]
                refine tc_inc hx hb dX9_join_118 hl (k := 2) rfl (by decide) (by decide) (fun z35 hz35 ls hl => ?_)
                first | replace hz35 := hz35 (by omega) | clear hz35
                have hl : lv_has ls 5 [(2, .int z35), (4, .int z27), (3, .int z22), (0, .ref (B + 32)), (1, .int x)] := hl
                refine lv_goto (tgt := 21) hx hb dX9_join_121 (by decide) ?_
                exact ih21 ls H locs kd11 ig34 rg13 lg14 z35 (lv_sub hl [0, 3, 4] rfl) hw hI hN (by omega) (by omega) (by omega) (by omega) (by omega)
            · refine lv_aload_n hx hb dX9_join_78 rfl (lv_at hl 3 rfl) ?_
              refine r_get C hw (hsh 32 _ rfl) fl_X9_30 (oV_r rfl (hrs (32, 5, 36) (by decide))) dX9_join_79 ?_
              refine lv_iload_n hx hb dX9_join_82 rfl (lv_at hl 1 rfl) ?_
              refine lv_dup2_11 hx hb dX9_join_83 rfl rfl ?_
              refine r_iald C hw (hsh 36 _ rfl) (by omega) (by omega) dX9_join_84 (ti_c (ig12 (B + 36) z22.toInt.toNat).toInt rfl fun z36 hz36 => ?_)
              refine lv_aload_n hx hb dX9_join_85 rfl (lv_at hl 3 rfl) ?_
              refine r_get C hw (hsh 32 _ rfl) fl_X9_30 (oV_r rfl (hrs (32, 5, 36) (by decide))) dX9_join_86 ?_
              refine lv_iload hx hb dX9_join_89 (lv_at hl 0 rfl) ?_
              refine r_iald C hw (hsh 36 _ rfl) (by omega) (by omega) dX9_join_91 (ti_c (ig12 (B + 36) z27.toInt.toNat).toInt rfl fun z37 hz37 => ?_)
              refine lv_isub hx hb dX9_join_92 (tc_sub fun z38 hz38 => ?_)
              first | replace hz38 := hz38 (by omega) | clear hz38
              refine r_iast C hw (hsh 36 _ rfl) (by omega) (by omega) dX9_join_93 (fun H locs hH hw => ?_)
              obtain ⟨ig39, eig39⟩ : ∃ f, f = up2 ig12 (B + 36) z22.toInt.toNat z38 := ⟨_, rfl⟩
              rw [← eig39] at hw
              have hN : Nx 990 B none kd ig rg lg kd11 ig39 rg13 lg14 := by rw [eig39]; exact hN.pi (by omega)
              have hI : IC τ B kd11 ig39 rg13 := by rw [eig39]; exact hI.pi (show okR none _ from trivial)
              have wig39_32_6 : (ig39 (B + 32) 6).toInt = (ig12 (B + 32) 6).toInt := by rw [eig39, up2_a (by omega)]
              refine lv_goto (tgt := 118) hx hb dX9_join_94 (by decide) ?_
              refine tc_inc hx hb dX9_join_118 hl (k := 2) rfl (by decide) (by decide) (fun z40 hz40 ls hl => ?_)
              first | replace hz40 := hz40 (by omega) | clear hz40
              have hl : lv_has ls 5 [(2, .int z40), (4, .int z27), (3, .int z22), (0, .ref (B + 32)), (1, .int x)] := hl
              refine lv_goto (tgt := 21) hx hb dX9_join_121 (by decide) ?_
              exact ih21 ls H locs kd11 ig39 rg13 lg14 z40 (lv_sub hl [0, 3, 4] rfl) hw hI hN (by omega) (by omega) (by omega) (by omega) (by omega)
          · refine lv_aload_n hx hb dX9_join_53 rfl (lv_at hl 3 rfl) ?_
            refine r_get C hw (hsh 32 _ rfl) fl_X9_30 (oV_r rfl (hrs (32, 5, 36) (by decide))) dX9_join_54 ?_
            refine lv_iload_n hx hb dX9_join_57 rfl (lv_at hl 1 rfl) ?_
            refine lv_dup2_11 hx hb dX9_join_58 rfl rfl ?_
            refine r_iald C hw (hsh 36 _ rfl) (by omega) (by omega) dX9_join_59 (ti_c (ig12 (B + 36) z22.toInt.toNat).toInt rfl fun z41 hz41 => ?_)
            refine lv_aload_n hx hb dX9_join_60 rfl (lv_at hl 3 rfl) ?_
            refine r_get C hw (hsh 32 _ rfl) fl_X9_30 (oV_r rfl (hrs (32, 5, 36) (by decide))) dX9_join_61 ?_
            refine lv_iload hx hb dX9_join_64 (lv_at hl 0 rfl) ?_
            refine r_iald C hw (hsh 36 _ rfl) (by omega) (by omega) dX9_join_66 (ti_c (ig12 (B + 36) z27.toInt.toNat).toInt rfl fun z42 hz42 => ?_)
            refine lv_iadd hx hb dX9_join_67 (tc_add fun z43 hz43 => ?_)
            first | replace hz43 := hz43 (by omega) | clear hz43
            refine r_iast C hw (hsh 36 _ rfl) (by omega) (by omega) dX9_join_68 (fun H locs hH hw => ?_)
            obtain ⟨ig44, eig44⟩ : ∃ f, f = up2 ig12 (B + 36) z22.toInt.toNat z43 := ⟨_, rfl⟩
            rw [← eig44] at hw
            have hN : Nx 990 B none kd ig rg lg kd11 ig44 rg13 lg14 := by rw [eig44]; exact hN.pi (by omega)
            have hI : IC τ B kd11 ig44 rg13 := by rw [eig44]; exact hI.pi (show okR none _ from trivial)
            have wig44_32_6 : (ig44 (B + 32) 6).toInt = (ig12 (B + 32) 6).toInt := by rw [eig44, up2_a (by omega)]
            refine lv_goto (tgt := 118) hx hb dX9_join_69 (by decide) ?_
            refine tc_inc hx hb dX9_join_118 hl (k := 2) rfl (by decide) (by decide) (fun z45 hz45 ls hl => ?_)
            first | replace hz45 := hz45 (by omega) | clear hz45
            have hl : lv_has ls 5 [(2, .int z45), (4, .int z27), (3, .int z22), (0, .ref (B + 32)), (1, .int x)] := hl
            refine lv_goto (tgt := 21) hx hb dX9_join_121 (by decide) ?_
            exact ih21 ls H locs kd11 ig44 rg13 lg14 z45 (lv_sub hl [0, 3, 4] rfl) hw hI hN (by omega) (by omega) (by omega) (by omega) (by omega)
    exact L21 ((3 - z9.toInt) + 1).toNat ls H locs kd ig8 rg lg z9 (lv_sub hl [0, 1, 2] rfl) hw hI hN (by omega) (by omega) (by omega) (by omega) (by omega)
  · exact r_vret C hw hr hlk (Nat.le_of_ble_eq_true rfl) (Nat.le_of_ble_eq_true rfl) dX9_join_8 ⟨hI, hN, rfl⟩

set_option maxHeartbeats 4000000 in
set_option maxRecDepth 100000 in
theorem t_X9_workOut {τ : Tp} (l : Launch) (B : Nat) (D : va_G) (cA : Nat → ClassId) (kd : sK) (ig : sI) (rg : sR) (lg : sG) (sz : Nat) (x : Int32) (g ng : Nat) (Fg : isFn B kd rg g ng) (hx0 : 0 ≤ x.toInt ∧ x.toInt < 288) (hI : IC τ B kd ig rg) : MC l B D cA yX9_workOut cX9_workOut 5 none (rL 4 0 0) [.ref (B + 32), .int x, .ref g] kd ig rg lg sz (PI 990 τ B none kd ig rg lg (fun r kd' ig' rg' lg' => r = none)) := by
  refine MC.of (own := RX9) (by decide +kernel) rfl (Nat.le_of_ble_eq_true rfl) ?_
  intro p e s m args below meth c ls C hr hlk hnm hw hsz hl
  have hx := C.1.1
  have hb := C.1.2.1
  have hown := C.1.2.2.2.1
  have hts := C.1.2.2.2.2
  have hl : lv_has ls 5 [(0, .ref (B + 32)), (1, .int x), (2, .ref g)] := hl
  have hN : Nx 990 B none kd ig rg lg kd ig rg lg := Nx.rf
  have hsh := hI.sh
  have hrs := hI.rs
  have lng := Fg.le
  refine lv_aload_n hx hb dX9_workOut_0 rfl (lv_at hl 0 rfl) ?_
  refine lv_iconst (v := 0) hx hb dX9_workOut_1 (by decide) (ti_c 0 (by decide) fun z1 hz1 => ?_)
  refine r_puti C hw (hsh 32 _ rfl) fl_X9_83 rfl (nar_b (by omega)) (fit_b (by omega)) dX9_workOut_2 (fun H locs hH hw => ?_)
  obtain ⟨ig2, eig2⟩ : ∃ f, f = up2 ig (B + 32) 7 z1 := ⟨_, rfl⟩
  rw [← eig2] at hw
  have hN : Nx 990 B none kd ig rg lg kd ig2 rg lg := by rw [eig2]; exact hN.pi (by omega)
  have hI : IC τ B kd ig2 rg := by rw [eig2]; exact hI.pi (show okR (some (0, 1)) _ from ⟨by show (0 : Int) ≤ _; omega, by show _ ≤ (1 : Int); omega⟩)
  have wig2_32_6 : (ig2 (B + 32) 6).toInt = (ig (B + 32) 6).toInt := by rw [eig2, up2_j (by decide)]
  have wig2 : (ig2 (B + 32) 7).toInt = z1.toInt := by rw [eig2, up2_eq]
  refine lv_aload_n hx hb dX9_workOut_5 rfl (lv_at hl 0 rfl) ?_
  refine lv_iconst (v := 0) hx hb dX9_workOut_6 (by decide) (ti_c 0 (by decide) fun z3 hz3 => ?_)
  refine r_puti C hw (hsh 32 _ rfl) fl_X9_87 rfl rfl rfl dX9_workOut_7 (fun H locs hH hw => ?_)
  obtain ⟨ig4, eig4⟩ : ∃ f, f = up2 ig2 (B + 32) 6 z3 := ⟨_, rfl⟩
  rw [← eig4] at hw
  have hN : Nx 990 B none kd ig rg lg kd ig4 rg lg := by rw [eig4]; exact hN.pi (by omega)
  have hI : IC τ B kd ig4 rg := by rw [eig4]; exact hI.pi (show okR (some (0, 32)) _ from ⟨by show (0 : Int) ≤ _; omega, by show _ ≤ (32 : Int); omega⟩)
  have wig4 : (ig4 (B + 32) 6).toInt = z3.toInt := by rw [eig4, up2_eq]
  have wig4_32_7 : (ig4 (B + 32) 7).toInt = (ig2 (B + 32) 7).toInt := by rw [eig4, up2_j (by decide)]
  refine lv_iconst (v := 0) hx hb dX9_workOut_10 (by decide) (ti_c 0 (by decide) fun z5 hz5 => ?_)
  refine lv_istore_n (lv' := [(3, .int z5), (0, .ref (B + 32)), (1, .int x), (2, .ref g)]) hx hb dX9_workOut_11 rfl hl (by decide) rfl (fun ls hl => ?_)
  have L12 : ∀ (n : Nat) (ls : Array Slot) (H : Heap) (locs : List Loc) (kd7 : sK) (ig8 : sI) (rg9 : sR) (lg10 : sG) (v6 : Int32), lv_has ls 5 [(3, .int v6), (0, .ref (B + 32)), (1, .int x), (2, .ref g)] → WD B D cA s.heap kd7 ig8 rg9 lg10 H locs → IC τ B kd7 ig8 rg9 → Nx 990 B none kd ig rg lg kd7 ig8 rg9 lg10 → isFn B kd7 rg9 g ng → (0 ≤ v6.toInt) → (v6.toInt ≤ 120) → 120 - v6.toInt < (n : Int) → W p l e (rL 4 0 0) s m args below meth c H locs 0 0 (MQ below (QcW B D cA (PI 990 τ B none kd ig rg lg (fun r kd' ig' rg' lg' => r = none))) args s 0 0 (fun q => B ≤ q)) (F0 m 12 ls []) := by
    intro n12
    induction n12 with
    | zero => intro ls H locs kd7 ig8 rg9 lg10 v6 hl hw hI hN Fg g12_0 g12_1 hmu; exact absurd hmu (by omega)
    | succ n12 ih12 =>
      intro ls H locs kd7 ig8 rg9 lg10 v6 hl hw hI hN Fg g12_0 g12_1 hmu
      have hsh := hI.sh
      have hrs := hI.rs
      refine lv_iload_n hx hb dX9_workOut_12 rfl (lv_at hl 0 rfl) ?_
      refine lv_aload_n hx hb dX9_workOut_13 rfl (lv_at hl 3 rfl) ?_
      refine r_callV (As := []) (rest := [.int v6]) C hw (t_X4_size l B D cA kd7 ig8 rg9 lg10 _ g ng Fg  hI) sv_X9_90 (isFn.k Fg) rfl hl.1 rfl (Nat.le_of_ble_eq_true rfl) ⟨Nat.le_of_ble_eq_true rfl, Nat.le_of_ble_eq_true rfl⟩ ⟨Nat.le_of_ble_eq_true rfl, Nat.le_of_ble_eq_true rfl⟩ dX9_workOut_14 (fun r15 kd11 ig12 rg13 lg14 H locs hw hH hp16 => ?_)
      obtain ⟨rfl, rfl, rfl, rfl, hzhp16, hrhp16⟩ := hp16
      obtain ⟨z17, rfl, hz17⟩ := hrhp16
      refine b_ge (tgt := 86) hx hb dX9_workOut_17 (by decide) (fun c17 => ?_) (fun c17 => ?_)
      · refine lv_iconst (v := 0) hx hb dX9_workOut_86 (by decide) (ti_c 0 (by decide) fun z18 hz18 => ?_)
        refine lv_istore_n (lv' := [(3, .int z18), (0, .ref (B + 32)), (1, .int x), (2, .ref g)]) hx hb dX9_workOut_87 rfl hl (by decide) rfl (fun ls hl => ?_)
        have L88 : ∀ (n : Nat) (ls : Array Slot) (H : Heap) (locs : List Loc) (kd20 : sK) (ig21 : sI) (rg22 : sR) (lg23 : sG) (v19 : Int32), lv_has ls 5 [(3, .int v19), (0, .ref (B + 32)), (1, .int x)] → WD B D cA s.heap kd20 ig21 rg22 lg23 H locs → IC τ B kd20 ig21 rg22 → Nx 990 B none kd ig rg lg kd20 ig21 rg22 lg23 → (0 ≤ v19.toInt) → (v19.toInt ≤ 3) → 3 - v19.toInt < (n : Int) → W p l e (rL 4 0 0) s m args below meth c H locs 0 0 (MQ below (QcW B D cA (PI 990 τ B none kd ig rg lg (fun r kd' ig' rg' lg' => r = none))) args s 0 0 (fun q => B ≤ q)) (F0 m 88 ls []) := by
          intro n88
          induction n88 with
          | zero => intro ls H locs kd20 ig21 rg22 lg23 v19 hl hw hI hN g88_0 g88_1 hmu; exact absurd hmu (by omega)
          | succ n88 ih88 =>
            intro ls H locs kd20 ig21 rg22 lg23 v19 hl hw hI hN g88_0 g88_1 hmu
            have hsh := hI.sh
            have hrs := hI.rs
            refine lv_iload_n hx hb dX9_workOut_88 rfl (lv_at hl 0 rfl) ?_
            refine lv_iconst (v := 3) hx hb dX9_workOut_89 (by decide) (ti_c 3 (by decide) fun z24 hz24 => ?_)
            refine b_ge (tgt := 127) hx hb dX9_workOut_90 (by decide) (fun c90 => ?_) (fun c90 => ?_)
            · refine lv_aload_n hx hb dX9_workOut_127 rfl (lv_at hl 1 rfl) ?_
              refine r_get C hw (hsh 32 _ rfl) fl_X9_23 (oV_r rfl (hrs (32, 3, 34) (by decide))) dX9_workOut_128 ?_
              refine lv_iload_n hx hb dX9_workOut_131 rfl (lv_at hl 2 rfl) ?_
              refine lv_aload_n hx hb dX9_workOut_132 rfl (lv_at hl 1 rfl) ?_
              refine r_get C hw (hsh 32 _ rfl) fl_X9_83 (oV_i rfl) dX9_workOut_133 (ti_c (ig21 (B + 32) 7).toInt rfl fun z25 hz25 => ?_)
              have k26 : 0 ≤ (ig21 (B + 32) 7).toInt ∧ (ig21 (B + 32) 7).toInt ≤ 1 := hI.i 32 7 (by decide)
              refine r_zast C hw (hsh 34 _ rfl) (by omega) (by omega) (nar_b (by omega)) dX9_workOut_136 (fun H locs hH hw => ?_)
              obtain ⟨ig27, eig27⟩ : ∃ f, f = up2 ig21 (B + 34) x.toInt.toNat z25 := ⟨_, rfl⟩
              rw [← eig27] at hw
              have hN : Nx 990 B none kd ig rg lg kd20 ig27 rg22 lg23 := by rw [eig27]; exact hN.pi (by omega)
              have hI : IC τ B kd20 ig27 rg22 := by rw [eig27]; exact hI.pi (show okR none _ from trivial)
              have wig27_32_6 : (ig27 (B + 32) 6).toInt = (ig21 (B + 32) 6).toInt := by rw [eig27, up2_a (by omega)]
              have wig27_32_7 : (ig27 (B + 32) 7).toInt = (ig21 (B + 32) 7).toInt := by rw [eig27, up2_a (by omega)]
              exact r_vret C hw hr hlk (Nat.le_of_ble_eq_true rfl) (Nat.le_of_ble_eq_true rfl) dX9_workOut_137 ⟨hI, hN, rfl⟩
            · refine lv_aload_n hx hb dX9_workOut_93 rfl (lv_at hl 1 rfl) ?_
              refine r_get C hw (hsh 32 _ rfl) fl_X9_19 (oV_r rfl (hrs (32, 2, 33) (by decide))) dX9_workOut_94 ?_
              refine lv_iload_n hx hb dX9_workOut_97 rfl (lv_at hl 2 rfl) ?_
              refine lv_iconst (v := 3) hx hb dX9_workOut_98 (by decide) (ti_c 3 (by decide) fun z28 hz28 => ?_)
              refine lv_imul hx hb dX9_workOut_99 (tc_mulR 3 hz28 fun z29 hz29 => ?_)
              first | replace hz29 := hz29 (by omega) | clear hz29
              refine lv_iload_n hx hb dX9_workOut_100 rfl (lv_at hl 0 rfl) ?_
              refine lv_iadd hx hb dX9_workOut_101 (tc_add fun z30 hz30 => ?_)
              first | replace hz30 := hz30 (by omega) | clear hz30
              refine lv_aload_n hx hb dX9_workOut_102 rfl (lv_at hl 1 rfl) ?_
              refine r_get C hw (hsh 32 _ rfl) fl_X9_87 (oV_i rfl) dX9_workOut_103 (ti_c (ig21 (B + 32) 6).toInt rfl fun z31 hz31 => ?_)
              have k32 : 0 ≤ (ig21 (B + 32) 6).toInt ∧ (ig21 (B + 32) 6).toInt ≤ 32 := hI.i 32 6 (by decide)
              refine lv_iconst (v := 1) hx hb dX9_workOut_106 (by decide) (ti_c 1 (by decide) fun z33 hz33 => ?_)
              refine b_ne (tgt := 119) hx hb dX9_workOut_107 (by decide) (fun c107 => ?_) (fun c107 => ?_)
              · refine lv_iconst (v := 0) hx hb dX9_workOut_119 (by decide) (ti_c 0 (by decide) fun z34 hz34 => ?_)
                refine r_iast C hw (hsh 33 _ rfl) (by omega) (by omega) dX9_workOut_120 (fun H locs hH hw => ?_)
                obtain ⟨ig35, eig35⟩ : ∃ f, f = up2 ig21 (B + 33) z30.toInt.toNat z34 := ⟨_, rfl⟩
                rw [← eig35] at hw
                have hN : Nx 990 B none kd ig rg lg kd20 ig35 rg22 lg23 := by rw [eig35]; exact hN.pi (by omega)
                have hI : IC τ B kd20 ig35 rg22 := by rw [eig35]; exact hI.pi (show okR none _ from trivial)
                have wig35_32_6 : (ig35 (B + 32) 6).toInt = (ig21 (B + 32) 6).toInt := by rw [eig35, up2_a (by omega)]
                have wig35_32_7 : (ig35 (B + 32) 7).toInt = (ig21 (B + 32) 7).toInt := by rw [eig35, up2_a (by omega)]
                refine tc_inc hx hb dX9_workOut_121 hl (k := 0) rfl (by decide) (by decide) (fun z36 hz36 ls hl => ?_)
                first | replace hz36 := hz36 (by omega) | clear hz36
                have hl : lv_has ls 5 [(3, .int z36), (0, .ref (B + 32)), (1, .int x)] := hl
                refine lv_goto (tgt := 88) hx hb dX9_workOut_124 (by decide) ?_
                exact ih88 ls H locs kd20 ig35 rg22 lg23 z36 (lv_sub hl [0, 1, 2] rfl) hw hI hN (by omega) (by omega) (by omega)
              · refine lv_aload_n hx hb dX9_workOut_110 rfl (lv_at hl 1 rfl) ?_
                refine r_get C hw (hsh 32 _ rfl) fl_X9_30 (oV_r rfl (hrs (32, 5, 36) (by decide))) dX9_workOut_111 ?_
                refine lv_iload_n hx hb dX9_workOut_114 rfl (lv_at hl 0 rfl) ?_
                refine r_iald C hw (hsh 36 _ rfl) (by omega) (by omega) dX9_workOut_115 (ti_c (ig21 (B + 36) v19.toInt.toNat).toInt rfl fun z37 hz37 => ?_)
                refine lv_goto (tgt := 120) hx hb dX9_workOut_116 (by decide) ?_
                refine r_iast C hw (hsh 33 _ rfl) (by omega) (by omega) dX9_workOut_120 (fun H locs hH hw => ?_)
                obtain ⟨ig38, eig38⟩ : ∃ f, f = up2 ig21 (B + 33) z30.toInt.toNat z37 := ⟨_, rfl⟩
                rw [← eig38] at hw
                have hN : Nx 990 B none kd ig rg lg kd20 ig38 rg22 lg23 := by rw [eig38]; exact hN.pi (by omega)
                have hI : IC τ B kd20 ig38 rg22 := by rw [eig38]; exact hI.pi (show okR none _ from trivial)
                have wig38_32_6 : (ig38 (B + 32) 6).toInt = (ig21 (B + 32) 6).toInt := by rw [eig38, up2_a (by omega)]
                have wig38_32_7 : (ig38 (B + 32) 7).toInt = (ig21 (B + 32) 7).toInt := by rw [eig38, up2_a (by omega)]
                refine tc_inc hx hb dX9_workOut_121 hl (k := 0) rfl (by decide) (by decide) (fun z39 hz39 ls hl => ?_)
                first | replace hz39 := hz39 (by omega) | clear hz39
                have hl : lv_has ls 5 [(3, .int z39), (0, .ref (B + 32)), (1, .int x)] := hl
                refine lv_goto (tgt := 88) hx hb dX9_workOut_124 (by decide) ?_
                exact ih88 ls H locs kd20 ig38 rg22 lg23 z39 (lv_sub hl [0, 1, 2] rfl) hw hI hN (by omega) (by omega) (by omega)
        exact L88 ((3 - z18.toInt) + 1).toNat ls H locs kd7 ig8 rg9 lg10 z18 (lv_sub hl [0, 1, 2] rfl) hw hI hN (by omega) (by omega) (by omega)
      · refine lv_aload_n hx hb dX9_workOut_20 rfl (lv_at hl 3 rfl) ?_
        refine lv_iload_n hx hb dX9_workOut_21 rfl (lv_at hl 0 rfl) ?_
        refine r_callV (As := [.int v6]) (rest := []) C hw (t_X4_stepAt l B D cA kd7 ig8 rg9 lg10 _ g ng Fg v6  hI) sv_X9_95 (isFn.k Fg) rfl hl.1 rfl (Nat.le_of_ble_eq_true rfl) ⟨Nat.le_of_ble_eq_true rfl, Nat.le_of_ble_eq_true rfl⟩ ⟨Nat.le_of_ble_eq_true rfl, Nat.le_of_ble_eq_true rfl⟩ dX9_workOut_22 (fun r44 kd40 ig41 rg42 lg43 H locs hw hH hp45 => ?_)
        obtain ⟨rfl, rfl, rfl, rfl, hzhp45, hrhp45⟩ := hp45
        obtain ⟨z46, rfl, hz46⟩ := hrhp45
        refine lv_istore (lv' := [(4, .int z46), (3, .int v6), (0, .ref (B + 32)), (1, .int x), (2, .ref g)]) hx hb dX9_workOut_25 hl (by decide) rfl (fun ls hl => ?_)
        refine lv_iload hx hb dX9_workOut_27 (lv_at hl 0 rfl) ?_
        refine z_ne (tgt := 40) hx hb dX9_workOut_29 (by decide) (fun c29 => ?_) (fun c29 => ?_)
        · refine lv_aload_n hx hb dX9_workOut_40 rfl (lv_at hl 4 rfl) ?_
          refine lv_iload_n hx hb dX9_workOut_41 rfl (lv_at hl 1 rfl) ?_
          refine r_callV (As := [.int v6]) (rest := []) C hw (t_X4_readsAt l B D cA kd7 ig8 rg9 lg10 _ g ng Fg v6  hI) sv_X9_102 (isFn.k Fg) rfl hl.1 rfl (Nat.le_of_ble_eq_true rfl) ⟨Nat.le_of_ble_eq_true rfl, Nat.le_of_ble_eq_true rfl⟩ ⟨Nat.le_of_ble_eq_true rfl, Nat.le_of_ble_eq_true rfl⟩ dX9_workOut_42 (fun r51 kd47 ig48 rg49 lg50 H locs hw hH hp52 => ?_)
          obtain ⟨rfl, rfl, rfl, rfl, hzhp52, hrhp52⟩ := hp52
          obtain ⟨z53, rfl, hz53⟩ := hrhp52
          refine z_eq (tgt := 62) hx hb dX9_workOut_45 (by decide) (fun c45 => ?_) (fun c45 => ?_)
          · refine lv_iload hx hb dX9_workOut_62 (lv_at hl 0 rfl) ?_
            refine lv_iconst (v := 4) hx hb dX9_workOut_64 (by decide) (ti_c 4 (by decide) fun z54 hz54 => ?_)
            refine b_eq (tgt := 80) hx hb dX9_workOut_65 (by decide) (fun c65 => ?_) (fun c65 => ?_)
            · refine tc_inc hx hb dX9_workOut_80 hl (k := 1) rfl (by decide) (by decide) (fun z55 hz55 ls hl => ?_)
              first | replace hz55 := hz55 (by omega) | clear hz55
              have hl : lv_has ls 5 [(3, .int z55), (4, .int z46), (0, .ref (B + 32)), (1, .int x), (2, .ref g)] := hl
              refine lv_goto (tgt := 12) hx hb dX9_workOut_83 (by decide) ?_
              exact ih12 ls H locs kd7 ig8 rg9 lg10 z55 (lv_sub hl [0, 2, 3, 4] rfl) hw hI hN Fg (by omega) (by omega) (by omega)
            · refine lv_iload hx hb dX9_workOut_68 (lv_at hl 0 rfl) ?_
              refine lv_iconst (v := 3) hx hb dX9_workOut_70 (by decide) (ti_c 3 (by decide) fun z56 hz56 => ?_)
              refine b_eq (tgt := 80) hx hb dX9_workOut_71 (by decide) (fun c71 => ?_) (fun c71 => ?_)
              · refine tc_inc hx hb dX9_workOut_80 hl (k := 1) rfl (by decide) (by decide) (fun z57 hz57 ls hl => ?_)
                first | replace hz57 := hz57 (by omega) | clear hz57
                have hl : lv_has ls 5 [(3, .int z57), (4, .int z46), (0, .ref (B + 32)), (1, .int x), (2, .ref g)] := hl
                refine lv_goto (tgt := 12) hx hb dX9_workOut_83 (by decide) ?_
                exact ih12 ls H locs kd7 ig8 rg9 lg10 z57 (lv_sub hl [0, 2, 3, 4] rfl) hw hI hN Fg (by omega) (by omega) (by omega)
              · refine lv_aload_n hx hb dX9_workOut_74 rfl (lv_at hl 2 rfl) ?_
                refine lv_iload hx hb dX9_workOut_75 (lv_at hl 0 rfl) ?_
                refine r_callV (As := [.int z46]) (rest := []) C hw (t_X9_join l B D cA kd7 ig8 rg9 lg10 _ z46  hI) sv_X9_109 (hsh 32 _ rfl) rfl hl.1 rfl (Nat.le_of_ble_eq_true rfl) ⟨Nat.le_of_ble_eq_true rfl, Nat.le_of_ble_eq_true rfl⟩ ⟨Nat.le_of_ble_eq_true rfl, Nat.le_of_ble_eq_true rfl⟩ dX9_workOut_77 (fun r62 kd58 ig59 rg60 lg61 H locs hw hH hp63 => ?_)
                obtain ⟨hI, hchp63, hrhp63⟩ := hp63
                have Fg := Nx.F hchp63 Fg
                have hN := hN.tr hchp63
                have hsh := hI.sh
                have hrs := hI.rs
                obtain rfl := hrhp63
                refine tc_inc hx hb dX9_workOut_80 hl (k := 1) rfl (by decide) (by decide) (fun z64 hz64 ls hl => ?_)
                first | replace hz64 := hz64 (by omega) | clear hz64
                have hl : lv_has ls 5 [(3, .int z64), (4, .int z46), (0, .ref (B + 32)), (1, .int x), (2, .ref g)] := hl
                refine lv_goto (tgt := 12) hx hb dX9_workOut_83 (by decide) ?_
                exact ih12 ls H locs kd58 ig59 rg60 lg61 z64 (lv_sub hl [0, 2, 3, 4] rfl) hw hI hN Fg (by omega) (by omega) (by omega)
          · refine lv_aload_n hx hb dX9_workOut_48 rfl (lv_at hl 2 rfl) ?_
            refine lv_aload_n hx hb dX9_workOut_49 rfl (lv_at hl 2 rfl) ?_
            refine lv_iload_n hx hb dX9_workOut_50 rfl (lv_at hl 3 rfl) ?_
            refine lv_aload_n hx hb dX9_workOut_51 rfl (lv_at hl 4 rfl) ?_
            refine lv_iload_n hx hb dX9_workOut_52 rfl (lv_at hl 1 rfl) ?_
            refine r_callV (As := [.int x, .ref g, .int v6]) (rest := [.ref (B + 32)]) C hw (t_X9_firstFilled l B D cA kd7 ig8 rg9 lg10 _ x g ng Fg v6  hI) sv_X9_105 (hsh 32 _ rfl) rfl hl.1 rfl (Nat.le_of_ble_eq_true rfl) ⟨Nat.le_of_ble_eq_true rfl, Nat.le_of_ble_eq_true rfl⟩ ⟨Nat.le_of_ble_eq_true rfl, Nat.le_of_ble_eq_true rfl⟩ dX9_workOut_53 (fun r69 kd65 ig66 rg67 lg68 H locs hw hH hp70 => ?_)
            obtain ⟨hI, hchp70, hrhp70⟩ := hp70
            have Fg := Nx.F hchp70 Fg
            have hN := hN.tr hchp70
            have hsh := hI.sh
            have hrs := hI.rs
            obtain ⟨z71, rfl, hz71⟩ := hrhp70
            refine r_callV (As := [.int z71]) (rest := []) C hw (t_X9_pushUnitOf l B D cA kd65 ig66 rg67 lg68 _ z71  hI) sv_X9_98 (hsh 32 _ rfl) rfl hl.1 rfl (Nat.le_of_ble_eq_true rfl) ⟨Nat.le_of_ble_eq_true rfl, Nat.le_of_ble_eq_true rfl⟩ ⟨Nat.le_of_ble_eq_true rfl, Nat.le_of_ble_eq_true rfl⟩ dX9_workOut_56 (fun r76 kd72 ig73 rg74 lg75 H locs hw hH hp77 => ?_)
            obtain ⟨hI, hchp77, hrhp77⟩ := hp77
            have Fg := Nx.F hchp77 Fg
            have hN := hN.tr hchp77
            have hsh := hI.sh
            have hrs := hI.rs
            obtain rfl := hrhp77
            refine lv_goto (tgt := 80) hx hb dX9_workOut_59 (by decide) ?_
            refine tc_inc hx hb dX9_workOut_80 hl (k := 1) rfl (by decide) (by decide) (fun z78 hz78 ls hl => ?_)
            first | replace hz78 := hz78 (by omega) | clear hz78
            have hl : lv_has ls 5 [(3, .int z78), (4, .int z46), (0, .ref (B + 32)), (1, .int x), (2, .ref g)] := hl
            refine lv_goto (tgt := 12) hx hb dX9_workOut_83 (by decide) ?_
            exact ih12 ls H locs kd72 ig73 rg74 lg75 z78 (lv_sub hl [0, 2, 3, 4] rfl) hw hI hN Fg (by omega) (by omega) (by omega)
        · refine lv_aload_n hx hb dX9_workOut_32 rfl (lv_at hl 2 rfl) ?_
          refine lv_iconst (v := (-1)) hx hb dX9_workOut_33 (by decide) (ti_c (-1) (by decide) fun z79 hz79 => ?_)
          refine r_callV (As := [.int z79]) (rest := []) C hw (t_X9_pushUnitOf l B D cA kd7 ig8 rg9 lg10 _ z79  hI) sv_X9_98 (hsh 32 _ rfl) rfl hl.1 rfl (Nat.le_of_ble_eq_true rfl) ⟨Nat.le_of_ble_eq_true rfl, Nat.le_of_ble_eq_true rfl⟩ ⟨Nat.le_of_ble_eq_true rfl, Nat.le_of_ble_eq_true rfl⟩ dX9_workOut_34 (fun r84 kd80 ig81 rg82 lg83 H locs hw hH hp85 => ?_)
          obtain ⟨hI, hchp85, hrhp85⟩ := hp85
          have Fg := Nx.F hchp85 Fg
          have hN := hN.tr hchp85
          have hsh := hI.sh
          have hrs := hI.rs
          obtain rfl := hrhp85
          refine lv_goto (tgt := 80) hx hb dX9_workOut_37 (by decide) ?_
          refine tc_inc hx hb dX9_workOut_80 hl (k := 1) rfl (by decide) (by decide) (fun z86 hz86 ls hl => ?_)
          first | replace hz86 := hz86 (by omega) | clear hz86
          have hl : lv_has ls 5 [(3, .int z86), (4, .int z46), (0, .ref (B + 32)), (1, .int x), (2, .ref g)] := hl
          refine lv_goto (tgt := 12) hx hb dX9_workOut_83 (by decide) ?_
          exact ih12 ls H locs kd80 ig81 rg82 lg83 z86 (lv_sub hl [0, 2, 3, 4] rfl) hw hI hN Fg (by omega) (by omega) (by omega)
  exact L12 ((120 - z5.toInt) + 1).toNat ls H locs kd ig4 rg lg z5 (lv_sub hl [0, 1, 2, 3] rfl) hw hI hN Fg (by omega) (by omega) (by omega)

set_option maxHeartbeats 4000000 in
set_option maxRecDepth 100000 in
theorem t_X9_settle {τ : Tp} (l : Launch) (B : Nat) (D : va_G) (cA : Nat → ClassId) (kd : sK) (ig : sI) (rg : sR) (lg : sG) (sz : Nat)  (hI : IC τ B kd ig rg) : MC l B D cA yX9_settle cX9_settle 4 none (rL 6 0 0) [.ref (B + 32)] kd ig rg lg sz (PI 982 τ B none kd ig rg lg (fun r kd' ig' rg' lg' => r = none)) := by
  refine MC.of (own := RX9) (by decide +kernel) rfl (Nat.le_of_ble_eq_true rfl) ?_
  intro p e s m args below meth c ls C hr hlk hnm hw hsz hl
  have hx := C.1.1
  have hb := C.1.2.1
  have hown := C.1.2.2.2.1
  have hts := C.1.2.2.2.2
  have hl : lv_has ls 4 [(0, .ref (B + 32))] := hl
  have hN : Nx 982 B none kd ig rg lg kd ig rg lg := Nx.rf
  have hsh := hI.sh
  have hrs := hI.rs
  refine lv_aload_n hx hb dX9_settle_0 rfl (lv_at hl 0 rfl) ?_
  refine r_get C hw (hsh 32 _ rfl) fl_X9_33 (oV_i rfl) dX9_settle_1 (ti_c (ig (B + 32) 8).toInt rfl fun z1 hz1 => ?_)
  refine lv_aload_n hx hb dX9_settle_4 rfl (lv_at hl 0 rfl) ?_
  refine r_get C hw (hsh 32 _ rfl) fl_X9_9 (oV_r rfl (hrs (32, 0, 9) (by decide))) dX9_settle_5 ?_
  refine r_get C hw (hsh 9 _ rfl) fl_X9_37 (oV_i rfl) dX9_settle_8 (ti_c (ig (B + 9) 6).toInt rfl fun z2 hz2 => ?_)
  refine b_ne (tgt := 15) hx hb dX9_settle_11 (by decide) (fun c11 => ?_) (fun c11 => ?_)
  · refine lv_aload_n hx hb dX9_settle_15 rfl (lv_at hl 0 rfl) ?_
    refine lv_aload_n hx hb dX9_settle_16 rfl (lv_at hl 0 rfl) ?_
    refine r_get C hw (hsh 32 _ rfl) fl_X9_9 (oV_r rfl (hrs (32, 0, 9) (by decide))) dX9_settle_17 ?_
    refine r_get C hw (hsh 9 _ rfl) fl_X9_37 (oV_i rfl) dX9_settle_20 (ti_c (ig (B + 9) 6).toInt rfl fun z3 hz3 => ?_)
    refine r_puti C hw (hsh 32 _ rfl) fl_X9_33 rfl rfl rfl dX9_settle_23 (fun H locs hH hw => ?_)
    obtain ⟨ig4, eig4⟩ : ∃ f, f = up2 ig (B + 32) 8 z3 := ⟨_, rfl⟩
    rw [← eig4] at hw
    have hN : Nx 982 B none kd ig rg lg kd ig4 rg lg := by rw [eig4]; exact hN.pi (by omega)
    have hI : IC τ B kd ig4 rg := by rw [eig4]; exact hI.pi (show okR none _ from trivial)
    refine lv_aload_n hx hb dX9_settle_26 rfl (lv_at hl 0 rfl) ?_
    refine r_get C hw (hsh 32 _ rfl) fl_X9_15 (oV_r rfl (hrs (32, 1, 15) (by decide))) dX9_settle_27 ?_
    refine r_callV (As := []) (rest := []) C hw (t_X5_settle l B D cA kd ig4 rg lg _   hI) sv_X9_40 (hsh 15 _ rfl) rfl hl.1 rfl (Nat.le_of_ble_eq_true rfl) ⟨Nat.le_of_ble_eq_true rfl, Nat.le_of_ble_eq_true rfl⟩ ⟨Nat.le_of_ble_eq_true rfl, Nat.le_of_ble_eq_true rfl⟩ dX9_settle_30 (fun r9 kd5 ig6 rg7 lg8 H locs hw hH hp10 => ?_)
    obtain ⟨hI, hchp10, hrhp10⟩ := hp10
    have hN := hN.tr hchp10
    have hsh := hI.sh
    have hrs := hI.rs
    obtain rfl := hrhp10
    refine lv_iconst (v := 0) hx hb dX9_settle_33 (by decide) (ti_c 0 (by decide) fun z11 hz11 => ?_)
    refine lv_istore_n (lv' := [(1, .int z11), (0, .ref (B + 32))]) hx hb dX9_settle_34 rfl hl (by decide) rfl (fun ls hl => ?_)
    have L35 : ∀ (n : Nat) (ls : Array Slot) (H : Heap) (locs : List Loc) (kd13 : sK) (ig14 : sI) (rg15 : sR) (lg16 : sG) (v12 : Int32), lv_has ls 4 [(1, .int v12), (0, .ref (B + 32))] → WD B D cA s.heap kd13 ig14 rg15 lg16 H locs → IC τ B kd13 ig14 rg15 → Nx 982 B none kd ig rg lg kd13 ig14 rg15 lg16 → (0 ≤ v12.toInt) → (v12.toInt ≤ 288) → 288 - v12.toInt < (n : Int) → W p l e (rL 6 0 0) s m args below meth c H locs 0 0 (MQ below (QcW B D cA (PI 982 τ B none kd ig rg lg (fun r kd' ig' rg' lg' => r = none))) args s 0 0 (fun q => B ≤ q)) (F0 m 35 ls []) := by
      intro n35
      induction n35 with
      | zero => intro ls H locs kd13 ig14 rg15 lg16 v12 hl hw hI hN g35_0 g35_1 hmu; exact absurd hmu (by omega)
      | succ n35 ih35 =>
        intro ls H locs kd13 ig14 rg15 lg16 v12 hl hw hI hN g35_0 g35_1 hmu
        have hsh := hI.sh
        have hrs := hI.rs
        refine lv_iload_n hx hb dX9_settle_35 rfl (lv_at hl 0 rfl) ?_
        refine lv_sipush (v := 288) hx hb dX9_settle_36 (by decide) (ti_c 288 (by decide) fun z17 hz17 => ?_)
        refine b_ge (tgt := 104) hx hb dX9_settle_39 (by decide) (fun c39 => ?_) (fun c39 => ?_)
        · refine lv_iconst (v := 0) hx hb dX9_settle_104 (by decide) (ti_c 0 (by decide) fun z18 hz18 => ?_)
          refine lv_istore_n (lv' := [(1, .int z18), (0, .ref (B + 32))]) hx hb dX9_settle_105 rfl hl (by decide) rfl (fun ls hl => ?_)
          have L106 : ∀ (n : Nat) (ls : Array Slot) (H : Heap) (locs : List Loc) (kd20 : sK) (ig21 : sI) (rg22 : sR) (lg23 : sG) (v19 : Int32), lv_has ls 4 [(1, .int v19), (0, .ref (B + 32))] → WD B D cA s.heap kd20 ig21 rg22 lg23 H locs → IC τ B kd20 ig21 rg22 → Nx 982 B none kd ig rg lg kd20 ig21 rg22 lg23 → (0 ≤ v19.toInt) → (v19.toInt ≤ 288) → 288 - v19.toInt < (n : Int) → W p l e (rL 6 0 0) s m args below meth c H locs 0 0 (MQ below (QcW B D cA (PI 982 τ B none kd ig rg lg (fun r kd' ig' rg' lg' => r = none))) args s 0 0 (fun q => B ≤ q)) (F0 m 106 ls []) := by
            intro n106
            induction n106 with
            | zero => intro ls H locs kd20 ig21 rg22 lg23 v19 hl hw hI hN g106_0 g106_1 hmu; exact absurd hmu (by omega)
            | succ n106 ih106 =>
              intro ls H locs kd20 ig21 rg22 lg23 v19 hl hw hI hN g106_0 g106_1 hmu
              have hsh := hI.sh
              have hrs := hI.rs
              refine lv_iload_n hx hb dX9_settle_106 rfl (lv_at hl 0 rfl) ?_
              refine lv_aload_n hx hb dX9_settle_107 rfl (lv_at hl 1 rfl) ?_
              refine r_get C hw (hsh 32 _ rfl) fl_X9_15 (oV_r rfl (hrs (32, 1, 15) (by decide))) dX9_settle_108 ?_
              refine r_callV (As := []) (rest := [.int v19]) C hw (t_X5_orderSize l B D cA kd20 ig21 rg22 lg23 _   hI) sv_X9_60 (hsh 15 _ rfl) rfl hl.1 rfl (Nat.le_of_ble_eq_true rfl) ⟨Nat.le_of_ble_eq_true rfl, Nat.le_of_ble_eq_true rfl⟩ ⟨Nat.le_of_ble_eq_true rfl, Nat.le_of_ble_eq_true rfl⟩ dX9_settle_111 (fun r28 kd24 ig25 rg26 lg27 H locs hw hH hp29 => ?_)
              obtain ⟨rfl, rfl, rfl, rfl, hzhp29, hrhp29⟩ := hp29
              obtain ⟨z30, rfl, hz30⟩ := hrhp29
              refine b_ge (tgt := 169) hx hb dX9_settle_114 (by decide) (fun c114 => ?_) (fun c114 => ?_)
              · exact r_vret C hw hr hlk (Nat.le_of_ble_eq_true rfl) (Nat.le_of_ble_eq_true rfl) dX9_settle_169 ⟨hI, hN, rfl⟩
              · refine lv_aload_n hx hb dX9_settle_117 rfl (lv_at hl 1 rfl) ?_
                refine r_get C hw (hsh 32 _ rfl) fl_X9_15 (oV_r rfl (hrs (32, 1, 15) (by decide))) dX9_settle_118 ?_
                refine lv_iload_n hx hb dX9_settle_121 rfl (lv_at hl 0 rfl) ?_
                refine r_callV (As := [.int v19]) (rest := []) C hw (t_X5_inOrder l B D cA kd20 ig21 rg22 lg23 _ v19  hI) sv_X9_64 (hsh 15 _ rfl) rfl hl.1 rfl (Nat.le_of_ble_eq_true rfl) ⟨Nat.le_of_ble_eq_true rfl, Nat.le_of_ble_eq_true rfl⟩ ⟨Nat.le_of_ble_eq_true rfl, Nat.le_of_ble_eq_true rfl⟩ dX9_settle_122 (fun r35 kd31 ig32 rg33 lg34 H locs hw hH hp36 => ?_)
                obtain ⟨rfl, rfl, rfl, rfl, hzhp36, hrhp36⟩ := hp36
                obtain ⟨z37, rfl, hz37⟩ := hrhp36
                refine lv_istore_n (lv' := [(2, .int z37), (1, .int v19), (0, .ref (B + 32))]) hx hb dX9_settle_125 rfl hl (by decide) rfl (fun ls hl => ?_)
                refine lv_aload_n hx hb dX9_settle_126 rfl (lv_at hl 2 rfl) ?_
                refine r_get C hw (hsh 32 _ rfl) fl_X9_9 (oV_r rfl (hrs (32, 0, 9) (by decide))) dX9_settle_127 ?_
                refine lv_iload_n hx hb dX9_settle_130 rfl (lv_at hl 0 rfl) ?_
                refine r_callV (As := [.int z37]) (rest := []) C hw (t_X6_formulaAt l B D cA kd20 ig21 rg22 lg23 _ z37  hI) sv_X9_68 (hsh 9 _ rfl) rfl hl.1 rfl (Nat.le_of_ble_eq_true rfl) ⟨Nat.le_of_ble_eq_true rfl, Nat.le_of_ble_eq_true rfl⟩ ⟨Nat.le_of_ble_eq_true rfl, Nat.le_of_ble_eq_true rfl⟩ dX9_settle_131 (fun r42 kd38 ig39 rg40 lg41 H locs hw hH hp43 => ?_)
                obtain ⟨rfl, rfl, rfl, rfl, hzhp43, hrhp43⟩ := hp43
                rcases hrhp43 with rfl | ⟨f44, nf44, rfl, Ff44⟩
                · refine lv_astore_nN (lv' := [(3, .null), (2, .int z37), (1, .int v19), (0, .ref (B + 32))]) hx hb dX9_settle_134 rfl hl (by decide) rfl (fun ls hl => ?_)
                  refine lv_iload_n hx hb dX9_settle_135 rfl (lv_at hl 1 rfl) ?_
                  refine r_callN (As := [.int z37]) (rest := []) C hw (t_X11_onSheet l B D cA kd20 ig21 rg22 lg23 _ z37  hI) sn_X9_72 rfl hl.1 rfl (Nat.le_of_ble_eq_true rfl) ⟨Nat.le_of_ble_eq_true rfl, Nat.le_of_ble_eq_true rfl⟩ ⟨Nat.le_of_ble_eq_true rfl, Nat.le_of_ble_eq_true rfl⟩ dX9_settle_136 (fun r49 kd45 ig46 rg47 lg48 H locs hw hH hp50 => ?_)
                  obtain ⟨rfl, rfl, rfl, rfl, hzhp50, hrhp50⟩ := hp50
                  obtain ⟨z51, rfl, hz51⟩ := hrhp50
                  refine z_eq (tgt := 163) hx hb dX9_settle_139 (by decide) (fun c139 => ?_) (fun c139 => ?_)
                  · refine tc_inc hx hb dX9_settle_163 hl (k := 2) rfl (by decide) (by decide) (fun z52 hz52 ls hl => ?_)
                    first | replace hz52 := hz52 (by omega) | clear hz52
                    have hl : lv_has ls 4 [(1, .int z52), (3, .null), (2, .int z37), (0, .ref (B + 32))] := hl
                    refine lv_goto (tgt := 106) hx hb dX9_settle_166 (by decide) ?_
                    exact ih106 ls H locs kd20 ig21 rg22 lg23 z52 (lv_sub hl [0, 3] rfl) hw hI hN (by omega) (by omega) (by omega)
                  · refine lv_aload_nN hx hb dX9_settle_142 rfl (lv_at hl 0 rfl) ?_
                    refine lv_ifnullN (tgt := 163) hx hb dX9_settle_143 (by decide) ?_
                    refine tc_inc hx hb dX9_settle_163 hl (k := 2) rfl (by decide) (by decide) (fun z53 hz53 ls hl => ?_)
                    first | replace hz53 := hz53 (by omega) | clear hz53
                    have hl : lv_has ls 4 [(1, .int z53), (3, .null), (2, .int z37), (0, .ref (B + 32))] := hl
                    refine lv_goto (tgt := 106) hx hb dX9_settle_166 (by decide) ?_
                    exact ih106 ls H locs kd20 ig21 rg22 lg23 z53 (lv_sub hl [0, 3] rfl) hw hI hN (by omega) (by omega) (by omega)
                · have lf44 := isFn.le Ff44
                  refine lv_astore_n (lv' := [(3, .ref f44), (2, .int z37), (1, .int v19), (0, .ref (B + 32))]) hx hb dX9_settle_134 rfl hl (by decide) rfl (fun ls hl => ?_)
                  refine lv_iload_n hx hb dX9_settle_135 rfl (lv_at hl 1 rfl) ?_
                  refine r_callN (As := [.int z37]) (rest := []) C hw (t_X11_onSheet l B D cA kd20 ig21 rg22 lg23 _ z37  hI) sn_X9_72 rfl hl.1 rfl (Nat.le_of_ble_eq_true rfl) ⟨Nat.le_of_ble_eq_true rfl, Nat.le_of_ble_eq_true rfl⟩ ⟨Nat.le_of_ble_eq_true rfl, Nat.le_of_ble_eq_true rfl⟩ dX9_settle_136 (fun r58 kd54 ig55 rg56 lg57 H locs hw hH hp59 => ?_)
                  obtain ⟨rfl, rfl, rfl, rfl, hzhp59, hrhp59⟩ := hp59
                  obtain ⟨z60, rfl, hz60⟩ := hrhp59
                  refine z_eq (tgt := 163) hx hb dX9_settle_139 (by decide) (fun c139 => ?_) (fun c139 => ?_)
                  · refine tc_inc hx hb dX9_settle_163 hl (k := 2) rfl (by decide) (by decide) (fun z61 hz61 ls hl => ?_)
                    first | replace hz61 := hz61 (by omega) | clear hz61
                    have hl : lv_has ls 4 [(1, .int z61), (3, .ref f44), (2, .int z37), (0, .ref (B + 32))] := hl
                    refine lv_goto (tgt := 106) hx hb dX9_settle_166 (by decide) ?_
                    exact ih106 ls H locs kd20 ig21 rg22 lg23 z61 (lv_sub hl [0, 3] rfl) hw hI hN (by omega) (by omega) (by omega)
                  · refine lv_aload_n hx hb dX9_settle_142 rfl (lv_at hl 0 rfl) ?_
                    refine lv_ifnull hx hb dX9_settle_143 ?_
                    refine lv_aload_n hx hb dX9_settle_146 rfl (lv_at hl 3 rfl) ?_
                    refine r_get C hw (hsh 32 _ rfl) fl_X9_15 (oV_r rfl (hrs (32, 1, 15) (by decide))) dX9_settle_147 ?_
                    refine lv_iload_n hx hb dX9_settle_150 rfl (lv_at hl 1 rfl) ?_
                    refine r_callV (As := [.int z37]) (rest := []) C hw (t_X5_inRing l B D cA kd20 ig21 rg22 lg23 _ z37  hI) sv_X9_76 (hsh 15 _ rfl) rfl hl.1 rfl (Nat.le_of_ble_eq_true rfl) ⟨Nat.le_of_ble_eq_true rfl, Nat.le_of_ble_eq_true rfl⟩ ⟨Nat.le_of_ble_eq_true rfl, Nat.le_of_ble_eq_true rfl⟩ dX9_settle_151 (fun r66 kd62 ig63 rg64 lg65 H locs hw hH hp67 => ?_)
                    obtain ⟨rfl, rfl, rfl, rfl, hzhp67, hrhp67⟩ := hp67
                    obtain ⟨z68, rfl, hz68⟩ := hrhp67
                    refine z_ne (tgt := 163) hx hb dX9_settle_154 (by decide) (fun c154 => ?_) (fun c154 => ?_)
                    · refine tc_inc hx hb dX9_settle_163 hl (k := 2) rfl (by decide) (by decide) (fun z69 hz69 ls hl => ?_)
                      first | replace hz69 := hz69 (by omega) | clear hz69
                      have hl : lv_has ls 4 [(1, .int z69), (3, .ref f44), (2, .int z37), (0, .ref (B + 32))] := hl
                      refine lv_goto (tgt := 106) hx hb dX9_settle_166 (by decide) ?_
                      exact ih106 ls H locs kd20 ig21 rg22 lg23 z69 (lv_sub hl [0, 3] rfl) hw hI hN (by omega) (by omega) (by omega)
                    · refine lv_aload_n hx hb dX9_settle_157 rfl (lv_at hl 3 rfl) ?_
                      refine lv_iload_n hx hb dX9_settle_158 rfl (lv_at hl 1 rfl) ?_
                      refine lv_aload_n hx hb dX9_settle_159 rfl (lv_at hl 0 rfl) ?_
                      refine r_callV (As := [.int z37, .ref f44]) (rest := []) C hw (t_X9_workOut l B D cA kd20 ig21 rg22 lg23 _ z37 f44 nf44 Ff44 (by omega) hI) sv_X9_79 (hsh 32 _ rfl) rfl hl.1 rfl (Nat.le_of_ble_eq_true rfl) ⟨Nat.le_of_ble_eq_true rfl, Nat.le_of_ble_eq_true rfl⟩ ⟨Nat.le_of_ble_eq_true rfl, Nat.le_of_ble_eq_true rfl⟩ dX9_settle_160 (fun r74 kd70 ig71 rg72 lg73 H locs hw hH hp75 => ?_)
                      obtain ⟨hI, hchp75, hrhp75⟩ := hp75
                      have hN := hN.tr hchp75
                      have hsh := hI.sh
                      have hrs := hI.rs
                      obtain rfl := hrhp75
                      refine tc_inc hx hb dX9_settle_163 hl (k := 2) rfl (by decide) (by decide) (fun z76 hz76 ls hl => ?_)
                      first | replace hz76 := hz76 (by omega) | clear hz76
                      have hl : lv_has ls 4 [(1, .int z76), (3, .ref f44), (2, .int z37), (0, .ref (B + 32))] := hl
                      refine lv_goto (tgt := 106) hx hb dX9_settle_166 (by decide) ?_
                      exact ih106 ls H locs kd70 ig71 rg72 lg73 z76 (lv_sub hl [0, 3] rfl) hw hI hN (by omega) (by omega) (by omega)
          exact L106 ((288 - z18.toInt) + 1).toNat ls H locs kd13 ig14 rg15 lg16 z18 (lv_sub hl [0, 1] rfl) hw hI hN (by omega) (by omega) (by omega)
        · refine lv_aload_n hx hb dX9_settle_42 rfl (lv_at hl 1 rfl) ?_
          refine r_get C hw (hsh 32 _ rfl) fl_X9_9 (oV_r rfl (hrs (32, 0, 9) (by decide))) dX9_settle_43 ?_
          refine lv_iload_n hx hb dX9_settle_46 rfl (lv_at hl 0 rfl) ?_
          refine r_callV (As := [.int v12]) (rest := []) C hw (t_X6_at l B D cA kd13 ig14 rg15 lg16 _ v12  hI) sv_X9_45 (hsh 9 _ rfl) rfl hl.1 rfl (Nat.le_of_ble_eq_true rfl) ⟨Nat.le_of_ble_eq_true rfl, Nat.le_of_ble_eq_true rfl⟩ ⟨Nat.le_of_ble_eq_true rfl, Nat.le_of_ble_eq_true rfl⟩ dX9_settle_47 (fun r81 kd77 ig78 rg79 lg80 H locs hw hH hp82 => ?_)
          obtain ⟨rfl, rfl, rfl, rfl, hzhp82, hrhp82⟩ := hp82
          obtain ⟨q83, nq83, rfl, kq83⟩ := hrhp82
          refine lv_astore_n (lv' := [(2, .ref q83), (1, .int v12), (0, .ref (B + 32))]) hx hb dX9_settle_50 rfl hl (by decide) rfl (fun ls hl => ?_)
          refine lv_aload_n hx hb dX9_settle_51 rfl (lv_at hl 2 rfl) ?_
          refine r_get C hw (hsh 32 _ rfl) fl_X9_19 (oV_r rfl (hrs (32, 2, 33) (by decide))) dX9_settle_52 ?_
          refine lv_iload_n hx hb dX9_settle_55 rfl (lv_at hl 1 rfl) ?_
          refine lv_iconst (v := 3) hx hb dX9_settle_56 (by decide) (ti_c 3 (by decide) fun z84 hz84 => ?_)
          refine lv_imul hx hb dX9_settle_57 (tc_mulR 3 hz84 fun z85 hz85 => ?_)
          first | replace hz85 := hz85 (by omega) | clear hz85
          refine lv_aload_n hx hb dX9_settle_58 rfl (lv_at hl 0 rfl) ?_
          refine r_get C hw kq83 fl_X9_49 (oV_i rfl) dX9_settle_59 (ti_c (ig14 q83 3).toInt rfl fun z86 hz86 => ?_)
          refine r_iast C hw (hsh 33 _ rfl) (by omega) (by omega) dX9_settle_62 (fun H locs hH hw => ?_)
          obtain ⟨ig87, eig87⟩ : ∃ f, f = up2 ig14 (B + 33) z85.toInt.toNat z86 := ⟨_, rfl⟩
          rw [← eig87] at hw
          have hN : Nx 982 B none kd ig rg lg kd13 ig87 rg15 lg16 := by rw [eig87]; exact hN.pi (by omega)
          have hI : IC τ B kd13 ig87 rg15 := by rw [eig87]; exact hI.pi (show okR none _ from trivial)
          refine lv_aload_n hx hb dX9_settle_63 rfl (lv_at hl 2 rfl) ?_
          refine r_get C hw (hsh 32 _ rfl) fl_X9_19 (oV_r rfl (hrs (32, 2, 33) (by decide))) dX9_settle_64 ?_
          refine lv_iload_n hx hb dX9_settle_67 rfl (lv_at hl 1 rfl) ?_
          refine lv_iconst (v := 3) hx hb dX9_settle_68 (by decide) (ti_c 3 (by decide) fun z88 hz88 => ?_)
          refine lv_imul hx hb dX9_settle_69 (tc_mulR 3 hz88 fun z89 hz89 => ?_)
          first | replace hz89 := hz89 (by omega) | clear hz89
          refine lv_iconst (v := 1) hx hb dX9_settle_70 (by decide) (ti_c 1 (by decide) fun z90 hz90 => ?_)
          refine lv_iadd hx hb dX9_settle_71 (tc_add fun z91 hz91 => ?_)
          first | replace hz91 := hz91 (by omega) | clear hz91
          refine lv_aload_n hx hb dX9_settle_72 rfl (lv_at hl 0 rfl) ?_
          refine r_get C hw kq83 fl_X9_54 (oV_i rfl) dX9_settle_73 (ti_c (ig87 q83 4).toInt rfl fun z92 hz92 => ?_)
          refine r_iast C hw (hsh 33 _ rfl) (by omega) (by omega) dX9_settle_76 (fun H locs hH hw => ?_)
          obtain ⟨ig93, eig93⟩ : ∃ f, f = up2 ig87 (B + 33) z91.toInt.toNat z92 := ⟨_, rfl⟩
          rw [← eig93] at hw
          have hN : Nx 982 B none kd ig rg lg kd13 ig93 rg15 lg16 := by rw [eig93]; exact hN.pi (by omega)
          have hI : IC τ B kd13 ig93 rg15 := by rw [eig93]; exact hI.pi (show okR none _ from trivial)
          refine lv_aload_n hx hb dX9_settle_77 rfl (lv_at hl 2 rfl) ?_
          refine r_get C hw (hsh 32 _ rfl) fl_X9_19 (oV_r rfl (hrs (32, 2, 33) (by decide))) dX9_settle_78 ?_
          refine lv_iload_n hx hb dX9_settle_81 rfl (lv_at hl 1 rfl) ?_
          refine lv_iconst (v := 3) hx hb dX9_settle_82 (by decide) (ti_c 3 (by decide) fun z94 hz94 => ?_)
          refine lv_imul hx hb dX9_settle_83 (tc_mulR 3 hz94 fun z95 hz95 => ?_)
          first | replace hz95 := hz95 (by omega) | clear hz95
          refine lv_iconst (v := 2) hx hb dX9_settle_84 (by decide) (ti_c 2 (by decide) fun z96 hz96 => ?_)
          refine lv_iadd hx hb dX9_settle_85 (tc_add fun z97 hz97 => ?_)
          first | replace hz97 := hz97 (by omega) | clear hz97
          refine lv_aload_n hx hb dX9_settle_86 rfl (lv_at hl 0 rfl) ?_
          refine r_get C hw kq83 fl_X9_57 (oV_i rfl) dX9_settle_87 (ti_c (ig93 q83 5).toInt rfl fun z98 hz98 => ?_)
          refine r_iast C hw (hsh 33 _ rfl) (by omega) (by omega) dX9_settle_90 (fun H locs hH hw => ?_)
          obtain ⟨ig99, eig99⟩ : ∃ f, f = up2 ig93 (B + 33) z97.toInt.toNat z98 := ⟨_, rfl⟩
          rw [← eig99] at hw
          have hN : Nx 982 B none kd ig rg lg kd13 ig99 rg15 lg16 := by rw [eig99]; exact hN.pi (by omega)
          have hI : IC τ B kd13 ig99 rg15 := by rw [eig99]; exact hI.pi (show okR none _ from trivial)
          refine lv_aload_n hx hb dX9_settle_91 rfl (lv_at hl 2 rfl) ?_
          refine r_get C hw (hsh 32 _ rfl) fl_X9_23 (oV_r rfl (hrs (32, 3, 34) (by decide))) dX9_settle_92 ?_
          refine lv_iload_n hx hb dX9_settle_95 rfl (lv_at hl 1 rfl) ?_
          refine lv_iconst (v := 0) hx hb dX9_settle_96 (by decide) (ti_c 0 (by decide) fun z100 hz100 => ?_)
          refine r_zast C hw (hsh 34 _ rfl) (by omega) (by omega) (nar_b (by omega)) dX9_settle_97 (fun H locs hH hw => ?_)
          obtain ⟨ig101, eig101⟩ : ∃ f, f = up2 ig99 (B + 34) v12.toInt.toNat z100 := ⟨_, rfl⟩
          rw [← eig101] at hw
          have hN : Nx 982 B none kd ig rg lg kd13 ig101 rg15 lg16 := by rw [eig101]; exact hN.pi (by omega)
          have hI : IC τ B kd13 ig101 rg15 := by rw [eig101]; exact hI.pi (show okR none _ from trivial)
          refine tc_inc hx hb dX9_settle_98 hl (k := 1) rfl (by decide) (by decide) (fun z102 hz102 ls hl => ?_)
          first | replace hz102 := hz102 (by omega) | clear hz102
          have hl : lv_has ls 4 [(1, .int z102), (2, .ref q83), (0, .ref (B + 32))] := hl
          refine lv_goto (tgt := 35) hx hb dX9_settle_101 (by decide) ?_
          exact ih35 ls H locs kd13 ig101 rg15 lg16 z102 (lv_sub hl [0, 2] rfl) hw hI hN (by omega) (by omega) (by omega)
    exact L35 ((288 - z11.toInt) + 1).toNat ls H locs kd5 ig6 rg7 lg8 z11 (lv_sub hl [0, 1] rfl) hw hI hN (by omega) (by omega) (by omega)
  · exact r_vret C hw hr hlk (Nat.le_of_ble_eq_true rfl) (Nat.le_of_ble_eq_true rfl) dX9_settle_14 ⟨hI, hN, rfl⟩
