set_option maxHeartbeats 4000000 in
set_option maxRecDepth 100000 in
theorem t_X8_isTotal {τ : Tp} (l : Launch) (B : Nat) (D : va_G) (cA : Nat → ClassId) (kd : sK) (ig : sI) (rg : sR) (lg : sG) (sz : Nat) (x : Int32) (hI : IC τ B kd ig rg) : MC l B D cA yX8_isTotal cX8_isTotal 2 (some .boolean) (rL 1 0 0) [.ref (B + 37), .int x] kd ig rg lg sz (Pu kd ig rg lg sz (fun r => ∃ z : Int32, r = some (.int z) ∧ ((z.toInt = 0 ∨ z.toInt = 1) ∧ (z.toInt ≠ 0 → 0 ≤ x.toInt ∧ x.toInt < 288)))) := by
  refine MC.of (own := RX8) (by decide +kernel) rfl (Nat.le_of_ble_eq_true rfl) ?_
  intro p e s m args below meth c ls C hr hlk hnm hw hsz hl
  have hx := C.1.1
  have hb := C.1.2.1
  have hown := C.1.2.2.2.1
  have hts := C.1.2.2.2.2
  have hl : lv_has ls 2 [(0, .ref (B + 37)), (1, .int x)] := hl
  have hsh := hI.sh
  have hrs := hI.rs
  refine lv_iload_n hx hb dX8_isTotal_0 rfl (lv_at hl 1 rfl) ?_
  refine r_callN (As := [.int x]) (rest := []) C hw (t_X11_onSheet l B D cA kd ig rg lg _ x  hI) sn_X8_63 rfl hl.1 rfl (Nat.le_of_ble_eq_true rfl) ⟨Nat.le_of_ble_eq_true rfl, Nat.le_of_ble_eq_true rfl⟩ ⟨Nat.le_of_ble_eq_true rfl, Nat.le_of_ble_eq_true rfl⟩ dX8_isTotal_1 (fun r5 kd1 ig2 rg3 lg4 H locs hw hH hp6 => ?_)
  obtain ⟨rfl, rfl, rfl, rfl, hzhp6, hrhp6⟩ := hp6
  have hsz := hzhp6.trans hsz
  obtain ⟨z7, rfl, hz7⟩ := hrhp6
  refine z_eq (tgt := 20) hx hb dX8_isTotal_4 (by decide) (fun c4 => ?_) (fun c4 => ?_)
  · refine lv_iconst (v := 0) hx hb dX8_isTotal_20 (by decide) (ti_c 0 (by decide) fun z8 hz8 => ?_)
    exact r_iret C hw hr hlk (nar_b (by omega)) (Nat.le_of_ble_eq_true rfl) (Nat.le_of_ble_eq_true rfl) dX8_isTotal_21 ⟨rfl, rfl, rfl, rfl, hsz, ⟨_, rfl, by omega⟩⟩
  · refine lv_aload_n hx hb dX8_isTotal_7 rfl (lv_at hl 0 rfl) ?_
    refine r_get C hw (hsh 37 _ rfl) fl_X8_19 (oV_r rfl (hrs (37, 2, 38) (by decide))) dX8_isTotal_8 ?_
    refine lv_iload_n hx hb dX8_isTotal_11 rfl (lv_at hl 1 rfl) ?_
    refine r_zald C hw (hsh 38 _ rfl) (by omega) (by omega) dX8_isTotal_12 (ti_c (ig (B + 38) x.toInt.toNat).toInt rfl fun z9 hz9 => ?_)
    refine z_eq (tgt := 20) hx hb dX8_isTotal_13 (by decide) (fun c13 => ?_) (fun c13 => ?_)
    · refine lv_iconst (v := 0) hx hb dX8_isTotal_20 (by decide) (ti_c 0 (by decide) fun z10 hz10 => ?_)
      exact r_iret C hw hr hlk (nar_b (by omega)) (Nat.le_of_ble_eq_true rfl) (Nat.le_of_ble_eq_true rfl) dX8_isTotal_21 ⟨rfl, rfl, rfl, rfl, hsz, ⟨_, rfl, by omega⟩⟩
    · refine lv_iconst (v := 1) hx hb dX8_isTotal_16 (by decide) (ti_c 1 (by decide) fun z11 hz11 => ?_)
      refine lv_goto (tgt := 21) hx hb dX8_isTotal_17 (by decide) ?_
      exact r_iret C hw hr hlk (nar_b (by omega)) (Nat.le_of_ble_eq_true rfl) (Nat.le_of_ble_eq_true rfl) dX8_isTotal_21 ⟨rfl, rfl, rfl, rfl, hsz, ⟨_, rfl, by omega⟩⟩

set_option maxHeartbeats 4000000 in
set_option maxRecDepth 100000 in
theorem t_X8_settle {τ : Tp} (l : Launch) (B : Nat) (D : va_G) (cA : Nat → ClassId) (kd : sK) (ig : sI) (rg : sR) (lg : sG) (sz : Nat)  (hI : IC τ B kd ig rg) : MC l B D cA yX8_settle cX8_settle 3 none (rL 6 0 0) [.ref (B + 37)] kd ig rg lg sz (PI 950 τ B none kd ig rg lg (fun r kd' ig' rg' lg' => r = none)) := by
  refine MC.of (own := RX8) (by decide +kernel) rfl (Nat.le_of_ble_eq_true rfl) ?_
  intro p e s m args below meth c ls C hr hlk hnm hw hsz hl
  have hx := C.1.1
  have hb := C.1.2.1
  have hown := C.1.2.2.2.1
  have hts := C.1.2.2.2.2
  have hl : lv_has ls 3 [(0, .ref (B + 37))] := hl
  have hN : Nx 950 B none kd ig rg lg kd ig rg lg := Nx.rf
  have hsh := hI.sh
  have hrs := hI.rs
  refine lv_aload_n hx hb dX8_settle_0 rfl (lv_at hl 0 rfl) ?_
  refine r_get C hw (hsh 37 _ rfl) fl_X8_37 (oV_i rfl) dX8_settle_1 (ti_c (ig (B + 37) 7).toInt rfl fun z1 hz1 => ?_)
  refine lv_aload_n hx hb dX8_settle_4 rfl (lv_at hl 0 rfl) ?_
  refine r_get C hw (hsh 37 _ rfl) fl_X8_9 (oV_r rfl (hrs (37, 0, 9) (by decide))) dX8_settle_5 ?_
  refine r_get C hw (hsh 9 _ rfl) fl_X8_41 (oV_i rfl) dX8_settle_8 (ti_c (ig (B + 9) 6).toInt rfl fun z2 hz2 => ?_)
  refine b_ne (tgt := 15) hx hb dX8_settle_11 (by decide) (fun c11 => ?_) (fun c11 => ?_)
  · refine lv_aload_n hx hb dX8_settle_15 rfl (lv_at hl 0 rfl) ?_
    refine lv_aload_n hx hb dX8_settle_16 rfl (lv_at hl 0 rfl) ?_
    refine r_get C hw (hsh 37 _ rfl) fl_X8_9 (oV_r rfl (hrs (37, 0, 9) (by decide))) dX8_settle_17 ?_
    refine r_get C hw (hsh 9 _ rfl) fl_X8_41 (oV_i rfl) dX8_settle_20 (ti_c (ig (B + 9) 6).toInt rfl fun z3 hz3 => ?_)
    refine r_puti C hw (hsh 37 _ rfl) fl_X8_37 rfl rfl rfl dX8_settle_23 (fun H locs hH hw => ?_)
    obtain ⟨ig4, eig4⟩ : ∃ f, f = up2 ig (B + 37) 7 z3 := ⟨_, rfl⟩
    rw [← eig4] at hw
    have hN : Nx 950 B none kd ig rg lg kd ig4 rg lg := by rw [eig4]; exact hN.pi (by omega)
    have hI : IC τ B kd ig4 rg := by rw [eig4]; exact hI.pi (show okR none _ from trivial)
    refine lv_aload_n hx hb dX8_settle_26 rfl (lv_at hl 0 rfl) ?_
    refine r_get C hw (hsh 37 _ rfl) fl_X8_15 (oV_r rfl (hrs (37, 1, 15) (by decide))) dX8_settle_27 ?_
    refine r_callV (As := []) (rest := []) C hw (t_X5_settle l B D cA kd ig4 rg lg _   hI) sv_X8_44 (hsh 15 _ rfl) rfl hl.1 rfl (Nat.le_of_ble_eq_true rfl) ⟨Nat.le_of_ble_eq_true rfl, Nat.le_of_ble_eq_true rfl⟩ ⟨Nat.le_of_ble_eq_true rfl, Nat.le_of_ble_eq_true rfl⟩ dX8_settle_30 (fun r9 kd5 ig6 rg7 lg8 H locs hw hH hp10 => ?_)
    obtain ⟨hI, hchp10, hrhp10⟩ := hp10
    have hN := hN.tr hchp10
    have hsh := hI.sh
    have hrs := hI.rs
    obtain rfl := hrhp10
    refine lv_iconst (v := 0) hx hb dX8_settle_33 (by decide) (ti_c 0 (by decide) fun z11 hz11 => ?_)
    refine lv_istore_n (lv' := [(1, .int z11), (0, .ref (B + 37))]) hx hb dX8_settle_34 rfl hl (by decide) rfl (fun ls hl => ?_)
    have L35 : ∀ (n : Nat) (ls : Array Slot) (H : Heap) (locs : List Loc) (kd13 : sK) (ig14 : sI) (rg15 : sR) (lg16 : sG) (v12 : Int32), lv_has ls 3 [(1, .int v12), (0, .ref (B + 37))] → WD B D cA s.heap kd13 ig14 rg15 lg16 H locs → IC τ B kd13 ig14 rg15 → Nx 950 B none kd ig rg lg kd13 ig14 rg15 lg16 → (0 ≤ v12.toInt) → (v12.toInt ≤ 288) → 288 - v12.toInt < (n : Int) → W p l e (rL 6 0 0) s m args below meth c H locs 0 0 (MQ below (QcW B D cA (PI 950 τ B none kd ig rg lg (fun r kd' ig' rg' lg' => r = none))) args s 0 0 (fun q => B ≤ q)) (F0 m 35 ls []) := by
      intro n35
      induction n35 with
      | zero => intro ls H locs kd13 ig14 rg15 lg16 v12 hl hw hI hN g35_0 g35_1 hmu; exact absurd hmu (by omega)
      | succ n35 ih35 =>
        intro ls H locs kd13 ig14 rg15 lg16 v12 hl hw hI hN g35_0 g35_1 hmu
        have hsh := hI.sh
        have hrs := hI.rs
        refine lv_iload_n hx hb dX8_settle_35 rfl (lv_at hl 0 rfl) ?_
        refine lv_sipush (v := 288) hx hb dX8_settle_36 (by decide) (ti_c 288 (by decide) fun z17 hz17 => ?_)
        refine b_ge (tgt := 90) hx hb dX8_settle_39 (by decide) (fun c39 => ?_) (fun c39 => ?_)
        · exact r_vret C hw hr hlk (Nat.le_of_ble_eq_true rfl) (Nat.le_of_ble_eq_true rfl) dX8_settle_90 ⟨hI, hN, rfl⟩
        · refine lv_aload_n hx hb dX8_settle_42 rfl (lv_at hl 1 rfl) ?_
          refine r_get C hw (hsh 37 _ rfl) fl_X8_9 (oV_r rfl (hrs (37, 0, 9) (by decide))) dX8_settle_43 ?_
          refine lv_iload_n hx hb dX8_settle_46 rfl (lv_at hl 0 rfl) ?_
          refine r_callV (As := [.int v12]) (rest := []) C hw (t_X6_formulaAt l B D cA kd13 ig14 rg15 lg16 _ v12  hI) sv_X8_49 (hsh 9 _ rfl) rfl hl.1 rfl (Nat.le_of_ble_eq_true rfl) ⟨Nat.le_of_ble_eq_true rfl, Nat.le_of_ble_eq_true rfl⟩ ⟨Nat.le_of_ble_eq_true rfl, Nat.le_of_ble_eq_true rfl⟩ dX8_settle_47 (fun r22 kd18 ig19 rg20 lg21 H locs hw hH hp23 => ?_)
          obtain ⟨rfl, rfl, rfl, rfl, hzhp23, hrhp23⟩ := hp23
          rcases hrhp23 with rfl | ⟨f24, nf24, rfl, Ff24⟩
          · refine lv_astore_nN (lv' := [(2, .null), (1, .int v12), (0, .ref (B + 37))]) hx hb dX8_settle_50 rfl hl (by decide) rfl (fun ls hl => ?_)
            refine lv_aload_n hx hb dX8_settle_51 rfl (lv_at hl 2 rfl) ?_
            refine r_get C hw (hsh 37 _ rfl) fl_X8_19 (oV_r rfl (hrs (37, 2, 38) (by decide))) dX8_settle_52 ?_
            refine lv_iload_n hx hb dX8_settle_55 rfl (lv_at hl 1 rfl) ?_
            refine lv_aload_nN hx hb dX8_settle_56 rfl (lv_at hl 0 rfl) ?_
            refine lv_ifnullN (tgt := 82) hx hb dX8_settle_57 (by decide) ?_
            refine lv_iconst (v := 0) hx hb dX8_settle_82 (by decide) (ti_c 0 (by decide) fun z25 hz25 => ?_)
            refine r_zast C hw (hsh 38 _ rfl) (by omega) (by omega) (nar_b (by omega)) dX8_settle_83 (fun H locs hH hw => ?_)
            obtain ⟨ig26, eig26⟩ : ∃ f, f = up2 ig14 (B + 38) v12.toInt.toNat z25 := ⟨_, rfl⟩
            rw [← eig26] at hw
            have hN : Nx 950 B none kd ig rg lg kd13 ig26 rg15 lg16 := by rw [eig26]; exact hN.pi (by omega)
            have hI : IC τ B kd13 ig26 rg15 := by rw [eig26]; exact hI.pi (show okR none _ from trivial)
            refine tc_inc hx hb dX8_settle_84 hl (k := 1) rfl (by decide) (by decide) (fun z27 hz27 ls hl => ?_)
            first | replace hz27 := hz27 (by omega) | clear hz27
            have hl : lv_has ls 3 [(1, .int z27), (2, .null), (0, .ref (B + 37))] := hl
            refine lv_goto (tgt := 35) hx hb dX8_settle_87 (by decide) ?_
            exact ih35 ls H locs kd13 ig26 rg15 lg16 z27 (lv_sub hl [0, 2] rfl) hw hI hN (by omega) (by omega) (by omega)
          · have lf24 := isFn.le Ff24
            refine lv_astore_n (lv' := [(2, .ref f24), (1, .int v12), (0, .ref (B + 37))]) hx hb dX8_settle_50 rfl hl (by decide) rfl (fun ls hl => ?_)
            refine lv_aload_n hx hb dX8_settle_51 rfl (lv_at hl 2 rfl) ?_
            refine r_get C hw (hsh 37 _ rfl) fl_X8_19 (oV_r rfl (hrs (37, 2, 38) (by decide))) dX8_settle_52 ?_
            refine lv_iload_n hx hb dX8_settle_55 rfl (lv_at hl 1 rfl) ?_
            refine lv_aload_n hx hb dX8_settle_56 rfl (lv_at hl 0 rfl) ?_
            refine lv_ifnull hx hb dX8_settle_57 ?_
            refine lv_aload_n hx hb dX8_settle_60 rfl (lv_at hl 0 rfl) ?_
            refine r_callV (As := []) (rest := [.int v12, .ref (B + 38)]) C hw (t_X4_isOfReadsAndPlus l B D cA kd13 ig14 rg15 lg16 _ f24 nf24 Ff24  hI) sv_X8_53 (isFn.k Ff24) rfl hl.1 rfl (Nat.le_of_ble_eq_true rfl) ⟨Nat.le_of_ble_eq_true rfl, Nat.le_of_ble_eq_true rfl⟩ ⟨Nat.le_of_ble_eq_true rfl, Nat.le_of_ble_eq_true rfl⟩ dX8_settle_61 (fun r32 kd28 ig29 rg30 lg31 H locs hw hH hp33 => ?_)
            obtain ⟨rfl, rfl, rfl, rfl, hzhp33, hrhp33⟩ := hp33
            obtain ⟨z34, rfl, hz34⟩ := hrhp33
            refine z_eq (tgt := 82) hx hb dX8_settle_64 (by decide) (fun c64 => ?_) (fun c64 => ?_)
            · refine lv_iconst (v := 0) hx hb dX8_settle_82 (by decide) (ti_c 0 (by decide) fun z35 hz35 => ?_)
              refine r_zast C hw (hsh 38 _ rfl) (by omega) (by omega) (nar_b (by omega)) dX8_settle_83 (fun H locs hH hw => ?_)
              obtain ⟨ig36, eig36⟩ : ∃ f, f = up2 ig14 (B + 38) v12.toInt.toNat z35 := ⟨_, rfl⟩
              rw [← eig36] at hw
              have hN : Nx 950 B none kd ig rg lg kd13 ig36 rg15 lg16 := by rw [eig36]; exact hN.pi (by omega)
              have hI : IC τ B kd13 ig36 rg15 := by rw [eig36]; exact hI.pi (show okR none _ from trivial)
              refine tc_inc hx hb dX8_settle_84 hl (k := 1) rfl (by decide) (by decide) (fun z37 hz37 ls hl => ?_)
              first | replace hz37 := hz37 (by omega) | clear hz37
              have hl : lv_has ls 3 [(1, .int z37), (2, .ref f24), (0, .ref (B + 37))] := hl
              refine lv_goto (tgt := 35) hx hb dX8_settle_87 (by decide) ?_
              exact ih35 ls H locs kd13 ig36 rg15 lg16 z37 (lv_sub hl [0, 2] rfl) hw hI hN (by omega) (by omega) (by omega)
            · refine lv_aload_n hx hb dX8_settle_67 rfl (lv_at hl 2 rfl) ?_
              refine r_get C hw (hsh 37 _ rfl) fl_X8_15 (oV_r rfl (hrs (37, 1, 15) (by decide))) dX8_settle_68 ?_
              refine lv_iload_n hx hb dX8_settle_71 rfl (lv_at hl 1 rfl) ?_
              refine r_callV (As := [.int v12]) (rest := [.int v12, .ref (B + 38)]) C hw (t_X5_inRing l B D cA kd13 ig14 rg15 lg16 _ v12  hI) sv_X8_59 (hsh 15 _ rfl) rfl hl.1 rfl (Nat.le_of_ble_eq_true rfl) ⟨Nat.le_of_ble_eq_true rfl, Nat.le_of_ble_eq_true rfl⟩ ⟨Nat.le_of_ble_eq_true rfl, Nat.le_of_ble_eq_true rfl⟩ dX8_settle_72 (fun r42 kd38 ig39 rg40 lg41 H locs hw hH hp43 => ?_)
              obtain ⟨rfl, rfl, rfl, rfl, hzhp43, hrhp43⟩ := hp43
              obtain ⟨z44, rfl, hz44⟩ := hrhp43
              refine z_ne (tgt := 82) hx hb dX8_settle_75 (by decide) (fun c75 => ?_) (fun c75 => ?_)
              · refine lv_iconst (v := 0) hx hb dX8_settle_82 (by decide) (ti_c 0 (by decide) fun z45 hz45 => ?_)
                refine r_zast C hw (hsh 38 _ rfl) (by omega) (by omega) (nar_b (by omega)) dX8_settle_83 (fun H locs hH hw => ?_)
                obtain ⟨ig46, eig46⟩ : ∃ f, f = up2 ig14 (B + 38) v12.toInt.toNat z45 := ⟨_, rfl⟩
                rw [← eig46] at hw
                have hN : Nx 950 B none kd ig rg lg kd13 ig46 rg15 lg16 := by rw [eig46]; exact hN.pi (by omega)
                have hI : IC τ B kd13 ig46 rg15 := by rw [eig46]; exact hI.pi (show okR none _ from trivial)
                refine tc_inc hx hb dX8_settle_84 hl (k := 1) rfl (by decide) (by decide) (fun z47 hz47 ls hl => ?_)
                first | replace hz47 := hz47 (by omega) | clear hz47
                have hl : lv_has ls 3 [(1, .int z47), (2, .ref f24), (0, .ref (B + 37))] := hl
                refine lv_goto (tgt := 35) hx hb dX8_settle_87 (by decide) ?_
                exact ih35 ls H locs kd13 ig46 rg15 lg16 z47 (lv_sub hl [0, 2] rfl) hw hI hN (by omega) (by omega) (by omega)
              · refine lv_iconst (v := 1) hx hb dX8_settle_78 (by decide) (ti_c 1 (by decide) fun z48 hz48 => ?_)
                refine lv_goto (tgt := 83) hx hb dX8_settle_79 (by decide) ?_
                refine r_zast C hw (hsh 38 _ rfl) (by omega) (by omega) (nar_b (by omega)) dX8_settle_83 (fun H locs hH hw => ?_)
                obtain ⟨ig49, eig49⟩ : ∃ f, f = up2 ig14 (B + 38) v12.toInt.toNat z48 := ⟨_, rfl⟩
                rw [← eig49] at hw
                have hN : Nx 950 B none kd ig rg lg kd13 ig49 rg15 lg16 := by rw [eig49]; exact hN.pi (by omega)
                have hI : IC τ B kd13 ig49 rg15 := by rw [eig49]; exact hI.pi (show okR none _ from trivial)
                refine tc_inc hx hb dX8_settle_84 hl (k := 1) rfl (by decide) (by decide) (fun z50 hz50 ls hl => ?_)
                first | replace hz50 := hz50 (by omega) | clear hz50
                have hl : lv_has ls 3 [(1, .int z50), (2, .ref f24), (0, .ref (B + 37))] := hl
                refine lv_goto (tgt := 35) hx hb dX8_settle_87 (by decide) ?_
                exact ih35 ls H locs kd13 ig49 rg15 lg16 z50 (lv_sub hl [0, 2] rfl) hw hI hN (by omega) (by omega) (by omega)
    exact L35 ((288 - z11.toInt) + 1).toNat ls H locs kd5 ig6 rg7 lg8 z11 (lv_sub hl [0, 1] rfl) hw hI hN (by omega) (by omega) (by omega)
  · exact r_vret C hw hr hlk (Nat.le_of_ble_eq_true rfl) (Nat.le_of_ble_eq_true rfl) dX8_settle_14 ⟨hI, hN, rfl⟩

set_option maxHeartbeats 4000000 in
set_option maxRecDepth 100000 in
theorem t_X8_waysBy {τ : Tp} (l : Launch) (B : Nat) (D : va_G) (cA : Nat → ClassId) (kd : sK) (ig : sI) (rg : sR) (lg : sG) (sz : Nat) (x : Int32) (y : Int32) (hI : IC τ B kd ig rg) : MC l B D cA yX8_waysBy cX8_waysBy 3 (some .int) (rL 2 0 0) [.ref (B + 37), .int x, .int y] kd ig rg lg sz (Pu kd ig rg lg sz (fun r => ∃ z : Int32, r = some (.int z) ∧ True)) := by
  refine MC.of (own := RX8) (by decide +kernel) rfl (Nat.le_of_ble_eq_true rfl) ?_
  intro p e s m args below meth c ls C hr hlk hnm hw hsz hl
  have hx := C.1.1
  have hb := C.1.2.1
  have hown := C.1.2.2.2.1
  have hts := C.1.2.2.2.2
  have hl : lv_has ls 3 [(0, .ref (B + 37)), (1, .int x), (2, .int y)] := hl
  have hsh := hI.sh
  have hrs := hI.rs
  refine lv_iload_n hx hb dX8_waysBy_0 rfl (lv_at hl 2 rfl) ?_
  refine lv_iload_n hx hb dX8_waysBy_1 rfl (lv_at hl 1 rfl) ?_
  refine b_ne (tgt := 7) hx hb dX8_waysBy_2 (by decide) (fun c2 => ?_) (fun c2 => ?_)
  · refine lv_aload_n hx hb dX8_waysBy_7 rfl (lv_at hl 0 rfl) ?_
    refine lv_iload_n hx hb dX8_waysBy_8 rfl (lv_at hl 2 rfl) ?_
    refine r_callV (As := [.int y]) (rest := []) C hw (t_X8_isTotal l B D cA kd ig rg lg _ y  hI) sv_X8_66 (hsh 37 _ rfl) rfl hl.1 rfl (Nat.le_of_ble_eq_true rfl) ⟨Nat.le_of_ble_eq_true rfl, Nat.le_of_ble_eq_true rfl⟩ ⟨Nat.le_of_ble_eq_true rfl, Nat.le_of_ble_eq_true rfl⟩ dX8_waysBy_9 (fun r5 kd1 ig2 rg3 lg4 H locs hw hH hp6 => ?_)
    obtain ⟨rfl, rfl, rfl, rfl, hzhp6, hrhp6⟩ := hp6
    have hsz := hzhp6.trans hsz
    obtain ⟨z7, rfl, hz7⟩ := hrhp6
    refine z_eq (tgt := 24) hx hb dX8_waysBy_12 (by decide) (fun c12 => ?_) (fun c12 => ?_)
    · refine lv_iconst (v := 0) hx hb dX8_waysBy_24 (by decide) (ti_c 0 (by decide) fun z8 hz8 => ?_)
      exact r_iret C hw hr hlk rfl (Nat.le_of_ble_eq_true rfl) (Nat.le_of_ble_eq_true rfl) dX8_waysBy_25 ⟨rfl, rfl, rfl, rfl, hsz, ⟨_, rfl, trivial⟩⟩
    · refine lv_aload_n hx hb dX8_waysBy_15 rfl (lv_at hl 0 rfl) ?_
      refine r_get C hw (hsh 37 _ rfl) fl_X8_23 (oV_r rfl (hrs (37, 3, 39) (by decide))) dX8_waysBy_16 ?_
      refine lv_iload_n hx hb dX8_waysBy_19 rfl (lv_at hl 2 rfl) ?_
      refine r_iald C hw (hsh 39 _ rfl) (by omega) (by omega) dX8_waysBy_20 (ti_c (ig (B + 39) y.toInt.toNat).toInt rfl fun z9 hz9 => ?_)
      refine lv_goto (tgt := 25) hx hb dX8_waysBy_21 (by decide) ?_
      exact r_iret C hw hr hlk rfl (Nat.le_of_ble_eq_true rfl) (Nat.le_of_ble_eq_true rfl) dX8_waysBy_25 ⟨rfl, rfl, rfl, rfl, hsz, ⟨_, rfl, trivial⟩⟩
  · refine lv_iconst (v := 1) hx hb dX8_waysBy_5 (by decide) (ti_c 1 (by decide) fun z10 hz10 => ?_)
    exact r_iret C hw hr hlk rfl (Nat.le_of_ble_eq_true rfl) (Nat.le_of_ble_eq_true rfl) dX8_waysBy_6 ⟨rfl, rfl, rfl, rfl, hsz, ⟨_, rfl, trivial⟩⟩

set_option maxHeartbeats 4000000 in
set_option maxRecDepth 100000 in
theorem t_X8_waysThrough {τ : Tp} (l : Launch) (B : Nat) (D : va_G) (cA : Nat → ClassId) (kd : sK) (ig : sI) (rg : sR) (lg : sG) (sz : Nat) (x : Int32) (y : Int32) (g ng : Nat) (Fg : isFn B kd rg g ng) (hI : IC τ B kd ig rg) : MC l B D cA yX8_waysThrough cX8_waysThrough 8 (some .int) (rL 3 0 0) [.ref (B + 37), .int x, .int y, .ref g] kd ig rg lg sz (PI 958 τ B none kd ig rg lg (fun r kd' ig' rg' lg' => ∃ z : Int32, r = some (.int z) ∧ True)) := by
  refine MC.of (own := RX8) (by decide +kernel) rfl (Nat.le_of_ble_eq_true rfl) ?_
  intro p e s m args below meth c ls C hr hlk hnm hw hsz hl
  have hx := C.1.1
  have hb := C.1.2.1
  have hown := C.1.2.2.2.1
  have hts := C.1.2.2.2.2
  have hl : lv_has ls 8 [(0, .ref (B + 37)), (1, .int x), (2, .int y), (3, .ref g)] := hl
  have hN : Nx 958 B none kd ig rg lg kd ig rg lg := Nx.rf
  have hsh := hI.sh
  have hrs := hI.rs
  have lng := Fg.le
  refine lv_iconst (v := 0) hx hb dX8_waysThrough_0 (by decide) (ti_c 0 (by decide) fun z1 hz1 => ?_)
  refine lv_istore (lv' := [(4, .int z1), (0, .ref (B + 37)), (1, .int x), (2, .int y), (3, .ref g)]) hx hb dX8_waysThrough_1 hl (by decide) rfl (fun ls hl => ?_)
  refine lv_iconst (v := 0) hx hb dX8_waysThrough_3 (by decide) (ti_c 0 (by decide) fun z2 hz2 => ?_)
  refine lv_istore (lv' := [(5, .int z2), (4, .int z1), (0, .ref (B + 37)), (1, .int x), (2, .int y), (3, .ref g)]) hx hb dX8_waysThrough_4 hl (by decide) rfl (fun ls hl => ?_)
  have L6 : ∀ (n : Nat) (ls : Array Slot) (H : Heap) (locs : List Loc) (kd5 : sK) (ig6 : sI) (rg7 : sR) (lg8 : sG) (v3 : Int32) (v4 : Int32), lv_has ls 8 [(5, .int v3), (4, .int v4), (0, .ref (B + 37)), (1, .int x), (2, .int y), (3, .ref g)] → WD B D cA s.heap kd5 ig6 rg7 lg8 H locs → IC τ B kd5 ig6 rg7 → Nx 958 B none kd ig rg lg kd5 ig6 rg7 lg8 → isFn B kd5 rg7 g ng → (0 ≤ v3.toInt) → (v3.toInt ≤ 120) → 120 - v3.toInt < (n : Int) → W p l e (rL 3 0 0) s m args below meth c H locs 0 0 (MQ below (QcW B D cA (PI 958 τ B none kd ig rg lg (fun r kd' ig' rg' lg' => ∃ z : Int32, r = some (.int z) ∧ True))) args s 0 0 (fun q => B ≤ q)) (F0 m 6 ls []) := by
    intro n6
    induction n6 with
    | zero => intro ls H locs kd5 ig6 rg7 lg8 v3 v4 hl hw hI hN Fg g6_0 g6_1 hmu; exact absurd hmu (by omega)
    | succ n6 ih6 =>
      intro ls H locs kd5 ig6 rg7 lg8 v3 v4 hl hw hI hN Fg g6_0 g6_1 hmu
      have hsh := hI.sh
      have hrs := hI.rs
      refine lv_iload hx hb dX8_waysThrough_6 (lv_at hl 0 rfl) ?_
      refine lv_aload_n hx hb dX8_waysThrough_8 rfl (lv_at hl 5 rfl) ?_
      refine r_callV (As := []) (rest := [.int v3]) C hw (t_X4_size l B D cA kd5 ig6 rg7 lg8 _ g ng Fg  hI) sv_X8_84 (isFn.k Fg) rfl hl.1 rfl (Nat.le_of_ble_eq_true rfl) ⟨Nat.le_of_ble_eq_true rfl, Nat.le_of_ble_eq_true rfl⟩ ⟨Nat.le_of_ble_eq_true rfl, Nat.le_of_ble_eq_true rfl⟩ dX8_waysThrough_9 (fun r13 kd9 ig10 rg11 lg12 H locs hw hH hp14 => ?_)
      obtain ⟨rfl, rfl, rfl, rfl, hzhp14, hrhp14⟩ := hp14
      obtain ⟨z15, rfl, hz15⟩ := hrhp14
      refine b_ge (tgt := 93) hx hb dX8_waysThrough_12 (by decide) (fun c12 => ?_) (fun c12 => ?_)
      · refine lv_iload hx hb dX8_waysThrough_93 (lv_at hl 1 rfl) ?_
        exact r_iret C hw hr hlk rfl (Nat.le_of_ble_eq_true rfl) (Nat.le_of_ble_eq_true rfl) dX8_waysThrough_95 ⟨hI, hN, ⟨_, rfl, trivial⟩⟩
      · refine lv_aload_n hx hb dX8_waysThrough_15 rfl (lv_at hl 5 rfl) ?_
        refine lv_iload hx hb dX8_waysThrough_16 (lv_at hl 0 rfl) ?_
        refine r_callV (As := [.int v3]) (rest := []) C hw (t_X4_readsAt l B D cA kd5 ig6 rg7 lg8 _ g ng Fg v3  hI) sv_X8_87 (isFn.k Fg) rfl hl.1 rfl (Nat.le_of_ble_eq_true rfl) ⟨Nat.le_of_ble_eq_true rfl, Nat.le_of_ble_eq_true rfl⟩ ⟨Nat.le_of_ble_eq_true rfl, Nat.le_of_ble_eq_true rfl⟩ dX8_waysThrough_18 (fun r20 kd16 ig17 rg18 lg19 H locs hw hH hp21 => ?_)
        obtain ⟨rfl, rfl, rfl, rfl, hzhp21, hrhp21⟩ := hp21
        obtain ⟨z22, rfl, hz22⟩ := hrhp21
        refine z_eq (tgt := 38) hx hb dX8_waysThrough_21 (by decide) (fun c21 => ?_) (fun c21 => ?_)
        · refine lv_iconst (v := 0) hx hb dX8_waysThrough_38 (by decide) (ti_c 0 (by decide) fun z23 hz23 => ?_)
          refine lv_istore (lv' := [(6, .int z23), (5, .int v3), (4, .int v4), (0, .ref (B + 37)), (1, .int x), (2, .int y), (3, .ref g)]) hx hb dX8_waysThrough_39 hl (by decide) rfl (fun ls hl => ?_)
          refine lv_iconst (v := 0) hx hb dX8_waysThrough_41 (by decide) (ti_c 0 (by decide) fun z24 hz24 => ?_)
          refine lv_istore (lv' := [(7, .int z24), (6, .int z23), (5, .int v3), (4, .int v4), (0, .ref (B + 37)), (1, .int x), (2, .int y), (3, .ref g)]) hx hb dX8_waysThrough_42 hl (by decide) rfl (fun ls hl => ?_)
          have L44 : ∀ (n : Nat) (ls : Array Slot) (H : Heap) (locs : List Loc) (kd27 : sK) (ig28 : sI) (rg29 : sR) (lg30 : sG) (v25 : Int32) (v26 : Int32), lv_has ls 8 [(7, .int v25), (6, .int z23), (5, .int v3), (4, .int v26), (0, .ref (B + 37)), (1, .int x), (2, .int y), (3, .ref g)] → WD B D cA s.heap kd27 ig28 rg29 lg30 H locs → IC τ B kd27 ig28 rg29 → Nx 958 B none kd ig rg lg kd27 ig28 rg29 lg30 → isFn B kd27 rg29 g ng → (0 ≤ v25.toInt) → (v25.toInt ≤ 288) → 288 - v25.toInt < (n : Int) → W p l e (rL 3 0 0) s m args below meth c H locs 0 0 (MQ below (QcW B D cA (PI 958 τ B none kd ig rg lg (fun r kd' ig' rg' lg' => ∃ z : Int32, r = some (.int z) ∧ True))) args s 0 0 (fun q => B ≤ q)) (F0 m 44 ls []) := by
            intro n44
            induction n44 with
            | zero => intro ls H locs kd27 ig28 rg29 lg30 v25 v26 hl hw hI hN Fg g44_0 g44_1 hmu; exact absurd hmu (by omega)
            | succ n44 ih44 =>
              intro ls H locs kd27 ig28 rg29 lg30 v25 v26 hl hw hI hN Fg g44_0 g44_1 hmu
              have hsh := hI.sh
              have hrs := hI.rs
              refine lv_iload hx hb dX8_waysThrough_44 (lv_at hl 0 rfl) ?_
              refine lv_iload hx hb dX8_waysThrough_46 (lv_at hl 1 rfl) ?_
              refine b_ge (tgt := 87) hx hb dX8_waysThrough_48 (by decide) (fun c48 => ?_) (fun c48 => ?_)
              · refine tc_inc hx hb dX8_waysThrough_87 hl (k := 2) rfl (by decide) (by decide) (fun z31 hz31 ls hl => ?_)
                first | replace hz31 := hz31 (by omega) | clear hz31
                have hl : lv_has ls 8 [(5, .int z31), (7, .int v25), (6, .int z23), (4, .int v26), (0, .ref (B + 37)), (1, .int x), (2, .int y), (3, .ref g)] := hl
                refine lv_goto (tgt := 6) hx hb dX8_waysThrough_90 (by decide) ?_
                exact ih6 ls H locs kd27 ig28 rg29 lg30 z31 v26 (lv_sub hl [0, 3, 4, 5, 6, 7] rfl) hw hI hN Fg (by omega) (by omega) (by omega)
              · refine lv_iload hx hb dX8_waysThrough_51 (lv_at hl 0 rfl) ?_
                refine lv_sipush (v := 288) hx hb dX8_waysThrough_53 (by decide) (ti_c 288 (by decide) fun z32 hz32 => ?_)
                refine b_ge (tgt := 87) hx hb dX8_waysThrough_56 (by decide) (fun c56 => ?_) (fun c56 => ?_)
                · refine tc_inc hx hb dX8_waysThrough_87 hl (k := 2) rfl (by decide) (by decide) (fun z33 hz33 ls hl => ?_)
                  first | replace hz33 := hz33 (by omega) | clear hz33
                  have hl : lv_has ls 8 [(5, .int z33), (7, .int v25), (6, .int z23), (4, .int v26), (0, .ref (B + 37)), (1, .int x), (2, .int y), (3, .ref g)] := hl
                  refine lv_goto (tgt := 6) hx hb dX8_waysThrough_90 (by decide) ?_
                  exact ih6 ls H locs kd27 ig28 rg29 lg30 z33 v26 (lv_sub hl [0, 3, 4, 5, 6, 7] rfl) hw hI hN Fg (by omega) (by omega) (by omega)
                · refine lv_bipush (v := 9) hx hb dX8_waysThrough_59 (by decide) (ti_c 9 (by decide) fun z34 hz34 => ?_)
                  refine lv_iload hx hb dX8_waysThrough_61 (lv_at hl 3 rfl) ?_
                  refine lv_aload_n hx hb dX8_waysThrough_63 rfl (lv_at hl 4 rfl) ?_
                  refine lv_iload_n hx hb dX8_waysThrough_64 rfl (lv_at hl 5 rfl) ?_
                  refine lv_aload_n hx hb dX8_waysThrough_65 rfl (lv_at hl 4 rfl) ?_
                  refine r_get C hw (hsh 37 _ rfl) fl_X8_27 (oV_r rfl (hrs (37, 4, 40) (by decide))) dX8_waysThrough_66 ?_
                  refine lv_iload hx hb dX8_waysThrough_69 (lv_at hl 0 rfl) ?_
                  refine r_iald C hw (hsh 40 _ rfl) (by omega) (by omega) dX8_waysThrough_71 (ti_c (ig28 (B + 40) v25.toInt.toNat).toInt rfl fun z35 hz35 => ?_)
                  refine r_callV (As := [.int x, .int z35]) (rest := [.int v26, .int z34]) C hw (t_X8_waysBy l B D cA kd27 ig28 rg29 lg30 _ x z35  hI) sv_X8_94 (hsh 37 _ rfl) rfl hl.1 rfl (Nat.le_of_ble_eq_true rfl) ⟨Nat.le_of_ble_eq_true rfl, Nat.le_of_ble_eq_true rfl⟩ ⟨Nat.le_of_ble_eq_true rfl, Nat.le_of_ble_eq_true rfl⟩ dX8_waysThrough_72 (fun r40 kd36 ig37 rg38 lg39 H locs hw hH hp41 => ?_)
                  obtain ⟨rfl, rfl, rfl, rfl, hzhp41, hrhp41⟩ := hp41
                  obtain ⟨z42, rfl, hz42⟩ := hrhp41
                  refine lv_iadd hx hb dX8_waysThrough_75 (tc_add fun z43 hz43 => ?_)
                  first | replace hz43 := hz43 (by omega) | clear hz43
                  refine r_min C ss_X8_98 hl.1 (Nat.le_of_ble_eq_true rfl) (Nat.le_of_ble_eq_true rfl) (Nat.le_of_ble_eq_true rfl) (Nat.le_of_ble_eq_true rfl) dX8_waysThrough_76 (fun z44 hz44 => ?_)
                  refine lv_istore (lv' := [(4, .int z44), (7, .int v25), (6, .int z23), (5, .int v3), (0, .ref (B + 37)), (1, .int x), (2, .int y), (3, .ref g)]) hx hb dX8_waysThrough_79 hl (by decide) rfl (fun ls hl => ?_)
                  refine tc_inc hx hb dX8_waysThrough_81 hl (k := 1) rfl (by decide) (by decide) (fun z45 hz45 ls hl => ?_)
                  first | replace hz45 := hz45 (by omega) | clear hz45
                  have hl : lv_has ls 8 [(7, .int z45), (4, .int z44), (6, .int z23), (5, .int v3), (0, .ref (B + 37)), (1, .int x), (2, .int y), (3, .ref g)] := hl
                  refine lv_goto (tgt := 44) hx hb dX8_waysThrough_84 (by decide) ?_
                  exact ih44 ls H locs kd27 ig28 rg29 lg30 z45 z44 (lv_sub hl [0, 2, 3, 1, 4, 5, 6, 7] rfl) hw hI hN Fg (by omega) (by omega) (by omega)
          exact L44 ((288 - z24.toInt) + 1).toNat ls H locs kd5 ig6 rg7 lg8 z24 v4 (lv_sub hl [0, 1, 2, 3, 4, 5, 6, 7] rfl) hw hI hN Fg (by omega) (by omega) (by omega)
        · refine lv_aload_n hx hb dX8_waysThrough_24 rfl (lv_at hl 5 rfl) ?_
          refine lv_iload hx hb dX8_waysThrough_25 (lv_at hl 0 rfl) ?_
          refine lv_iload_n hx hb dX8_waysThrough_27 rfl (lv_at hl 4 rfl) ?_
          refine lv_aload_n hx hb dX8_waysThrough_28 rfl (lv_at hl 2 rfl) ?_
          refine r_get C hw (hsh 37 _ rfl) fl_X8_27 (oV_r rfl (hrs (37, 4, 40) (by decide))) dX8_waysThrough_29 ?_
          refine r_callV (As := [.int v3, .int y, .ref (B + 40)]) (rest := []) C hw (t_X4_listPlaces l B D cA kd5 ig6 rg7 lg8 _ g ng Fg v3 y 40 (Or.inr (Or.inr (Or.inr rfl)))  hI) sv_X8_90 (isFn.k Fg) rfl hl.1 rfl (Nat.le_of_ble_eq_true rfl) ⟨Nat.le_of_ble_eq_true rfl, Nat.le_of_ble_eq_true rfl⟩ ⟨Nat.le_of_ble_eq_true rfl, Nat.le_of_ble_eq_true rfl⟩ dX8_waysThrough_32 (fun r50 kd46 ig47 rg48 lg49 H locs hw hH hp51 => ?_)
          obtain ⟨hI, hchp51, hrhp51⟩ := hp51
          have Fg := Nx.F hchp51 Fg
          have hN := hN.tr hchp51
          have hsh := hI.sh
          have hrs := hI.rs
          obtain ⟨z52, rfl, hz52⟩ := hrhp51
          refine lv_goto (tgt := 39) hx hb dX8_waysThrough_35 (by decide) ?_
          refine lv_istore (lv' := [(6, .int z52), (5, .int v3), (4, .int v4), (0, .ref (B + 37)), (1, .int x), (2, .int y), (3, .ref g)]) hx hb dX8_waysThrough_39 hl (by decide) rfl (fun ls hl => ?_)
          refine lv_iconst (v := 0) hx hb dX8_waysThrough_41 (by decide) (ti_c 0 (by decide) fun z53 hz53 => ?_)
          refine lv_istore (lv' := [(7, .int z53), (6, .int z52), (5, .int v3), (4, .int v4), (0, .ref (B + 37)), (1, .int x), (2, .int y), (3, .ref g)]) hx hb dX8_waysThrough_42 hl (by decide) rfl (fun ls hl => ?_)
          have L44 : ∀ (n : Nat) (ls : Array Slot) (H : Heap) (locs : List Loc) (kd56 : sK) (ig57 : sI) (rg58 : sR) (lg59 : sG) (v54 : Int32) (v55 : Int32), lv_has ls 8 [(7, .int v54), (6, .int z52), (5, .int v3), (4, .int v55), (0, .ref (B + 37)), (1, .int x), (2, .int y), (3, .ref g)] → WD B D cA s.heap kd56 ig57 rg58 lg59 H locs → IC τ B kd56 ig57 rg58 → Nx 958 B none kd ig rg lg kd56 ig57 rg58 lg59 → isFn B kd56 rg58 g ng → (0 ≤ v54.toInt) → (v54.toInt ≤ 288) → 288 - v54.toInt < (n : Int) → W p l e (rL 3 0 0) s m args below meth c H locs 0 0 (MQ below (QcW B D cA (PI 958 τ B none kd ig rg lg (fun r kd' ig' rg' lg' => ∃ z : Int32, r = some (.int z) ∧ True))) args s 0 0 (fun q => B ≤ q)) (F0 m 44 ls []) := by
            intro n44
            induction n44 with
            | zero => intro ls H locs kd56 ig57 rg58 lg59 v54 v55 hl hw hI hN Fg g44_0 g44_1 hmu; exact absurd hmu (by omega)
            | succ n44 ih44 =>
              intro ls H locs kd56 ig57 rg58 lg59 v54 v55 hl hw hI hN Fg g44_0 g44_1 hmu
              have hsh := hI.sh
              have hrs := hI.rs
              refine lv_iload hx hb dX8_waysThrough_44 (lv_at hl 0 rfl) ?_
              refine lv_iload hx hb dX8_waysThrough_46 (lv_at hl 1 rfl) ?_
              refine b_ge (tgt := 87) hx hb dX8_waysThrough_48 (by decide) (fun c48 => ?_) (fun c48 => ?_)
              · refine tc_inc hx hb dX8_waysThrough_87 hl (k := 2) rfl (by decide) (by decide) (fun z60 hz60 ls hl => ?_)
                first | replace hz60 := hz60 (by omega) | clear hz60
                have hl : lv_has ls 8 [(5, .int z60), (7, .int v54), (6, .int z52), (4, .int v55), (0, .ref (B + 37)), (1, .int x), (2, .int y), (3, .ref g)] := hl
                refine lv_goto (tgt := 6) hx hb dX8_waysThrough_90 (by decide) ?_
                exact ih6 ls H locs kd56 ig57 rg58 lg59 z60 v55 (lv_sub hl [0, 3, 4, 5, 6, 7] rfl) hw hI hN Fg (by omega) (by omega) (by omega)
              · refine lv_iload hx hb dX8_waysThrough_51 (lv_at hl 0 rfl) ?_
                refine lv_sipush (v := 288) hx hb dX8_waysThrough_53 (by decide) (ti_c 288 (by decide) fun z61 hz61 => ?_)
                refine b_ge (tgt := 87) hx hb dX8_waysThrough_56 (by decide) (fun c56 => ?_) (fun c56 => ?_)
                · refine tc_inc hx hb dX8_waysThrough_87 hl (k := 2) rfl (by decide) (by decide) (fun z62 hz62 ls hl => ?_)
                  first | replace hz62 := hz62 (by omega) | clear hz62
                  have hl : lv_has ls 8 [(5, .int z62), (7, .int v54), (6, .int z52), (4, .int v55), (0, .ref (B + 37)), (1, .int x), (2, .int y), (3, .ref g)] := hl
                  refine lv_goto (tgt := 6) hx hb dX8_waysThrough_90 (by decide) ?_
                  exact ih6 ls H locs kd56 ig57 rg58 lg59 z62 v55 (lv_sub hl [0, 3, 4, 5, 6, 7] rfl) hw hI hN Fg (by omega) (by omega) (by omega)
                · refine lv_bipush (v := 9) hx hb dX8_waysThrough_59 (by decide) (ti_c 9 (by decide) fun z63 hz63 => ?_)
                  refine lv_iload hx hb dX8_waysThrough_61 (lv_at hl 3 rfl) ?_
                  refine lv_aload_n hx hb dX8_waysThrough_63 rfl (lv_at hl 4 rfl) ?_
                  refine lv_iload_n hx hb dX8_waysThrough_64 rfl (lv_at hl 5 rfl) ?_
                  refine lv_aload_n hx hb dX8_waysThrough_65 rfl (lv_at hl 4 rfl) ?_
                  refine r_get C hw (hsh 37 _ rfl) fl_X8_27 (oV_r rfl (hrs (37, 4, 40) (by decide))) dX8_waysThrough_66 ?_
                  refine lv_iload hx hb dX8_waysThrough_69 (lv_at hl 0 rfl) ?_
                  refine r_iald C hw (hsh 40 _ rfl) (by omega) (by omega) dX8_waysThrough_71 (ti_c (ig57 (B + 40) v54.toInt.toNat).toInt rfl fun z64 hz64 => ?_)
                  refine r_callV (As := [.int x, .int z64]) (rest := [.int v55, .int z63]) C hw (t_X8_waysBy l B D cA kd56 ig57 rg58 lg59 _ x z64  hI) sv_X8_94 (hsh 37 _ rfl) rfl hl.1 rfl (Nat.le_of_ble_eq_true rfl) ⟨Nat.le_of_ble_eq_true rfl, Nat.le_of_ble_eq_true rfl⟩ ⟨Nat.le_of_ble_eq_true rfl, Nat.le_of_ble_eq_true rfl⟩ dX8_waysThrough_72 (fun r69 kd65 ig66 rg67 lg68 H locs hw hH hp70 => ?_)
                  obtain ⟨rfl, rfl, rfl, rfl, hzhp70, hrhp70⟩ := hp70
                  obtain ⟨z71, rfl, hz71⟩ := hrhp70
                  refine lv_iadd hx hb dX8_waysThrough_75 (tc_add fun z72 hz72 => ?_)
                  first | replace hz72 := hz72 (by omega) | clear hz72
                  refine r_min C ss_X8_98 hl.1 (Nat.le_of_ble_eq_true rfl) (Nat.le_of_ble_eq_true rfl) (Nat.le_of_ble_eq_true rfl) (Nat.le_of_ble_eq_true rfl) dX8_waysThrough_76 (fun z73 hz73 => ?_)
                  refine lv_istore (lv' := [(4, .int z73), (7, .int v54), (6, .int z52), (5, .int v3), (0, .ref (B + 37)), (1, .int x), (2, .int y), (3, .ref g)]) hx hb dX8_waysThrough_79 hl (by decide) rfl (fun ls hl => ?_)
                  refine tc_inc hx hb dX8_waysThrough_81 hl (k := 1) rfl (by decide) (by decide) (fun z74 hz74 ls hl => ?_)
                  first | replace hz74 := hz74 (by omega) | clear hz74
                  have hl : lv_has ls 8 [(7, .int z74), (4, .int z73), (6, .int z52), (5, .int v3), (0, .ref (B + 37)), (1, .int x), (2, .int y), (3, .ref g)] := hl
                  refine lv_goto (tgt := 44) hx hb dX8_waysThrough_84 (by decide) ?_
                  exact ih44 ls H locs kd56 ig57 rg58 lg59 z74 z73 (lv_sub hl [0, 2, 3, 1, 4, 5, 6, 7] rfl) hw hI hN Fg (by omega) (by omega) (by omega)
          exact L44 ((288 - z53.toInt) + 1).toNat ls H locs kd46 ig47 rg48 lg49 z53 v4 (lv_sub hl [0, 1, 2, 3, 4, 5, 6, 7] rfl) hw hI hN Fg (by omega) (by omega) (by omega)
  exact L6 ((120 - z2.toInt) + 1).toNat ls s.heap [] kd ig rg lg z2 z1 (lv_sub hl [0, 1, 2, 3, 4, 5] rfl) hw hI hN Fg (by omega) (by omega) (by omega)

set_option maxHeartbeats 4000000 in
set_option maxRecDepth 100000 in
theorem t_X8_waysInto {τ : Tp} (l : Launch) (B : Nat) (D : va_G) (cA : Nat → ClassId) (kd : sK) (ig : sI) (rg : sR) (lg : sG) (sz : Nat) (x : Int32) (y : Int32) (hI : IC τ B kd ig rg) : MC l B D cA yX8_waysInto cX8_waysInto 6 (some .int) (rL 4 0 0) [.ref (B + 37), .int x, .int y] kd ig rg lg sz (PI 958 τ B none kd ig rg lg (fun r kd' ig' rg' lg' => ∃ z : Int32, r = some (.int z) ∧ True)) := by
  refine MC.of (own := RX8) (by decide +kernel) rfl (Nat.le_of_ble_eq_true rfl) ?_
  intro p e s m args below meth c ls C hr hlk hnm hw hsz hl
  have hx := C.1.1
  have hb := C.1.2.1
  have hown := C.1.2.2.2.1
  have hts := C.1.2.2.2.2
  have hl : lv_has ls 6 [(0, .ref (B + 37)), (1, .int x), (2, .int y)] := hl
  have hN : Nx 958 B none kd ig rg lg kd ig rg lg := Nx.rf
  have hsh := hI.sh
  have hrs := hI.rs
  refine lv_aload_n hx hb dX8_waysInto_0 rfl (lv_at hl 0 rfl) ?_
  refine lv_iload_n hx hb dX8_waysInto_1 rfl (lv_at hl 1 rfl) ?_
  refine r_callV (As := [.int x]) (rest := []) C hw (t_X8_isTotal l B D cA kd ig rg lg _ x  hI) sv_X8_66 (hsh 37 _ rfl) rfl hl.1 rfl (Nat.le_of_ble_eq_true rfl) ⟨Nat.le_of_ble_eq_true rfl, Nat.le_of_ble_eq_true rfl⟩ ⟨Nat.le_of_ble_eq_true rfl, Nat.le_of_ble_eq_true rfl⟩ dX8_waysInto_2 (fun r5 kd1 ig2 rg3 lg4 H locs hw hH hp6 => ?_)
  obtain ⟨rfl, rfl, rfl, rfl, hzhp6, hrhp6⟩ := hp6
  obtain ⟨z7, rfl, hz7⟩ := hrhp6
  refine z_ne (tgt := 26) hx hb dX8_waysInto_5 (by decide) (fun c5 => ?_) (fun c5 => ?_)
  · refine lv_iconst (v := 0) hx hb dX8_waysInto_26 (by decide) (ti_c 0 (by decide) fun z8 hz8 => ?_)
    exact r_iret C hw hr hlk rfl (Nat.le_of_ble_eq_true rfl) (Nat.le_of_ble_eq_true rfl) dX8_waysInto_27 ⟨hI, hN, ⟨_, rfl, trivial⟩⟩
  · refine lv_aload_n hx hb dX8_waysInto_8 rfl (lv_at hl 0 rfl) ?_
    refine r_get C hw (hsh 37 _ rfl) fl_X8_9 (oV_r rfl (hrs (37, 0, 9) (by decide))) dX8_waysInto_9 ?_
    refine lv_iload_n hx hb dX8_waysInto_12 rfl (lv_at hl 1 rfl) ?_
    refine r_callV (As := [.int x]) (rest := []) C hw (t_X6_kindAt l B D cA kd ig rg lg _ x  hI) sv_X8_69 (hsh 9 _ rfl) rfl hl.1 rfl (Nat.le_of_ble_eq_true rfl) ⟨Nat.le_of_ble_eq_true rfl, Nat.le_of_ble_eq_true rfl⟩ ⟨Nat.le_of_ble_eq_true rfl, Nat.le_of_ble_eq_true rfl⟩ dX8_waysInto_13 (fun r13 kd9 ig10 rg11 lg12 H locs hw hH hp14 => ?_)
    obtain ⟨rfl, rfl, rfl, rfl, hzhp14, hrhp14⟩ := hp14
    obtain ⟨z15, rfl, hz15⟩ := hrhp14
    refine z_eq (tgt := 26) hx hb dX8_waysInto_16 (by decide) (fun c16 => ?_) (fun c16 => ?_)
    · refine lv_iconst (v := 0) hx hb dX8_waysInto_26 (by decide) (ti_c 0 (by decide) fun z16 hz16 => ?_)
      exact r_iret C hw hr hlk rfl (Nat.le_of_ble_eq_true rfl) (Nat.le_of_ble_eq_true rfl) dX8_waysInto_27 ⟨hI, hN, ⟨_, rfl, trivial⟩⟩
    · refine lv_iload_n hx hb dX8_waysInto_19 rfl (lv_at hl 2 rfl) ?_
      refine r_callN (As := [.int y]) (rest := []) C hw (t_X11_onSheet l B D cA kd ig rg lg _ y  hI) sn_X8_63 rfl hl.1 rfl (Nat.le_of_ble_eq_true rfl) ⟨Nat.le_of_ble_eq_true rfl, Nat.le_of_ble_eq_true rfl⟩ ⟨Nat.le_of_ble_eq_true rfl, Nat.le_of_ble_eq_true rfl⟩ dX8_waysInto_20 (fun r21 kd17 ig18 rg19 lg20 H locs hw hH hp22 => ?_)
      obtain ⟨rfl, rfl, rfl, rfl, hzhp22, hrhp22⟩ := hp22
      obtain ⟨z23, rfl, hz23⟩ := hrhp22
      refine z_ne (tgt := 28) hx hb dX8_waysInto_23 (by decide) (fun c23 => ?_) (fun c23 => ?_)
      · refine lv_iconst (v := 0) hx hb dX8_waysInto_28 (by decide) (ti_c 0 (by decide) fun z24 hz24 => ?_)
        refine lv_istore_n (lv' := [(3, .int z24), (0, .ref (B + 37)), (1, .int x), (2, .int y)]) hx hb dX8_waysInto_29 rfl hl (by decide) rfl (fun ls hl => ?_)
        have L30 : ∀ (n : Nat) (ls : Array Slot) (H : Heap) (locs : List Loc) (kd26 : sK) (ig27 : sI) (rg28 : sR) (lg29 : sG) (v25 : Int32), lv_has ls 6 [(3, .int v25), (0, .ref (B + 37)), (1, .int x), (2, .int y)] → WD B D cA s.heap kd26 ig27 rg28 lg29 H locs → IC τ B kd26 ig27 rg28 → Nx 958 B none kd ig rg lg kd26 ig27 rg28 lg29 → (0 ≤ v25.toInt) → (v25.toInt ≤ 288) → 288 - v25.toInt < (n : Int) → W p l e (rL 4 0 0) s m args below meth c H locs 0 0 (MQ below (QcW B D cA (PI 958 τ B none kd ig rg lg (fun r kd' ig' rg' lg' => ∃ z : Int32, r = some (.int z) ∧ True))) args s 0 0 (fun q => B ≤ q)) (F0 m 30 ls []) := by
          intro n30
          induction n30 with
          | zero => intro ls H locs kd26 ig27 rg28 lg29 v25 hl hw hI hN g30_0 g30_1 hmu; exact absurd hmu (by omega)
          | succ n30 ih30 =>
            intro ls H locs kd26 ig27 rg28 lg29 v25 hl hw hI hN g30_0 g30_1 hmu
            have hsh := hI.sh
            have hrs := hI.rs
            refine lv_iload_n hx hb dX8_waysInto_30 rfl (lv_at hl 0 rfl) ?_
            refine lv_aload_n hx hb dX8_waysInto_31 rfl (lv_at hl 1 rfl) ?_
            refine r_get C hw (hsh 37 _ rfl) fl_X8_15 (oV_r rfl (hrs (37, 1, 15) (by decide))) dX8_waysInto_32 ?_
            refine r_callV (As := []) (rest := [.int v25]) C hw (t_X5_orderSize l B D cA kd26 ig27 rg28 lg29 _   hI) sv_X8_73 (hsh 15 _ rfl) rfl hl.1 rfl (Nat.le_of_ble_eq_true rfl) ⟨Nat.le_of_ble_eq_true rfl, Nat.le_of_ble_eq_true rfl⟩ ⟨Nat.le_of_ble_eq_true rfl, Nat.le_of_ble_eq_true rfl⟩ dX8_waysInto_35 (fun r34 kd30 ig31 rg32 lg33 H locs hw hH hp35 => ?_)
            obtain ⟨rfl, rfl, rfl, rfl, hzhp35, hrhp35⟩ := hp35
            obtain ⟨z36, rfl, hz36⟩ := hrhp35
            refine b_ge (tgt := 98) hx hb dX8_waysInto_38 (by decide) (fun c38 => ?_) (fun c38 => ?_)
            · refine lv_aload_n hx hb dX8_waysInto_98 rfl (lv_at hl 1 rfl) ?_
              refine r_get C hw (hsh 37 _ rfl) fl_X8_23 (oV_r rfl (hrs (37, 3, 39) (by decide))) dX8_waysInto_99 ?_
              refine lv_iload_n hx hb dX8_waysInto_102 rfl (lv_at hl 3 rfl) ?_
              refine r_iald C hw (hsh 39 _ rfl) (by omega) (by omega) dX8_waysInto_103 (ti_c (ig27 (B + 39) y.toInt.toNat).toInt rfl fun z37 hz37 => ?_)
              exact r_iret C hw hr hlk rfl (Nat.le_of_ble_eq_true rfl) (Nat.le_of_ble_eq_true rfl) dX8_waysInto_104 ⟨hI, hN, ⟨_, rfl, trivial⟩⟩
            · refine lv_aload_n hx hb dX8_waysInto_41 rfl (lv_at hl 1 rfl) ?_
              refine r_get C hw (hsh 37 _ rfl) fl_X8_15 (oV_r rfl (hrs (37, 1, 15) (by decide))) dX8_waysInto_42 ?_
              refine lv_iload_n hx hb dX8_waysInto_45 rfl (lv_at hl 0 rfl) ?_
              refine r_callV (As := [.int v25]) (rest := []) C hw (t_X5_inOrder l B D cA kd26 ig27 rg28 lg29 _ v25  hI) sv_X8_77 (hsh 15 _ rfl) rfl hl.1 rfl (Nat.le_of_ble_eq_true rfl) ⟨Nat.le_of_ble_eq_true rfl, Nat.le_of_ble_eq_true rfl⟩ ⟨Nat.le_of_ble_eq_true rfl, Nat.le_of_ble_eq_true rfl⟩ dX8_waysInto_46 (fun r42 kd38 ig39 rg40 lg41 H locs hw hH hp43 => ?_)
              obtain ⟨rfl, rfl, rfl, rfl, hzhp43, hrhp43⟩ := hp43
              obtain ⟨z44, rfl, hz44⟩ := hrhp43
              refine lv_istore (lv' := [(4, .int z44), (3, .int v25), (0, .ref (B + 37)), (1, .int x), (2, .int y)]) hx hb dX8_waysInto_49 hl (by decide) rfl (fun ls hl => ?_)
              refine lv_aload_n hx hb dX8_waysInto_51 rfl (lv_at hl 2 rfl) ?_
              refine r_get C hw (hsh 37 _ rfl) fl_X8_9 (oV_r rfl (hrs (37, 0, 9) (by decide))) dX8_waysInto_52 ?_
              refine lv_iload hx hb dX8_waysInto_55 (lv_at hl 0 rfl) ?_
              refine r_callV (As := [.int z44]) (rest := []) C hw (t_X6_formulaAt l B D cA kd26 ig27 rg28 lg29 _ z44  hI) sv_X8_49 (hsh 9 _ rfl) rfl hl.1 rfl (Nat.le_of_ble_eq_true rfl) ⟨Nat.le_of_ble_eq_true rfl, Nat.le_of_ble_eq_true rfl⟩ ⟨Nat.le_of_ble_eq_true rfl, Nat.le_of_ble_eq_true rfl⟩ dX8_waysInto_57 (fun r49 kd45 ig46 rg47 lg48 H locs hw hH hp50 => ?_)
              obtain ⟨rfl, rfl, rfl, rfl, hzhp50, hrhp50⟩ := hp50
              rcases hrhp50 with rfl | ⟨f51, nf51, rfl, Ff51⟩
              · refine lv_astoreN (lv' := [(5, .null), (4, .int z44), (3, .int v25), (0, .ref (B + 37)), (1, .int x), (2, .int y)]) hx hb dX8_waysInto_60 hl (by decide) rfl (fun ls hl => ?_)
                refine lv_aload_n hx hb dX8_waysInto_62 rfl (lv_at hl 3 rfl) ?_
                refine lv_iload hx hb dX8_waysInto_63 (lv_at hl 1 rfl) ?_
                refine r_callV (As := [.int z44]) (rest := []) C hw (t_X8_isTotal l B D cA kd26 ig27 rg28 lg29 _ z44  hI) sv_X8_66 (hsh 37 _ rfl) rfl hl.1 rfl (Nat.le_of_ble_eq_true rfl) ⟨Nat.le_of_ble_eq_true rfl, Nat.le_of_ble_eq_true rfl⟩ ⟨Nat.le_of_ble_eq_true rfl, Nat.le_of_ble_eq_true rfl⟩ dX8_waysInto_65 (fun r56 kd52 ig53 rg54 lg55 H locs hw hH hp57 => ?_)
                obtain ⟨rfl, rfl, rfl, rfl, hzhp57, hrhp57⟩ := hp57
                obtain ⟨z58, rfl, hz58⟩ := hrhp57
                refine z_eq (tgt := 92) hx hb dX8_waysInto_68 (by decide) (fun c68 => ?_) (fun c68 => ?_)
                · refine tc_inc hx hb dX8_waysInto_92 hl (k := 2) rfl (by decide) (by decide) (fun z59 hz59 ls hl => ?_)
                  first | replace hz59 := hz59 (by omega) | clear hz59
                  have hl : lv_has ls 6 [(3, .int z59), (5, .null), (4, .int z44), (0, .ref (B + 37)), (1, .int x), (2, .int y)] := hl
                  refine lv_goto (tgt := 30) hx hb dX8_waysInto_95 (by decide) ?_
                  exact ih30 ls H locs kd26 ig27 rg28 lg29 z59 (lv_sub hl [0, 3, 4, 5] rfl) hw hI hN (by omega) (by omega) (by omega)
                · refine lv_aloadN hx hb dX8_waysInto_71 (lv_at hl 0 rfl) ?_
                  refine lv_ifnullN (tgt := 92) hx hb dX8_waysInto_73 (by decide) ?_
                  refine tc_inc hx hb dX8_waysInto_92 hl (k := 2) rfl (by decide) (by decide) (fun z60 hz60 ls hl => ?_)
                  first | replace hz60 := hz60 (by omega) | clear hz60
                  have hl : lv_has ls 6 [(3, .int z60), (5, .null), (4, .int z44), (0, .ref (B + 37)), (1, .int x), (2, .int y)] := hl
                  refine lv_goto (tgt := 30) hx hb dX8_waysInto_95 (by decide) ?_
                  exact ih30 ls H locs kd26 ig27 rg28 lg29 z60 (lv_sub hl [0, 3, 4, 5] rfl) hw hI hN (by omega) (by omega) (by omega)
              · have lf51 := isFn.le Ff51
                refine lv_astore (lv' := [(5, .ref f51), (4, .int z44), (3, .int v25), (0, .ref (B + 37)), (1, .int x), (2, .int y)]) hx hb dX8_waysInto_60 hl (by decide) rfl (fun ls hl => ?_)
                refine lv_aload_n hx hb dX8_waysInto_62 rfl (lv_at hl 3 rfl) ?_
                refine lv_iload hx hb dX8_waysInto_63 (lv_at hl 1 rfl) ?_
                refine r_callV (As := [.int z44]) (rest := []) C hw (t_X8_isTotal l B D cA kd26 ig27 rg28 lg29 _ z44  hI) sv_X8_66 (hsh 37 _ rfl) rfl hl.1 rfl (Nat.le_of_ble_eq_true rfl) ⟨Nat.le_of_ble_eq_true rfl, Nat.le_of_ble_eq_true rfl⟩ ⟨Nat.le_of_ble_eq_true rfl, Nat.le_of_ble_eq_true rfl⟩ dX8_waysInto_65 (fun r65 kd61 ig62 rg63 lg64 H locs hw hH hp66 => ?_)
                obtain ⟨rfl, rfl, rfl, rfl, hzhp66, hrhp66⟩ := hp66
                obtain ⟨z67, rfl, hz67⟩ := hrhp66
                refine z_eq (tgt := 92) hx hb dX8_waysInto_68 (by decide) (fun c68 => ?_) (fun c68 => ?_)
                · refine tc_inc hx hb dX8_waysInto_92 hl (k := 2) rfl (by decide) (by decide) (fun z68 hz68 ls hl => ?_)
                  first | replace hz68 := hz68 (by omega) | clear hz68
                  have hl : lv_has ls 6 [(3, .int z68), (5, .ref f51), (4, .int z44), (0, .ref (B + 37)), (1, .int x), (2, .int y)] := hl
                  refine lv_goto (tgt := 30) hx hb dX8_waysInto_95 (by decide) ?_
                  exact ih30 ls H locs kd26 ig27 rg28 lg29 z68 (lv_sub hl [0, 3, 4, 5] rfl) hw hI hN (by omega) (by omega) (by omega)
                · refine lv_aload hx hb dX8_waysInto_71 (lv_at hl 0 rfl) ?_
                  refine lv_ifnull hx hb dX8_waysInto_73 ?_
                  refine lv_aload_n hx hb dX8_waysInto_76 rfl (lv_at hl 3 rfl) ?_
                  refine r_get C hw (hsh 37 _ rfl) fl_X8_23 (oV_r rfl (hrs (37, 3, 39) (by decide))) dX8_waysInto_77 ?_
                  refine lv_iload hx hb dX8_waysInto_80 (lv_at hl 1 rfl) ?_
                  refine lv_aload_n hx hb dX8_waysInto_82 rfl (lv_at hl 3 rfl) ?_
                  refine lv_iload_n hx hb dX8_waysInto_83 rfl (lv_at hl 4 rfl) ?_
                  refine lv_iload hx hb dX8_waysInto_84 (lv_at hl 1 rfl) ?_
                  refine lv_aload hx hb dX8_waysInto_86 (lv_at hl 0 rfl) ?_
                  refine r_callV (As := [.int x, .int z44, .ref f51]) (rest := [.int z44, .ref (B + 39)]) C hw (t_X8_waysThrough l B D cA kd26 ig27 rg28 lg29 _ x z44 f51 nf51 Ff51  hI) sv_X8_80 (hsh 37 _ rfl) rfl hl.1 rfl (Nat.le_of_ble_eq_true rfl) ⟨Nat.le_of_ble_eq_true rfl, Nat.le_of_ble_eq_true rfl⟩ ⟨Nat.le_of_ble_eq_true rfl, Nat.le_of_ble_eq_true rfl⟩ dX8_waysInto_88 (fun r73 kd69 ig70 rg71 lg72 H locs hw hH hp74 => ?_)
                  obtain ⟨hI, hchp74, hrhp74⟩ := hp74
                  have hN := hN.tr hchp74
                  have hsh := hI.sh
                  have hrs := hI.rs
                  obtain ⟨z75, rfl, hz75⟩ := hrhp74
                  refine r_iast C hw (hsh 39 _ rfl) (by omega) (by omega) dX8_waysInto_91 (fun H locs hH hw => ?_)
                  obtain ⟨ig76, eig76⟩ : ∃ f, f = up2 ig70 (B + 39) z44.toInt.toNat z75 := ⟨_, rfl⟩
                  rw [← eig76] at hw
                  have hN : Nx 958 B none kd ig rg lg kd69 ig76 rg71 lg72 := by rw [eig76]; exact hN.pi (by omega)
                  have hI : IC τ B kd69 ig76 rg71 := by rw [eig76]; exact hI.pi (show okR none _ from trivial)
                  refine tc_inc hx hb dX8_waysInto_92 hl (k := 2) rfl (by decide) (by decide) (fun z77 hz77 ls hl => ?_)
                  first | replace hz77 := hz77 (by omega) | clear hz77
                  have hl : lv_has ls 6 [(3, .int z77), (5, .ref f51), (4, .int z44), (0, .ref (B + 37)), (1, .int x), (2, .int y)] := hl
                  refine lv_goto (tgt := 30) hx hb dX8_waysInto_95 (by decide) ?_
                  exact ih30 ls H locs kd69 ig76 rg71 lg72 z77 (lv_sub hl [0, 3, 4, 5] rfl) hw hI hN (by omega) (by omega) (by omega)
        exact L30 ((288 - z24.toInt) + 1).toNat ls H locs kd ig rg lg z24 (lv_sub hl [0, 1, 2, 3] rfl) hw hI hN (by omega) (by omega) (by omega)
      · refine lv_iconst (v := 0) hx hb dX8_waysInto_26 (by decide) (ti_c 0 (by decide) fun z78 hz78 => ?_)
        exact r_iret C hw hr hlk rfl (Nat.le_of_ble_eq_true rfl) (Nat.le_of_ble_eq_true rfl) dX8_waysInto_27 ⟨hI, hN, ⟨_, rfl, trivial⟩⟩

set_option maxHeartbeats 4000000 in
set_option maxRecDepth 100000 in
theorem t_X8_forgetTwiceOf {τ : Tp} (l : Launch) (B : Nat) (D : va_G) (cA : Nat → ClassId) (kd : sK) (ig : sI) (rg : sR) (lg : sG) (sz : Nat) (x : Int32) (hx0 : 0 ≤ x.toInt ∧ x.toInt < 288) (hI : IC τ B kd ig rg) : MC l B D cA yX8_forgetTwiceOf cX8_forgetTwiceOf 3 none (rL 0 0 0) [.ref (B + 37), .int x] kd ig rg lg sz (PI 958 τ B none kd ig rg lg (fun r kd' ig' rg' lg' => (r = none ∧ (ig' (B + 43) 6).toInt = (ig (B + 43) 6).toInt))) := by
  refine MC.of (own := RX8) (by decide +kernel) rfl (Nat.le_of_ble_eq_true rfl) ?_
  intro p e s m args below meth c ls C hr hlk hnm hw hsz hl
  have hx := C.1.1
  have hb := C.1.2.1
  have hown := C.1.2.2.2.1
  have hts := C.1.2.2.2.2
  have hl : lv_has ls 3 [(0, .ref (B + 37)), (1, .int x)] := hl
  have hN : Nx 958 B none kd ig rg lg kd ig rg lg := Nx.rf
  have hsh := hI.sh
  have hrs := hI.rs
  refine lv_iconst (v := 0) hx hb dX8_forgetTwiceOf_0 (by decide) (ti_c 0 (by decide) fun z1 hz1 => ?_)
  refine lv_istore_n (lv' := [(2, .int z1), (0, .ref (B + 37)), (1, .int x)]) hx hb dX8_forgetTwiceOf_1 rfl hl (by decide) rfl (fun ls hl => ?_)
  have L2 : ∀ (n : Nat) (ls : Array Slot) (H : Heap) (locs : List Loc) (kd3 : sK) (ig4 : sI) (rg5 : sR) (lg6 : sG) (v2 : Int32), lv_has ls 3 [(2, .int v2), (0, .ref (B + 37)), (1, .int x)] → WD B D cA s.heap kd3 ig4 rg5 lg6 H locs → IC τ B kd3 ig4 rg5 → Nx 958 B none kd ig rg lg kd3 ig4 rg5 lg6 → (0 ≤ v2.toInt) → (v2.toInt ≤ 5) → ((ig4 (B + 43) 6).toInt = (ig (B + 43) 6).toInt) → 5 - v2.toInt < (n : Int) → W p l e (rL 0 0 0) s m args below meth c H locs 0 0 (MQ below (QcW B D cA (PI 958 τ B none kd ig rg lg (fun r kd' ig' rg' lg' => (r = none ∧ (ig' (B + 43) 6).toInt = (ig (B + 43) 6).toInt)))) args s 0 0 (fun q => B ≤ q)) (F0 m 2 ls []) := by
    intro n2
    induction n2 with
    | zero => intro ls H locs kd3 ig4 rg5 lg6 v2 hl hw hI hN g2_0 g2_1 g2_2 hmu; exact absurd hmu (by omega)
    | succ n2 ih2 =>
      intro ls H locs kd3 ig4 rg5 lg6 v2 hl hw hI hN g2_0 g2_1 g2_2 hmu
      have hsh := hI.sh
      have hrs := hI.rs
      refine lv_iload_n hx hb dX8_forgetTwiceOf_2 rfl (lv_at hl 0 rfl) ?_
      refine lv_iconst (v := 5) hx hb dX8_forgetTwiceOf_3 (by decide) (ti_c 5 (by decide) fun z7 hz7 => ?_)
      refine b_ge (tgt := 35) hx hb dX8_forgetTwiceOf_4 (by decide) (fun c4 => ?_) (fun c4 => ?_)
      · exact r_vret C hw hr hlk (Nat.le_of_ble_eq_true rfl) (Nat.le_of_ble_eq_true rfl) dX8_forgetTwiceOf_35 ⟨hI, hN, ⟨rfl, by omega⟩⟩
      · refine lv_aload_n hx hb dX8_forgetTwiceOf_7 rfl (lv_at hl 1 rfl) ?_
        refine r_get C hw (hsh 37 _ rfl) fl_X8_30 (oV_r rfl (hrs (37, 5, 41) (by decide))) dX8_forgetTwiceOf_8 ?_
        refine lv_iload_n hx hb dX8_forgetTwiceOf_11 rfl (lv_at hl 2 rfl) ?_
        refine lv_iconst (v := 5) hx hb dX8_forgetTwiceOf_12 (by decide) (ti_c 5 (by decide) fun z8 hz8 => ?_)
        refine lv_imul hx hb dX8_forgetTwiceOf_13 (tc_mulR 5 hz8 fun z9 hz9 => ?_)
        first | replace hz9 := hz9 (by omega) | clear hz9
        refine lv_iload_n hx hb dX8_forgetTwiceOf_14 rfl (lv_at hl 0 rfl) ?_
        refine lv_iadd hx hb dX8_forgetTwiceOf_15 (tc_add fun z10 hz10 => ?_)
        first | replace hz10 := hz10 (by omega) | clear hz10
        refine lv_lconst (v := 0) hx hb dX8_forgetTwiceOf_16 (by decide) (lv_topl fun x11 hx11 => ?_)
        refine r_last C hw (hsh 41 _ rfl) (by omega) (by omega) dX8_forgetTwiceOf_17 (fun H locs hH hw => ?_)
        obtain ⟨lg12, elg12⟩ : ∃ f, f = up2 lg6 (B + 41) z10.toInt.toNat x11 := ⟨_, rfl⟩
        rw [← elg12] at hw
        have hN : Nx 958 B none kd ig rg lg kd3 ig4 rg5 lg12 := by rw [elg12]; exact hN.pl (by omega)
        refine lv_aload_n hx hb dX8_forgetTwiceOf_18 rfl (lv_at hl 1 rfl) ?_
        refine r_get C hw (hsh 37 _ rfl) fl_X8_34 (oV_r rfl (hrs (37, 6, 42) (by decide))) dX8_forgetTwiceOf_19 ?_
        refine lv_iload_n hx hb dX8_forgetTwiceOf_22 rfl (lv_at hl 2 rfl) ?_
        refine lv_iconst (v := 5) hx hb dX8_forgetTwiceOf_23 (by decide) (ti_c 5 (by decide) fun z13 hz13 => ?_)
        refine lv_imul hx hb dX8_forgetTwiceOf_24 (tc_mulR 5 hz13 fun z14 hz14 => ?_)
        first | replace hz14 := hz14 (by omega) | clear hz14
        refine lv_iload_n hx hb dX8_forgetTwiceOf_25 rfl (lv_at hl 0 rfl) ?_
        refine lv_iadd hx hb dX8_forgetTwiceOf_26 (tc_add fun z15 hz15 => ?_)
        first | replace hz15 := hz15 (by omega) | clear hz15
        refine lv_lconst (v := 0) hx hb dX8_forgetTwiceOf_27 (by decide) (lv_topl fun x16 hx16 => ?_)
        refine r_last C hw (hsh 42 _ rfl) (by omega) (by omega) dX8_forgetTwiceOf_28 (fun H locs hH hw => ?_)
        obtain ⟨lg17, elg17⟩ : ∃ f, f = up2 lg12 (B + 42) z15.toInt.toNat x16 := ⟨_, rfl⟩
        rw [← elg17] at hw
        have hN : Nx 958 B none kd ig rg lg kd3 ig4 rg5 lg17 := by rw [elg17]; exact hN.pl (by omega)
        refine tc_inc hx hb dX8_forgetTwiceOf_29 hl (k := 0) rfl (by decide) (by decide) (fun z18 hz18 ls hl => ?_)
        first | replace hz18 := hz18 (by omega) | clear hz18
        have hl : lv_has ls 3 [(2, .int z18), (0, .ref (B + 37)), (1, .int x)] := hl
        refine lv_goto (tgt := 2) hx hb dX8_forgetTwiceOf_32 (by decide) ?_
        exact ih2 ls H locs kd3 ig4 rg5 lg17 z18 (lv_sub hl [0, 1, 2] rfl) hw hI hN (by omega) (by omega) (by omega) (by omega)
  exact L2 ((5 - z1.toInt) + 1).toNat ls s.heap [] kd ig rg lg z1 (lv_sub hl [0, 1, 2] rfl) hw hI hN (by omega) (by omega) (by omega) (by omega)

set_option maxHeartbeats 4000000 in
set_option maxRecDepth 100000 in
theorem t_X8_addWaysOf {τ : Tp} (l : Launch) (B : Nat) (D : va_G) (cA : Nat → ClassId) (kd : sK) (ig : sI) (rg : sR) (lg : sG) (sz : Nat) (x : Int32) (y : Int32) (hI : IC τ B kd ig rg) : MC l B D cA yX8_addWaysOf cX8_addWaysOf 6 none (rL 1 0 0) [.ref (B + 37), .int x, .int y] kd ig rg lg sz (PI 958 τ B none kd ig rg lg (fun r kd' ig' rg' lg' => (r = none ∧ (ig' (B + 43) 6).toInt = (ig (B + 43) 6).toInt))) := by
  refine MC.of (own := RX8) (by decide +kernel) rfl (Nat.le_of_ble_eq_true rfl) ?_
  intro p e s m args below meth c ls C hr hlk hnm hw hsz hl
  have hx := C.1.1
  have hb := C.1.2.1
  have hown := C.1.2.2.2.1
  have hts := C.1.2.2.2.2
  have hl : lv_has ls 6 [(0, .ref (B + 37)), (1, .int x), (2, .int y)] := hl
  have hN : Nx 958 B none kd ig rg lg kd ig rg lg := Nx.rf
  have hsh := hI.sh
  have hrs := hI.rs
  refine lv_iload_n hx hb dX8_addWaysOf_0 rfl (lv_at hl 1 rfl) ?_
  refine r_callN (As := [.int x]) (rest := []) C hw (t_X11_onSheet l B D cA kd ig rg lg _ x  hI) sn_X8_63 rfl hl.1 rfl (Nat.le_of_ble_eq_true rfl) ⟨Nat.le_of_ble_eq_true rfl, Nat.le_of_ble_eq_true rfl⟩ ⟨Nat.le_of_ble_eq_true rfl, Nat.le_of_ble_eq_true rfl⟩ dX8_addWaysOf_1 (fun r5 kd1 ig2 rg3 lg4 H locs hw hH hp6 => ?_)
  obtain ⟨rfl, rfl, rfl, rfl, hzhp6, hrhp6⟩ := hp6
  obtain ⟨z7, rfl, hz7⟩ := hrhp6
  refine z_eq (tgt := 14) hx hb dX8_addWaysOf_4 (by decide) (fun c4 => ?_) (fun c4 => ?_)
  · exact r_vret C hw hr hlk (Nat.le_of_ble_eq_true rfl) (Nat.le_of_ble_eq_true rfl) dX8_addWaysOf_14 ⟨hI, hN, ⟨rfl, by omega⟩⟩
  · refine lv_iload_n hx hb dX8_addWaysOf_7 rfl (lv_at hl 2 rfl) ?_
    refine r_callN (As := [.int y]) (rest := []) C hw (t_X11_onSheet l B D cA kd ig rg lg _ y  hI) sn_X8_63 rfl hl.1 rfl (Nat.le_of_ble_eq_true rfl) ⟨Nat.le_of_ble_eq_true rfl, Nat.le_of_ble_eq_true rfl⟩ ⟨Nat.le_of_ble_eq_true rfl, Nat.le_of_ble_eq_true rfl⟩ dX8_addWaysOf_8 (fun r12 kd8 ig9 rg10 lg11 H locs hw hH hp13 => ?_)
    obtain ⟨rfl, rfl, rfl, rfl, hzhp13, hrhp13⟩ := hp13
    obtain ⟨z14, rfl, hz14⟩ := hrhp13
    refine z_ne (tgt := 15) hx hb dX8_addWaysOf_11 (by decide) (fun c11 => ?_) (fun c11 => ?_)
    · refine lv_iconst (v := 0) hx hb dX8_addWaysOf_15 (by decide) (ti_c 0 (by decide) fun z15 hz15 => ?_)
      refine lv_istore_n (lv' := [(3, .int z15), (0, .ref (B + 37)), (1, .int x), (2, .int y)]) hx hb dX8_addWaysOf_16 rfl hl (by decide) rfl (fun ls hl => ?_)
      have L17 : ∀ (n : Nat) (ls : Array Slot) (H : Heap) (locs : List Loc) (kd17 : sK) (ig18 : sI) (rg19 : sR) (lg20 : sG) (v16 : Int32), lv_has ls 6 [(3, .int v16), (0, .ref (B + 37)), (1, .int x), (2, .int y)] → WD B D cA s.heap kd17 ig18 rg19 lg20 H locs → IC τ B kd17 ig18 rg19 → Nx 958 B none kd ig rg lg kd17 ig18 rg19 lg20 → (0 ≤ v16.toInt) → (v16.toInt ≤ 5) → ((ig18 (B + 43) 6).toInt = (ig (B + 43) 6).toInt) → 5 - v16.toInt < (n : Int) → W p l e (rL 1 0 0) s m args below meth c H locs 0 0 (MQ below (QcW B D cA (PI 958 τ B none kd ig rg lg (fun r kd' ig' rg' lg' => (r = none ∧ (ig' (B + 43) 6).toInt = (ig (B + 43) 6).toInt)))) args s 0 0 (fun q => B ≤ q)) (F0 m 17 ls []) := by
        intro n17
        induction n17 with
        | zero => intro ls H locs kd17 ig18 rg19 lg20 v16 hl hw hI hN g17_0 g17_1 g17_2 hmu; exact absurd hmu (by omega)
        | succ n17 ih17 =>
          intro ls H locs kd17 ig18 rg19 lg20 v16 hl hw hI hN g17_0 g17_1 g17_2 hmu
          have hsh := hI.sh
          have hrs := hI.rs
          refine lv_iload_n hx hb dX8_addWaysOf_17 rfl (lv_at hl 0 rfl) ?_
          refine lv_iconst (v := 5) hx hb dX8_addWaysOf_18 (by decide) (ti_c 5 (by decide) fun z21 hz21 => ?_)
          refine b_ge (tgt := 92) hx hb dX8_addWaysOf_19 (by decide) (fun c19 => ?_) (fun c19 => ?_)
          · exact r_vret C hw hr hlk (Nat.le_of_ble_eq_true rfl) (Nat.le_of_ble_eq_true rfl) dX8_addWaysOf_92 ⟨hI, hN, ⟨rfl, by omega⟩⟩
          · refine lv_iload_n hx hb dX8_addWaysOf_22 rfl (lv_at hl 2 rfl) ?_
            refine lv_iconst (v := 5) hx hb dX8_addWaysOf_23 (by decide) (ti_c 5 (by decide) fun z22 hz22 => ?_)
            refine lv_imul hx hb dX8_addWaysOf_24 (tc_mulR 5 hz22 fun z23 hz23 => ?_)
            first | replace hz23 := hz23 (by omega) | clear hz23
            refine lv_iload_n hx hb dX8_addWaysOf_25 rfl (lv_at hl 0 rfl) ?_
            refine lv_iadd hx hb dX8_addWaysOf_26 (tc_add fun z24 hz24 => ?_)
            first | replace hz24 := hz24 (by omega) | clear hz24
            refine lv_istore (lv' := [(4, .int z24), (3, .int v16), (0, .ref (B + 37)), (1, .int x), (2, .int y)]) hx hb dX8_addWaysOf_27 hl (by decide) rfl (fun ls hl => ?_)
            refine lv_iload_n hx hb dX8_addWaysOf_29 rfl (lv_at hl 4 rfl) ?_
            refine lv_iconst (v := 5) hx hb dX8_addWaysOf_30 (by decide) (ti_c 5 (by decide) fun z25 hz25 => ?_)
            refine lv_imul hx hb dX8_addWaysOf_31 (tc_mulR 5 hz25 fun z26 hz26 => ?_)
            first | replace hz26 := hz26 (by omega) | clear hz26
            refine lv_iload_n hx hb dX8_addWaysOf_32 rfl (lv_at hl 1 rfl) ?_
            refine lv_iadd hx hb dX8_addWaysOf_33 (tc_add fun z27 hz27 => ?_)
            first | replace hz27 := hz27 (by omega) | clear hz27
            refine lv_istore (lv' := [(5, .int z27), (4, .int z24), (3, .int v16), (0, .ref (B + 37)), (1, .int x), (2, .int y)]) hx hb dX8_addWaysOf_34 hl (by decide) rfl (fun ls hl => ?_)
            refine lv_aload_n hx hb dX8_addWaysOf_36 rfl (lv_at hl 3 rfl) ?_
            refine r_get C hw (hsh 37 _ rfl) fl_X8_34 (oV_r rfl (hrs (37, 6, 42) (by decide))) dX8_addWaysOf_37 ?_
            refine lv_iload hx hb dX8_addWaysOf_40 (lv_at hl 1 rfl) ?_
            refine lv_dup2_11 hx hb dX8_addWaysOf_42 rfl rfl ?_
            refine r_lald C hw (hsh 42 _ rfl) (by omega) (by omega) dX8_addWaysOf_43 (lv_topl fun x28 hx28 => ?_)
            refine lv_aload_n hx hb dX8_addWaysOf_44 rfl (lv_at hl 3 rfl) ?_
            refine r_get C hw (hsh 37 _ rfl) fl_X8_34 (oV_r rfl (hrs (37, 6, 42) (by decide))) dX8_addWaysOf_45 ?_
            refine lv_iload hx hb dX8_addWaysOf_48 (lv_at hl 0 rfl) ?_
            refine r_lald C hw (hsh 42 _ rfl) (by omega) (by omega) dX8_addWaysOf_50 (lv_topl fun x29 hx29 => ?_)
            refine lv_aload_n hx hb dX8_addWaysOf_51 rfl (lv_at hl 3 rfl) ?_
            refine r_get C hw (hsh 37 _ rfl) fl_X8_30 (oV_r rfl (hrs (37, 5, 41) (by decide))) dX8_addWaysOf_52 ?_
            refine lv_iload hx hb dX8_addWaysOf_55 (lv_at hl 1 rfl) ?_
            refine r_lald C hw (hsh 41 _ rfl) (by omega) (by omega) dX8_addWaysOf_57 (lv_topl fun x30 hx30 => ?_)
            refine lv_aload_n hx hb dX8_addWaysOf_58 rfl (lv_at hl 3 rfl) ?_
            refine r_get C hw (hsh 37 _ rfl) fl_X8_30 (oV_r rfl (hrs (37, 5, 41) (by decide))) dX8_addWaysOf_59 ?_
            refine lv_iload hx hb dX8_addWaysOf_62 (lv_at hl 0 rfl) ?_
            refine r_lald C hw (hsh 41 _ rfl) (by omega) (by omega) dX8_addWaysOf_64 (lv_topl fun x31 hx31 => ?_)
            refine lv_land hx hb dX8_addWaysOf_65 (lv_topl fun x32 hx32 => ?_)
            refine lv_lor hx hb dX8_addWaysOf_66 (lv_topl fun x33 hx33 => ?_)
            refine lv_lor hx hb dX8_addWaysOf_67 (lv_topl fun x34 hx34 => ?_)
            refine r_last C hw (hsh 42 _ rfl) (by omega) (by omega) dX8_addWaysOf_68 (fun H locs hH hw => ?_)
            obtain ⟨lg35, elg35⟩ : ∃ f, f = up2 lg20 (B + 42) z24.toInt.toNat x34 := ⟨_, rfl⟩
            rw [← elg35] at hw
            have hN : Nx 958 B none kd ig rg lg kd17 ig18 rg19 lg35 := by rw [elg35]; exact hN.pl (by omega)
            refine lv_aload_n hx hb dX8_addWaysOf_69 rfl (lv_at hl 3 rfl) ?_
            refine r_get C hw (hsh 37 _ rfl) fl_X8_30 (oV_r rfl (hrs (37, 5, 41) (by decide))) dX8_addWaysOf_70 ?_
            refine lv_iload hx hb dX8_addWaysOf_73 (lv_at hl 1 rfl) ?_
            refine lv_dup2_11 hx hb dX8_addWaysOf_75 rfl rfl ?_
            refine r_lald C hw (hsh 41 _ rfl) (by omega) (by omega) dX8_addWaysOf_76 (lv_topl fun x36 hx36 => ?_)
            refine lv_aload_n hx hb dX8_addWaysOf_77 rfl (lv_at hl 3 rfl) ?_
            refine r_get C hw (hsh 37 _ rfl) fl_X8_30 (oV_r rfl (hrs (37, 5, 41) (by decide))) dX8_addWaysOf_78 ?_
            refine lv_iload hx hb dX8_addWaysOf_81 (lv_at hl 0 rfl) ?_
            refine r_lald C hw (hsh 41 _ rfl) (by omega) (by omega) dX8_addWaysOf_83 (lv_topl fun x37 hx37 => ?_)
            refine lv_lor hx hb dX8_addWaysOf_84 (lv_topl fun x38 hx38 => ?_)
            refine r_last C hw (hsh 41 _ rfl) (by omega) (by omega) dX8_addWaysOf_85 (fun H locs hH hw => ?_)
            obtain ⟨lg39, elg39⟩ : ∃ f, f = up2 lg35 (B + 41) z24.toInt.toNat x38 := ⟨_, rfl⟩
            rw [← elg39] at hw
            have hN : Nx 958 B none kd ig rg lg kd17 ig18 rg19 lg39 := by rw [elg39]; exact hN.pl (by omega)
            refine tc_inc hx hb dX8_addWaysOf_86 hl (k := 2) rfl (by decide) (by decide) (fun z40 hz40 ls hl => ?_)
            first | replace hz40 := hz40 (by omega) | clear hz40
            have hl : lv_has ls 6 [(3, .int z40), (5, .int z27), (4, .int z24), (0, .ref (B + 37)), (1, .int x), (2, .int y)] := hl
            refine lv_goto (tgt := 17) hx hb dX8_addWaysOf_89 (by decide) ?_
            exact ih17 ls H locs kd17 ig18 rg19 lg39 z40 (lv_sub hl [0, 3, 4, 5] rfl) hw hI hN (by omega) (by omega) (by omega) (by omega)
      exact L17 ((5 - z15.toInt) + 1).toNat ls H locs kd ig rg lg z15 (lv_sub hl [0, 1, 2, 3] rfl) hw hI hN (by omega) (by omega) (by omega) (by omega)
    · exact r_vret C hw hr hlk (Nat.le_of_ble_eq_true rfl) (Nat.le_of_ble_eq_true rfl) dX8_addWaysOf_14 ⟨hI, hN, ⟨rfl, by omega⟩⟩

set_option maxHeartbeats 4000000 in
set_option maxRecDepth 100000 in
theorem t_X8_addRead {τ : Tp} (l : Launch) (B : Nat) (D : va_G) (cA : Nat → ClassId) (kd : sK) (ig : sI) (rg : sR) (lg : sG) (sz : Nat) (x : Int32) (y : Int32) (hI : IC τ B kd ig rg) : MC l B D cA yX8_addRead cX8_addRead 3 none (rL 2 0 0) [.ref (B + 37), .int x, .int y] kd ig rg lg sz (PI 958 τ B none kd ig rg lg (fun r kd' ig' rg' lg' => (r = none ∧ (ig' (B + 43) 6).toInt = (ig (B + 43) 6).toInt))) := by
  refine MC.of (own := RX8) (by decide +kernel) rfl (Nat.le_of_ble_eq_true rfl) ?_
  intro p e s m args below meth c ls C hr hlk hnm hw hsz hl
  have hx := C.1.1
  have hb := C.1.2.1
  have hown := C.1.2.2.2.1
  have hts := C.1.2.2.2.2
  have hl : lv_has ls 3 [(0, .ref (B + 37)), (1, .int x), (2, .int y)] := hl
  have hN : Nx 958 B none kd ig rg lg kd ig rg lg := Nx.rf
  have hsh := hI.sh
  have hrs := hI.rs
  refine lv_aload_n hx hb dX8_addRead_0 rfl (lv_at hl 0 rfl) ?_
  refine lv_iload_n hx hb dX8_addRead_1 rfl (lv_at hl 2 rfl) ?_
  refine r_callV (As := [.int y]) (rest := []) C hw (t_X8_isTotal l B D cA kd ig rg lg _ y  hI) sv_X8_66 (hsh 37 _ rfl) rfl hl.1 rfl (Nat.le_of_ble_eq_true rfl) ⟨Nat.le_of_ble_eq_true rfl, Nat.le_of_ble_eq_true rfl⟩ ⟨Nat.le_of_ble_eq_true rfl, Nat.le_of_ble_eq_true rfl⟩ dX8_addRead_2 (fun r5 kd1 ig2 rg3 lg4 H locs hw hH hp6 => ?_)
  obtain ⟨rfl, rfl, rfl, rfl, hzhp6, hrhp6⟩ := hp6
  obtain ⟨z7, rfl, hz7⟩ := hrhp6
  refine z_eq (tgt := 17) hx hb dX8_addRead_5 (by decide) (fun c5 => ?_) (fun c5 => ?_)
  · refine lv_aload_n hx hb dX8_addRead_17 rfl (lv_at hl 0 rfl) ?_
    refine r_get C hw (hsh 37 _ rfl) fl_X8_9 (oV_r rfl (hrs (37, 0, 9) (by decide))) dX8_addRead_18 ?_
    refine lv_iload_n hx hb dX8_addRead_21 rfl (lv_at hl 2 rfl) ?_
    refine r_callV (As := [.int y]) (rest := []) C hw (t_X6_kindAt l B D cA kd ig rg lg _ y  hI) sv_X8_69 (hsh 9 _ rfl) rfl hl.1 rfl (Nat.le_of_ble_eq_true rfl) ⟨Nat.le_of_ble_eq_true rfl, Nat.le_of_ble_eq_true rfl⟩ ⟨Nat.le_of_ble_eq_true rfl, Nat.le_of_ble_eq_true rfl⟩ dX8_addRead_22 (fun r12 kd8 ig9 rg10 lg11 H locs hw hH hp13 => ?_)
    obtain ⟨rfl, rfl, rfl, rfl, hzhp13, hrhp13⟩ := hp13
    obtain ⟨z14, rfl, hz14⟩ := hrhp13
    refine z_eq (tgt := 58) hx hb dX8_addRead_25 (by decide) (fun c25 => ?_) (fun c25 => ?_)
    · exact r_vret C hw hr hlk (Nat.le_of_ble_eq_true rfl) (Nat.le_of_ble_eq_true rfl) dX8_addRead_58 ⟨hI, hN, ⟨rfl, by omega⟩⟩
    · refine lv_aload_n hx hb dX8_addRead_28 rfl (lv_at hl 0 rfl) ?_
      refine r_get C hw (hsh 37 _ rfl) fl_X8_30 (oV_r rfl (hrs (37, 5, 41) (by decide))) dX8_addRead_29 ?_
      refine lv_iload_n hx hb dX8_addRead_32 rfl (lv_at hl 1 rfl) ?_
      refine lv_iload_n hx hb dX8_addRead_33 rfl (lv_at hl 2 rfl) ?_
      refine r_callN (As := [.ref (B + 41), .int x, .int y]) (rest := []) C hw (t_X11_hasBit l B D cA kd ig rg lg _ 41 (Or.inr (Or.inr (Or.inl rfl))) x y  hI) sn_X8_118 rfl hl.1 rfl (Nat.le_of_ble_eq_true rfl) ⟨Nat.le_of_ble_eq_true rfl, Nat.le_of_ble_eq_true rfl⟩ ⟨Nat.le_of_ble_eq_true rfl, Nat.le_of_ble_eq_true rfl⟩ dX8_addRead_34 (fun r19 kd15 ig16 rg17 lg18 H locs hw hH hp20 => ?_)
      obtain ⟨rfl, rfl, rfl, rfl, hzhp20, hrhp20⟩ := hp20
      obtain ⟨z21, rfl, hz21⟩ := hrhp20
      have J49 : ∀ (ls : Array Slot) (H : Heap) (locs : List Loc) (kd22 : sK) (ig23 : sI) (rg24 : sR) (lg25 : sG) , lv_has ls 3 [(0, .ref (B + 37)), (1, .int x), (2, .int y)] → WD B D cA s.heap kd22 ig23 rg24 lg25 H locs → IC τ B kd22 ig23 rg24 → Nx 958 B none kd ig rg lg kd22 ig23 rg24 lg25 → ((ig23 (B + 43) 6).toInt = (ig (B + 43) 6).toInt) → W p l e (rL 2 0 0) s m args below meth c H locs 0 0 (MQ below (QcW B D cA (PI 958 τ B none kd ig rg lg (fun r kd' ig' rg' lg' => (r = none ∧ (ig' (B + 43) 6).toInt = (ig (B + 43) 6).toInt)))) args s 0 0 (fun q => B ≤ q)) (F0 m 49 ls []) := by
        intro ls H locs kd22 ig23 rg24 lg25 hl hw hI hN g49_0
        have hsh := hI.sh
        have hrs := hI.rs
        refine lv_aload_n hx hb dX8_addRead_49 rfl (lv_at hl 0 rfl) ?_
        refine r_get C hw (hsh 37 _ rfl) fl_X8_30 (oV_r rfl (hrs (37, 5, 41) (by decide))) dX8_addRead_50 ?_
        refine lv_iload_n hx hb dX8_addRead_53 rfl (lv_at hl 1 rfl) ?_
        refine lv_iload_n hx hb dX8_addRead_54 rfl (lv_at hl 2 rfl) ?_
        refine r_callN (As := [.ref (B + 41), .int x, .int y]) (rest := []) C hw (t_X11_setBitT l B D cA kd22 ig23 rg24 lg25 _ 41 (Or.inr (Or.inr (Or.inl rfl))) (nWl.lit (by decide)) x y  hI) sn_X8_122 rfl hl.1 rfl (Nat.le_of_ble_eq_true rfl) ⟨Nat.le_of_ble_eq_true rfl, Nat.le_of_ble_eq_true rfl⟩ ⟨Nat.le_of_ble_eq_true rfl, Nat.le_of_ble_eq_true rfl⟩ dX8_addRead_55 (fun r30 kd26 ig27 rg28 lg29 H locs hw hH hp31 => ?_)
        obtain ⟨hI, hchp31, hrhp31⟩ := hp31
        have hN := hN.tr hchp31
        have hsh := hI.sh
        have hrs := hI.rs
        obtain ⟨rfl, hvhp31⟩ := hrhp31
        exact r_vret C hw hr hlk (Nat.le_of_ble_eq_true rfl) (Nat.le_of_ble_eq_true rfl) dX8_addRead_58 ⟨hI, hN, ⟨rfl, by omega⟩⟩
      refine z_eq (tgt := 49) hx hb dX8_addRead_37 (by decide) (fun c37 => ?_) (fun c37 => ?_)
      · exact J49 ls H locs kd ig rg lg (lv_sub hl [0, 1, 2] rfl) hw hI hN (by omega)
      · refine lv_aload_n hx hb dX8_addRead_40 rfl (lv_at hl 0 rfl) ?_
        refine r_get C hw (hsh 37 _ rfl) fl_X8_34 (oV_r rfl (hrs (37, 6, 42) (by decide))) dX8_addRead_41 ?_
        refine lv_iload_n hx hb dX8_addRead_44 rfl (lv_at hl 1 rfl) ?_
        refine lv_iload_n hx hb dX8_addRead_45 rfl (lv_at hl 2 rfl) ?_
        refine r_callN (As := [.ref (B + 42), .int x, .int y]) (rest := []) C hw (t_X11_setBitT l B D cA kd ig rg lg _ 42 (Or.inr (Or.inr (Or.inr rfl))) (nWl.lit (by decide)) x y  hI) sn_X8_122 rfl hl.1 rfl (Nat.le_of_ble_eq_true rfl) ⟨Nat.le_of_ble_eq_true rfl, Nat.le_of_ble_eq_true rfl⟩ ⟨Nat.le_of_ble_eq_true rfl, Nat.le_of_ble_eq_true rfl⟩ dX8_addRead_46 (fun r36 kd32 ig33 rg34 lg35 H locs hw hH hp37 => ?_)
        obtain ⟨hI, hchp37, hrhp37⟩ := hp37
        have hN := hN.tr hchp37
        have hsh := hI.sh
        have hrs := hI.rs
        obtain ⟨rfl, hvhp37⟩ := hrhp37
        exact J49 ls H locs kd32 ig33 rg34 lg35 (lv_sub hl [0, 1, 2] rfl) hw hI hN (by omega)
  · refine lv_aload_n hx hb dX8_addRead_8 rfl (lv_at hl 0 rfl) ?_
    refine lv_iload_n hx hb dX8_addRead_9 rfl (lv_at hl 1 rfl) ?_
    refine lv_iload_n hx hb dX8_addRead_10 rfl (lv_at hl 2 rfl) ?_
    refine r_callV (As := [.int x, .int y]) (rest := []) C hw (t_X8_addWaysOf l B D cA kd ig rg lg _ x y  hI) sv_X8_115 (hsh 37 _ rfl) rfl hl.1 rfl (Nat.le_of_ble_eq_true rfl) ⟨Nat.le_of_ble_eq_true rfl, Nat.le_of_ble_eq_true rfl⟩ ⟨Nat.le_of_ble_eq_true rfl, Nat.le_of_ble_eq_true rfl⟩ dX8_addRead_11 (fun r42 kd38 ig39 rg40 lg41 H locs hw hH hp43 => ?_)
    obtain ⟨hI, hchp43, hrhp43⟩ := hp43
    have hN := hN.tr hchp43
    have hsh := hI.sh
    have hrs := hI.rs
    obtain ⟨rfl, hvhp43⟩ := hrhp43
    refine lv_goto (tgt := 58) hx hb dX8_addRead_14 (by decide) ?_
    exact r_vret C hw hr hlk (Nat.le_of_ble_eq_true rfl) (Nat.le_of_ble_eq_true rfl) dX8_addRead_58 ⟨hI, hN, ⟨rfl, by omega⟩⟩

set_option maxHeartbeats 4000000 in
set_option maxRecDepth 100000 in
theorem t_X8_gatherTwiceOf {τ : Tp} (l : Launch) (B : Nat) (D : va_G) (cA : Nat → ClassId) (kd : sK) (ig : sI) (rg : sR) (lg : sG) (sz : Nat) (x : Int32) (g ng : Nat) (Fg : isFn B kd rg g ng) (hI : IC τ B kd ig rg) : MC l B D cA yX8_gatherTwiceOf cX8_gatherTwiceOf 6 none (rL 3 0 0) [.ref (B + 37), .int x, .ref g] kd ig rg lg sz (PI 958 τ B none kd ig rg lg (fun r kd' ig' rg' lg' => (r = none ∧ (ig' (B + 43) 6).toInt = (ig (B + 43) 6).toInt))) := by
  refine MC.of (own := RX8) (by decide +kernel) rfl (Nat.le_of_ble_eq_true rfl) ?_
  intro p e s m args below meth c ls C hr hlk hnm hw hsz hl
  have hx := C.1.1
  have hb := C.1.2.1
  have hown := C.1.2.2.2.1
  have hts := C.1.2.2.2.2
  have hl : lv_has ls 6 [(0, .ref (B + 37)), (1, .int x), (2, .ref g)] := hl
  have hN : Nx 958 B none kd ig rg lg kd ig rg lg := Nx.rf
  have hsh := hI.sh
  have hrs := hI.rs
  have lng := Fg.le
  refine lv_iconst (v := 0) hx hb dX8_gatherTwiceOf_0 (by decide) (ti_c 0 (by decide) fun z1 hz1 => ?_)
  refine lv_istore_n (lv' := [(3, .int z1), (0, .ref (B + 37)), (1, .int x), (2, .ref g)]) hx hb dX8_gatherTwiceOf_1 rfl hl (by decide) rfl (fun ls hl => ?_)
  have L2 : ∀ (n : Nat) (ls : Array Slot) (H : Heap) (locs : List Loc) (kd3 : sK) (ig4 : sI) (rg5 : sR) (lg6 : sG) (v2 : Int32), lv_has ls 6 [(3, .int v2), (0, .ref (B + 37)), (1, .int x), (2, .ref g)] → WD B D cA s.heap kd3 ig4 rg5 lg6 H locs → IC τ B kd3 ig4 rg5 → Nx 958 B none kd ig rg lg kd3 ig4 rg5 lg6 → isFn B kd3 rg5 g ng → (0 ≤ v2.toInt) → (v2.toInt ≤ 120) → ((ig4 (B + 43) 6).toInt = (ig (B + 43) 6).toInt) → 120 - v2.toInt < (n : Int) → W p l e (rL 3 0 0) s m args below meth c H locs 0 0 (MQ below (QcW B D cA (PI 958 τ B none kd ig rg lg (fun r kd' ig' rg' lg' => (r = none ∧ (ig' (B + 43) 6).toInt = (ig (B + 43) 6).toInt)))) args s 0 0 (fun q => B ≤ q)) (F0 m 2 ls []) := by
    intro n2
    induction n2 with
    | zero => intro ls H locs kd3 ig4 rg5 lg6 v2 hl hw hI hN Fg g2_0 g2_1 g2_2 hmu; exact absurd hmu (by omega)
    | succ n2 ih2 =>
      intro ls H locs kd3 ig4 rg5 lg6 v2 hl hw hI hN Fg g2_0 g2_1 g2_2 hmu
      have hsh := hI.sh
      have hrs := hI.rs
      refine lv_iload_n hx hb dX8_gatherTwiceOf_2 rfl (lv_at hl 0 rfl) ?_
      refine lv_aload_n hx hb dX8_gatherTwiceOf_3 rfl (lv_at hl 3 rfl) ?_
      refine r_callV (As := []) (rest := [.int v2]) C hw (t_X4_size l B D cA kd3 ig4 rg5 lg6 _ g ng Fg  hI) sv_X8_84 (isFn.k Fg) rfl hl.1 rfl (Nat.le_of_ble_eq_true rfl) ⟨Nat.le_of_ble_eq_true rfl, Nat.le_of_ble_eq_true rfl⟩ ⟨Nat.le_of_ble_eq_true rfl, Nat.le_of_ble_eq_true rfl⟩ dX8_gatherTwiceOf_4 (fun r11 kd7 ig8 rg9 lg10 H locs hw hH hp12 => ?_)
      obtain ⟨rfl, rfl, rfl, rfl, hzhp12, hrhp12⟩ := hp12
      obtain ⟨z13, rfl, hz13⟩ := hrhp12
      refine b_ge (tgt := 76) hx hb dX8_gatherTwiceOf_7 (by decide) (fun c7 => ?_) (fun c7 => ?_)
      · exact r_vret C hw hr hlk (Nat.le_of_ble_eq_true rfl) (Nat.le_of_ble_eq_true rfl) dX8_gatherTwiceOf_76 ⟨hI, hN, ⟨rfl, by omega⟩⟩
      · refine lv_aload_n hx hb dX8_gatherTwiceOf_10 rfl (lv_at hl 3 rfl) ?_
        refine lv_iload_n hx hb dX8_gatherTwiceOf_11 rfl (lv_at hl 0 rfl) ?_
        refine r_callV (As := [.int v2]) (rest := []) C hw (t_X4_readsAt l B D cA kd3 ig4 rg5 lg6 _ g ng Fg v2  hI) sv_X8_87 (isFn.k Fg) rfl hl.1 rfl (Nat.le_of_ble_eq_true rfl) ⟨Nat.le_of_ble_eq_true rfl, Nat.le_of_ble_eq_true rfl⟩ ⟨Nat.le_of_ble_eq_true rfl, Nat.le_of_ble_eq_true rfl⟩ dX8_gatherTwiceOf_12 (fun r18 kd14 ig15 rg16 lg17 H locs hw hH hp19 => ?_)
        obtain ⟨rfl, rfl, rfl, rfl, hzhp19, hrhp19⟩ := hp19
        obtain ⟨z20, rfl, hz20⟩ := hrhp19
        refine z_eq (tgt := 31) hx hb dX8_gatherTwiceOf_15 (by decide) (fun c15 => ?_) (fun c15 => ?_)
        · refine lv_iconst (v := 0) hx hb dX8_gatherTwiceOf_31 (by decide) (ti_c 0 (by decide) fun z21 hz21 => ?_)
          refine lv_istore (lv' := [(4, .int z21), (3, .int v2), (0, .ref (B + 37)), (1, .int x), (2, .ref g)]) hx hb dX8_gatherTwiceOf_32 hl (by decide) rfl (fun ls hl => ?_)
          refine lv_iconst (v := 0) hx hb dX8_gatherTwiceOf_34 (by decide) (ti_c 0 (by decide) fun z22 hz22 => ?_)
          refine lv_istore (lv' := [(5, .int z22), (4, .int z21), (3, .int v2), (0, .ref (B + 37)), (1, .int x), (2, .ref g)]) hx hb dX8_gatherTwiceOf_35 hl (by decide) rfl (fun ls hl => ?_)
          have L37 : ∀ (n : Nat) (ls : Array Slot) (H : Heap) (locs : List Loc) (kd24 : sK) (ig25 : sI) (rg26 : sR) (lg27 : sG) (v23 : Int32), lv_has ls 6 [(5, .int v23), (4, .int z21), (3, .int v2), (0, .ref (B + 37)), (1, .int x), (2, .ref g)] → WD B D cA s.heap kd24 ig25 rg26 lg27 H locs → IC τ B kd24 ig25 rg26 → Nx 958 B none kd ig rg lg kd24 ig25 rg26 lg27 → isFn B kd24 rg26 g ng → (0 ≤ v23.toInt) → (v23.toInt ≤ 288) → ((ig25 (B + 43) 6).toInt = (ig (B + 43) 6).toInt) → 288 - v23.toInt < (n : Int) → W p l e (rL 3 0 0) s m args below meth c H locs 0 0 (MQ below (QcW B D cA (PI 958 τ B none kd ig rg lg (fun r kd' ig' rg' lg' => (r = none ∧ (ig' (B + 43) 6).toInt = (ig (B + 43) 6).toInt)))) args s 0 0 (fun q => B ≤ q)) (F0 m 37 ls []) := by
            intro n37
            induction n37 with
            | zero => intro ls H locs kd24 ig25 rg26 lg27 v23 hl hw hI hN Fg g37_0 g37_1 g37_2 hmu; exact absurd hmu (by omega)
            | succ n37 ih37 =>
              intro ls H locs kd24 ig25 rg26 lg27 v23 hl hw hI hN Fg g37_0 g37_1 g37_2 hmu
              have hsh := hI.sh
              have hrs := hI.rs
              refine lv_iload hx hb dX8_gatherTwiceOf_37 (lv_at hl 0 rfl) ?_
              refine lv_iload hx hb dX8_gatherTwiceOf_39 (lv_at hl 1 rfl) ?_
              refine b_ge (tgt := 70) hx hb dX8_gatherTwiceOf_41 (by decide) (fun c41 => ?_) (fun c41 => ?_)
              · refine tc_inc hx hb dX8_gatherTwiceOf_70 hl (k := 2) rfl (by decide) (by decide) (fun z28 hz28 ls hl => ?_)
                first | replace hz28 := hz28 (by omega) | clear hz28
                have hl : lv_has ls 6 [(3, .int z28), (5, .int v23), (4, .int z21), (0, .ref (B + 37)), (1, .int x), (2, .ref g)] := hl
                refine lv_goto (tgt := 2) hx hb dX8_gatherTwiceOf_73 (by decide) ?_
                exact ih2 ls H locs kd24 ig25 rg26 lg27 z28 (lv_sub hl [0, 3, 4, 5] rfl) hw hI hN Fg (by omega) (by omega) (by omega) (by omega)
              · refine lv_iload hx hb dX8_gatherTwiceOf_44 (lv_at hl 0 rfl) ?_
                refine lv_sipush (v := 288) hx hb dX8_gatherTwiceOf_46 (by decide) (ti_c 288 (by decide) fun z29 hz29 => ?_)
                refine b_ge (tgt := 70) hx hb dX8_gatherTwiceOf_49 (by decide) (fun c49 => ?_) (fun c49 => ?_)
                · refine tc_inc hx hb dX8_gatherTwiceOf_70 hl (k := 2) rfl (by decide) (by decide) (fun z30 hz30 ls hl => ?_)
                  first | replace hz30 := hz30 (by omega) | clear hz30
                  have hl : lv_has ls 6 [(3, .int z30), (5, .int v23), (4, .int z21), (0, .ref (B + 37)), (1, .int x), (2, .ref g)] := hl
                  refine lv_goto (tgt := 2) hx hb dX8_gatherTwiceOf_73 (by decide) ?_
                  exact ih2 ls H locs kd24 ig25 rg26 lg27 z30 (lv_sub hl [0, 3, 4, 5] rfl) hw hI hN Fg (by omega) (by omega) (by omega) (by omega)
                · refine lv_aload_n hx hb dX8_gatherTwiceOf_52 rfl (lv_at hl 3 rfl) ?_
                  refine lv_iload_n hx hb dX8_gatherTwiceOf_53 rfl (lv_at hl 4 rfl) ?_
                  refine lv_aload_n hx hb dX8_gatherTwiceOf_54 rfl (lv_at hl 3 rfl) ?_
                  refine r_get C hw (hsh 37 _ rfl) fl_X8_27 (oV_r rfl (hrs (37, 4, 40) (by decide))) dX8_gatherTwiceOf_55 ?_
                  refine lv_iload hx hb dX8_gatherTwiceOf_58 (lv_at hl 0 rfl) ?_
                  refine r_iald C hw (hsh 40 _ rfl) (by omega) (by omega) dX8_gatherTwiceOf_60 (ti_c (ig25 (B + 40) v23.toInt.toNat).toInt rfl fun z31 hz31 => ?_)
                  refine r_callV (As := [.int x, .int z31]) (rest := []) C hw (t_X8_addRead l B D cA kd24 ig25 rg26 lg27 _ x z31  hI) sv_X8_111 (hsh 37 _ rfl) rfl hl.1 rfl (Nat.le_of_ble_eq_true rfl) ⟨Nat.le_of_ble_eq_true rfl, Nat.le_of_ble_eq_true rfl⟩ ⟨Nat.le_of_ble_eq_true rfl, Nat.le_of_ble_eq_true rfl⟩ dX8_gatherTwiceOf_61 (fun r36 kd32 ig33 rg34 lg35 H locs hw hH hp37 => ?_)
                  obtain ⟨hI, hchp37, hrhp37⟩ := hp37
                  have Fg := Nx.F hchp37 Fg
                  have hN := hN.tr hchp37
                  have hsh := hI.sh
                  have hrs := hI.rs
                  obtain ⟨rfl, hvhp37⟩ := hrhp37
                  refine tc_inc hx hb dX8_gatherTwiceOf_64 hl (k := 0) rfl (by decide) (by decide) (fun z38 hz38 ls hl => ?_)
                  first | replace hz38 := hz38 (by omega) | clear hz38
                  have hl : lv_has ls 6 [(5, .int z38), (4, .int z21), (3, .int v2), (0, .ref (B + 37)), (1, .int x), (2, .ref g)] := hl
                  refine lv_goto (tgt := 37) hx hb dX8_gatherTwiceOf_67 (by decide) ?_
                  exact ih37 ls H locs kd32 ig33 rg34 lg35 z38 (lv_sub hl [0, 1, 2, 3, 4, 5] rfl) hw hI hN Fg (by omega) (by omega) (by omega) (by omega)
          exact L37 ((288 - z22.toInt) + 1).toNat ls H locs kd3 ig4 rg5 lg6 z22 (lv_sub hl [0, 1, 2, 3, 4, 5] rfl) hw hI hN Fg (by omega) (by omega) (by omega) (by omega)
        · refine lv_aload_n hx hb dX8_gatherTwiceOf_18 rfl (lv_at hl 3 rfl) ?_
          refine lv_iload_n hx hb dX8_gatherTwiceOf_19 rfl (lv_at hl 0 rfl) ?_
          refine lv_iload_n hx hb dX8_gatherTwiceOf_20 rfl (lv_at hl 2 rfl) ?_
          refine lv_aload_n hx hb dX8_gatherTwiceOf_21 rfl (lv_at hl 1 rfl) ?_
          refine r_get C hw (hsh 37 _ rfl) fl_X8_27 (oV_r rfl (hrs (37, 4, 40) (by decide))) dX8_gatherTwiceOf_22 ?_
          refine r_callV (As := [.int v2, .int x, .ref (B + 40)]) (rest := []) C hw (t_X4_listPlaces l B D cA kd3 ig4 rg5 lg6 _ g ng Fg v2 x 40 (Or.inr (Or.inr (Or.inr rfl)))  hI) sv_X8_90 (isFn.k Fg) rfl hl.1 rfl (Nat.le_of_ble_eq_true rfl) ⟨Nat.le_of_ble_eq_true rfl, Nat.le_of_ble_eq_true rfl⟩ ⟨Nat.le_of_ble_eq_true rfl, Nat.le_of_ble_eq_true rfl⟩ dX8_gatherTwiceOf_25 (fun r43 kd39 ig40 rg41 lg42 H locs hw hH hp44 => ?_)
          obtain ⟨hI, hchp44, hrhp44⟩ := hp44
          have Fg := Nx.F hchp44 Fg
          have hN := hN.tr hchp44
          have hsh := hI.sh
          have hrs := hI.rs
          obtain ⟨z45, rfl, hz45⟩ := hrhp44
          refine lv_goto (tgt := 32) hx hb dX8_gatherTwiceOf_28 (by decide) ?_
          refine lv_istore (lv' := [(4, .int z45), (3, .int v2), (0, .ref (B + 37)), (1, .int x), (2, .ref g)]) hx hb dX8_gatherTwiceOf_32 hl (by decide) rfl (fun ls hl => ?_)
          refine lv_iconst (v := 0) hx hb dX8_gatherTwiceOf_34 (by decide) (ti_c 0 (by decide) fun z46 hz46 => ?_)
          refine lv_istore (lv' := [(5, .int z46), (4, .int z45), (3, .int v2), (0, .ref (B + 37)), (1, .int x), (2, .ref g)]) hx hb dX8_gatherTwiceOf_35 hl (by decide) rfl (fun ls hl => ?_)
          have L37 : ∀ (n : Nat) (ls : Array Slot) (H : Heap) (locs : List Loc) (kd48 : sK) (ig49 : sI) (rg50 : sR) (lg51 : sG) (v47 : Int32), lv_has ls 6 [(5, .int v47), (4, .int z45), (3, .int v2), (0, .ref (B + 37)), (1, .int x), (2, .ref g)] → WD B D cA s.heap kd48 ig49 rg50 lg51 H locs → IC τ B kd48 ig49 rg50 → Nx 958 B none kd ig rg lg kd48 ig49 rg50 lg51 → isFn B kd48 rg50 g ng → (0 ≤ v47.toInt) → (v47.toInt ≤ 288) → ((ig49 (B + 43) 6).toInt = (ig (B + 43) 6).toInt) → 288 - v47.toInt < (n : Int) → W p l e (rL 3 0 0) s m args below meth c H locs 0 0 (MQ below (QcW B D cA (PI 958 τ B none kd ig rg lg (fun r kd' ig' rg' lg' => (r = none ∧ (ig' (B + 43) 6).toInt = (ig (B + 43) 6).toInt)))) args s 0 0 (fun q => B ≤ q)) (F0 m 37 ls []) := by
            intro n37
            induction n37 with
            | zero => intro ls H locs kd48 ig49 rg50 lg51 v47 hl hw hI hN Fg g37_0 g37_1 g37_2 hmu; exact absurd hmu (by omega)
            | succ n37 ih37 =>
              intro ls H locs kd48 ig49 rg50 lg51 v47 hl hw hI hN Fg g37_0 g37_1 g37_2 hmu
              have hsh := hI.sh
              have hrs := hI.rs
              refine lv_iload hx hb dX8_gatherTwiceOf_37 (lv_at hl 0 rfl) ?_
              refine lv_iload hx hb dX8_gatherTwiceOf_39 (lv_at hl 1 rfl) ?_
              refine b_ge (tgt := 70) hx hb dX8_gatherTwiceOf_41 (by decide) (fun c41 => ?_) (fun c41 => ?_)
              · refine tc_inc hx hb dX8_gatherTwiceOf_70 hl (k := 2) rfl (by decide) (by decide) (fun z52 hz52 ls hl => ?_)
                first | replace hz52 := hz52 (by omega) | clear hz52
                have hl : lv_has ls 6 [(3, .int z52), (5, .int v47), (4, .int z45), (0, .ref (B + 37)), (1, .int x), (2, .ref g)] := hl
                refine lv_goto (tgt := 2) hx hb dX8_gatherTwiceOf_73 (by decide) ?_
                exact ih2 ls H locs kd48 ig49 rg50 lg51 z52 (lv_sub hl [0, 3, 4, 5] rfl) hw hI hN Fg (by omega) (by omega) (by omega) (by omega)
              · refine lv_iload hx hb dX8_gatherTwiceOf_44 (lv_at hl 0 rfl) ?_
                refine lv_sipush (v := 288) hx hb dX8_gatherTwiceOf_46 (by decide) (ti_c 288 (by decide) fun z53 hz53 => ?_)
                refine b_ge (tgt := 70) hx hb dX8_gatherTwiceOf_49 (by decide) (fun c49 => ?_) (fun c49 => ?_)
                · refine tc_inc hx hb dX8_gatherTwiceOf_70 hl (k := 2) rfl (by decide) (by decide) (fun z54 hz54 ls hl => ?_)
                  first | replace hz54 := hz54 (by omega) | clear hz54
                  have hl : lv_has ls 6 [(3, .int z54), (5, .int v47), (4, .int z45), (0, .ref (B + 37)), (1, .int x), (2, .ref g)] := hl
                  refine lv_goto (tgt := 2) hx hb dX8_gatherTwiceOf_73 (by decide) ?_
                  exact ih2 ls H locs kd48 ig49 rg50 lg51 z54 (lv_sub hl [0, 3, 4, 5] rfl) hw hI hN Fg (by omega) (by omega) (by omega) (by omega)
                · refine lv_aload_n hx hb dX8_gatherTwiceOf_52 rfl (lv_at hl 3 rfl) ?_
                  refine lv_iload_n hx hb dX8_gatherTwiceOf_53 rfl (lv_at hl 4 rfl) ?_
                  refine lv_aload_n hx hb dX8_gatherTwiceOf_54 rfl (lv_at hl 3 rfl) ?_
                  refine r_get C hw (hsh 37 _ rfl) fl_X8_27 (oV_r rfl (hrs (37, 4, 40) (by decide))) dX8_gatherTwiceOf_55 ?_
                  refine lv_iload hx hb dX8_gatherTwiceOf_58 (lv_at hl 0 rfl) ?_
                  refine r_iald C hw (hsh 40 _ rfl) (by omega) (by omega) dX8_gatherTwiceOf_60 (ti_c (ig49 (B + 40) v47.toInt.toNat).toInt rfl fun z55 hz55 => ?_)
                  refine r_callV (As := [.int x, .int z55]) (rest := []) C hw (t_X8_addRead l B D cA kd48 ig49 rg50 lg51 _ x z55  hI) sv_X8_111 (hsh 37 _ rfl) rfl hl.1 rfl (Nat.le_of_ble_eq_true rfl) ⟨Nat.le_of_ble_eq_true rfl, Nat.le_of_ble_eq_true rfl⟩ ⟨Nat.le_of_ble_eq_true rfl, Nat.le_of_ble_eq_true rfl⟩ dX8_gatherTwiceOf_61 (fun r60 kd56 ig57 rg58 lg59 H locs hw hH hp61 => ?_)
                  obtain ⟨hI, hchp61, hrhp61⟩ := hp61
                  have Fg := Nx.F hchp61 Fg
                  have hN := hN.tr hchp61
                  have hsh := hI.sh
                  have hrs := hI.rs
                  obtain ⟨rfl, hvhp61⟩ := hrhp61
                  refine tc_inc hx hb dX8_gatherTwiceOf_64 hl (k := 0) rfl (by decide) (by decide) (fun z62 hz62 ls hl => ?_)
                  first | replace hz62 := hz62 (by omega) | clear hz62
                  have hl : lv_has ls 6 [(5, .int z62), (4, .int z45), (3, .int v2), (0, .ref (B + 37)), (1, .int x), (2, .ref g)] := hl
                  refine lv_goto (tgt := 37) hx hb dX8_gatherTwiceOf_67 (by decide) ?_
                  exact ih37 ls H locs kd56 ig57 rg58 lg59 z62 (lv_sub hl [0, 1, 2, 3, 4, 5] rfl) hw hI hN Fg (by omega) (by omega) (by omega) (by omega)
          exact L37 ((288 - z46.toInt) + 1).toNat ls H locs kd39 ig40 rg41 lg42 z46 (lv_sub hl [0, 1, 2, 3, 4, 5] rfl) hw hI hN Fg (by omega) (by omega) (by omega) (by omega)
  exact L2 ((120 - z1.toInt) + 1).toNat ls s.heap [] kd ig rg lg z1 (lv_sub hl [0, 1, 2, 3] rfl) hw hI hN Fg (by omega) (by omega) (by omega) (by omega)

set_option maxHeartbeats 4000000 in
set_option maxRecDepth 100000 in
theorem t_X8_gatherTwice {τ : Tp} (l : Launch) (B : Nat) (D : va_G) (cA : Nat → ClassId) (kd : sK) (ig : sI) (rg : sR) (lg : sG) (sz : Nat)  (hI : IC τ B kd ig rg) : MC l B D cA yX8_gatherTwice cX8_gatherTwice 4 none (rL 4 0 0) [.ref (B + 37)] kd ig rg lg sz (PI 958 τ B none kd ig rg lg (fun r kd' ig' rg' lg' => (r = none ∧ (ig' (B + 43) 6).toInt = (ig (B + 43) 6).toInt))) := by
  refine MC.of (own := RX8) (by decide +kernel) rfl (Nat.le_of_ble_eq_true rfl) ?_
  intro p e s m args below meth c ls C hr hlk hnm hw hsz hl
  have hx := C.1.1
  have hb := C.1.2.1
  have hown := C.1.2.2.2.1
  have hts := C.1.2.2.2.2
  have hl : lv_has ls 4 [(0, .ref (B + 37))] := hl
  have hN : Nx 958 B none kd ig rg lg kd ig rg lg := Nx.rf
  have hsh := hI.sh
  have hrs := hI.rs
  refine lv_iconst (v := 0) hx hb dX8_gatherTwice_0 (by decide) (ti_c 0 (by decide) fun z1 hz1 => ?_)
  refine lv_istore_n (lv' := [(1, .int z1), (0, .ref (B + 37))]) hx hb dX8_gatherTwice_1 rfl hl (by decide) rfl (fun ls hl => ?_)
  have L2 : ∀ (n : Nat) (ls : Array Slot) (H : Heap) (locs : List Loc) (kd3 : sK) (ig4 : sI) (rg5 : sR) (lg6 : sG) (v2 : Int32), lv_has ls 4 [(1, .int v2), (0, .ref (B + 37))] → WD B D cA s.heap kd3 ig4 rg5 lg6 H locs → IC τ B kd3 ig4 rg5 → Nx 958 B none kd ig rg lg kd3 ig4 rg5 lg6 → (0 ≤ v2.toInt) → (v2.toInt ≤ 288) → ((ig4 (B + 43) 6).toInt = (ig (B + 43) 6).toInt) → 288 - v2.toInt < (n : Int) → W p l e (rL 4 0 0) s m args below meth c H locs 0 0 (MQ below (QcW B D cA (PI 958 τ B none kd ig rg lg (fun r kd' ig' rg' lg' => (r = none ∧ (ig' (B + 43) 6).toInt = (ig (B + 43) 6).toInt)))) args s 0 0 (fun q => B ≤ q)) (F0 m 2 ls []) := by
    intro n2
    induction n2 with
    | zero => intro ls H locs kd3 ig4 rg5 lg6 v2 hl hw hI hN g2_0 g2_1 g2_2 hmu; exact absurd hmu (by omega)
    | succ n2 ih2 =>
      intro ls H locs kd3 ig4 rg5 lg6 v2 hl hw hI hN g2_0 g2_1 g2_2 hmu
      have hsh := hI.sh
      have hrs := hI.rs
      refine lv_iload_n hx hb dX8_gatherTwice_2 rfl (lv_at hl 0 rfl) ?_
      refine lv_aload_n hx hb dX8_gatherTwice_3 rfl (lv_at hl 1 rfl) ?_
      refine r_get C hw (hsh 37 _ rfl) fl_X8_15 (oV_r rfl (hrs (37, 1, 15) (by decide))) dX8_gatherTwice_4 ?_
      refine r_callV (As := []) (rest := [.int v2]) C hw (t_X5_orderSize l B D cA kd3 ig4 rg5 lg6 _   hI) sv_X8_73 (hsh 15 _ rfl) rfl hl.1 rfl (Nat.le_of_ble_eq_true rfl) ⟨Nat.le_of_ble_eq_true rfl, Nat.le_of_ble_eq_true rfl⟩ ⟨Nat.le_of_ble_eq_true rfl, Nat.le_of_ble_eq_true rfl⟩ dX8_gatherTwice_7 (fun r11 kd7 ig8 rg9 lg10 H locs hw hH hp12 => ?_)
      obtain ⟨rfl, rfl, rfl, rfl, hzhp12, hrhp12⟩ := hp12
      obtain ⟨z13, rfl, hz13⟩ := hrhp12
      refine b_ge (tgt := 60) hx hb dX8_gatherTwice_10 (by decide) (fun c10 => ?_) (fun c10 => ?_)
      · exact r_vret C hw hr hlk (Nat.le_of_ble_eq_true rfl) (Nat.le_of_ble_eq_true rfl) dX8_gatherTwice_60 ⟨hI, hN, ⟨rfl, by omega⟩⟩
      · refine lv_aload_n hx hb dX8_gatherTwice_13 rfl (lv_at hl 1 rfl) ?_
        refine r_get C hw (hsh 37 _ rfl) fl_X8_15 (oV_r rfl (hrs (37, 1, 15) (by decide))) dX8_gatherTwice_14 ?_
        refine lv_iload_n hx hb dX8_gatherTwice_17 rfl (lv_at hl 0 rfl) ?_
        refine r_callV (As := [.int v2]) (rest := []) C hw (t_X5_inOrder l B D cA kd3 ig4 rg5 lg6 _ v2  hI) sv_X8_77 (hsh 15 _ rfl) rfl hl.1 rfl (Nat.le_of_ble_eq_true rfl) ⟨Nat.le_of_ble_eq_true rfl, Nat.le_of_ble_eq_true rfl⟩ ⟨Nat.le_of_ble_eq_true rfl, Nat.le_of_ble_eq_true rfl⟩ dX8_gatherTwice_18 (fun r18 kd14 ig15 rg16 lg17 H locs hw hH hp19 => ?_)
        obtain ⟨rfl, rfl, rfl, rfl, hzhp19, hrhp19⟩ := hp19
        obtain ⟨z20, rfl, hz20⟩ := hrhp19
        refine lv_istore_n (lv' := [(2, .int z20), (1, .int v2), (0, .ref (B + 37))]) hx hb dX8_gatherTwice_21 rfl hl (by decide) rfl (fun ls hl => ?_)
        refine lv_aload_n hx hb dX8_gatherTwice_22 rfl (lv_at hl 2 rfl) ?_
        refine r_get C hw (hsh 37 _ rfl) fl_X8_9 (oV_r rfl (hrs (37, 0, 9) (by decide))) dX8_gatherTwice_23 ?_
        refine lv_iload_n hx hb dX8_gatherTwice_26 rfl (lv_at hl 0 rfl) ?_
        refine r_callV (As := [.int z20]) (rest := []) C hw (t_X6_formulaAt l B D cA kd3 ig4 rg5 lg6 _ z20  hI) sv_X8_49 (hsh 9 _ rfl) rfl hl.1 rfl (Nat.le_of_ble_eq_true rfl) ⟨Nat.le_of_ble_eq_true rfl, Nat.le_of_ble_eq_true rfl⟩ ⟨Nat.le_of_ble_eq_true rfl, Nat.le_of_ble_eq_true rfl⟩ dX8_gatherTwice_27 (fun r25 kd21 ig22 rg23 lg24 H locs hw hH hp26 => ?_)
        obtain ⟨rfl, rfl, rfl, rfl, hzhp26, hrhp26⟩ := hp26
        rcases hrhp26 with rfl | ⟨f27, nf27, rfl, Ff27⟩
        · refine lv_astore_nN (lv' := [(3, .null), (2, .int z20), (1, .int v2), (0, .ref (B + 37))]) hx hb dX8_gatherTwice_30 rfl hl (by decide) rfl (fun ls hl => ?_)
          refine lv_aload_n hx hb dX8_gatherTwice_31 rfl (lv_at hl 3 rfl) ?_
          refine lv_iload_n hx hb dX8_gatherTwice_32 rfl (lv_at hl 1 rfl) ?_
          refine r_callV (As := [.int z20]) (rest := []) C hw (t_X8_isTotal l B D cA kd3 ig4 rg5 lg6 _ z20  hI) sv_X8_66 (hsh 37 _ rfl) rfl hl.1 rfl (Nat.le_of_ble_eq_true rfl) ⟨Nat.le_of_ble_eq_true rfl, Nat.le_of_ble_eq_true rfl⟩ ⟨Nat.le_of_ble_eq_true rfl, Nat.le_of_ble_eq_true rfl⟩ dX8_gatherTwice_33 (fun r32 kd28 ig29 rg30 lg31 H locs hw hH hp33 => ?_)
          obtain ⟨rfl, rfl, rfl, rfl, hzhp33, hrhp33⟩ := hp33
          obtain ⟨z34, rfl, hz34⟩ := hrhp33
          refine z_eq (tgt := 54) hx hb dX8_gatherTwice_36 (by decide) (fun c36 => ?_) (fun c36 => ?_)
          · refine tc_inc hx hb dX8_gatherTwice_54 hl (k := 2) rfl (by decide) (by decide) (fun z35 hz35 ls hl => ?_)
            first | replace hz35 := hz35 (by omega) | clear hz35
            have hl : lv_has ls 4 [(1, .int z35), (3, .null), (2, .int z20), (0, .ref (B + 37))] := hl
            refine lv_goto (tgt := 2) hx hb dX8_gatherTwice_57 (by decide) ?_
            exact ih2 ls H locs kd3 ig4 rg5 lg6 z35 (lv_sub hl [0, 3] rfl) hw hI hN (by omega) (by omega) (by omega) (by omega)
          · refine lv_aload_nN hx hb dX8_gatherTwice_39 rfl (lv_at hl 0 rfl) ?_
            refine lv_ifnullN (tgt := 54) hx hb dX8_gatherTwice_40 (by decide) ?_
            refine tc_inc hx hb dX8_gatherTwice_54 hl (k := 2) rfl (by decide) (by decide) (fun z36 hz36 ls hl => ?_)
            first | replace hz36 := hz36 (by omega) | clear hz36
            have hl : lv_has ls 4 [(1, .int z36), (3, .null), (2, .int z20), (0, .ref (B + 37))] := hl
            refine lv_goto (tgt := 2) hx hb dX8_gatherTwice_57 (by decide) ?_
            exact ih2 ls H locs kd3 ig4 rg5 lg6 z36 (lv_sub hl [0, 3] rfl) hw hI hN (by omega) (by omega) (by omega) (by omega)
        · have lf27 := isFn.le Ff27
          refine lv_astore_n (lv' := [(3, .ref f27), (2, .int z20), (1, .int v2), (0, .ref (B + 37))]) hx hb dX8_gatherTwice_30 rfl hl (by decide) rfl (fun ls hl => ?_)
          refine lv_aload_n hx hb dX8_gatherTwice_31 rfl (lv_at hl 3 rfl) ?_
          refine lv_iload_n hx hb dX8_gatherTwice_32 rfl (lv_at hl 1 rfl) ?_
          refine r_callV (As := [.int z20]) (rest := []) C hw (t_X8_isTotal l B D cA kd3 ig4 rg5 lg6 _ z20  hI) sv_X8_66 (hsh 37 _ rfl) rfl hl.1 rfl (Nat.le_of_ble_eq_true rfl) ⟨Nat.le_of_ble_eq_true rfl, Nat.le_of_ble_eq_true rfl⟩ ⟨Nat.le_of_ble_eq_true rfl, Nat.le_of_ble_eq_true rfl⟩ dX8_gatherTwice_33 (fun r41 kd37 ig38 rg39 lg40 H locs hw hH hp42 => ?_)
          obtain ⟨rfl, rfl, rfl, rfl, hzhp42, hrhp42⟩ := hp42
          obtain ⟨z43, rfl, hz43⟩ := hrhp42
          refine z_eq (tgt := 54) hx hb dX8_gatherTwice_36 (by decide) (fun c36 => ?_) (fun c36 => ?_)
          · refine tc_inc hx hb dX8_gatherTwice_54 hl (k := 2) rfl (by decide) (by decide) (fun z44 hz44 ls hl => ?_)
            first | replace hz44 := hz44 (by omega) | clear hz44
            have hl : lv_has ls 4 [(1, .int z44), (3, .ref f27), (2, .int z20), (0, .ref (B + 37))] := hl
            refine lv_goto (tgt := 2) hx hb dX8_gatherTwice_57 (by decide) ?_
            exact ih2 ls H locs kd3 ig4 rg5 lg6 z44 (lv_sub hl [0, 3] rfl) hw hI hN (by omega) (by omega) (by omega) (by omega)
          · refine lv_aload_n hx hb dX8_gatherTwice_39 rfl (lv_at hl 0 rfl) ?_
            refine lv_ifnull hx hb dX8_gatherTwice_40 ?_
            refine lv_aload_n hx hb dX8_gatherTwice_43 rfl (lv_at hl 3 rfl) ?_
            refine lv_iload_n hx hb dX8_gatherTwice_44 rfl (lv_at hl 1 rfl) ?_
            refine r_callV (As := [.int z20]) (rest := []) C hw (t_X8_forgetTwiceOf l B D cA kd3 ig4 rg5 lg6 _ z20 (by omega) hI) sv_X8_103 (hsh 37 _ rfl) rfl hl.1 rfl (Nat.le_of_ble_eq_true rfl) ⟨Nat.le_of_ble_eq_true rfl, Nat.le_of_ble_eq_true rfl⟩ ⟨Nat.le_of_ble_eq_true rfl, Nat.le_of_ble_eq_true rfl⟩ dX8_gatherTwice_45 (fun r49 kd45 ig46 rg47 lg48 H locs hw hH hp50 => ?_)
            obtain ⟨hI, hchp50, hrhp50⟩ := hp50
            have Ff27 := Nx.F hchp50 Ff27
            have hN := hN.tr hchp50
            have hsh := hI.sh
            have hrs := hI.rs
            obtain ⟨rfl, hvhp50⟩ := hrhp50
            refine lv_aload_n hx hb dX8_gatherTwice_48 rfl (lv_at hl 3 rfl) ?_
            refine lv_iload_n hx hb dX8_gatherTwice_49 rfl (lv_at hl 1 rfl) ?_
            refine lv_aload_n hx hb dX8_gatherTwice_50 rfl (lv_at hl 0 rfl) ?_
            refine r_callV (As := [.int z20, .ref f27]) (rest := []) C hw (t_X8_gatherTwiceOf l B D cA kd45 ig46 rg47 lg48 _ z20 f27 nf27 Ff27  hI) sv_X8_107 (hsh 37 _ rfl) rfl hl.1 rfl (Nat.le_of_ble_eq_true rfl) ⟨Nat.le_of_ble_eq_true rfl, Nat.le_of_ble_eq_true rfl⟩ ⟨Nat.le_of_ble_eq_true rfl, Nat.le_of_ble_eq_true rfl⟩ dX8_gatherTwice_51 (fun r55 kd51 ig52 rg53 lg54 H locs hw hH hp56 => ?_)
            obtain ⟨hI, hchp56, hrhp56⟩ := hp56
            have hN := hN.tr hchp56
            have hsh := hI.sh
            have hrs := hI.rs
            obtain ⟨rfl, hvhp56⟩ := hrhp56
            refine tc_inc hx hb dX8_gatherTwice_54 hl (k := 2) rfl (by decide) (by decide) (fun z57 hz57 ls hl => ?_)
            first | replace hz57 := hz57 (by omega) | clear hz57
            have hl : lv_has ls 4 [(1, .int z57), (3, .ref f27), (2, .int z20), (0, .ref (B + 37))] := hl
            refine lv_goto (tgt := 2) hx hb dX8_gatherTwice_57 (by decide) ?_
            exact ih2 ls H locs kd51 ig52 rg53 lg54 z57 (lv_sub hl [0, 3] rfl) hw hI hN (by omega) (by omega) (by omega) (by omega)
  exact L2 ((288 - z1.toInt) + 1).toNat ls s.heap [] kd ig rg lg z1 (lv_sub hl [0, 1] rfl) hw hI hN (by omega) (by omega) (by omega) (by omega)

set_option maxHeartbeats 4000000 in
set_option maxRecDepth 100000 in
theorem t_X8_leastTwice {τ : Tp} (l : Launch) (B : Nat) (D : va_G) (cA : Nat → ClassId) (kd : sK) (ig : sI) (rg : sR) (lg : sG) (sz : Nat) (x : Int32) (hI : IC τ B kd ig rg) : MC l B D cA yX8_leastTwice cX8_leastTwice 3 (some .int) (rL 2 0 0) [.ref (B + 37), .int x] kd ig rg lg sz (Pu kd ig rg lg sz (fun r => ∃ z : Int32, r = some (.int z) ∧ True)) := by
  refine MC.of (own := RX8) (by decide +kernel) rfl (Nat.le_of_ble_eq_true rfl) ?_
  intro p e s m args below meth c ls C hr hlk hnm hw hsz hl
  have hx := C.1.1
  have hb := C.1.2.1
  have hown := C.1.2.2.2.1
  have hts := C.1.2.2.2.2
  have hl : lv_has ls 3 [(0, .ref (B + 37)), (1, .int x)] := hl
  have hsh := hI.sh
  have hrs := hI.rs
  refine lv_aload_n hx hb dX8_leastTwice_0 rfl (lv_at hl 0 rfl) ?_
  refine lv_iload_n hx hb dX8_leastTwice_1 rfl (lv_at hl 1 rfl) ?_
  refine r_callV (As := [.int x]) (rest := []) C hw (t_X8_isTotal l B D cA kd ig rg lg _ x  hI) sv_X8_66 (hsh 37 _ rfl) rfl hl.1 rfl (Nat.le_of_ble_eq_true rfl) ⟨Nat.le_of_ble_eq_true rfl, Nat.le_of_ble_eq_true rfl⟩ ⟨Nat.le_of_ble_eq_true rfl, Nat.le_of_ble_eq_true rfl⟩ dX8_leastTwice_2 (fun r5 kd1 ig2 rg3 lg4 H locs hw hH hp6 => ?_)
  obtain ⟨rfl, rfl, rfl, rfl, hzhp6, hrhp6⟩ := hp6
  have hsz := hzhp6.trans hsz
  obtain ⟨z7, rfl, hz7⟩ := hrhp6
  refine z_ne (tgt := 10) hx hb dX8_leastTwice_5 (by decide) (fun c5 => ?_) (fun c5 => ?_)
  · refine lv_iconst (v := 0) hx hb dX8_leastTwice_10 (by decide) (ti_c 0 (by decide) fun z8 hz8 => ?_)
    refine lv_istore_n (lv' := [(2, .int z8), (0, .ref (B + 37)), (1, .int x)]) hx hb dX8_leastTwice_11 rfl hl (by decide) rfl (fun ls hl => ?_)
    have L12 : ∀ (n : Nat) (ls : Array Slot) (H : Heap) (locs : List Loc) (v9 : Int32), lv_has ls 3 [(2, .int v9), (0, .ref (B + 37)), (1, .int x)] → WD B D cA s.heap kd ig rg lg H locs → H.size = sz → (0 ≤ v9.toInt) → (v9.toInt ≤ 288) → 288 - v9.toInt < (n : Int) → W p l e (rL 2 0 0) s m args below meth c H locs 0 0 (MQ below (QcW B D cA (Pu kd ig rg lg sz (fun r => ∃ z : Int32, r = some (.int z) ∧ True))) args s 0 0 (fun q => B ≤ q)) (F0 m 12 ls []) := by
      intro n12
      induction n12 with
      | zero => intro ls H locs v9 hl hw hsz g12_0 g12_1 hmu; exact absurd hmu (by omega)
      | succ n12 ih12 =>
        intro ls H locs v9 hl hw hsz g12_0 g12_1 hmu
        refine lv_iload_n hx hb dX8_leastTwice_12 rfl (lv_at hl 0 rfl) ?_
        refine lv_sipush (v := 288) hx hb dX8_leastTwice_13 (by decide) (ti_c 288 (by decide) fun z10 hz10 => ?_)
        refine b_ge (tgt := 39) hx hb dX8_leastTwice_16 (by decide) (fun c16 => ?_) (fun c16 => ?_)
        · refine lv_iconst (v := (-1)) hx hb dX8_leastTwice_39 (by decide) (ti_c (-1) (by decide) fun z11 hz11 => ?_)
          exact r_iret C hw hr hlk rfl (Nat.le_of_ble_eq_true rfl) (Nat.le_of_ble_eq_true rfl) dX8_leastTwice_40 ⟨rfl, rfl, rfl, rfl, hsz, ⟨_, rfl, trivial⟩⟩
        · refine lv_aload_n hx hb dX8_leastTwice_19 rfl (lv_at hl 1 rfl) ?_
          refine r_get C hw (hsh 37 _ rfl) fl_X8_34 (oV_r rfl (hrs (37, 6, 42) (by decide))) dX8_leastTwice_20 ?_
          refine lv_iload_n hx hb dX8_leastTwice_23 rfl (lv_at hl 2 rfl) ?_
          refine lv_iload_n hx hb dX8_leastTwice_24 rfl (lv_at hl 0 rfl) ?_
          refine r_callN (As := [.ref (B + 42), .int x, .int v9]) (rest := []) C hw (t_X11_hasBit l B D cA kd ig rg lg _ 42 (Or.inr (Or.inr (Or.inr rfl))) x v9  hI) sn_X8_118 rfl hl.1 rfl (Nat.le_of_ble_eq_true rfl) ⟨Nat.le_of_ble_eq_true rfl, Nat.le_of_ble_eq_true rfl⟩ ⟨Nat.le_of_ble_eq_true rfl, Nat.le_of_ble_eq_true rfl⟩ dX8_leastTwice_25 (fun r16 kd12 ig13 rg14 lg15 H locs hw hH hp17 => ?_)
          obtain ⟨rfl, rfl, rfl, rfl, hzhp17, hrhp17⟩ := hp17
          have hsz := hzhp17.trans hsz
          obtain ⟨z18, rfl, hz18⟩ := hrhp17
          refine z_eq (tgt := 33) hx hb dX8_leastTwice_28 (by decide) (fun c28 => ?_) (fun c28 => ?_)
          · refine tc_inc hx hb dX8_leastTwice_33 hl (k := 0) rfl (by decide) (by decide) (fun z19 hz19 ls hl => ?_)
            first | replace hz19 := hz19 (by omega) | clear hz19
            have hl : lv_has ls 3 [(2, .int z19), (0, .ref (B + 37)), (1, .int x)] := hl
            refine lv_goto (tgt := 12) hx hb dX8_leastTwice_36 (by decide) ?_
            exact ih12 ls H locs z19 (lv_sub hl [0, 1, 2] rfl) hw hsz (by omega) (by omega) (by omega)
          · refine lv_iload_n hx hb dX8_leastTwice_31 rfl (lv_at hl 0 rfl) ?_
            exact r_iret C hw hr hlk rfl (Nat.le_of_ble_eq_true rfl) (Nat.le_of_ble_eq_true rfl) dX8_leastTwice_32 ⟨rfl, rfl, rfl, rfl, hsz, ⟨_, rfl, trivial⟩⟩
    exact L12 ((288 - z8.toInt) + 1).toNat ls H locs z8 (lv_sub hl [0, 1, 2] rfl) hw hsz (by omega) (by omega) (by omega)
  · refine lv_iconst (v := (-1)) hx hb dX8_leastTwice_8 (by decide) (ti_c (-1) (by decide) fun z20 hz20 => ?_)
    exact r_iret C hw hr hlk rfl (Nat.le_of_ble_eq_true rfl) (Nat.le_of_ble_eq_true rfl) dX8_leastTwice_9 ⟨rfl, rfl, rfl, rfl, hsz, ⟨_, rfl, trivial⟩⟩

set_option maxHeartbeats 4000000 in
set_option maxRecDepth 100000 in
theorem t_X3_add {τ : Tp} (l : Launch) (B : Nat) (D : va_G) (cA : Nat → ClassId) (kd : sK) (ig : sI) (rg : sR) (lg : sG) (sz : Nat) (x : Int32) (y : Int32) (u : Int32) (hs0 : (ig (B + 43) 6).toInt ≤ 99999) (hI : IC τ B kd ig rg) : MC l B D cA yX3_add cX3_add 4 none (rL 0 0 0) [.ref (B + 43), .int x, .int y, .int u] kd ig rg lg sz (PI 830 τ B none kd ig rg lg (fun r kd' ig' rg' lg' => (r = none ∧ (ig' (B + 43) 6).toInt = (ig (B + 43) 6).toInt + 1))) := by
  refine MC.of (own := RX3) (by decide +kernel) rfl (Nat.le_of_ble_eq_true rfl) ?_
  intro p e s m args below meth c ls C hr hlk hnm hw hsz hl
  have hx := C.1.1
  have hb := C.1.2.1
  have hown := C.1.2.2.2.1
  have hts := C.1.2.2.2.2
  have hl : lv_has ls 4 [(0, .ref (B + 43)), (1, .int x), (2, .int y), (3, .int u)] := hl
  have hN : Nx 830 B none kd ig rg lg kd ig rg lg := Nx.rf
  have hsh := hI.sh
  have hrs := hI.rs
  refine lv_aload_n hx hb dX3_add_0 rfl (lv_at hl 0 rfl) ?_
  refine r_get C hw (hsh 43 _ rfl) fl_X3_35 (oV_i rfl) dX3_add_1 (ti_c (ig (B + 43) 6).toInt rfl fun z1 hz1 => ?_)
  have k2 : 0 ≤ (ig (B + 43) 6).toInt ∧ (ig (B + 43) 6).toInt ≤ 100000 := hI.i 43 6 (by decide)
  refine lv_sipush (v := 300) hx hb dX3_add_4 (by decide) (ti_c 300 (by decide) fun z3 hz3 => ?_)
  have J50 : ∀ (ls : Array Slot) (H : Heap) (locs : List Loc) (kd4 : sK) (ig5 : sI) (rg6 : sR) (lg7 : sG) , lv_has ls 4 [(0, .ref (B + 43))] → WD B D cA s.heap kd4 ig5 rg6 lg7 H locs → IC τ B kd4 ig5 rg6 → Nx 830 B none kd ig rg lg kd4 ig5 rg6 lg7 → ((ig5 (B + 43) 6).toInt = (ig (B + 43) 6).toInt) → W p l e (rL 0 0 0) s m args below meth c H locs 0 0 (MQ below (QcW B D cA (PI 830 τ B none kd ig rg lg (fun r kd' ig' rg' lg' => (r = none ∧ (ig' (B + 43) 6).toInt = (ig (B + 43) 6).toInt + 1)))) args s 0 0 (fun q => B ≤ q)) (F0 m 50 ls []) := by
    intro ls H locs kd4 ig5 rg6 lg7 hl hw hI hN g50_0
    have hsh := hI.sh
    have hrs := hI.rs
    refine lv_aload_n hx hb dX3_add_50 rfl (lv_at hl 0 rfl) ?_
    refine lv_dup hx hb dX3_add_51 rfl ?_
    refine r_get C hw (hsh 43 _ rfl) fl_X3_35 (oV_i rfl) dX3_add_52 (ti_c (ig5 (B + 43) 6).toInt rfl fun z8 hz8 => ?_)
    have k9 : 0 ≤ (ig5 (B + 43) 6).toInt ∧ (ig5 (B + 43) 6).toInt ≤ 100000 := hI.i 43 6 (by decide)
    refine lv_iconst (v := 1) hx hb dX3_add_55 (by decide) (ti_c 1 (by decide) fun z10 hz10 => ?_)
    refine lv_iadd hx hb dX3_add_56 (tc_add fun z11 hz11 => ?_)
    first | replace hz11 := hz11 (by omega) | clear hz11
    refine r_puti C hw (hsh 43 _ rfl) fl_X3_35 rfl rfl rfl dX3_add_57 (fun H locs hH hw => ?_)
    obtain ⟨ig12, eig12⟩ : ∃ f, f = up2 ig5 (B + 43) 6 z11 := ⟨_, rfl⟩
    rw [← eig12] at hw
    have hN : Nx 830 B none kd ig rg lg kd4 ig12 rg6 lg7 := by rw [eig12]; exact hN.pi (by omega)
    have hI : IC τ B kd4 ig12 rg6 := by rw [eig12]; exact hI.pi (show okR (some (0, 100000)) _ from ⟨by show (0 : Int) ≤ _; omega, by show _ ≤ (100000 : Int); omega⟩)
    have wig12 : (ig12 (B + 43) 6).toInt = z11.toInt := by rw [eig12, up2_eq]
    exact r_vret C hw hr hlk (Nat.le_of_ble_eq_true rfl) (Nat.le_of_ble_eq_true rfl) dX3_add_60 ⟨hI, hN, ⟨rfl, by omega⟩⟩
  refine b_ge (tgt := 50) hx hb dX3_add_7 (by decide) (fun c7 => ?_) (fun c7 => ?_)
  · exact J50 ls s.heap [] kd ig rg lg (lv_sub hl [0] rfl) hw hI hN (by omega)
  · refine lv_aload_n hx hb dX3_add_10 rfl (lv_at hl 0 rfl) ?_
    refine r_get C hw (hsh 43 _ rfl) fl_X3_31 (oV_r rfl (hrs (43, 5, 44) (by decide))) dX3_add_11 ?_
    refine lv_aload_n hx hb dX3_add_14 rfl (lv_at hl 0 rfl) ?_
    refine r_get C hw (hsh 43 _ rfl) fl_X3_35 (oV_i rfl) dX3_add_15 (ti_c (ig (B + 43) 6).toInt rfl fun z13 hz13 => ?_)
    have k14 : 0 ≤ (ig (B + 43) 6).toInt ∧ (ig (B + 43) 6).toInt ≤ 100000 := hI.i 43 6 (by decide)
    refine lv_iconst (v := 3) hx hb dX3_add_18 (by decide) (ti_c 3 (by decide) fun z15 hz15 => ?_)
    refine lv_imul hx hb dX3_add_19 (tc_mulR 3 hz15 fun z16 hz16 => ?_)
    first | replace hz16 := hz16 (by omega) | clear hz16
    refine lv_iload_n hx hb dX3_add_20 rfl (lv_at hl 1 rfl) ?_
    refine r_iast C hw (hsh 44 _ rfl) (by omega) (by omega) dX3_add_21 (fun H locs hH hw => ?_)
    obtain ⟨ig17, eig17⟩ : ∃ f, f = up2 ig (B + 44) z16.toInt.toNat x := ⟨_, rfl⟩
    rw [← eig17] at hw
    have hN : Nx 830 B none kd ig rg lg kd ig17 rg lg := by rw [eig17]; exact hN.pi (by omega)
    have hI : IC τ B kd ig17 rg := by rw [eig17]; exact hI.pi (show okR none _ from trivial)
    have wig17_43_6 : (ig17 (B + 43) 6).toInt = (ig (B + 43) 6).toInt := by rw [eig17, up2_a (by omega)]
    refine lv_aload_n hx hb dX3_add_22 rfl (lv_at hl 0 rfl) ?_
    refine r_get C hw (hsh 43 _ rfl) fl_X3_31 (oV_r rfl (hrs (43, 5, 44) (by decide))) dX3_add_23 ?_
    refine lv_aload_n hx hb dX3_add_26 rfl (lv_at hl 0 rfl) ?_
    refine r_get C hw (hsh 43 _ rfl) fl_X3_35 (oV_i rfl) dX3_add_27 (ti_c (ig17 (B + 43) 6).toInt rfl fun z18 hz18 => ?_)
    have k19 : 0 ≤ (ig17 (B + 43) 6).toInt ∧ (ig17 (B + 43) 6).toInt ≤ 100000 := hI.i 43 6 (by decide)
    refine lv_iconst (v := 3) hx hb dX3_add_30 (by decide) (ti_c 3 (by decide) fun z20 hz20 => ?_)
    refine lv_imul hx hb dX3_add_31 (tc_mulR 3 hz20 fun z21 hz21 => ?_)
    first | replace hz21 := hz21 (by omega) | clear hz21
    refine lv_iconst (v := 1) hx hb dX3_add_32 (by decide) (ti_c 1 (by decide) fun z22 hz22 => ?_)
    refine lv_iadd hx hb dX3_add_33 (tc_add fun z23 hz23 => ?_)
    first | replace hz23 := hz23 (by omega) | clear hz23
    refine lv_iload_n hx hb dX3_add_34 rfl (lv_at hl 2 rfl) ?_
    refine r_iast C hw (hsh 44 _ rfl) (by omega) (by omega) dX3_add_35 (fun H locs hH hw => ?_)
    obtain ⟨ig24, eig24⟩ : ∃ f, f = up2 ig17 (B + 44) z23.toInt.toNat y := ⟨_, rfl⟩
    rw [← eig24] at hw
    have hN : Nx 830 B none kd ig rg lg kd ig24 rg lg := by rw [eig24]; exact hN.pi (by omega)
    have hI : IC τ B kd ig24 rg := by rw [eig24]; exact hI.pi (show okR none _ from trivial)
    have wig24_43_6 : (ig24 (B + 43) 6).toInt = (ig17 (B + 43) 6).toInt := by rw [eig24, up2_a (by omega)]
    refine lv_aload_n hx hb dX3_add_36 rfl (lv_at hl 0 rfl) ?_
    refine r_get C hw (hsh 43 _ rfl) fl_X3_31 (oV_r rfl (hrs (43, 5, 44) (by decide))) dX3_add_37 ?_
    refine lv_aload_n hx hb dX3_add_40 rfl (lv_at hl 0 rfl) ?_
    refine r_get C hw (hsh 43 _ rfl) fl_X3_35 (oV_i rfl) dX3_add_41 (ti_c (ig24 (B + 43) 6).toInt rfl fun z25 hz25 => ?_)
    have k26 : 0 ≤ (ig24 (B + 43) 6).toInt ∧ (ig24 (B + 43) 6).toInt ≤ 100000 := hI.i 43 6 (by decide)
    refine lv_iconst (v := 3) hx hb dX3_add_44 (by decide) (ti_c 3 (by decide) fun z27 hz27 => ?_)
    refine lv_imul hx hb dX3_add_45 (tc_mulR 3 hz27 fun z28 hz28 => ?_)
    first | replace hz28 := hz28 (by omega) | clear hz28
    refine lv_iconst (v := 2) hx hb dX3_add_46 (by decide) (ti_c 2 (by decide) fun z29 hz29 => ?_)
    refine lv_iadd hx hb dX3_add_47 (tc_add fun z30 hz30 => ?_)
    first | replace hz30 := hz30 (by omega) | clear hz30
    refine lv_iload_n hx hb dX3_add_48 rfl (lv_at hl 3 rfl) ?_
    refine r_iast C hw (hsh 44 _ rfl) (by omega) (by omega) dX3_add_49 (fun H locs hH hw => ?_)
    obtain ⟨ig31, eig31⟩ : ∃ f, f = up2 ig24 (B + 44) z30.toInt.toNat u := ⟨_, rfl⟩
    rw [← eig31] at hw
    have hN : Nx 830 B none kd ig rg lg kd ig31 rg lg := by rw [eig31]; exact hN.pi (by omega)
    have hI : IC τ B kd ig31 rg := by rw [eig31]; exact hI.pi (show okR none _ from trivial)
    have wig31_43_6 : (ig31 (B + 43) 6).toInt = (ig24 (B + 43) 6).toInt := by rw [eig31, up2_a (by omega)]
    exact J50 ls H locs kd ig31 rg lg (lv_sub hl [0] rfl) hw hI hN (by omega)

set_option maxHeartbeats 4000000 in
set_option maxRecDepth 100000 in
theorem t_X3_tell {τ : Tp} (l : Launch) (B : Nat) (D : va_G) (cA : Nat → ClassId) (kd : sK) (ig : sI) (rg : sR) (lg : sG) (sz : Nat) (x : Int32) (y : Int32) (hI : IC τ B kd ig rg) : MC l B D cA yX3_tell cX3_tell 3 (some .int) (rL 0 0 0) [.ref (B + 43), .int x, .int y] kd ig rg lg sz (Pu kd ig rg lg sz (fun r => ∃ z : Int32, r = some (.int z) ∧ True)) := by
  refine MC.of (own := RX3) (by decide +kernel) rfl (Nat.le_of_ble_eq_true rfl) ?_
  intro p e s m args below meth c ls C hr hlk hnm hw hsz hl
  have hx := C.1.1
  have hb := C.1.2.1
  have hown := C.1.2.2.2.1
  have hts := C.1.2.2.2.2
  have hl : lv_has ls 3 [(0, .ref (B + 43)), (1, .int x), (2, .int y)] := hl
  have hsh := hI.sh
  have hrs := hI.rs
  refine lv_iload_n hx hb dX3_tell_0 rfl (lv_at hl 1 rfl) ?_
  refine z_lt (tgt := 28) hx hb dX3_tell_1 (by decide) (fun c1 => ?_) (fun c1 => ?_)
  · refine lv_iconst (v := (-1)) hx hb dX3_tell_28 (by decide) (ti_c (-1) (by decide) fun z1 hz1 => ?_)
    exact r_iret C hw hr hlk rfl (Nat.le_of_ble_eq_true rfl) (Nat.le_of_ble_eq_true rfl) dX3_tell_29 ⟨rfl, rfl, rfl, rfl, hsz, ⟨_, rfl, trivial⟩⟩
  · refine lv_iload_n hx hb dX3_tell_4 rfl (lv_at hl 1 rfl) ?_
    refine lv_aload_n hx hb dX3_tell_5 rfl (lv_at hl 0 rfl) ?_
    refine r_get C hw (hsh 43 _ rfl) fl_X3_35 (oV_i rfl) dX3_tell_6 (ti_c (ig (B + 43) 6).toInt rfl fun z2 hz2 => ?_)
    have k3 : 0 ≤ (ig (B + 43) 6).toInt ∧ (ig (B + 43) 6).toInt ≤ 100000 := hI.i 43 6 (by decide)
    refine b_ge (tgt := 28) hx hb dX3_tell_9 (by decide) (fun c9 => ?_) (fun c9 => ?_)
    · refine lv_iconst (v := (-1)) hx hb dX3_tell_28 (by decide) (ti_c (-1) (by decide) fun z4 hz4 => ?_)
      exact r_iret C hw hr hlk rfl (Nat.le_of_ble_eq_true rfl) (Nat.le_of_ble_eq_true rfl) dX3_tell_29 ⟨rfl, rfl, rfl, rfl, hsz, ⟨_, rfl, trivial⟩⟩
    · refine lv_iload_n hx hb dX3_tell_12 rfl (lv_at hl 1 rfl) ?_
      refine lv_sipush (v := 300) hx hb dX3_tell_13 (by decide) (ti_c 300 (by decide) fun z5 hz5 => ?_)
      refine b_ge (tgt := 28) hx hb dX3_tell_16 (by decide) (fun c16 => ?_) (fun c16 => ?_)
      · refine lv_iconst (v := (-1)) hx hb dX3_tell_28 (by decide) (ti_c (-1) (by decide) fun z6 hz6 => ?_)
        exact r_iret C hw hr hlk rfl (Nat.le_of_ble_eq_true rfl) (Nat.le_of_ble_eq_true rfl) dX3_tell_29 ⟨rfl, rfl, rfl, rfl, hsz, ⟨_, rfl, trivial⟩⟩
      · refine lv_iload_n hx hb dX3_tell_19 rfl (lv_at hl 2 rfl) ?_
        refine z_lt (tgt := 28) hx hb dX3_tell_20 (by decide) (fun c20 => ?_) (fun c20 => ?_)
        · refine lv_iconst (v := (-1)) hx hb dX3_tell_28 (by decide) (ti_c (-1) (by decide) fun z7 hz7 => ?_)
          exact r_iret C hw hr hlk rfl (Nat.le_of_ble_eq_true rfl) (Nat.le_of_ble_eq_true rfl) dX3_tell_29 ⟨rfl, rfl, rfl, rfl, hsz, ⟨_, rfl, trivial⟩⟩
        · refine lv_iload_n hx hb dX3_tell_23 rfl (lv_at hl 2 rfl) ?_
          refine lv_iconst (v := 3) hx hb dX3_tell_24 (by decide) (ti_c 3 (by decide) fun z8 hz8 => ?_)
          refine b_lt (tgt := 30) hx hb dX3_tell_25 (by decide) (fun c25 => ?_) (fun c25 => ?_)
          · refine lv_aload_n hx hb dX3_tell_30 rfl (lv_at hl 0 rfl) ?_
            refine r_get C hw (hsh 43 _ rfl) fl_X3_31 (oV_r rfl (hrs (43, 5, 44) (by decide))) dX3_tell_31 ?_
            refine lv_iload_n hx hb dX3_tell_34 rfl (lv_at hl 1 rfl) ?_
            refine lv_iconst (v := 3) hx hb dX3_tell_35 (by decide) (ti_c 3 (by decide) fun z9 hz9 => ?_)
            refine lv_imul hx hb dX3_tell_36 (tc_mulR 3 hz9 fun z10 hz10 => ?_)
            first | replace hz10 := hz10 (by omega) | clear hz10
            refine lv_iload_n hx hb dX3_tell_37 rfl (lv_at hl 2 rfl) ?_
            refine lv_iadd hx hb dX3_tell_38 (tc_add fun z11 hz11 => ?_)
            first | replace hz11 := hz11 (by omega) | clear hz11
            refine r_iald C hw (hsh 44 _ rfl) (by omega) (by omega) dX3_tell_39 (ti_c (ig (B + 44) z11.toInt.toNat).toInt rfl fun z12 hz12 => ?_)
            exact r_iret C hw hr hlk rfl (Nat.le_of_ble_eq_true rfl) (Nat.le_of_ble_eq_true rfl) dX3_tell_40 ⟨rfl, rfl, rfl, rfl, hsz, ⟨_, rfl, trivial⟩⟩
          · refine lv_iconst (v := (-1)) hx hb dX3_tell_28 (by decide) (ti_c (-1) (by decide) fun z13 hz13 => ?_)
            exact r_iret C hw hr hlk rfl (Nat.le_of_ble_eq_true rfl) (Nat.le_of_ble_eq_true rfl) dX3_tell_29 ⟨rfl, rfl, rfl, rfl, hsz, ⟨_, rfl, trivial⟩⟩

set_option maxHeartbeats 4000000 in
set_option maxRecDepth 100000 in
theorem t_X3_goesOn {τ : Tp} (l : Launch) (B : Nat) (D : va_G) (cA : Nat → ClassId) (kd : sK) (ig : sI) (rg : sR) (lg : sG) (sz : Nat) (x : Int32) (y : Int32) (u : Int32) (hI : IC τ B kd ig rg) : MC l B D cA yX3_goesOn cX3_goesOn 4 (some .boolean) (rL 2 0 0) [.ref (B + 43), .int x, .int y, .int u] kd ig rg lg sz (Pu kd ig rg lg sz (fun r => ∃ z : Int32, r = some (.int z) ∧ (z.toInt = 0 ∨ z.toInt = 1))) := by
  refine MC.of (own := RX3) (by decide +kernel) rfl (Nat.le_of_ble_eq_true rfl) ?_
  intro p e s m args below meth c ls C hr hlk hnm hw hsz hl
  have hx := C.1.1
  have hb := C.1.2.1
  have hown := C.1.2.2.2.1
  have hts := C.1.2.2.2.2
  have hl : lv_has ls 4 [(0, .ref (B + 43)), (1, .int x), (2, .int y), (3, .int u)] := hl
  have hsh := hI.sh
  have hrs := hI.rs
  refine lv_iload_n hx hb dX3_goesOn_0 rfl (lv_at hl 3 rfl) ?_
  refine lv_iload_n hx hb dX3_goesOn_1 rfl (lv_at hl 1 rfl) ?_
  refine b_eq (tgt := 33) hx hb dX3_goesOn_2 (by decide) (fun c2 => ?_) (fun c2 => ?_)
  · refine lv_iconst (v := 0) hx hb dX3_goesOn_33 (by decide) (ti_c 0 (by decide) fun z1 hz1 => ?_)
    exact r_iret C hw hr hlk (nar_b (by omega)) (Nat.le_of_ble_eq_true rfl) (Nat.le_of_ble_eq_true rfl) dX3_goesOn_34 ⟨rfl, rfl, rfl, rfl, hsz, ⟨_, rfl, by omega⟩⟩
  · refine lv_aload_n hx hb dX3_goesOn_5 rfl (lv_at hl 0 rfl) ?_
    refine r_get C hw (hsh 43 _ rfl) fl_X3_9 (oV_r rfl (hrs (43, 0, 9) (by decide))) dX3_goesOn_6 ?_
    refine lv_iload_n hx hb dX3_goesOn_9 rfl (lv_at hl 3 rfl) ?_
    refine r_callV (As := [.int u]) (rest := []) C hw (t_X6_kindAt l B D cA kd ig rg lg _ u  hI) sv_X3_44 (hsh 9 _ rfl) rfl hl.1 rfl (Nat.le_of_ble_eq_true rfl) ⟨Nat.le_of_ble_eq_true rfl, Nat.le_of_ble_eq_true rfl⟩ ⟨Nat.le_of_ble_eq_true rfl, Nat.le_of_ble_eq_true rfl⟩ dX3_goesOn_10 (fun r6 kd2 ig3 rg4 lg5 H locs hw hH hp7 => ?_)
    obtain ⟨rfl, rfl, rfl, rfl, hzhp7, hrhp7⟩ := hp7
    have hsz := hzhp7.trans hsz
    obtain ⟨z8, rfl, hz8⟩ := hrhp7
    refine lv_iconst (v := 1) hx hb dX3_goesOn_13 (by decide) (ti_c 1 (by decide) fun z9 hz9 => ?_)
    refine b_eq (tgt := 29) hx hb dX3_goesOn_14 (by decide) (fun c14 => ?_) (fun c14 => ?_)
    · refine lv_iconst (v := 1) hx hb dX3_goesOn_29 (by decide) (ti_c 1 (by decide) fun z10 hz10 => ?_)
      refine lv_goto (tgt := 34) hx hb dX3_goesOn_30 (by decide) ?_
      exact r_iret C hw hr hlk (nar_b (by omega)) (Nat.le_of_ble_eq_true rfl) (Nat.le_of_ble_eq_true rfl) dX3_goesOn_34 ⟨rfl, rfl, rfl, rfl, hsz, ⟨_, rfl, by omega⟩⟩
    · refine lv_aload_n hx hb dX3_goesOn_17 rfl (lv_at hl 0 rfl) ?_
      refine r_get C hw (hsh 43 _ rfl) fl_X3_19 (oV_r rfl (hrs (43, 2, 29) (by decide))) dX3_goesOn_18 ?_
      refine lv_iload_n hx hb dX3_goesOn_21 rfl (lv_at hl 2 rfl) ?_
      refine lv_iload_n hx hb dX3_goesOn_22 rfl (lv_at hl 3 rfl) ?_
      refine r_callV (As := [.int y, .int u]) (rest := []) C hw (t_X2_areKin l B D cA kd ig rg lg _ y u  hI) sv_X3_120 (hsh 29 _ rfl) rfl hl.1 rfl (Nat.le_of_ble_eq_true rfl) ⟨Nat.le_of_ble_eq_true rfl, Nat.le_of_ble_eq_true rfl⟩ ⟨Nat.le_of_ble_eq_true rfl, Nat.le_of_ble_eq_true rfl⟩ dX3_goesOn_23 (fun r15 kd11 ig12 rg13 lg14 H locs hw hH hp16 => ?_)
      obtain ⟨rfl, rfl, rfl, rfl, hzhp16, hrhp16⟩ := hp16
      have hsz := hzhp16.trans hsz
      obtain ⟨z17, rfl, hz17⟩ := hrhp16
      refine z_eq (tgt := 33) hx hb dX3_goesOn_26 (by decide) (fun c26 => ?_) (fun c26 => ?_)
      · refine lv_iconst (v := 0) hx hb dX3_goesOn_33 (by decide) (ti_c 0 (by decide) fun z18 hz18 => ?_)
        exact r_iret C hw hr hlk (nar_b (by omega)) (Nat.le_of_ble_eq_true rfl) (Nat.le_of_ble_eq_true rfl) dX3_goesOn_34 ⟨rfl, rfl, rfl, rfl, hsz, ⟨_, rfl, by omega⟩⟩
      · refine lv_iconst (v := 1) hx hb dX3_goesOn_29 (by decide) (ti_c 1 (by decide) fun z19 hz19 => ?_)
        refine lv_goto (tgt := 34) hx hb dX3_goesOn_30 (by decide) ?_
        exact r_iret C hw hr hlk (nar_b (by omega)) (Nat.le_of_ble_eq_true rfl) (Nat.le_of_ble_eq_true rfl) dX3_goesOn_34 ⟨rfl, rfl, rfl, rfl, hsz, ⟨_, rfl, by omega⟩⟩

set_option maxHeartbeats 4000000 in
set_option maxRecDepth 100000 in
theorem t_X3_shortBelow {τ : Tp} (l : Launch) (B : Nat) (D : va_G) (cA : Nat → ClassId) (kd : sK) (ig : sI) (rg : sR) (lg : sG) (sz : Nat) (x : Int32) (g ng : Nat) (Fg : isFn B kd rg g ng) (y : Int32) (hI : IC τ B kd ig rg) : MC l B D cA yX3_shortBelow cX3_shortBelow 6 (some .int) (rL 3 0 0) [.ref (B + 43), .int x, .ref g, .int y] kd ig rg lg sz (Pu kd ig rg lg sz (fun r => ∃ z : Int32, r = some (.int z) ∧ True)) := by
  refine MC.of (own := RX3) (by decide +kernel) rfl (Nat.le_of_ble_eq_true rfl) ?_
  intro p e s m args below meth c ls C hr hlk hnm hw hsz hl
  have hx := C.1.1
  have hb := C.1.2.1
  have hown := C.1.2.2.2.1
  have hts := C.1.2.2.2.2
  have hl : lv_has ls 6 [(0, .ref (B + 43)), (1, .int x), (2, .ref g), (3, .int y)] := hl
  have hsh := hI.sh
  have hrs := hI.rs
  have lng := Fg.le
  refine lv_aload_n hx hb dX3_shortBelow_0 rfl (lv_at hl 2 rfl) ?_
  refine lv_iload_n hx hb dX3_shortBelow_1 rfl (lv_at hl 3 rfl) ?_
  refine r_callV (As := [.int y]) (rest := []) C hw (t_X4_stepAt l B D cA kd ig rg lg _ g ng Fg y  hI) sv_X3_100 (isFn.k Fg) rfl hl.1 rfl (Nat.le_of_ble_eq_true rfl) ⟨Nat.le_of_ble_eq_true rfl, Nat.le_of_ble_eq_true rfl⟩ ⟨Nat.le_of_ble_eq_true rfl, Nat.le_of_ble_eq_true rfl⟩ dX3_shortBelow_2 (fun r5 kd1 ig2 rg3 lg4 H locs hw hH hp6 => ?_)
  obtain ⟨rfl, rfl, rfl, rfl, hzhp6, hrhp6⟩ := hp6
  have hsz := hzhp6.trans hsz
  obtain ⟨z7, rfl, hz7⟩ := hrhp6
  refine lv_iconst (v := 2) hx hb dX3_shortBelow_5 (by decide) (ti_c 2 (by decide) fun z8 hz8 => ?_)
  refine b_ne (tgt := 24) hx hb dX3_shortBelow_6 (by decide) (fun c6 => ?_) (fun c6 => ?_)
  · refine lv_iconst (v := (-1)) hx hb dX3_shortBelow_24 (by decide) (ti_c (-1) (by decide) fun z9 hz9 => ?_)
    exact r_iret C hw hr hlk rfl (Nat.le_of_ble_eq_true rfl) (Nat.le_of_ble_eq_true rfl) dX3_shortBelow_25 ⟨rfl, rfl, rfl, rfl, hsz, ⟨_, rfl, trivial⟩⟩
  · refine lv_aload_n hx hb dX3_shortBelow_9 rfl (lv_at hl 2 rfl) ?_
    refine lv_iload_n hx hb dX3_shortBelow_10 rfl (lv_at hl 3 rfl) ?_
    refine lv_iload_n hx hb dX3_shortBelow_11 rfl (lv_at hl 1 rfl) ?_
    refine r_callV (As := [.int y, .int x]) (rest := []) C hw (t_X4_left l B D cA kd ig rg lg _ g ng Fg y x  hI) sv_X3_103 (isFn.k Fg) rfl hl.1 rfl (Nat.le_of_ble_eq_true rfl) ⟨Nat.le_of_ble_eq_true rfl, Nat.le_of_ble_eq_true rfl⟩ ⟨Nat.le_of_ble_eq_true rfl, Nat.le_of_ble_eq_true rfl⟩ dX3_shortBelow_12 (fun r14 kd10 ig11 rg12 lg13 H locs hw hH hp15 => ?_)
    obtain ⟨rfl, rfl, rfl, rfl, hzhp15, hrhp15⟩ := hp15
    have hsz := hzhp15.trans hsz
    obtain ⟨z16, rfl, hz16⟩ := hrhp15
    refine lv_aload_n hx hb dX3_shortBelow_15 rfl (lv_at hl 2 rfl) ?_
    refine lv_iload_n hx hb dX3_shortBelow_16 rfl (lv_at hl 3 rfl) ?_
    refine lv_iload_n hx hb dX3_shortBelow_17 rfl (lv_at hl 1 rfl) ?_
    refine r_callV (As := [.int y, .int x]) (rest := [.int z16]) C hw (t_X4_right l B D cA kd ig rg lg _ g ng Fg y x  hI) sv_X3_107 (isFn.k Fg) rfl hl.1 rfl (Nat.le_of_ble_eq_true rfl) ⟨Nat.le_of_ble_eq_true rfl, Nat.le_of_ble_eq_true rfl⟩ ⟨Nat.le_of_ble_eq_true rfl, Nat.le_of_ble_eq_true rfl⟩ dX3_shortBelow_18 (fun r21 kd17 ig18 rg19 lg20 H locs hw hH hp22 => ?_)
    obtain ⟨rfl, rfl, rfl, rfl, hzhp22, hrhp22⟩ := hp22
    have hsz := hzhp22.trans hsz
    obtain ⟨z23, rfl, hz23⟩ := hrhp22
    refine b_eq (tgt := 26) hx hb dX3_shortBelow_21 (by decide) (fun c21 => ?_) (fun c21 => ?_)
    · refine lv_aload_n hx hb dX3_shortBelow_26 rfl (lv_at hl 2 rfl) ?_
      refine lv_iload_n hx hb dX3_shortBelow_27 rfl (lv_at hl 3 rfl) ?_
      refine lv_iload_n hx hb dX3_shortBelow_28 rfl (lv_at hl 1 rfl) ?_
      refine r_callV (As := [.int y, .int x]) (rest := []) C hw (t_X4_bottom l B D cA kd ig rg lg _ g ng Fg y x  hI) sv_X3_110 (isFn.k Fg) rfl hl.1 rfl (Nat.le_of_ble_eq_true rfl) ⟨Nat.le_of_ble_eq_true rfl, Nat.le_of_ble_eq_true rfl⟩ ⟨Nat.le_of_ble_eq_true rfl, Nat.le_of_ble_eq_true rfl⟩ dX3_shortBelow_29 (fun r28 kd24 ig25 rg26 lg27 H locs hw hH hp29 => ?_)
      obtain ⟨rfl, rfl, rfl, rfl, hzhp29, hrhp29⟩ := hp29
      have hsz := hzhp29.trans hsz
      obtain ⟨z30, rfl, hz30⟩ := hrhp29
      refine lv_istore (lv' := [(4, .int z30), (0, .ref (B + 43)), (1, .int x), (2, .ref g), (3, .int y)]) hx hb dX3_shortBelow_32 hl (by decide) rfl (fun ls hl => ?_)
      refine lv_iload hx hb dX3_shortBelow_34 (lv_at hl 0 rfl) ?_
      refine lv_bipush (v := 12) hx hb dX3_shortBelow_36 (by decide) (ti_c 12 (by decide) fun z31 hz31 => ?_)
      refine lv_imul hx hb dX3_shortBelow_38 (tc_mulR 12 hz31 fun z32 hz32 => ?_)
      first | replace hz32 := hz32 (by omega) | clear hz32
      refine lv_aload_n hx hb dX3_shortBelow_39 rfl (lv_at hl 3 rfl) ?_
      refine lv_iload_n hx hb dX3_shortBelow_40 rfl (lv_at hl 4 rfl) ?_
      refine lv_iload_n hx hb dX3_shortBelow_41 rfl (lv_at hl 2 rfl) ?_
      refine r_callV (As := [.int y, .int x]) (rest := [.int z32]) C hw (t_X4_right l B D cA kd ig rg lg _ g ng Fg y x  hI) sv_X3_107 (isFn.k Fg) rfl hl.1 rfl (Nat.le_of_ble_eq_true rfl) ⟨Nat.le_of_ble_eq_true rfl, Nat.le_of_ble_eq_true rfl⟩ ⟨Nat.le_of_ble_eq_true rfl, Nat.le_of_ble_eq_true rfl⟩ dX3_shortBelow_42 (fun r37 kd33 ig34 rg35 lg36 H locs hw hH hp38 => ?_)
      obtain ⟨rfl, rfl, rfl, rfl, hzhp38, hrhp38⟩ := hp38
      have hsz := hzhp38.trans hsz
      obtain ⟨z39, rfl, hz39⟩ := hrhp38
      refine lv_iadd hx hb dX3_shortBelow_45 (tc_add fun z40 hz40 => ?_)
      first | replace hz40 := hz40 (by omega) | clear hz40
      refine lv_istore (lv' := [(5, .int z40), (4, .int z30), (0, .ref (B + 43)), (1, .int x), (2, .ref g), (3, .int y)]) hx hb dX3_shortBelow_46 hl (by decide) rfl (fun ls hl => ?_)
      refine lv_iload hx hb dX3_shortBelow_48 (lv_at hl 1 rfl) ?_
      refine lv_bipush (v := 23) hx hb dX3_shortBelow_50 (by decide) (ti_c 23 (by decide) fun z41 hz41 => ?_)
      refine b_ge (tgt := 78) hx hb dX3_shortBelow_52 (by decide) (fun c52 => ?_) (fun c52 => ?_)
      · refine lv_iconst (v := (-1)) hx hb dX3_shortBelow_78 (by decide) (ti_c (-1) (by decide) fun z42 hz42 => ?_)
        exact r_iret C hw hr hlk rfl (Nat.le_of_ble_eq_true rfl) (Nat.le_of_ble_eq_true rfl) dX3_shortBelow_79 ⟨rfl, rfl, rfl, rfl, hsz, ⟨_, rfl, trivial⟩⟩
      · refine lv_aload_n hx hb dX3_shortBelow_55 rfl (lv_at hl 2 rfl) ?_
        refine lv_iload_n hx hb dX3_shortBelow_56 rfl (lv_at hl 3 rfl) ?_
        refine lv_iload hx hb dX3_shortBelow_57 (lv_at hl 0 rfl) ?_
        refine lv_iload hx hb dX3_shortBelow_59 (lv_at hl 0 rfl) ?_
        refine lv_bipush (v := 12) hx hb dX3_shortBelow_61 (by decide) (ti_c 12 (by decide) fun z43 hz43 => ?_)
        refine lv_iadd hx hb dX3_shortBelow_63 (tc_add fun z44 hz44 => ?_)
        first | replace hz44 := hz44 (by omega) | clear hz44
        refine r_callV (As := [.int x, .int z40, .int z44]) (rest := []) C hw (t_X3_goesOn l B D cA kd ig rg lg _ x z40 z44  hI) sv_X3_113 (hsh 43 _ rfl) rfl hl.1 rfl (Nat.le_of_ble_eq_true rfl) ⟨Nat.le_of_ble_eq_true rfl, Nat.le_of_ble_eq_true rfl⟩ ⟨Nat.le_of_ble_eq_true rfl, Nat.le_of_ble_eq_true rfl⟩ dX3_shortBelow_64 (fun r49 kd45 ig46 rg47 lg48 H locs hw hH hp50 => ?_)
        obtain ⟨rfl, rfl, rfl, rfl, hzhp50, hrhp50⟩ := hp50
        have hsz := hzhp50.trans hsz
        obtain ⟨z51, rfl, hz51⟩ := hrhp50
        refine z_eq (tgt := 78) hx hb dX3_shortBelow_67 (by decide) (fun c67 => ?_) (fun c67 => ?_)
        · refine lv_iconst (v := (-1)) hx hb dX3_shortBelow_78 (by decide) (ti_c (-1) (by decide) fun z52 hz52 => ?_)
          exact r_iret C hw hr hlk rfl (Nat.le_of_ble_eq_true rfl) (Nat.le_of_ble_eq_true rfl) dX3_shortBelow_79 ⟨rfl, rfl, rfl, rfl, hsz, ⟨_, rfl, trivial⟩⟩
        · refine lv_iload hx hb dX3_shortBelow_70 (lv_at hl 0 rfl) ?_
          refine lv_bipush (v := 12) hx hb dX3_shortBelow_72 (by decide) (ti_c 12 (by decide) fun z53 hz53 => ?_)
          refine lv_iadd hx hb dX3_shortBelow_74 (tc_add fun z54 hz54 => ?_)
          first | replace hz54 := hz54 (by omega) | clear hz54
          refine lv_goto (tgt := 79) hx hb dX3_shortBelow_75 (by decide) ?_
          exact r_iret C hw hr hlk rfl (Nat.le_of_ble_eq_true rfl) (Nat.le_of_ble_eq_true rfl) dX3_shortBelow_79 ⟨rfl, rfl, rfl, rfl, hsz, ⟨_, rfl, trivial⟩⟩
    · refine lv_iconst (v := (-1)) hx hb dX3_shortBelow_24 (by decide) (ti_c (-1) (by decide) fun z55 hz55 => ?_)
      exact r_iret C hw hr hlk rfl (Nat.le_of_ble_eq_true rfl) (Nat.le_of_ble_eq_true rfl) dX3_shortBelow_25 ⟨rfl, rfl, rfl, rfl, hsz, ⟨_, rfl, trivial⟩⟩

set_option maxHeartbeats 4000000 in
set_option maxRecDepth 100000 in
theorem t_X3_shortRight {τ : Tp} (l : Launch) (B : Nat) (D : va_G) (cA : Nat → ClassId) (kd : sK) (ig : sI) (rg : sR) (lg : sG) (sz : Nat) (x : Int32) (g ng : Nat) (Fg : isFn B kd rg g ng) (y : Int32) (hI : IC τ B kd ig rg) : MC l B D cA yX3_shortRight cX3_shortRight 6 (some .int) (rL 3 0 0) [.ref (B + 43), .int x, .ref g, .int y] kd ig rg lg sz (Pu kd ig rg lg sz (fun r => ∃ z : Int32, r = some (.int z) ∧ True)) := by
  refine MC.of (own := RX3) (by decide +kernel) rfl (Nat.le_of_ble_eq_true rfl) ?_
  intro p e s m args below meth c ls C hr hlk hnm hw hsz hl
  have hx := C.1.1
  have hb := C.1.2.1
  have hown := C.1.2.2.2.1
  have hts := C.1.2.2.2.2
  have hl : lv_has ls 6 [(0, .ref (B + 43)), (1, .int x), (2, .ref g), (3, .int y)] := hl
  have hsh := hI.sh
  have hrs := hI.rs
  have lng := Fg.le
  refine lv_aload_n hx hb dX3_shortRight_0 rfl (lv_at hl 2 rfl) ?_
  refine lv_iload_n hx hb dX3_shortRight_1 rfl (lv_at hl 3 rfl) ?_
  refine r_callV (As := [.int y]) (rest := []) C hw (t_X4_stepAt l B D cA kd ig rg lg _ g ng Fg y  hI) sv_X3_100 (isFn.k Fg) rfl hl.1 rfl (Nat.le_of_ble_eq_true rfl) ⟨Nat.le_of_ble_eq_true rfl, Nat.le_of_ble_eq_true rfl⟩ ⟨Nat.le_of_ble_eq_true rfl, Nat.le_of_ble_eq_true rfl⟩ dX3_shortRight_2 (fun r5 kd1 ig2 rg3 lg4 H locs hw hH hp6 => ?_)
  obtain ⟨rfl, rfl, rfl, rfl, hzhp6, hrhp6⟩ := hp6
  have hsz := hzhp6.trans hsz
  obtain ⟨z7, rfl, hz7⟩ := hrhp6
  refine lv_iconst (v := 2) hx hb dX3_shortRight_5 (by decide) (ti_c 2 (by decide) fun z8 hz8 => ?_)
  refine b_ne (tgt := 24) hx hb dX3_shortRight_6 (by decide) (fun c6 => ?_) (fun c6 => ?_)
  · refine lv_iconst (v := (-1)) hx hb dX3_shortRight_24 (by decide) (ti_c (-1) (by decide) fun z9 hz9 => ?_)
    exact r_iret C hw hr hlk rfl (Nat.le_of_ble_eq_true rfl) (Nat.le_of_ble_eq_true rfl) dX3_shortRight_25 ⟨rfl, rfl, rfl, rfl, hsz, ⟨_, rfl, trivial⟩⟩
  · refine lv_aload_n hx hb dX3_shortRight_9 rfl (lv_at hl 2 rfl) ?_
    refine lv_iload_n hx hb dX3_shortRight_10 rfl (lv_at hl 3 rfl) ?_
    refine lv_iload_n hx hb dX3_shortRight_11 rfl (lv_at hl 1 rfl) ?_
    refine r_callV (As := [.int y, .int x]) (rest := []) C hw (t_X4_top l B D cA kd ig rg lg _ g ng Fg y x  hI) sv_X3_117 (isFn.k Fg) rfl hl.1 rfl (Nat.le_of_ble_eq_true rfl) ⟨Nat.le_of_ble_eq_true rfl, Nat.le_of_ble_eq_true rfl⟩ ⟨Nat.le_of_ble_eq_true rfl, Nat.le_of_ble_eq_true rfl⟩ dX3_shortRight_12 (fun r14 kd10 ig11 rg12 lg13 H locs hw hH hp15 => ?_)
    obtain ⟨rfl, rfl, rfl, rfl, hzhp15, hrhp15⟩ := hp15
    have hsz := hzhp15.trans hsz
    obtain ⟨z16, rfl, hz16⟩ := hrhp15
    refine lv_aload_n hx hb dX3_shortRight_15 rfl (lv_at hl 2 rfl) ?_
    refine lv_iload_n hx hb dX3_shortRight_16 rfl (lv_at hl 3 rfl) ?_
    refine lv_iload_n hx hb dX3_shortRight_17 rfl (lv_at hl 1 rfl) ?_
    refine r_callV (As := [.int y, .int x]) (rest := [.int z16]) C hw (t_X4_bottom l B D cA kd ig rg lg _ g ng Fg y x  hI) sv_X3_110 (isFn.k Fg) rfl hl.1 rfl (Nat.le_of_ble_eq_true rfl) ⟨Nat.le_of_ble_eq_true rfl, Nat.le_of_ble_eq_true rfl⟩ ⟨Nat.le_of_ble_eq_true rfl, Nat.le_of_ble_eq_true rfl⟩ dX3_shortRight_18 (fun r21 kd17 ig18 rg19 lg20 H locs hw hH hp22 => ?_)
    obtain ⟨rfl, rfl, rfl, rfl, hzhp22, hrhp22⟩ := hp22
    have hsz := hzhp22.trans hsz
    obtain ⟨z23, rfl, hz23⟩ := hrhp22
    refine b_eq (tgt := 26) hx hb dX3_shortRight_21 (by decide) (fun c21 => ?_) (fun c21 => ?_)
    · refine lv_aload_n hx hb dX3_shortRight_26 rfl (lv_at hl 2 rfl) ?_
      refine lv_iload_n hx hb dX3_shortRight_27 rfl (lv_at hl 3 rfl) ?_
      refine lv_iload_n hx hb dX3_shortRight_28 rfl (lv_at hl 1 rfl) ?_
      refine r_callV (As := [.int y, .int x]) (rest := []) C hw (t_X4_right l B D cA kd ig rg lg _ g ng Fg y x  hI) sv_X3_107 (isFn.k Fg) rfl hl.1 rfl (Nat.le_of_ble_eq_true rfl) ⟨Nat.le_of_ble_eq_true rfl, Nat.le_of_ble_eq_true rfl⟩ ⟨Nat.le_of_ble_eq_true rfl, Nat.le_of_ble_eq_true rfl⟩ dX3_shortRight_29 (fun r28 kd24 ig25 rg26 lg27 H locs hw hH hp29 => ?_)
      obtain ⟨rfl, rfl, rfl, rfl, hzhp29, hrhp29⟩ := hp29
      have hsz := hzhp29.trans hsz
      obtain ⟨z30, rfl, hz30⟩ := hrhp29
      refine lv_istore (lv' := [(4, .int z30), (0, .ref (B + 43)), (1, .int x), (2, .ref g), (3, .int y)]) hx hb dX3_shortRight_32 hl (by decide) rfl (fun ls hl => ?_)
      refine lv_aload_n hx hb dX3_shortRight_34 rfl (lv_at hl 3 rfl) ?_
      refine lv_iload_n hx hb dX3_shortRight_35 rfl (lv_at hl 4 rfl) ?_
      refine lv_iload_n hx hb dX3_shortRight_36 rfl (lv_at hl 2 rfl) ?_
      refine r_callV (As := [.int y, .int x]) (rest := []) C hw (t_X4_bottom l B D cA kd ig rg lg _ g ng Fg y x  hI) sv_X3_110 (isFn.k Fg) rfl hl.1 rfl (Nat.le_of_ble_eq_true rfl) ⟨Nat.le_of_ble_eq_true rfl, Nat.le_of_ble_eq_true rfl⟩ ⟨Nat.le_of_ble_eq_true rfl, Nat.le_of_ble_eq_true rfl⟩ dX3_shortRight_37 (fun r35 kd31 ig32 rg33 lg34 H locs hw hH hp36 => ?_)
      obtain ⟨rfl, rfl, rfl, rfl, hzhp36, hrhp36⟩ := hp36
      have hsz := hzhp36.trans hsz
      obtain ⟨z37, rfl, hz37⟩ := hrhp36
      refine lv_bipush (v := 12) hx hb dX3_shortRight_40 (by decide) (ti_c 12 (by decide) fun z38 hz38 => ?_)
      refine lv_imul hx hb dX3_shortRight_42 (tc_mulR 12 hz38 fun z39 hz39 => ?_)
      first | replace hz39 := hz39 (by omega) | clear hz39
      refine lv_iload hx hb dX3_shortRight_43 (lv_at hl 0 rfl) ?_
      refine lv_iadd hx hb dX3_shortRight_45 (tc_add fun z40 hz40 => ?_)
      first | replace hz40 := hz40 (by omega) | clear hz40
      refine lv_istore (lv' := [(5, .int z40), (4, .int z30), (0, .ref (B + 43)), (1, .int x), (2, .ref g), (3, .int y)]) hx hb dX3_shortRight_46 hl (by decide) rfl (fun ls hl => ?_)
      refine lv_iload hx hb dX3_shortRight_48 (lv_at hl 1 rfl) ?_
      refine lv_bipush (v := 11) hx hb dX3_shortRight_50 (by decide) (ti_c 11 (by decide) fun z41 hz41 => ?_)
      refine b_ge (tgt := 76) hx hb dX3_shortRight_52 (by decide) (fun c52 => ?_) (fun c52 => ?_)
      · refine lv_iconst (v := (-1)) hx hb dX3_shortRight_76 (by decide) (ti_c (-1) (by decide) fun z42 hz42 => ?_)
        exact r_iret C hw hr hlk rfl (Nat.le_of_ble_eq_true rfl) (Nat.le_of_ble_eq_true rfl) dX3_shortRight_77 ⟨rfl, rfl, rfl, rfl, hsz, ⟨_, rfl, trivial⟩⟩
      · refine lv_aload_n hx hb dX3_shortRight_55 rfl (lv_at hl 2 rfl) ?_
        refine lv_iload_n hx hb dX3_shortRight_56 rfl (lv_at hl 3 rfl) ?_
        refine lv_iload hx hb dX3_shortRight_57 (lv_at hl 0 rfl) ?_
        refine lv_iload hx hb dX3_shortRight_59 (lv_at hl 0 rfl) ?_
        refine lv_iconst (v := 1) hx hb dX3_shortRight_61 (by decide) (ti_c 1 (by decide) fun z43 hz43 => ?_)
        refine lv_iadd hx hb dX3_shortRight_62 (tc_add fun z44 hz44 => ?_)
        first | replace hz44 := hz44 (by omega) | clear hz44
        refine r_callV (As := [.int x, .int z40, .int z44]) (rest := []) C hw (t_X3_goesOn l B D cA kd ig rg lg _ x z40 z44  hI) sv_X3_113 (hsh 43 _ rfl) rfl hl.1 rfl (Nat.le_of_ble_eq_true rfl) ⟨Nat.le_of_ble_eq_true rfl, Nat.le_of_ble_eq_true rfl⟩ ⟨Nat.le_of_ble_eq_true rfl, Nat.le_of_ble_eq_true rfl⟩ dX3_shortRight_63 (fun r49 kd45 ig46 rg47 lg48 H locs hw hH hp50 => ?_)
        obtain ⟨rfl, rfl, rfl, rfl, hzhp50, hrhp50⟩ := hp50
        have hsz := hzhp50.trans hsz
        obtain ⟨z51, rfl, hz51⟩ := hrhp50
        refine z_eq (tgt := 76) hx hb dX3_shortRight_66 (by decide) (fun c66 => ?_) (fun c66 => ?_)
        · refine lv_iconst (v := (-1)) hx hb dX3_shortRight_76 (by decide) (ti_c (-1) (by decide) fun z52 hz52 => ?_)
          exact r_iret C hw hr hlk rfl (Nat.le_of_ble_eq_true rfl) (Nat.le_of_ble_eq_true rfl) dX3_shortRight_77 ⟨rfl, rfl, rfl, rfl, hsz, ⟨_, rfl, trivial⟩⟩
        · refine lv_iload hx hb dX3_shortRight_69 (lv_at hl 0 rfl) ?_
          refine lv_iconst (v := 1) hx hb dX3_shortRight_71 (by decide) (ti_c 1 (by decide) fun z53 hz53 => ?_)
          refine lv_iadd hx hb dX3_shortRight_72 (tc_add fun z54 hz54 => ?_)
          first | replace hz54 := hz54 (by omega) | clear hz54
          refine lv_goto (tgt := 77) hx hb dX3_shortRight_73 (by decide) ?_
          exact r_iret C hw hr hlk rfl (Nat.le_of_ble_eq_true rfl) (Nat.le_of_ble_eq_true rfl) dX3_shortRight_77 ⟨rfl, rfl, rfl, rfl, hsz, ⟨_, rfl, trivial⟩⟩
    · refine lv_iconst (v := (-1)) hx hb dX3_shortRight_24 (by decide) (ti_c (-1) (by decide) fun z55 hz55 => ?_)
      exact r_iret C hw hr hlk rfl (Nat.le_of_ble_eq_true rfl) (Nat.le_of_ble_eq_true rfl) dX3_shortRight_25 ⟨rfl, rfl, rfl, rfl, hsz, ⟨_, rfl, trivial⟩⟩

set_option maxHeartbeats 4000000 in
set_option maxRecDepth 100000 in
theorem t_X3_gatherShort {τ : Tp} (l : Launch) (B : Nat) (D : va_G) (cA : Nat → ClassId) (kd : sK) (ig : sI) (rg : sR) (lg : sG) (sz : Nat) (x : Int32) (g ng : Nat) (Fg : isFn B kd rg g ng) (hs0 : (ig (B + 43) 6).toInt ≤ 99000) (hI : IC τ B kd ig rg) : MC l B D cA yX3_gatherShort cX3_gatherShort 6 none (rL 4 0 0) [.ref (B + 43), .int x, .ref g] kd ig rg lg sz (PI 830 τ B none kd ig rg lg (fun r kd' ig' rg' lg' => (r = none ∧ (ig' (B + 43) 6).toInt ≤ (ig (B + 43) 6).toInt + 240))) := by
  refine MC.of (own := RX3) (by decide +kernel) rfl (Nat.le_of_ble_eq_true rfl) ?_
  intro p e s m args below meth c ls C hr hlk hnm hw hsz hl
  have hx := C.1.1
  have hb := C.1.2.1
  have hown := C.1.2.2.2.1
  have hts := C.1.2.2.2.2
  have hl : lv_has ls 6 [(0, .ref (B + 43)), (1, .int x), (2, .ref g)] := hl
  have hN : Nx 830 B none kd ig rg lg kd ig rg lg := Nx.rf
  have hsh := hI.sh
  have hrs := hI.rs
  have lng := Fg.le
  have k43 : 0 ≤ (ig (B + 43) 6).toInt ∧ (ig (B + 43) 6).toInt ≤ 100000 := hI.i 43 6 (by decide)
  refine lv_iconst (v := 0) hx hb dX3_gatherShort_0 (by decide) (ti_c 0 (by decide) fun z1 hz1 => ?_)
  refine lv_istore_n (lv' := [(3, .int z1), (0, .ref (B + 43)), (1, .int x), (2, .ref g)]) hx hb dX3_gatherShort_1 rfl hl (by decide) rfl (fun ls hl => ?_)
  have L2 : ∀ (n : Nat) (ls : Array Slot) (H : Heap) (locs : List Loc) (kd3 : sK) (ig4 : sI) (rg5 : sR) (lg6 : sG) (v2 : Int32), lv_has ls 6 [(3, .int v2), (0, .ref (B + 43)), (1, .int x), (2, .ref g)] → WD B D cA s.heap kd3 ig4 rg5 lg6 H locs → IC τ B kd3 ig4 rg5 → Nx 830 B none kd ig rg lg kd3 ig4 rg5 lg6 → isFn B kd3 rg5 g ng → (0 ≤ v2.toInt) → (v2.toInt ≤ 120) → ((ig4 (B + 43) 6).toInt ≤ (ig (B + 43) 6).toInt + 2 * v2.toInt) → 120 - v2.toInt < (n : Int) → W p l e (rL 4 0 0) s m args below meth c H locs 0 0 (MQ below (QcW B D cA (PI 830 τ B none kd ig rg lg (fun r kd' ig' rg' lg' => (r = none ∧ (ig' (B + 43) 6).toInt ≤ (ig (B + 43) 6).toInt + 240)))) args s 0 0 (fun q => B ≤ q)) (F0 m 2 ls []) := by
    intro n2
    induction n2 with
    | zero => intro ls H locs kd3 ig4 rg5 lg6 v2 hl hw hI hN Fg g2_0 g2_1 g2_2 hmu; exact absurd hmu (by omega)
    | succ n2 ih2 =>
      intro ls H locs kd3 ig4 rg5 lg6 v2 hl hw hI hN Fg g2_0 g2_1 g2_2 hmu
      have hsh := hI.sh
      have hrs := hI.rs
      refine lv_iload_n hx hb dX3_gatherShort_2 rfl (lv_at hl 0 rfl) ?_
      refine lv_aload_n hx hb dX3_gatherShort_3 rfl (lv_at hl 3 rfl) ?_
      refine r_callV (As := []) (rest := [.int v2]) C hw (t_X4_size l B D cA kd3 ig4 rg5 lg6 _ g ng Fg  hI) sv_X3_88 (isFn.k Fg) rfl hl.1 rfl (Nat.le_of_ble_eq_true rfl) ⟨Nat.le_of_ble_eq_true rfl, Nat.le_of_ble_eq_true rfl⟩ ⟨Nat.le_of_ble_eq_true rfl, Nat.le_of_ble_eq_true rfl⟩ dX3_gatherShort_4 (fun r11 kd7 ig8 rg9 lg10 H locs hw hH hp12 => ?_)
      obtain ⟨rfl, rfl, rfl, rfl, hzhp12, hrhp12⟩ := hp12
      obtain ⟨z13, rfl, hz13⟩ := hrhp12
      refine b_ge (tgt := 62) hx hb dX3_gatherShort_7 (by decide) (fun c7 => ?_) (fun c7 => ?_)
      · exact r_vret C hw hr hlk (Nat.le_of_ble_eq_true rfl) (Nat.le_of_ble_eq_true rfl) dX3_gatherShort_62 ⟨hI, hN, ⟨rfl, by omega⟩⟩
      · refine lv_aload_n hx hb dX3_gatherShort_10 rfl (lv_at hl 1 rfl) ?_
        refine lv_iload_n hx hb dX3_gatherShort_11 rfl (lv_at hl 2 rfl) ?_
        refine lv_aload_n hx hb dX3_gatherShort_12 rfl (lv_at hl 3 rfl) ?_
        refine lv_iload_n hx hb dX3_gatherShort_13 rfl (lv_at hl 0 rfl) ?_
        refine r_callV (As := [.int x, .ref g, .int v2]) (rest := []) C hw (t_X3_shortBelow l B D cA kd3 ig4 rg5 lg6 _ x g ng Fg v2  hI) sv_X3_93 (hsh 43 _ rfl) rfl hl.1 rfl (Nat.le_of_ble_eq_true rfl) ⟨Nat.le_of_ble_eq_true rfl, Nat.le_of_ble_eq_true rfl⟩ ⟨Nat.le_of_ble_eq_true rfl, Nat.le_of_ble_eq_true rfl⟩ dX3_gatherShort_14 (fun r18 kd14 ig15 rg16 lg17 H locs hw hH hp19 => ?_)
        obtain ⟨rfl, rfl, rfl, rfl, hzhp19, hrhp19⟩ := hp19
        obtain ⟨z20, rfl, hz20⟩ := hrhp19
        refine lv_istore (lv' := [(4, .int z20), (3, .int v2), (0, .ref (B + 43)), (1, .int x), (2, .ref g)]) hx hb dX3_gatherShort_17 hl (by decide) rfl (fun ls hl => ?_)
        refine lv_iload hx hb dX3_gatherShort_19 (lv_at hl 0 rfl) ?_
        refine lv_iconst (v := (-1)) hx hb dX3_gatherShort_21 (by decide) (ti_c (-1) (by decide) fun z21 hz21 => ?_)
        have J33 : ∀ (ls : Array Slot) (H : Heap) (locs : List Loc) (kd22 : sK) (ig23 : sI) (rg24 : sR) (lg25 : sG) , lv_has ls 6 [(3, .int v2), (0, .ref (B + 43)), (1, .int x), (2, .ref g)] → WD B D cA s.heap kd22 ig23 rg24 lg25 H locs → IC τ B kd22 ig23 rg24 → Nx 830 B none kd ig rg lg kd22 ig23 rg24 lg25 → isFn B kd22 rg24 g ng → ((ig23 (B + 43) 6).toInt ≤ (ig (B + 43) 6).toInt + 2 * v2.toInt + 1) → W p l e (rL 4 0 0) s m args below meth c H locs 0 0 (MQ below (QcW B D cA (PI 830 τ B none kd ig rg lg (fun r kd' ig' rg' lg' => (r = none ∧ (ig' (B + 43) 6).toInt ≤ (ig (B + 43) 6).toInt + 240)))) args s 0 0 (fun q => B ≤ q)) (F0 m 33 ls []) := by
          intro ls H locs kd22 ig23 rg24 lg25 hl hw hI hN Fg g33_0
          have hsh := hI.sh
          have hrs := hI.rs
          refine lv_aload_n hx hb dX3_gatherShort_33 rfl (lv_at hl 1 rfl) ?_
          refine lv_iload_n hx hb dX3_gatherShort_34 rfl (lv_at hl 2 rfl) ?_
          refine lv_aload_n hx hb dX3_gatherShort_35 rfl (lv_at hl 3 rfl) ?_
          refine lv_iload_n hx hb dX3_gatherShort_36 rfl (lv_at hl 0 rfl) ?_
          refine r_callV (As := [.int x, .ref g, .int v2]) (rest := []) C hw (t_X3_shortRight l B D cA kd22 ig23 rg24 lg25 _ x g ng Fg v2  hI) sv_X3_97 (hsh 43 _ rfl) rfl hl.1 rfl (Nat.le_of_ble_eq_true rfl) ⟨Nat.le_of_ble_eq_true rfl, Nat.le_of_ble_eq_true rfl⟩ ⟨Nat.le_of_ble_eq_true rfl, Nat.le_of_ble_eq_true rfl⟩ dX3_gatherShort_37 (fun r30 kd26 ig27 rg28 lg29 H locs hw hH hp31 => ?_)
          obtain ⟨rfl, rfl, rfl, rfl, hzhp31, hrhp31⟩ := hp31
          obtain ⟨z32, rfl, hz32⟩ := hrhp31
          refine lv_istore (lv' := [(5, .int z32), (3, .int v2), (0, .ref (B + 43)), (1, .int x), (2, .ref g)]) hx hb dX3_gatherShort_40 hl (by decide) rfl (fun ls hl => ?_)
          refine lv_iload hx hb dX3_gatherShort_42 (lv_at hl 0 rfl) ?_
          refine lv_iconst (v := (-1)) hx hb dX3_gatherShort_44 (by decide) (ti_c (-1) (by decide) fun z33 hz33 => ?_)
          refine b_eq (tgt := 56) hx hb dX3_gatherShort_45 (by decide) (fun c45 => ?_) (fun c45 => ?_)
          · refine tc_inc hx hb dX3_gatherShort_56 hl (k := 1) rfl (by decide) (by decide) (fun z34 hz34 ls hl => ?_)
            first | replace hz34 := hz34 (by omega) | clear hz34
            have hl : lv_has ls 6 [(3, .int z34), (5, .int z32), (0, .ref (B + 43)), (1, .int x), (2, .ref g)] := hl
            refine lv_goto (tgt := 2) hx hb dX3_gatherShort_59 (by decide) ?_
            exact ih2 ls H locs kd22 ig23 rg24 lg25 z34 (lv_sub hl [0, 2, 3, 4] rfl) hw hI hN Fg (by omega) (by omega) (by omega) (by omega)
          · refine lv_aload_n hx hb dX3_gatherShort_48 rfl (lv_at hl 2 rfl) ?_
            refine lv_iconst (v := 3) hx hb dX3_gatherShort_49 (by decide) (ti_c 3 (by decide) fun z35 hz35 => ?_)
            refine lv_iload_n hx hb dX3_gatherShort_50 rfl (lv_at hl 3 rfl) ?_
            refine lv_iload hx hb dX3_gatherShort_51 (lv_at hl 0 rfl) ?_
            refine r_callV (As := [.int z35, .int x, .int z32]) (rest := []) C hw (t_X3_add l B D cA kd22 ig23 rg24 lg25 _ z35 x z32 (by omega) hI) sv_X3_59 (hsh 43 _ rfl) rfl hl.1 rfl (Nat.le_of_ble_eq_true rfl) ⟨Nat.le_of_ble_eq_true rfl, Nat.le_of_ble_eq_true rfl⟩ ⟨Nat.le_of_ble_eq_true rfl, Nat.le_of_ble_eq_true rfl⟩ dX3_gatherShort_53 (fun r40 kd36 ig37 rg38 lg39 H locs hw hH hp41 => ?_)
            obtain ⟨hI, hchp41, hrhp41⟩ := hp41
            have Fg := Nx.F hchp41 Fg
            have hN := hN.tr hchp41
            have hsh := hI.sh
            have hrs := hI.rs
            obtain ⟨rfl, hvhp41⟩ := hrhp41
            refine tc_inc hx hb dX3_gatherShort_56 hl (k := 1) rfl (by decide) (by decide) (fun z42 hz42 ls hl => ?_)
            first | replace hz42 := hz42 (by omega) | clear hz42
            have hl : lv_has ls 6 [(3, .int z42), (5, .int z32), (0, .ref (B + 43)), (1, .int x), (2, .ref g)] := hl
            refine lv_goto (tgt := 2) hx hb dX3_gatherShort_59 (by decide) ?_
            exact ih2 ls H locs kd36 ig37 rg38 lg39 z42 (lv_sub hl [0, 2, 3, 4] rfl) hw hI hN Fg (by omega) (by omega) (by omega) (by omega)
        refine b_eq (tgt := 33) hx hb dX3_gatherShort_22 (by decide) (fun c22 => ?_) (fun c22 => ?_)
        · exact J33 ls H locs kd3 ig4 rg5 lg6 (lv_sub hl [1, 2, 3, 4] rfl) hw hI hN Fg (by omega)
        · refine lv_aload_n hx hb dX3_gatherShort_25 rfl (lv_at hl 2 rfl) ?_
          refine lv_iconst (v := 3) hx hb dX3_gatherShort_26 (by decide) (ti_c 3 (by decide) fun z43 hz43 => ?_)
          refine lv_iload_n hx hb dX3_gatherShort_27 rfl (lv_at hl 3 rfl) ?_
          refine lv_iload hx hb dX3_gatherShort_28 (lv_at hl 0 rfl) ?_
          refine r_callV (As := [.int z43, .int x, .int z20]) (rest := []) C hw (t_X3_add l B D cA kd3 ig4 rg5 lg6 _ z43 x z20 (by omega) hI) sv_X3_59 (hsh 43 _ rfl) rfl hl.1 rfl (Nat.le_of_ble_eq_true rfl) ⟨Nat.le_of_ble_eq_true rfl, Nat.le_of_ble_eq_true rfl⟩ ⟨Nat.le_of_ble_eq_true rfl, Nat.le_of_ble_eq_true rfl⟩ dX3_gatherShort_30 (fun r48 kd44 ig45 rg46 lg47 H locs hw hH hp49 => ?_)
          obtain ⟨hI, hchp49, hrhp49⟩ := hp49
          have Fg := Nx.F hchp49 Fg
          have hN := hN.tr hchp49
          have hsh := hI.sh
          have hrs := hI.rs
          obtain ⟨rfl, hvhp49⟩ := hrhp49
          exact J33 ls H locs kd44 ig45 rg46 lg47 (lv_sub hl [1, 2, 3, 4] rfl) hw hI hN Fg (by omega)
  exact L2 ((120 - z1.toInt) + 1).toNat ls s.heap [] kd ig rg lg z1 (lv_sub hl [0, 1, 2, 3] rfl) hw hI hN Fg (by omega) (by omega) (by omega) (by omega)

set_option maxHeartbeats 4000000 in
set_option maxRecDepth 100000 in
theorem t_X3_gatherOf {τ : Tp} (l : Launch) (B : Nat) (D : va_G) (cA : Nat → ClassId) (kd : sK) (ig : sI) (rg : sR) (lg : sG) (sz : Nat) (x : Int32) (hs0 : (ig (B + 43) 6).toInt ≤ 98000) (hI : IC τ B kd ig rg) : MC l B D cA yX3_gatherOf cX3_gatherOf 6 none (rL 5 0 0) [.ref (B + 43), .int x] kd ig rg lg sz (PI 830 τ B none kd ig rg lg (fun r kd' ig' rg' lg' => (r = none ∧ (ig' (B + 43) 6).toInt ≤ (ig (B + 43) 6).toInt + 244))) := by
  refine MC.of (own := RX3) (by decide +kernel) rfl (Nat.le_of_ble_eq_true rfl) ?_
  intro p e s m args below meth c ls C hr hlk hnm hw hsz hl
  have hx := C.1.1
  have hb := C.1.2.1
  have hown := C.1.2.2.2.1
  have hts := C.1.2.2.2.2
  have hl : lv_has ls 6 [(0, .ref (B + 43)), (1, .int x)] := hl
  have hN : Nx 830 B none kd ig rg lg kd ig rg lg := Nx.rf
  have hsh := hI.sh
  have hrs := hI.rs
  have k43 : 0 ≤ (ig (B + 43) 6).toInt ∧ (ig (B + 43) 6).toInt ≤ 100000 := hI.i 43 6 (by decide)
  refine lv_aload_n hx hb dX3_gatherOf_0 rfl (lv_at hl 0 rfl) ?_
  refine r_get C hw (hsh 43 _ rfl) fl_X3_9 (oV_r rfl (hrs (43, 0, 9) (by decide))) dX3_gatherOf_1 ?_
  refine lv_iload_n hx hb dX3_gatherOf_4 rfl (lv_at hl 1 rfl) ?_
  refine r_callV (As := [.int x]) (rest := []) C hw (t_X6_kindAt l B D cA kd ig rg lg _ x  hI) sv_X3_44 (hsh 9 _ rfl) rfl hl.1 rfl (Nat.le_of_ble_eq_true rfl) ⟨Nat.le_of_ble_eq_true rfl, Nat.le_of_ble_eq_true rfl⟩ ⟨Nat.le_of_ble_eq_true rfl, Nat.le_of_ble_eq_true rfl⟩ dX3_gatherOf_5 (fun r5 kd1 ig2 rg3 lg4 H locs hw hH hp6 => ?_)
  obtain ⟨rfl, rfl, rfl, rfl, hzhp6, hrhp6⟩ := hp6
  obtain ⟨z7, rfl, hz7⟩ := hrhp6
  refine lv_iconst (v := 1) hx hb dX3_gatherOf_8 (by decide) (ti_c 1 (by decide) fun z8 hz8 => ?_)
  have J17 : ∀ (ls : Array Slot) (H : Heap) (locs : List Loc) (kd10 : sK) (ig11 : sI) (rg12 : sR) (lg13 : sG) (u9 : Int32), lv_has ls 6 [(0, .ref (B + 43)), (1, .int x)] → WD B D cA s.heap kd10 ig11 rg12 lg13 H locs → IC τ B kd10 ig11 rg12 → Nx 830 B none kd ig rg lg kd10 ig11 rg12 lg13 → ((ig11 (B + 43) 6).toInt ≤ (ig (B + 43) 6).toInt + 0) → W p l e (rL 5 0 0) s m args below meth c H locs 0 0 (MQ below (QcW B D cA (PI 830 τ B none kd ig rg lg (fun r kd' ig' rg' lg' => (r = none ∧ (ig' (B + 43) 6).toInt ≤ (ig (B + 43) 6).toInt + 244)))) args s 0 0 (fun q => B ≤ q)) (F0 m 17 ls [.int u9]) := by
    intro ls H locs kd10 ig11 rg12 lg13 u9 hl hw hI hN g17_0
    have hsh := hI.sh
    have hrs := hI.rs
    refine lv_istore_n (lv' := [(2, .int u9), (0, .ref (B + 43)), (1, .int x)]) hx hb dX3_gatherOf_17 rfl hl (by decide) rfl (fun ls hl => ?_)
    refine lv_aload_n hx hb dX3_gatherOf_18 rfl (lv_at hl 1 rfl) ?_
    refine r_get C hw (hsh 43 _ rfl) fl_X3_19 (oV_r rfl (hrs (43, 2, 29) (by decide))) dX3_gatherOf_19 ?_
    refine lv_iload_n hx hb dX3_gatherOf_22 rfl (lv_at hl 2 rfl) ?_
    refine r_callV (As := [.int x]) (rest := []) C hw (t_X2_neighbourToCopy l B D cA kd10 ig11 rg12 lg13 _ x  hI) sv_X3_54 (hsh 29 _ rfl) rfl hl.1 rfl (Nat.le_of_ble_eq_true rfl) ⟨Nat.le_of_ble_eq_true rfl, Nat.le_of_ble_eq_true rfl⟩ ⟨Nat.le_of_ble_eq_true rfl, Nat.le_of_ble_eq_true rfl⟩ dX3_gatherOf_23 (fun r18 kd14 ig15 rg16 lg17 H locs hw hH hp19 => ?_)
    obtain ⟨rfl, rfl, rfl, rfl, hzhp19, hrhp19⟩ := hp19
    obtain ⟨z20, rfl, hz20⟩ := hrhp19
    refine lv_istore_n (lv' := [(3, .int z20), (2, .int u9), (0, .ref (B + 43)), (1, .int x)]) hx hb dX3_gatherOf_26 rfl hl (by decide) rfl (fun ls hl => ?_)
    refine lv_iload_n hx hb dX3_gatherOf_27 rfl (lv_at hl 0 rfl) ?_
    refine lv_iconst (v := (-1)) hx hb dX3_gatherOf_28 (by decide) (ti_c (-1) (by decide) fun z21 hz21 => ?_)
    have J47 : ∀ (ls : Array Slot) (H : Heap) (locs : List Loc) (kd22 : sK) (ig23 : sI) (rg24 : sR) (lg25 : sG) , lv_has ls 6 [(0, .ref (B + 43)), (1, .int x)] → WD B D cA s.heap kd22 ig23 rg24 lg25 H locs → IC τ B kd22 ig23 rg24 → Nx 830 B none kd ig rg lg kd22 ig23 rg24 lg25 → ((ig23 (B + 43) 6).toInt ≤ (ig (B + 43) 6).toInt + 1) → W p l e (rL 5 0 0) s m args below meth c H locs 0 0 (MQ below (QcW B D cA (PI 830 τ B none kd ig rg lg (fun r kd' ig' rg' lg' => (r = none ∧ (ig' (B + 43) 6).toInt ≤ (ig (B + 43) 6).toInt + 244)))) args s 0 0 (fun q => B ≤ q)) (F0 m 47 ls []) := by
      intro ls H locs kd22 ig23 rg24 lg25 hl hw hI hN g47_0
      have hsh := hI.sh
      have hrs := hI.rs
      refine lv_aload_n hx hb dX3_gatherOf_47 rfl (lv_at hl 0 rfl) ?_
      refine r_get C hw (hsh 43 _ rfl) fl_X3_9 (oV_r rfl (hrs (43, 0, 9) (by decide))) dX3_gatherOf_48 ?_
      refine lv_iload_n hx hb dX3_gatherOf_51 rfl (lv_at hl 1 rfl) ?_
      refine r_callV (As := [.int x]) (rest := []) C hw (t_X6_formulaAt l B D cA kd22 ig23 rg24 lg25 _ x  hI) sv_X3_63 (hsh 9 _ rfl) rfl hl.1 rfl (Nat.le_of_ble_eq_true rfl) ⟨Nat.le_of_ble_eq_true rfl, Nat.le_of_ble_eq_true rfl⟩ ⟨Nat.le_of_ble_eq_true rfl, Nat.le_of_ble_eq_true rfl⟩ dX3_gatherOf_52 (fun r30 kd26 ig27 rg28 lg29 H locs hw hH hp31 => ?_)
      obtain ⟨rfl, rfl, rfl, rfl, hzhp31, hrhp31⟩ := hp31
      rcases hrhp31 with rfl | ⟨f32, nf32, rfl, Ff32⟩
      · refine lv_astoreN (lv' := [(4, .null), (0, .ref (B + 43)), (1, .int x)]) hx hb dX3_gatherOf_55 hl (by decide) rfl (fun ls hl => ?_)
        refine lv_aloadN hx hb dX3_gatherOf_57 (lv_at hl 0 rfl) ?_
        have J69 : ∀ (ls : Array Slot) (H : Heap) (locs : List Loc) (kd33 : sK) (ig34 : sI) (rg35 : sR) (lg36 : sG) , lv_has ls 6 [(0, .ref (B + 43)), (1, .int x)] → WD B D cA s.heap kd33 ig34 rg35 lg36 H locs → IC τ B kd33 ig34 rg35 → Nx 830 B none kd ig rg lg kd33 ig34 rg35 lg36 → ((ig34 (B + 43) 6).toInt ≤ (ig (B + 43) 6).toInt + 241) → W p l e (rL 5 0 0) s m args below meth c H locs 0 0 (MQ below (QcW B D cA (PI 830 τ B none kd ig rg lg (fun r kd' ig' rg' lg' => (r = none ∧ (ig' (B + 43) 6).toInt ≤ (ig (B + 43) 6).toInt + 244)))) args s 0 0 (fun q => B ≤ q)) (F0 m 69 ls []) := by
          intro ls H locs kd33 ig34 rg35 lg36 hl hw hI hN g69_0
          have hsh := hI.sh
          have hrs := hI.rs
          refine lv_aload_n hx hb dX3_gatherOf_69 rfl (lv_at hl 0 rfl) ?_
          refine r_get C hw (hsh 43 _ rfl) fl_X3_27 (oV_r rfl (hrs (43, 4, 37) (by decide))) dX3_gatherOf_70 ?_
          refine lv_iload_n hx hb dX3_gatherOf_73 rfl (lv_at hl 1 rfl) ?_
          refine r_callV (As := [.int x]) (rest := []) C hw (t_X8_leastTwice l B D cA kd33 ig34 rg35 lg36 _ x  hI) sv_X3_71 (hsh 37 _ rfl) rfl hl.1 rfl (Nat.le_of_ble_eq_true rfl) ⟨Nat.le_of_ble_eq_true rfl, Nat.le_of_ble_eq_true rfl⟩ ⟨Nat.le_of_ble_eq_true rfl, Nat.le_of_ble_eq_true rfl⟩ dX3_gatherOf_74 (fun r41 kd37 ig38 rg39 lg40 H locs hw hH hp42 => ?_)
          obtain ⟨rfl, rfl, rfl, rfl, hzhp42, hrhp42⟩ := hp42
          obtain ⟨z43, rfl, hz43⟩ := hrhp42
          refine lv_istore (lv' := [(5, .int z43), (0, .ref (B + 43)), (1, .int x)]) hx hb dX3_gatherOf_77 hl (by decide) rfl (fun ls hl => ?_)
          refine lv_iload hx hb dX3_gatherOf_79 (lv_at hl 0 rfl) ?_
          refine lv_iconst (v := (-1)) hx hb dX3_gatherOf_81 (by decide) (ti_c (-1) (by decide) fun z44 hz44 => ?_)
          have J93 : ∀ (ls : Array Slot) (H : Heap) (locs : List Loc) (kd45 : sK) (ig46 : sI) (rg47 : sR) (lg48 : sG) , lv_has ls 6 [(0, .ref (B + 43)), (1, .int x)] → WD B D cA s.heap kd45 ig46 rg47 lg48 H locs → IC τ B kd45 ig46 rg47 → Nx 830 B none kd ig rg lg kd45 ig46 rg47 lg48 → ((ig46 (B + 43) 6).toInt ≤ (ig (B + 43) 6).toInt + 242) → W p l e (rL 5 0 0) s m args below meth c H locs 0 0 (MQ below (QcW B D cA (PI 830 τ B none kd ig rg lg (fun r kd' ig' rg' lg' => (r = none ∧ (ig' (B + 43) 6).toInt ≤ (ig (B + 43) 6).toInt + 244)))) args s 0 0 (fun q => B ≤ q)) (F0 m 93 ls []) := by
            intro ls H locs kd45 ig46 rg47 lg48 hl hw hI hN g93_0
            have hsh := hI.sh
            have hrs := hI.rs
            refine lv_aload_n hx hb dX3_gatherOf_93 rfl (lv_at hl 0 rfl) ?_
            refine r_get C hw (hsh 43 _ rfl) fl_X3_9 (oV_r rfl (hrs (43, 0, 9) (by decide))) dX3_gatherOf_94 ?_
            refine lv_iload_n hx hb dX3_gatherOf_97 rfl (lv_at hl 1 rfl) ?_
            refine r_callV (As := [.int x]) (rest := []) C hw (t_X6_isKept l B D cA kd45 ig46 rg47 lg48 _ x  hI) sv_X3_74 (hsh 9 _ rfl) rfl hl.1 rfl (Nat.le_of_ble_eq_true rfl) ⟨Nat.le_of_ble_eq_true rfl, Nat.le_of_ble_eq_true rfl⟩ ⟨Nat.le_of_ble_eq_true rfl, Nat.le_of_ble_eq_true rfl⟩ dX3_gatherOf_98 (fun r53 kd49 ig50 rg51 lg52 H locs hw hH hp54 => ?_)
            obtain ⟨rfl, rfl, rfl, rfl, hzhp54, hrhp54⟩ := hp54
            obtain ⟨z55, rfl, hz55⟩ := hrhp54
            have J122 : ∀ (ls : Array Slot) (H : Heap) (locs : List Loc) (kd56 : sK) (ig57 : sI) (rg58 : sR) (lg59 : sG) , lv_has ls 6 [(0, .ref (B + 43)), (1, .int x)] → WD B D cA s.heap kd56 ig57 rg58 lg59 H locs → IC τ B kd56 ig57 rg58 → Nx 830 B none kd ig rg lg kd56 ig57 rg58 lg59 → ((ig57 (B + 43) 6).toInt ≤ (ig (B + 43) 6).toInt + 243) → W p l e (rL 5 0 0) s m args below meth c H locs 0 0 (MQ below (QcW B D cA (PI 830 τ B none kd ig rg lg (fun r kd' ig' rg' lg' => (r = none ∧ (ig' (B + 43) 6).toInt ≤ (ig (B + 43) 6).toInt + 244)))) args s 0 0 (fun q => B ≤ q)) (F0 m 122 ls []) := by
              intro ls H locs kd56 ig57 rg58 lg59 hl hw hI hN g122_0
              have hsh := hI.sh
              have hrs := hI.rs
              refine lv_aload_n hx hb dX3_gatherOf_122 rfl (lv_at hl 0 rfl) ?_
              refine r_get C hw (hsh 43 _ rfl) fl_X3_23 (oV_r rfl (hrs (43, 3, 32) (by decide))) dX3_gatherOf_123 ?_
              refine lv_iload_n hx hb dX3_gatherOf_126 rfl (lv_at hl 1 rfl) ?_
              refine r_callV (As := [.int x]) (rest := []) C hw (t_X9_clashesAt l B D cA kd56 ig57 rg58 lg59 _ x  hI) sv_X3_83 (hsh 32 _ rfl) rfl hl.1 rfl (Nat.le_of_ble_eq_true rfl) ⟨Nat.le_of_ble_eq_true rfl, Nat.le_of_ble_eq_true rfl⟩ ⟨Nat.le_of_ble_eq_true rfl, Nat.le_of_ble_eq_true rfl⟩ dX3_gatherOf_127 (fun r64 kd60 ig61 rg62 lg63 H locs hw hH hp65 => ?_)
              obtain ⟨rfl, rfl, rfl, rfl, hzhp65, hrhp65⟩ := hp65
              obtain ⟨z66, rfl, hz66⟩ := hrhp65
              refine z_eq (tgt := 141) hx hb dX3_gatherOf_130 (by decide) (fun c130 => ?_) (fun c130 => ?_)
              · exact r_vret C hw hr hlk (Nat.le_of_ble_eq_true rfl) (Nat.le_of_ble_eq_true rfl) dX3_gatherOf_141 ⟨hI, hN, ⟨rfl, by omega⟩⟩
              · refine lv_aload_n hx hb dX3_gatherOf_133 rfl (lv_at hl 0 rfl) ?_
                refine lv_bipush (v := 6) hx hb dX3_gatherOf_134 (by decide) (ti_c 6 (by decide) fun z67 hz67 => ?_)
                refine lv_iload_n hx hb dX3_gatherOf_136 rfl (lv_at hl 1 rfl) ?_
                refine lv_iconst (v := (-1)) hx hb dX3_gatherOf_137 (by decide) (ti_c (-1) (by decide) fun z68 hz68 => ?_)
                refine r_callV (As := [.int z67, .int x, .int z68]) (rest := []) C hw (t_X3_add l B D cA kd56 ig57 rg58 lg59 _ z67 x z68 (by omega) hI) sv_X3_59 (hsh 43 _ rfl) rfl hl.1 rfl (Nat.le_of_ble_eq_true rfl) ⟨Nat.le_of_ble_eq_true rfl, Nat.le_of_ble_eq_true rfl⟩ ⟨Nat.le_of_ble_eq_true rfl, Nat.le_of_ble_eq_true rfl⟩ dX3_gatherOf_138 (fun r73 kd69 ig70 rg71 lg72 H locs hw hH hp74 => ?_)
                obtain ⟨hI, hchp74, hrhp74⟩ := hp74
                have hN := hN.tr hchp74
                have hsh := hI.sh
                have hrs := hI.rs
                obtain ⟨rfl, hvhp74⟩ := hrhp74
                exact r_vret C hw hr hlk (Nat.le_of_ble_eq_true rfl) (Nat.le_of_ble_eq_true rfl) dX3_gatherOf_141 ⟨hI, hN, ⟨rfl, by omega⟩⟩
            refine z_ne (tgt := 122) hx hb dX3_gatherOf_101 (by decide) (fun c101 => ?_) (fun c101 => ?_)
            · exact J122 ls H locs kd45 ig46 rg47 lg48 (lv_sub hl [0, 1] rfl) hw hI hN (by omega)
            · refine lv_aload_n hx hb dX3_gatherOf_104 rfl (lv_at hl 0 rfl) ?_
              refine r_get C hw (hsh 43 _ rfl) fl_X3_15 (oV_r rfl (hrs (43, 1, 15) (by decide))) dX3_gatherOf_105 ?_
              refine lv_iload_n hx hb dX3_gatherOf_108 rfl (lv_at hl 1 rfl) ?_
              refine r_callV (As := [.int x]) (rest := []) C hw (t_X5_readersOf l B D cA kd45 ig46 rg47 lg48 _ x  hI) sv_X3_78 (hsh 15 _ rfl) rfl hl.1 rfl (Nat.le_of_ble_eq_true rfl) ⟨Nat.le_of_ble_eq_true rfl, Nat.le_of_ble_eq_true rfl⟩ ⟨Nat.le_of_ble_eq_true rfl, Nat.le_of_ble_eq_true rfl⟩ dX3_gatherOf_109 (fun r79 kd75 ig76 rg77 lg78 H locs hw hH hp80 => ?_)
              obtain ⟨rfl, rfl, rfl, rfl, hzhp80, hrhp80⟩ := hp80
              obtain ⟨z81, rfl, hz81⟩ := hrhp80
              refine z_ne (tgt := 122) hx hb dX3_gatherOf_112 (by decide) (fun c112 => ?_) (fun c112 => ?_)
              · exact J122 ls H locs kd45 ig46 rg47 lg48 (lv_sub hl [0, 1] rfl) hw hI hN (by omega)
              · refine lv_aload_n hx hb dX3_gatherOf_115 rfl (lv_at hl 0 rfl) ?_
                refine lv_iconst (v := 5) hx hb dX3_gatherOf_116 (by decide) (ti_c 5 (by decide) fun z82 hz82 => ?_)
                refine lv_iload_n hx hb dX3_gatherOf_117 rfl (lv_at hl 1 rfl) ?_
                refine lv_iconst (v := (-1)) hx hb dX3_gatherOf_118 (by decide) (ti_c (-1) (by decide) fun z83 hz83 => ?_)
                refine r_callV (As := [.int z82, .int x, .int z83]) (rest := []) C hw (t_X3_add l B D cA kd45 ig46 rg47 lg48 _ z82 x z83 (by omega) hI) sv_X3_59 (hsh 43 _ rfl) rfl hl.1 rfl (Nat.le_of_ble_eq_true rfl) ⟨Nat.le_of_ble_eq_true rfl, Nat.le_of_ble_eq_true rfl⟩ ⟨Nat.le_of_ble_eq_true rfl, Nat.le_of_ble_eq_true rfl⟩ dX3_gatherOf_119 (fun r88 kd84 ig85 rg86 lg87 H locs hw hH hp89 => ?_)
                obtain ⟨hI, hchp89, hrhp89⟩ := hp89
                have hN := hN.tr hchp89
                have hsh := hI.sh
                have hrs := hI.rs
                obtain ⟨rfl, hvhp89⟩ := hrhp89
                exact J122 ls H locs kd84 ig85 rg86 lg87 (lv_sub hl [0, 1] rfl) hw hI hN (by omega)
          refine b_eq (tgt := 93) hx hb dX3_gatherOf_82 (by decide) (fun c82 => ?_) (fun c82 => ?_)
          · exact J93 ls H locs kd33 ig34 rg35 lg36 (lv_sub hl [1, 2] rfl) hw hI hN (by omega)
          · refine lv_aload_n hx hb dX3_gatherOf_85 rfl (lv_at hl 1 rfl) ?_
            refine lv_iconst (v := 4) hx hb dX3_gatherOf_86 (by decide) (ti_c 4 (by decide) fun z90 hz90 => ?_)
            refine lv_iload_n hx hb dX3_gatherOf_87 rfl (lv_at hl 2 rfl) ?_
            refine lv_iload hx hb dX3_gatherOf_88 (lv_at hl 0 rfl) ?_
            refine r_callV (As := [.int z90, .int x, .int z43]) (rest := []) C hw (t_X3_add l B D cA kd33 ig34 rg35 lg36 _ z90 x z43 (by omega) hI) sv_X3_59 (hsh 43 _ rfl) rfl hl.1 rfl (Nat.le_of_ble_eq_true rfl) ⟨Nat.le_of_ble_eq_true rfl, Nat.le_of_ble_eq_true rfl⟩ ⟨Nat.le_of_ble_eq_true rfl, Nat.le_of_ble_eq_true rfl⟩ dX3_gatherOf_90 (fun r95 kd91 ig92 rg93 lg94 H locs hw hH hp96 => ?_)
            obtain ⟨hI, hchp96, hrhp96⟩ := hp96
            have hN := hN.tr hchp96
            have hsh := hI.sh
            have hrs := hI.rs
            obtain ⟨rfl, hvhp96⟩ := hrhp96
            exact J93 ls H locs kd91 ig92 rg93 lg94 (lv_sub hl [1, 2] rfl) hw hI hN (by omega)
        refine lv_ifnullN (tgt := 69) hx hb dX3_gatherOf_59 (by decide) ?_
        exact J69 ls H locs kd22 ig23 rg24 lg25 (lv_sub hl [1, 2] rfl) hw hI hN (by omega)
      · have lf32 := isFn.le Ff32
        refine lv_astore (lv' := [(4, .ref f32), (0, .ref (B + 43)), (1, .int x)]) hx hb dX3_gatherOf_55 hl (by decide) rfl (fun ls hl => ?_)
        refine lv_aload hx hb dX3_gatherOf_57 (lv_at hl 0 rfl) ?_
        have J69 : ∀ (ls : Array Slot) (H : Heap) (locs : List Loc) (kd97 : sK) (ig98 : sI) (rg99 : sR) (lg100 : sG) , lv_has ls 6 [(0, .ref (B + 43)), (1, .int x)] → WD B D cA s.heap kd97 ig98 rg99 lg100 H locs → IC τ B kd97 ig98 rg99 → Nx 830 B none kd ig rg lg kd97 ig98 rg99 lg100 → ((ig98 (B + 43) 6).toInt ≤ (ig (B + 43) 6).toInt + 241) → W p l e (rL 5 0 0) s m args below meth c H locs 0 0 (MQ below (QcW B D cA (PI 830 τ B none kd ig rg lg (fun r kd' ig' rg' lg' => (r = none ∧ (ig' (B + 43) 6).toInt ≤ (ig (B + 43) 6).toInt + 244)))) args s 0 0 (fun q => B ≤ q)) (F0 m 69 ls []) := by
          intro ls H locs kd97 ig98 rg99 lg100 hl hw hI hN g69_0
          have hsh := hI.sh
          have hrs := hI.rs
          refine lv_aload_n hx hb dX3_gatherOf_69 rfl (lv_at hl 0 rfl) ?_
          refine r_get C hw (hsh 43 _ rfl) fl_X3_27 (oV_r rfl (hrs (43, 4, 37) (by decide))) dX3_gatherOf_70 ?_
          refine lv_iload_n hx hb dX3_gatherOf_73 rfl (lv_at hl 1 rfl) ?_
          refine r_callV (As := [.int x]) (rest := []) C hw (t_X8_leastTwice l B D cA kd97 ig98 rg99 lg100 _ x  hI) sv_X3_71 (hsh 37 _ rfl) rfl hl.1 rfl (Nat.le_of_ble_eq_true rfl) ⟨Nat.le_of_ble_eq_true rfl, Nat.le_of_ble_eq_true rfl⟩ ⟨Nat.le_of_ble_eq_true rfl, Nat.le_of_ble_eq_true rfl⟩ dX3_gatherOf_74 (fun r105 kd101 ig102 rg103 lg104 H locs hw hH hp106 => ?_)
          obtain ⟨rfl, rfl, rfl, rfl, hzhp106, hrhp106⟩ := hp106
          obtain ⟨z107, rfl, hz107⟩ := hrhp106
          refine lv_istore (lv' := [(5, .int z107), (0, .ref (B + 43)), (1, .int x)]) hx hb dX3_gatherOf_77 hl (by decide) rfl (fun ls hl => ?_)
          refine lv_iload hx hb dX3_gatherOf_79 (lv_at hl 0 rfl) ?_
          refine lv_iconst (v := (-1)) hx hb dX3_gatherOf_81 (by decide) (ti_c (-1) (by decide) fun z108 hz108 => ?_)
          have J93 : ∀ (ls : Array Slot) (H : Heap) (locs : List Loc) (kd109 : sK) (ig110 : sI) (rg111 : sR) (lg112 : sG) , lv_has ls 6 [(0, .ref (B + 43)), (1, .int x)] → WD B D cA s.heap kd109 ig110 rg111 lg112 H locs → IC τ B kd109 ig110 rg111 → Nx 830 B none kd ig rg lg kd109 ig110 rg111 lg112 → ((ig110 (B + 43) 6).toInt ≤ (ig (B + 43) 6).toInt + 242) → W p l e (rL 5 0 0) s m args below meth c H locs 0 0 (MQ below (QcW B D cA (PI 830 τ B none kd ig rg lg (fun r kd' ig' rg' lg' => (r = none ∧ (ig' (B + 43) 6).toInt ≤ (ig (B + 43) 6).toInt + 244)))) args s 0 0 (fun q => B ≤ q)) (F0 m 93 ls []) := by
            intro ls H locs kd109 ig110 rg111 lg112 hl hw hI hN g93_0
            have hsh := hI.sh
            have hrs := hI.rs
            refine lv_aload_n hx hb dX3_gatherOf_93 rfl (lv_at hl 0 rfl) ?_
            refine r_get C hw (hsh 43 _ rfl) fl_X3_9 (oV_r rfl (hrs (43, 0, 9) (by decide))) dX3_gatherOf_94 ?_
            refine lv_iload_n hx hb dX3_gatherOf_97 rfl (lv_at hl 1 rfl) ?_
            refine r_callV (As := [.int x]) (rest := []) C hw (t_X6_isKept l B D cA kd109 ig110 rg111 lg112 _ x  hI) sv_X3_74 (hsh 9 _ rfl) rfl hl.1 rfl (Nat.le_of_ble_eq_true rfl) ⟨Nat.le_of_ble_eq_true rfl, Nat.le_of_ble_eq_true rfl⟩ ⟨Nat.le_of_ble_eq_true rfl, Nat.le_of_ble_eq_true rfl⟩ dX3_gatherOf_98 (fun r117 kd113 ig114 rg115 lg116 H locs hw hH hp118 => ?_)
            obtain ⟨rfl, rfl, rfl, rfl, hzhp118, hrhp118⟩ := hp118
            obtain ⟨z119, rfl, hz119⟩ := hrhp118
            have J122 : ∀ (ls : Array Slot) (H : Heap) (locs : List Loc) (kd120 : sK) (ig121 : sI) (rg122 : sR) (lg123 : sG) , lv_has ls 6 [(0, .ref (B + 43)), (1, .int x)] → WD B D cA s.heap kd120 ig121 rg122 lg123 H locs → IC τ B kd120 ig121 rg122 → Nx 830 B none kd ig rg lg kd120 ig121 rg122 lg123 → ((ig121 (B + 43) 6).toInt ≤ (ig (B + 43) 6).toInt + 243) → W p l e (rL 5 0 0) s m args below meth c H locs 0 0 (MQ below (QcW B D cA (PI 830 τ B none kd ig rg lg (fun r kd' ig' rg' lg' => (r = none ∧ (ig' (B + 43) 6).toInt ≤ (ig (B + 43) 6).toInt + 244)))) args s 0 0 (fun q => B ≤ q)) (F0 m 122 ls []) := by
              intro ls H locs kd120 ig121 rg122 lg123 hl hw hI hN g122_0
              have hsh := hI.sh
              have hrs := hI.rs
              refine lv_aload_n hx hb dX3_gatherOf_122 rfl (lv_at hl 0 rfl) ?_
              refine r_get C hw (hsh 43 _ rfl) fl_X3_23 (oV_r rfl (hrs (43, 3, 32) (by decide))) dX3_gatherOf_123 ?_
              refine lv_iload_n hx hb dX3_gatherOf_126 rfl (lv_at hl 1 rfl) ?_
              refine r_callV (As := [.int x]) (rest := []) C hw (t_X9_clashesAt l B D cA kd120 ig121 rg122 lg123 _ x  hI) sv_X3_83 (hsh 32 _ rfl) rfl hl.1 rfl (Nat.le_of_ble_eq_true rfl) ⟨Nat.le_of_ble_eq_true rfl, Nat.le_of_ble_eq_true rfl⟩ ⟨Nat.le_of_ble_eq_true rfl, Nat.le_of_ble_eq_true rfl⟩ dX3_gatherOf_127 (fun r128 kd124 ig125 rg126 lg127 H locs hw hH hp129 => ?_)
              obtain ⟨rfl, rfl, rfl, rfl, hzhp129, hrhp129⟩ := hp129
              obtain ⟨z130, rfl, hz130⟩ := hrhp129
              refine z_eq (tgt := 141) hx hb dX3_gatherOf_130 (by decide) (fun c130 => ?_) (fun c130 => ?_)
              · exact r_vret C hw hr hlk (Nat.le_of_ble_eq_true rfl) (Nat.le_of_ble_eq_true rfl) dX3_gatherOf_141 ⟨hI, hN, ⟨rfl, by omega⟩⟩
              · refine lv_aload_n hx hb dX3_gatherOf_133 rfl (lv_at hl 0 rfl) ?_
                refine lv_bipush (v := 6) hx hb dX3_gatherOf_134 (by decide) (ti_c 6 (by decide) fun z131 hz131 => ?_)
                refine lv_iload_n hx hb dX3_gatherOf_136 rfl (lv_at hl 1 rfl) ?_
                refine lv_iconst (v := (-1)) hx hb dX3_gatherOf_137 (by decide) (ti_c (-1) (by decide) fun z132 hz132 => ?_)
                refine r_callV (As := [.int z131, .int x, .int z132]) (rest := []) C hw (t_X3_add l B D cA kd120 ig121 rg122 lg123 _ z131 x z132 (by omega) hI) sv_X3_59 (hsh 43 _ rfl) rfl hl.1 rfl (Nat.le_of_ble_eq_true rfl) ⟨Nat.le_of_ble_eq_true rfl, Nat.le_of_ble_eq_true rfl⟩ ⟨Nat.le_of_ble_eq_true rfl, Nat.le_of_ble_eq_true rfl⟩ dX3_gatherOf_138 (fun r137 kd133 ig134 rg135 lg136 H locs hw hH hp138 => ?_)
                obtain ⟨hI, hchp138, hrhp138⟩ := hp138
                have hN := hN.tr hchp138
                have hsh := hI.sh
                have hrs := hI.rs
                obtain ⟨rfl, hvhp138⟩ := hrhp138
                exact r_vret C hw hr hlk (Nat.le_of_ble_eq_true rfl) (Nat.le_of_ble_eq_true rfl) dX3_gatherOf_141 ⟨hI, hN, ⟨rfl, by omega⟩⟩
            refine z_ne (tgt := 122) hx hb dX3_gatherOf_101 (by decide) (fun c101 => ?_) (fun c101 => ?_)
            · exact J122 ls H locs kd109 ig110 rg111 lg112 (lv_sub hl [0, 1] rfl) hw hI hN (by omega)
            · refine lv_aload_n hx hb dX3_gatherOf_104 rfl (lv_at hl 0 rfl) ?_
              refine r_get C hw (hsh 43 _ rfl) fl_X3_15 (oV_r rfl (hrs (43, 1, 15) (by decide))) dX3_gatherOf_105 ?_
              refine lv_iload_n hx hb dX3_gatherOf_108 rfl (lv_at hl 1 rfl) ?_
              refine r_callV (As := [.int x]) (rest := []) C hw (t_X5_readersOf l B D cA kd109 ig110 rg111 lg112 _ x  hI) sv_X3_78 (hsh 15 _ rfl) rfl hl.1 rfl (Nat.le_of_ble_eq_true rfl) ⟨Nat.le_of_ble_eq_true rfl, Nat.le_of_ble_eq_true rfl⟩ ⟨Nat.le_of_ble_eq_true rfl, Nat.le_of_ble_eq_true rfl⟩ dX3_gatherOf_109 (fun r143 kd139 ig140 rg141 lg142 H locs hw hH hp144 => ?_)
              obtain ⟨rfl, rfl, rfl, rfl, hzhp144, hrhp144⟩ := hp144
              obtain ⟨z145, rfl, hz145⟩ := hrhp144
              refine z_ne (tgt := 122) hx hb dX3_gatherOf_112 (by decide) (fun c112 => ?_) (fun c112 => ?_)
              · exact J122 ls H locs kd109 ig110 rg111 lg112 (lv_sub hl [0, 1] rfl) hw hI hN (by omega)
              · refine lv_aload_n hx hb dX3_gatherOf_115 rfl (lv_at hl 0 rfl) ?_
                refine lv_iconst (v := 5) hx hb dX3_gatherOf_116 (by decide) (ti_c 5 (by decide) fun z146 hz146 => ?_)
                refine lv_iload_n hx hb dX3_gatherOf_117 rfl (lv_at hl 1 rfl) ?_
                refine lv_iconst (v := (-1)) hx hb dX3_gatherOf_118 (by decide) (ti_c (-1) (by decide) fun z147 hz147 => ?_)
                refine r_callV (As := [.int z146, .int x, .int z147]) (rest := []) C hw (t_X3_add l B D cA kd109 ig110 rg111 lg112 _ z146 x z147 (by omega) hI) sv_X3_59 (hsh 43 _ rfl) rfl hl.1 rfl (Nat.le_of_ble_eq_true rfl) ⟨Nat.le_of_ble_eq_true rfl, Nat.le_of_ble_eq_true rfl⟩ ⟨Nat.le_of_ble_eq_true rfl, Nat.le_of_ble_eq_true rfl⟩ dX3_gatherOf_119 (fun r152 kd148 ig149 rg150 lg151 H locs hw hH hp153 => ?_)
                obtain ⟨hI, hchp153, hrhp153⟩ := hp153
                have hN := hN.tr hchp153
                have hsh := hI.sh
                have hrs := hI.rs
                obtain ⟨rfl, hvhp153⟩ := hrhp153
                exact J122 ls H locs kd148 ig149 rg150 lg151 (lv_sub hl [0, 1] rfl) hw hI hN (by omega)
          refine b_eq (tgt := 93) hx hb dX3_gatherOf_82 (by decide) (fun c82 => ?_) (fun c82 => ?_)
          · exact J93 ls H locs kd97 ig98 rg99 lg100 (lv_sub hl [1, 2] rfl) hw hI hN (by omega)
          · refine lv_aload_n hx hb dX3_gatherOf_85 rfl (lv_at hl 1 rfl) ?_
            refine lv_iconst (v := 4) hx hb dX3_gatherOf_86 (by decide) (ti_c 4 (by decide) fun z154 hz154 => ?_)
            refine lv_iload_n hx hb dX3_gatherOf_87 rfl (lv_at hl 2 rfl) ?_
            refine lv_iload hx hb dX3_gatherOf_88 (lv_at hl 0 rfl) ?_
            refine r_callV (As := [.int z154, .int x, .int z107]) (rest := []) C hw (t_X3_add l B D cA kd97 ig98 rg99 lg100 _ z154 x z107 (by omega) hI) sv_X3_59 (hsh 43 _ rfl) rfl hl.1 rfl (Nat.le_of_ble_eq_true rfl) ⟨Nat.le_of_ble_eq_true rfl, Nat.le_of_ble_eq_true rfl⟩ ⟨Nat.le_of_ble_eq_true rfl, Nat.le_of_ble_eq_true rfl⟩ dX3_gatherOf_90 (fun r159 kd155 ig156 rg157 lg158 H locs hw hH hp160 => ?_)
            obtain ⟨hI, hchp160, hrhp160⟩ := hp160
            have hN := hN.tr hchp160
            have hsh := hI.sh
            have hrs := hI.rs
            obtain ⟨rfl, hvhp160⟩ := hrhp160
            exact J93 ls H locs kd155 ig156 rg157 lg158 (lv_sub hl [1, 2] rfl) hw hI hN (by omega)
        refine lv_ifnull hx hb dX3_gatherOf_59 ?_
        refine lv_aload_n hx hb dX3_gatherOf_62 rfl (lv_at hl 1 rfl) ?_
        refine lv_iload_n hx hb dX3_gatherOf_63 rfl (lv_at hl 2 rfl) ?_
        refine lv_aload hx hb dX3_gatherOf_64 (lv_at hl 0 rfl) ?_
        refine r_callV (As := [.int x, .ref f32]) (rest := []) C hw (t_X3_gatherShort l B D cA kd22 ig23 rg24 lg25 _ x f32 nf32 Ff32 (by omega) hI) sv_X3_67 (hsh 43 _ rfl) rfl hl.1 rfl (Nat.le_of_ble_eq_true rfl) ⟨Nat.le_of_ble_eq_true rfl, Nat.le_of_ble_eq_true rfl⟩ ⟨Nat.le_of_ble_eq_true rfl, Nat.le_of_ble_eq_true rfl⟩ dX3_gatherOf_66 (fun r165 kd161 ig162 rg163 lg164 H locs hw hH hp166 => ?_)
        obtain ⟨hI, hchp166, hrhp166⟩ := hp166
        have hN := hN.tr hchp166
        have hsh := hI.sh
        have hrs := hI.rs
        obtain ⟨rfl, hvhp166⟩ := hrhp166
        exact J69 ls H locs kd161 ig162 rg163 lg164 (lv_sub hl [1, 2] rfl) hw hI hN (by omega)
    refine b_eq (tgt := 47) hx hb dX3_gatherOf_29 (by decide) (fun c29 => ?_) (fun c29 => ?_)
    · exact J47 ls H locs kd10 ig11 rg12 lg13 (lv_sub hl [2, 3] rfl) hw hI hN (by omega)
    · refine lv_aload_n hx hb dX3_gatherOf_32 rfl (lv_at hl 2 rfl) ?_
      refine lv_iload_n hx hb dX3_gatherOf_33 rfl (lv_at hl 1 rfl) ?_
      have J42 : ∀ (ls : Array Slot) (H : Heap) (locs : List Loc) (kd168 : sK) (ig169 : sI) (rg170 : sR) (lg171 : sG) (u167 : Int32), lv_has ls 6 [(3, .int z20), (0, .ref (B + 43)), (1, .int x)] → WD B D cA s.heap kd168 ig169 rg170 lg171 H locs → IC τ B kd168 ig169 rg170 → Nx 830 B none kd ig rg lg kd168 ig169 rg170 lg171 → ((ig169 (B + 43) 6).toInt ≤ (ig (B + 43) 6).toInt + 0) → W p l e (rL 5 0 0) s m args below meth c H locs 0 0 (MQ below (QcW B D cA (PI 830 τ B none kd ig rg lg (fun r kd' ig' rg' lg' => (r = none ∧ (ig' (B + 43) 6).toInt ≤ (ig (B + 43) 6).toInt + 244)))) args s 0 0 (fun q => B ≤ q)) (F0 m 42 ls [.int u167, .ref (B + 43)]) := by
        intro ls H locs kd168 ig169 rg170 lg171 u167 hl hw hI hN g42_0
        have hsh := hI.sh
        have hrs := hI.rs
        refine lv_iload_n hx hb dX3_gatherOf_42 rfl (lv_at hl 2 rfl) ?_
        refine lv_iload_n hx hb dX3_gatherOf_43 rfl (lv_at hl 0 rfl) ?_
        refine r_callV (As := [.int u167, .int x, .int z20]) (rest := []) C hw (t_X3_add l B D cA kd168 ig169 rg170 lg171 _ u167 x z20 (by omega) hI) sv_X3_59 (hsh 43 _ rfl) rfl hl.1 rfl (Nat.le_of_ble_eq_true rfl) ⟨Nat.le_of_ble_eq_true rfl, Nat.le_of_ble_eq_true rfl⟩ ⟨Nat.le_of_ble_eq_true rfl, Nat.le_of_ble_eq_true rfl⟩ dX3_gatherOf_44 (fun r176 kd172 ig173 rg174 lg175 H locs hw hH hp177 => ?_)
        obtain ⟨hI, hchp177, hrhp177⟩ := hp177
        have hN := hN.tr hchp177
        have hsh := hI.sh
        have hrs := hI.rs
        obtain ⟨rfl, hvhp177⟩ := hrhp177
        exact J47 ls H locs kd172 ig173 rg174 lg175 (lv_sub hl [1, 2] rfl) hw hI hN (by omega)
      refine z_eq (tgt := 41) hx hb dX3_gatherOf_34 (by decide) (fun c34 => ?_) (fun c34 => ?_)
      · refine lv_iconst (v := 1) hx hb dX3_gatherOf_41 (by decide) (ti_c 1 (by decide) fun z178 hz178 => ?_)
        exact J42 ls H locs kd10 ig11 rg12 lg13 z178 (lv_sub hl [0, 2, 3] rfl) hw hI hN (by omega)
      · refine lv_iconst (v := 2) hx hb dX3_gatherOf_37 (by decide) (ti_c 2 (by decide) fun z179 hz179 => ?_)
        refine lv_goto (tgt := 42) hx hb dX3_gatherOf_38 (by decide) ?_
        exact J42 ls H locs kd10 ig11 rg12 lg13 z179 (lv_sub hl [0, 2, 3] rfl) hw hI hN (by omega)
  refine b_ne (tgt := 16) hx hb dX3_gatherOf_9 (by decide) (fun c9 => ?_) (fun c9 => ?_)
  · refine lv_iconst (v := 0) hx hb dX3_gatherOf_16 (by decide) (ti_c 0 (by decide) fun z180 hz180 => ?_)
    exact J17 ls H locs kd ig rg lg z180 (lv_sub hl [0, 1] rfl) hw hI hN (by omega)
  · refine lv_iconst (v := 1) hx hb dX3_gatherOf_12 (by decide) (ti_c 1 (by decide) fun z181 hz181 => ?_)
    refine lv_goto (tgt := 17) hx hb dX3_gatherOf_13 (by decide) ?_
    exact J17 ls H locs kd ig rg lg z181 (lv_sub hl [0, 1] rfl) hw hI hN (by omega)

set_option maxHeartbeats 4000000 in
set_option maxRecDepth 100000 in
theorem t_X3_gather {τ : Tp} (l : Launch) (B : Nat) (D : va_G) (cA : Nat → ClassId) (kd : sK) (ig : sI) (rg : sR) (lg : sG) (sz : Nat)  (hI : IC τ B kd ig rg) : MC l B D cA yX3_gather cX3_gather 2 (some .int) (rL 6 0 0) [.ref (B + 43)] kd ig rg lg sz (PI 830 τ B none kd ig rg lg (fun r kd' ig' rg' lg' => ∃ z : Int32, r = some (.int z) ∧ True)) := by
  refine MC.of (own := RX3) (by decide +kernel) rfl (Nat.le_of_ble_eq_true rfl) ?_
  intro p e s m args below meth c ls C hr hlk hnm hw hsz hl
  have hx := C.1.1
  have hb := C.1.2.1
  have hown := C.1.2.2.2.1
  have hts := C.1.2.2.2.2
  have hl : lv_has ls 2 [(0, .ref (B + 43))] := hl
  have hN : Nx 830 B none kd ig rg lg kd ig rg lg := Nx.rf
  have hsh := hI.sh
  have hrs := hI.rs
  refine lv_aload_n hx hb dX3_gather_0 rfl (lv_at hl 0 rfl) ?_
  refine lv_iconst (v := 0) hx hb dX3_gather_1 (by decide) (ti_c 0 (by decide) fun z1 hz1 => ?_)
  refine r_puti C hw (hsh 43 _ rfl) fl_X3_35 rfl rfl rfl dX3_gather_2 (fun H locs hH hw => ?_)
  obtain ⟨ig2, eig2⟩ : ∃ f, f = up2 ig (B + 43) 6 z1 := ⟨_, rfl⟩
  rw [← eig2] at hw
  have hN : Nx 830 B none kd ig rg lg kd ig2 rg lg := by rw [eig2]; exact hN.pi (by omega)
  have hI : IC τ B kd ig2 rg := by rw [eig2]; exact hI.pi (show okR (some (0, 100000)) _ from ⟨by show (0 : Int) ≤ _; omega, by show _ ≤ (100000 : Int); omega⟩)
  have wig2 : (ig2 (B + 43) 6).toInt = z1.toInt := by rw [eig2, up2_eq]
  refine lv_aload_n hx hb dX3_gather_5 rfl (lv_at hl 0 rfl) ?_
  refine r_get C hw (hsh 43 _ rfl) fl_X3_27 (oV_r rfl (hrs (43, 4, 37) (by decide))) dX3_gather_6 ?_
  refine r_callV (As := []) (rest := []) C hw (t_X8_gatherTwice l B D cA kd ig2 rg lg _   hI) sv_X3_39 (hsh 37 _ rfl) rfl hl.1 rfl (Nat.le_of_ble_eq_true rfl) ⟨Nat.le_of_ble_eq_true rfl, Nat.le_of_ble_eq_true rfl⟩ ⟨Nat.le_of_ble_eq_true rfl, Nat.le_of_ble_eq_true rfl⟩ dX3_gather_9 (fun r7 kd3 ig4 rg5 lg6 H locs hw hH hp8 => ?_)
  obtain ⟨hI, hchp8, hrhp8⟩ := hp8
  have hN := hN.tr hchp8
  have hsh := hI.sh
  have hrs := hI.rs
  obtain ⟨rfl, hvhp8⟩ := hrhp8
  refine lv_iconst (v := 0) hx hb dX3_gather_12 (by decide) (ti_c 0 (by decide) fun z9 hz9 => ?_)
  refine lv_istore_n (lv' := [(1, .int z9), (0, .ref (B + 43))]) hx hb dX3_gather_13 rfl hl (by decide) rfl (fun ls hl => ?_)
  have L14 : ∀ (n : Nat) (ls : Array Slot) (H : Heap) (locs : List Loc) (kd11 : sK) (ig12 : sI) (rg13 : sR) (lg14 : sG) (v10 : Int32), lv_has ls 2 [(1, .int v10), (0, .ref (B + 43))] → WD B D cA s.heap kd11 ig12 rg13 lg14 H locs → IC τ B kd11 ig12 rg13 → Nx 830 B none kd ig rg lg kd11 ig12 rg13 lg14 → (0 ≤ v10.toInt) → (v10.toInt ≤ 288) → ((ig12 (B + 43) 6).toInt ≤ 300 * v10.toInt) → 288 - v10.toInt < (n : Int) → W p l e (rL 6 0 0) s m args below meth c H locs 0 0 (MQ below (QcW B D cA (PI 830 τ B none kd ig rg lg (fun r kd' ig' rg' lg' => ∃ z : Int32, r = some (.int z) ∧ True))) args s 0 0 (fun q => B ≤ q)) (F0 m 14 ls []) := by
    intro n14
    induction n14 with
    | zero => intro ls H locs kd11 ig12 rg13 lg14 v10 hl hw hI hN g14_0 g14_1 g14_2 hmu; exact absurd hmu (by omega)
    | succ n14 ih14 =>
      intro ls H locs kd11 ig12 rg13 lg14 v10 hl hw hI hN g14_0 g14_1 g14_2 hmu
      have hsh := hI.sh
      have hrs := hI.rs
      refine lv_iload_n hx hb dX3_gather_14 rfl (lv_at hl 0 rfl) ?_
      refine lv_sipush (v := 288) hx hb dX3_gather_15 (by decide) (ti_c 288 (by decide) fun z15 hz15 => ?_)
      refine b_ge (tgt := 43) hx hb dX3_gather_18 (by decide) (fun c18 => ?_) (fun c18 => ?_)
      · refine lv_aload_n hx hb dX3_gather_43 rfl (lv_at hl 1 rfl) ?_
        refine r_get C hw (hsh 43 _ rfl) fl_X3_35 (oV_i rfl) dX3_gather_44 (ti_c (ig12 (B + 43) 6).toInt rfl fun z16 hz16 => ?_)
        have k17 : 0 ≤ (ig12 (B + 43) 6).toInt ∧ (ig12 (B + 43) 6).toInt ≤ 100000 := hI.i 43 6 (by decide)
        exact r_iret C hw hr hlk rfl (Nat.le_of_ble_eq_true rfl) (Nat.le_of_ble_eq_true rfl) dX3_gather_47 ⟨hI, hN, ⟨_, rfl, trivial⟩⟩
      · refine lv_aload_n hx hb dX3_gather_21 rfl (lv_at hl 1 rfl) ?_
        refine r_get C hw (hsh 43 _ rfl) fl_X3_9 (oV_r rfl (hrs (43, 0, 9) (by decide))) dX3_gather_22 ?_
        refine lv_iload_n hx hb dX3_gather_25 rfl (lv_at hl 0 rfl) ?_
        refine r_callV (As := [.int v10]) (rest := []) C hw (t_X6_kindAt l B D cA kd11 ig12 rg13 lg14 _ v10  hI) sv_X3_44 (hsh 9 _ rfl) rfl hl.1 rfl (Nat.le_of_ble_eq_true rfl) ⟨Nat.le_of_ble_eq_true rfl, Nat.le_of_ble_eq_true rfl⟩ ⟨Nat.le_of_ble_eq_true rfl, Nat.le_of_ble_eq_true rfl⟩ dX3_gather_26 (fun r22 kd18 ig19 rg20 lg21 H locs hw hH hp23 => ?_)
        obtain ⟨rfl, rfl, rfl, rfl, hzhp23, hrhp23⟩ := hp23
        obtain ⟨z24, rfl, hz24⟩ := hrhp23
        refine z_eq (tgt := 37) hx hb dX3_gather_29 (by decide) (fun c29 => ?_) (fun c29 => ?_)
        · refine tc_inc hx hb dX3_gather_37 hl (k := 0) rfl (by decide) (by decide) (fun z25 hz25 ls hl => ?_)
          first | replace hz25 := hz25 (by omega) | clear hz25
          have hl : lv_has ls 2 [(1, .int z25), (0, .ref (B + 43))] := hl
          refine lv_goto (tgt := 14) hx hb dX3_gather_40 (by decide) ?_
          exact ih14 ls H locs kd11 ig12 rg13 lg14 z25 (lv_sub hl [0, 1] rfl) hw hI hN (by omega) (by omega) (by omega) (by omega)
        · refine lv_aload_n hx hb dX3_gather_32 rfl (lv_at hl 1 rfl) ?_
          refine lv_iload_n hx hb dX3_gather_33 rfl (lv_at hl 0 rfl) ?_
          refine r_callV (As := [.int v10]) (rest := []) C hw (t_X3_gatherOf l B D cA kd11 ig12 rg13 lg14 _ v10 (by omega) hI) sv_X3_50 (hsh 43 _ rfl) rfl hl.1 rfl (Nat.le_of_ble_eq_true rfl) ⟨Nat.le_of_ble_eq_true rfl, Nat.le_of_ble_eq_true rfl⟩ ⟨Nat.le_of_ble_eq_true rfl, Nat.le_of_ble_eq_true rfl⟩ dX3_gather_34 (fun r30 kd26 ig27 rg28 lg29 H locs hw hH hp31 => ?_)
          obtain ⟨hI, hchp31, hrhp31⟩ := hp31
          have hN := hN.tr hchp31
          have hsh := hI.sh
          have hrs := hI.rs
          obtain ⟨rfl, hvhp31⟩ := hrhp31
          refine tc_inc hx hb dX3_gather_37 hl (k := 0) rfl (by decide) (by decide) (fun z32 hz32 ls hl => ?_)
          first | replace hz32 := hz32 (by omega) | clear hz32
          have hl : lv_has ls 2 [(1, .int z32), (0, .ref (B + 43))] := hl
          refine lv_goto (tgt := 14) hx hb dX3_gather_40 (by decide) ?_
          exact ih14 ls H locs kd26 ig27 rg28 lg29 z32 (lv_sub hl [0, 1] rfl) hw hI hN (by omega) (by omega) (by omega) (by omega)
  exact L14 ((288 - z9.toInt) + 1).toNat ls H locs kd3 ig4 rg5 lg6 z9 (lv_sub hl [0, 1] rfl) hw hI hN (by omega) (by omega) (by omega) (by omega)

set_option maxHeartbeats 4000000 in
set_option maxRecDepth 100000 in
theorem t_X1_forget {τ : Tp} (l : Launch) (B : Nat) (D : va_G) (cA : Nat → ClassId) (kd : sK) (ig : sI) (rg : sR) (lg : sG) (sz : Nat)  (hI : IC τ B kd ig rg) : MC l B D cA yX1_forget cX1_forget 1 none (rL 0 0 0) [.ref (B + 45)] kd ig rg lg sz (PI 766 τ B none kd ig rg lg (fun r kd' ig' rg' lg' => r = none)) := by
  refine MC.of (own := RX1) (by decide +kernel) rfl (Nat.le_of_ble_eq_true rfl) ?_
  intro p e s m args below meth c ls C hr hlk hnm hw hsz hl
  have hx := C.1.1
  have hb := C.1.2.1
  have hown := C.1.2.2.2.1
  have hts := C.1.2.2.2.2
  have hl : lv_has ls 1 [(0, .ref (B + 45))] := hl
  have hN : Nx 766 B none kd ig rg lg kd ig rg lg := Nx.rf
  have hsh := hI.sh
  have hrs := hI.rs
  refine lv_aload_n hx hb dX1_forget_0 rfl (lv_at hl 0 rfl) ?_
  refine lv_iconst (v := 0) hx hb dX1_forget_1 (by decide) (ti_c 0 (by decide) fun z1 hz1 => ?_)
  refine r_puti C hw (hsh 45 _ rfl) fl_X1_25 rfl rfl rfl dX1_forget_2 (fun H locs hH hw => ?_)
  obtain ⟨ig2, eig2⟩ : ∃ f, f = up2 ig (B + 45) 4 z1 := ⟨_, rfl⟩
  rw [← eig2] at hw
  have hN : Nx 766 B none kd ig rg lg kd ig2 rg lg := by rw [eig2]; exact hN.pi (by omega)
  have hI : IC τ B kd ig2 rg := by rw [eig2]; exact hI.pi (show okR (some (0, 288)) _ from ⟨by show (0 : Int) ≤ _; omega, by show _ ≤ (288 : Int); omega⟩)
  exact r_vret C hw hr hlk (Nat.le_of_ble_eq_true rfl) (Nat.le_of_ble_eq_true rfl) dX1_forget_5 ⟨hI, hN, rfl⟩

set_option maxHeartbeats 4000000 in
set_option maxRecDepth 100000 in
theorem t_X1_remember {τ : Tp} (l : Launch) (B : Nat) (D : va_G) (cA : Nat → ClassId) (kd : sK) (ig : sI) (rg : sR) (lg : sG) (sz : Nat)  (hI : IC τ B kd ig rg) : MC l B D cA yX1_remember cX1_remember 2 none (rL 2 0 0) [.ref (B + 45)] kd ig rg lg sz (PI 766 τ B none kd ig rg lg (fun r kd' ig' rg' lg' => r = none)) := by
  refine MC.of (own := RX1) (by decide +kernel) rfl (Nat.le_of_ble_eq_true rfl) ?_
  intro p e s m args below meth c ls C hr hlk hnm hw hsz hl
  have hx := C.1.1
  have hb := C.1.2.1
  have hown := C.1.2.2.2.1
  have hts := C.1.2.2.2.2
  have hl : lv_has ls 2 [(0, .ref (B + 45))] := hl
  have hN : Nx 766 B none kd ig rg lg kd ig rg lg := Nx.rf
  have hsh := hI.sh
  have hrs := hI.rs
  refine lv_iconst (v := 0) hx hb dX1_remember_0 (by decide) (ti_c 0 (by decide) fun z1 hz1 => ?_)
  refine lv_istore_n (lv' := [(1, .int z1), (0, .ref (B + 45))]) hx hb dX1_remember_1 rfl hl (by decide) rfl (fun ls hl => ?_)
  have L2 : ∀ (n : Nat) (ls : Array Slot) (H : Heap) (locs : List Loc) (kd3 : sK) (ig4 : sI) (rg5 : sR) (lg6 : sG) (v2 : Int32), lv_has ls 2 [(1, .int v2), (0, .ref (B + 45))] → WD B D cA s.heap kd3 ig4 rg5 lg6 H locs → IC τ B kd3 ig4 rg5 → Nx 766 B none kd ig rg lg kd3 ig4 rg5 lg6 → (0 ≤ v2.toInt) → (v2.toInt ≤ 288) → 288 - v2.toInt < (n : Int) → W p l e (rL 2 0 0) s m args below meth c H locs 0 0 (MQ below (QcW B D cA (PI 766 τ B none kd ig rg lg (fun r kd' ig' rg' lg' => r = none))) args s 0 0 (fun q => B ≤ q)) (F0 m 2 ls []) := by
    intro n2
    induction n2 with
    | zero => intro ls H locs kd3 ig4 rg5 lg6 v2 hl hw hI hN g2_0 g2_1 hmu; exact absurd hmu (by omega)
    | succ n2 ih2 =>
      intro ls H locs kd3 ig4 rg5 lg6 v2 hl hw hI hN g2_0 g2_1 hmu
      have hsh := hI.sh
      have hrs := hI.rs
      refine lv_iload_n hx hb dX1_remember_2 rfl (lv_at hl 0 rfl) ?_
      refine lv_sipush (v := 288) hx hb dX1_remember_3 (by decide) (ti_c 288 (by decide) fun z7 hz7 => ?_)
      refine b_ge (tgt := 43) hx hb dX1_remember_6 (by decide) (fun c6 => ?_) (fun c6 => ?_)
      · exact r_vret C hw hr hlk (Nat.le_of_ble_eq_true rfl) (Nat.le_of_ble_eq_true rfl) dX1_remember_43 ⟨hI, hN, rfl⟩
      · refine lv_aload_n hx hb dX1_remember_9 rfl (lv_at hl 1 rfl) ?_
        refine r_get C hw (hsh 45 _ rfl) fl_X1_15 (oV_r rfl (hrs (45, 1, 46) (by decide))) dX1_remember_10 ?_
        refine lv_iload_n hx hb dX1_remember_13 rfl (lv_at hl 0 rfl) ?_
        refine lv_aload_n hx hb dX1_remember_14 rfl (lv_at hl 1 rfl) ?_
        refine r_get C hw (hsh 45 _ rfl) fl_X1_9 (oV_r rfl (hrs (45, 0, 24) (by decide))) dX1_remember_15 ?_
        refine lv_iload_n hx hb dX1_remember_18 rfl (lv_at hl 0 rfl) ?_
        refine r_callV (As := [.int v2]) (rest := [.int v2, .ref (B + 46)]) C hw (t_X10_valueAt l B D cA kd3 ig4 rg5 lg6 _ v2  hI) sv_X1_29 (hsh 24 _ rfl) rfl hl.1 rfl (Nat.le_of_ble_eq_true rfl) ⟨Nat.le_of_ble_eq_true rfl, Nat.le_of_ble_eq_true rfl⟩ ⟨Nat.le_of_ble_eq_true rfl, Nat.le_of_ble_eq_true rfl⟩ dX1_remember_19 (fun r12 kd8 ig9 rg10 lg11 H locs hw hH hp13 => ?_)
        obtain ⟨rfl, rfl, rfl, rfl, hzhp13, hrhp13⟩ := hp13
        obtain ⟨z14, rfl, hz14⟩ := hrhp13
        refine r_iast C hw (hsh 46 _ rfl) (by omega) (by omega) dX1_remember_22 (fun H locs hH hw => ?_)
        obtain ⟨ig15, eig15⟩ : ∃ f, f = up2 ig4 (B + 46) v2.toInt.toNat z14 := ⟨_, rfl⟩
        rw [← eig15] at hw
        have hN : Nx 766 B none kd ig rg lg kd3 ig15 rg5 lg6 := by rw [eig15]; exact hN.pi (by omega)
        have hI : IC τ B kd3 ig15 rg5 := by rw [eig15]; exact hI.pi (show okR none _ from trivial)
        refine lv_aload_n hx hb dX1_remember_23 rfl (lv_at hl 1 rfl) ?_
        refine r_get C hw (hsh 45 _ rfl) fl_X1_19 (oV_r rfl (hrs (45, 2, 47) (by decide))) dX1_remember_24 ?_
        refine lv_iload_n hx hb dX1_remember_27 rfl (lv_at hl 0 rfl) ?_
        refine lv_aload_n hx hb dX1_remember_28 rfl (lv_at hl 1 rfl) ?_
        refine r_get C hw (hsh 45 _ rfl) fl_X1_9 (oV_r rfl (hrs (45, 0, 24) (by decide))) dX1_remember_29 ?_
        refine lv_iload_n hx hb dX1_remember_32 rfl (lv_at hl 0 rfl) ?_
        refine r_callV (As := [.int v2]) (rest := [.int v2, .ref (B + 47)]) C hw (t_X10_errorAt l B D cA kd3 ig15 rg5 lg6 _ v2  hI) sv_X1_35 (hsh 24 _ rfl) rfl hl.1 rfl (Nat.le_of_ble_eq_true rfl) ⟨Nat.le_of_ble_eq_true rfl, Nat.le_of_ble_eq_true rfl⟩ ⟨Nat.le_of_ble_eq_true rfl, Nat.le_of_ble_eq_true rfl⟩ dX1_remember_33 (fun r20 kd16 ig17 rg18 lg19 H locs hw hH hp21 => ?_)
        obtain ⟨rfl, rfl, rfl, rfl, hzhp21, hrhp21⟩ := hp21
        obtain ⟨z22, rfl, hz22⟩ := hrhp21
        refine r_iast C hw (hsh 47 _ rfl) (by omega) (by omega) dX1_remember_36 (fun H locs hH hw => ?_)
        obtain ⟨ig23, eig23⟩ : ∃ f, f = up2 ig15 (B + 47) v2.toInt.toNat z22 := ⟨_, rfl⟩
        rw [← eig23] at hw
        have hN : Nx 766 B none kd ig rg lg kd3 ig23 rg5 lg6 := by rw [eig23]; exact hN.pi (by omega)
        have hI : IC τ B kd3 ig23 rg5 := by rw [eig23]; exact hI.pi (show okR none _ from trivial)
        refine tc_inc hx hb dX1_remember_37 hl (k := 0) rfl (by decide) (by decide) (fun z24 hz24 ls hl => ?_)
        first | replace hz24 := hz24 (by omega) | clear hz24
        have hl : lv_has ls 2 [(1, .int z24), (0, .ref (B + 45))] := hl
        refine lv_goto (tgt := 2) hx hb dX1_remember_40 (by decide) ?_
        exact ih2 ls H locs kd3 ig23 rg5 lg6 z24 (lv_sub hl [0, 1] rfl) hw hI hN (by omega) (by omega) (by omega)
  exact L2 ((288 - z1.toInt) + 1).toNat ls s.heap [] kd ig rg lg z1 (lv_sub hl [0, 1] rfl) hw hI hN (by omega) (by omega) (by omega)

set_option maxHeartbeats 4000000 in
set_option maxRecDepth 100000 in
theorem t_X1_compare {τ : Tp} (l : Launch) (B : Nat) (D : va_G) (cA : Nat → ClassId) (kd : sK) (ig : sI) (rg : sR) (lg : sG) (sz : Nat)  (hI : IC τ B kd ig rg) : MC l B D cA yX1_compare cX1_compare 4 (some .int) (rL 2 0 0) [.ref (B + 45)] kd ig rg lg sz (PI 766 τ B none kd ig rg lg (fun r kd' ig' rg' lg' => ∃ z : Int32, r = some (.int z) ∧ True)) := by
  refine MC.of (own := RX1) (by decide +kernel) rfl (Nat.le_of_ble_eq_true rfl) ?_
  intro p e s m args below meth c ls C hr hlk hnm hw hsz hl
  have hx := C.1.1
  have hb := C.1.2.1
  have hown := C.1.2.2.2.1
  have hts := C.1.2.2.2.2
  have hl : lv_has ls 4 [(0, .ref (B + 45))] := hl
  have hN : Nx 766 B none kd ig rg lg kd ig rg lg := Nx.rf
  have hsh := hI.sh
  have hrs := hI.rs
  refine lv_aload_n hx hb dX1_compare_0 rfl (lv_at hl 0 rfl) ?_
  refine lv_iconst (v := 0) hx hb dX1_compare_1 (by decide) (ti_c 0 (by decide) fun z1 hz1 => ?_)
  refine r_puti C hw (hsh 45 _ rfl) fl_X1_25 rfl rfl rfl dX1_compare_2 (fun H locs hH hw => ?_)
  obtain ⟨ig2, eig2⟩ : ∃ f, f = up2 ig (B + 45) 4 z1 := ⟨_, rfl⟩
  rw [← eig2] at hw
  have hN : Nx 766 B none kd ig rg lg kd ig2 rg lg := by rw [eig2]; exact hN.pi (by omega)
  have hI : IC τ B kd ig2 rg := by rw [eig2]; exact hI.pi (show okR (some (0, 288)) _ from ⟨by show (0 : Int) ≤ _; omega, by show _ ≤ (288 : Int); omega⟩)
  have wig2 : (ig2 (B + 45) 4).toInt = z1.toInt := by rw [eig2, up2_eq]
  refine lv_iconst (v := 0) hx hb dX1_compare_5 (by decide) (ti_c 0 (by decide) fun z3 hz3 => ?_)
  refine lv_istore_n (lv' := [(1, .int z3), (0, .ref (B + 45))]) hx hb dX1_compare_6 rfl hl (by decide) rfl (fun ls hl => ?_)
  have L7 : ∀ (n : Nat) (ls : Array Slot) (H : Heap) (locs : List Loc) (kd5 : sK) (ig6 : sI) (rg7 : sR) (lg8 : sG) (v4 : Int32), lv_has ls 4 [(1, .int v4), (0, .ref (B + 45))] → WD B D cA s.heap kd5 ig6 rg7 lg8 H locs → IC τ B kd5 ig6 rg7 → Nx 766 B none kd ig rg lg kd5 ig6 rg7 lg8 → (0 ≤ v4.toInt) → (v4.toInt ≤ 288) → 288 - v4.toInt < (n : Int) → W p l e (rL 2 0 0) s m args below meth c H locs 0 0 (MQ below (QcW B D cA (PI 766 τ B none kd ig rg lg (fun r kd' ig' rg' lg' => ∃ z : Int32, r = some (.int z) ∧ True))) args s 0 0 (fun q => B ≤ q)) (F0 m 7 ls []) := by
    intro n7
    induction n7 with
    | zero => intro ls H locs kd5 ig6 rg7 lg8 v4 hl hw hI hN g7_0 g7_1 hmu; exact absurd hmu (by omega)
    | succ n7 ih7 =>
      intro ls H locs kd5 ig6 rg7 lg8 v4 hl hw hI hN g7_0 g7_1 hmu
      have hsh := hI.sh
      have hrs := hI.rs
      refine lv_iload_n hx hb dX1_compare_7 rfl (lv_at hl 0 rfl) ?_
      refine lv_sipush (v := 288) hx hb dX1_compare_8 (by decide) (ti_c 288 (by decide) fun z9 hz9 => ?_)
      refine b_ge (tgt := 156) hx hb dX1_compare_11 (by decide) (fun c11 => ?_) (fun c11 => ?_)
      · refine lv_aload_n hx hb dX1_compare_156 rfl (lv_at hl 1 rfl) ?_
        refine r_get C hw (hsh 45 _ rfl) fl_X1_25 (oV_i rfl) dX1_compare_157 (ti_c (ig6 (B + 45) 4).toInt rfl fun z10 hz10 => ?_)
        have k11 : 0 ≤ (ig6 (B + 45) 4).toInt ∧ (ig6 (B + 45) 4).toInt ≤ 288 := hI.i 45 4 (by decide)
        exact r_iret C hw hr hlk rfl (Nat.le_of_ble_eq_true rfl) (Nat.le_of_ble_eq_true rfl) dX1_compare_160 ⟨hI, hN, ⟨_, rfl, trivial⟩⟩
      · refine lv_aload_n hx hb dX1_compare_14 rfl (lv_at hl 1 rfl) ?_
        refine r_get C hw (hsh 45 _ rfl) fl_X1_9 (oV_r rfl (hrs (45, 0, 24) (by decide))) dX1_compare_15 ?_
        refine lv_iload_n hx hb dX1_compare_18 rfl (lv_at hl 0 rfl) ?_
        refine r_callV (As := [.int v4]) (rest := []) C hw (t_X10_valueAt l B D cA kd5 ig6 rg7 lg8 _ v4  hI) sv_X1_29 (hsh 24 _ rfl) rfl hl.1 rfl (Nat.le_of_ble_eq_true rfl) ⟨Nat.le_of_ble_eq_true rfl, Nat.le_of_ble_eq_true rfl⟩ ⟨Nat.le_of_ble_eq_true rfl, Nat.le_of_ble_eq_true rfl⟩ dX1_compare_19 (fun r16 kd12 ig13 rg14 lg15 H locs hw hH hp17 => ?_)
        obtain ⟨rfl, rfl, rfl, rfl, hzhp17, hrhp17⟩ := hp17
        obtain ⟨z18, rfl, hz18⟩ := hrhp17
        refine lv_istore_n (lv' := [(2, .int z18), (1, .int v4), (0, .ref (B + 45))]) hx hb dX1_compare_22 rfl hl (by decide) rfl (fun ls hl => ?_)
        refine lv_aload_n hx hb dX1_compare_23 rfl (lv_at hl 2 rfl) ?_
        refine r_get C hw (hsh 45 _ rfl) fl_X1_9 (oV_r rfl (hrs (45, 0, 24) (by decide))) dX1_compare_24 ?_
        refine lv_iload_n hx hb dX1_compare_27 rfl (lv_at hl 1 rfl) ?_
        refine r_callV (As := [.int v4]) (rest := []) C hw (t_X10_errorAt l B D cA kd5 ig6 rg7 lg8 _ v4  hI) sv_X1_35 (hsh 24 _ rfl) rfl hl.1 rfl (Nat.le_of_ble_eq_true rfl) ⟨Nat.le_of_ble_eq_true rfl, Nat.le_of_ble_eq_true rfl⟩ ⟨Nat.le_of_ble_eq_true rfl, Nat.le_of_ble_eq_true rfl⟩ dX1_compare_28 (fun r23 kd19 ig20 rg21 lg22 H locs hw hH hp24 => ?_)
        obtain ⟨rfl, rfl, rfl, rfl, hzhp24, hrhp24⟩ := hp24
        obtain ⟨z25, rfl, hz25⟩ := hrhp24
        refine lv_istore_n (lv' := [(3, .int z25), (2, .int z18), (1, .int v4), (0, .ref (B + 45))]) hx hb dX1_compare_31 rfl hl (by decide) rfl (fun ls hl => ?_)
        refine lv_iload_n hx hb dX1_compare_32 rfl (lv_at hl 1 rfl) ?_
        refine lv_aload_n hx hb dX1_compare_33 rfl (lv_at hl 3 rfl) ?_
        refine r_get C hw (hsh 45 _ rfl) fl_X1_15 (oV_r rfl (hrs (45, 1, 46) (by decide))) dX1_compare_34 ?_
        refine lv_iload_n hx hb dX1_compare_37 rfl (lv_at hl 2 rfl) ?_
        refine r_iald C hw (hsh 46 _ rfl) (by omega) (by omega) dX1_compare_38 (ti_c (ig6 (B + 46) v4.toInt.toNat).toInt rfl fun z26 hz26 => ?_)
        have J52 : ∀ (ls : Array Slot) (H : Heap) (locs : List Loc) (kd27 : sK) (ig28 : sI) (rg29 : sR) (lg30 : sG) , lv_has ls 4 [(3, .int z25), (2, .int z18), (1, .int v4), (0, .ref (B + 45))] → WD B D cA s.heap kd27 ig28 rg29 lg30 H locs → IC τ B kd27 ig28 rg29 → Nx 766 B none kd ig rg lg kd27 ig28 rg29 lg30 → W p l e (rL 2 0 0) s m args below meth c H locs 0 0 (MQ below (QcW B D cA (PI 766 τ B none kd ig rg lg (fun r kd' ig' rg' lg' => ∃ z : Int32, r = some (.int z) ∧ True))) args s 0 0 (fun q => B ≤ q)) (F0 m 52 ls []) := by
          intro ls H locs kd27 ig28 rg29 lg30 hl hw hI hN
          have hsh := hI.sh
          have hrs := hI.rs
          refine lv_aload_n hx hb dX1_compare_52 rfl (lv_at hl 3 rfl) ?_
          refine r_get C hw (hsh 45 _ rfl) fl_X1_25 (oV_i rfl) dX1_compare_53 (ti_c (ig28 (B + 45) 4).toInt rfl fun z31 hz31 => ?_)
          have k32 : 0 ≤ (ig28 (B + 45) 4).toInt ∧ (ig28 (B + 45) 4).toInt ≤ 288 := hI.i 45 4 (by decide)
          refine lv_sipush (v := 288) hx hb dX1_compare_56 (by decide) (ti_c 288 (by decide) fun z33 hz33 => ?_)
          refine b_ge (tgt := 150) hx hb dX1_compare_59 (by decide) (fun c59 => ?_) (fun c59 => ?_)
          · refine tc_inc hx hb dX1_compare_150 hl (k := 2) rfl (by decide) (by decide) (fun z34 hz34 ls hl => ?_)
            first | replace hz34 := hz34 (by omega) | clear hz34
            have hl : lv_has ls 4 [(1, .int z34), (3, .int z25), (2, .int z18), (0, .ref (B + 45))] := hl
            refine lv_goto (tgt := 7) hx hb dX1_compare_153 (by decide) ?_
            exact ih7 ls H locs kd27 ig28 rg29 lg30 z34 (lv_sub hl [0, 3] rfl) hw hI hN (by omega) (by omega) (by omega)
          · refine lv_aload_n hx hb dX1_compare_62 rfl (lv_at hl 3 rfl) ?_
            refine r_get C hw (hsh 45 _ rfl) fl_X1_22 (oV_r rfl (hrs (45, 3, 48) (by decide))) dX1_compare_63 ?_
            refine lv_aload_n hx hb dX1_compare_66 rfl (lv_at hl 3 rfl) ?_
            refine r_get C hw (hsh 45 _ rfl) fl_X1_25 (oV_i rfl) dX1_compare_67 (ti_c (ig28 (B + 45) 4).toInt rfl fun z35 hz35 => ?_)
            have k36 : 0 ≤ (ig28 (B + 45) 4).toInt ∧ (ig28 (B + 45) 4).toInt ≤ 288 := hI.i 45 4 (by decide)
            refine lv_iconst (v := 5) hx hb dX1_compare_70 (by decide) (ti_c 5 (by decide) fun z37 hz37 => ?_)
            refine lv_imul hx hb dX1_compare_71 (tc_mulR 5 hz37 fun z38 hz38 => ?_)
            first | replace hz38 := hz38 (by omega) | clear hz38
            refine lv_iload_n hx hb dX1_compare_72 rfl (lv_at hl 2 rfl) ?_
            refine r_iast C hw (hsh 48 _ rfl) (by omega) (by omega) dX1_compare_73 (fun H locs hH hw => ?_)
            obtain ⟨ig39, eig39⟩ : ∃ f, f = up2 ig28 (B + 48) z38.toInt.toNat v4 := ⟨_, rfl⟩
            rw [← eig39] at hw
            have hN : Nx 766 B none kd ig rg lg kd27 ig39 rg29 lg30 := by rw [eig39]; exact hN.pi (by omega)
            have hI : IC τ B kd27 ig39 rg29 := by rw [eig39]; exact hI.pi (show okR none _ from trivial)
            have wig39_45_4 : (ig39 (B + 45) 4).toInt = (ig28 (B + 45) 4).toInt := by rw [eig39, up2_a (by omega)]
            refine lv_aload_n hx hb dX1_compare_74 rfl (lv_at hl 3 rfl) ?_
            refine r_get C hw (hsh 45 _ rfl) fl_X1_22 (oV_r rfl (hrs (45, 3, 48) (by decide))) dX1_compare_75 ?_
            refine lv_aload_n hx hb dX1_compare_78 rfl (lv_at hl 3 rfl) ?_
            refine r_get C hw (hsh 45 _ rfl) fl_X1_25 (oV_i rfl) dX1_compare_79 (ti_c (ig39 (B + 45) 4).toInt rfl fun z40 hz40 => ?_)
            have k41 : 0 ≤ (ig39 (B + 45) 4).toInt ∧ (ig39 (B + 45) 4).toInt ≤ 288 := hI.i 45 4 (by decide)
            refine lv_iconst (v := 5) hx hb dX1_compare_82 (by decide) (ti_c 5 (by decide) fun z42 hz42 => ?_)
            refine lv_imul hx hb dX1_compare_83 (tc_mulR 5 hz42 fun z43 hz43 => ?_)
            first | replace hz43 := hz43 (by omega) | clear hz43
            refine lv_iconst (v := 1) hx hb dX1_compare_84 (by decide) (ti_c 1 (by decide) fun z44 hz44 => ?_)
            refine lv_iadd hx hb dX1_compare_85 (tc_add fun z45 hz45 => ?_)
            first | replace hz45 := hz45 (by omega) | clear hz45
            refine lv_aload_n hx hb dX1_compare_86 rfl (lv_at hl 3 rfl) ?_
            refine r_get C hw (hsh 45 _ rfl) fl_X1_15 (oV_r rfl (hrs (45, 1, 46) (by decide))) dX1_compare_87 ?_
            refine lv_iload_n hx hb dX1_compare_90 rfl (lv_at hl 2 rfl) ?_
            refine r_iald C hw (hsh 46 _ rfl) (by omega) (by omega) dX1_compare_91 (ti_c (ig39 (B + 46) v4.toInt.toNat).toInt rfl fun z46 hz46 => ?_)
            refine r_iast C hw (hsh 48 _ rfl) (by omega) (by omega) dX1_compare_92 (fun H locs hH hw => ?_)
            obtain ⟨ig47, eig47⟩ : ∃ f, f = up2 ig39 (B + 48) z45.toInt.toNat z46 := ⟨_, rfl⟩
            rw [← eig47] at hw
            have hN : Nx 766 B none kd ig rg lg kd27 ig47 rg29 lg30 := by rw [eig47]; exact hN.pi (by omega)
            have hI : IC τ B kd27 ig47 rg29 := by rw [eig47]; exact hI.pi (show okR none _ from trivial)
            have wig47_45_4 : (ig47 (B + 45) 4).toInt = (ig39 (B + 45) 4).toInt := by rw [eig47, up2_a (by omega)]
            refine lv_aload_n hx hb dX1_compare_93 rfl (lv_at hl 3 rfl) ?_
            refine r_get C hw (hsh 45 _ rfl) fl_X1_22 (oV_r rfl (hrs (45, 3, 48) (by decide))) dX1_compare_94 ?_
            refine lv_aload_n hx hb dX1_compare_97 rfl (lv_at hl 3 rfl) ?_
            refine r_get C hw (hsh 45 _ rfl) fl_X1_25 (oV_i rfl) dX1_compare_98 (ti_c (ig47 (B + 45) 4).toInt rfl fun z48 hz48 => ?_)
            have k49 : 0 ≤ (ig47 (B + 45) 4).toInt ∧ (ig47 (B + 45) 4).toInt ≤ 288 := hI.i 45 4 (by decide)
            refine lv_iconst (v := 5) hx hb dX1_compare_101 (by decide) (ti_c 5 (by decide) fun z50 hz50 => ?_)
            refine lv_imul hx hb dX1_compare_102 (tc_mulR 5 hz50 fun z51 hz51 => ?_)
            first | replace hz51 := hz51 (by omega) | clear hz51
            refine lv_iconst (v := 2) hx hb dX1_compare_103 (by decide) (ti_c 2 (by decide) fun z52 hz52 => ?_)
            refine lv_iadd hx hb dX1_compare_104 (tc_add fun z53 hz53 => ?_)
            first | replace hz53 := hz53 (by omega) | clear hz53
            refine lv_iload_n hx hb dX1_compare_105 rfl (lv_at hl 1 rfl) ?_
            refine r_iast C hw (hsh 48 _ rfl) (by omega) (by omega) dX1_compare_106 (fun H locs hH hw => ?_)
            obtain ⟨ig54, eig54⟩ : ∃ f, f = up2 ig47 (B + 48) z53.toInt.toNat z18 := ⟨_, rfl⟩
            rw [← eig54] at hw
            have hN : Nx 766 B none kd ig rg lg kd27 ig54 rg29 lg30 := by rw [eig54]; exact hN.pi (by omega)
            have hI : IC τ B kd27 ig54 rg29 := by rw [eig54]; exact hI.pi (show okR none _ from trivial)
            have wig54_45_4 : (ig54 (B + 45) 4).toInt = (ig47 (B + 45) 4).toInt := by rw [eig54, up2_a (by omega)]
            refine lv_aload_n hx hb dX1_compare_107 rfl (lv_at hl 3 rfl) ?_
            refine r_get C hw (hsh 45 _ rfl) fl_X1_22 (oV_r rfl (hrs (45, 3, 48) (by decide))) dX1_compare_108 ?_
            refine lv_aload_n hx hb dX1_compare_111 rfl (lv_at hl 3 rfl) ?_
            refine r_get C hw (hsh 45 _ rfl) fl_X1_25 (oV_i rfl) dX1_compare_112 (ti_c (ig54 (B + 45) 4).toInt rfl fun z55 hz55 => ?_)
            have k56 : 0 ≤ (ig54 (B + 45) 4).toInt ∧ (ig54 (B + 45) 4).toInt ≤ 288 := hI.i 45 4 (by decide)
            refine lv_iconst (v := 5) hx hb dX1_compare_115 (by decide) (ti_c 5 (by decide) fun z57 hz57 => ?_)
            refine lv_imul hx hb dX1_compare_116 (tc_mulR 5 hz57 fun z58 hz58 => ?_)
            first | replace hz58 := hz58 (by omega) | clear hz58
            refine lv_iconst (v := 3) hx hb dX1_compare_117 (by decide) (ti_c 3 (by decide) fun z59 hz59 => ?_)
            refine lv_iadd hx hb dX1_compare_118 (tc_add fun z60 hz60 => ?_)
            first | replace hz60 := hz60 (by omega) | clear hz60
            refine lv_aload_n hx hb dX1_compare_119 rfl (lv_at hl 3 rfl) ?_
            refine r_get C hw (hsh 45 _ rfl) fl_X1_19 (oV_r rfl (hrs (45, 2, 47) (by decide))) dX1_compare_120 ?_
            refine lv_iload_n hx hb dX1_compare_123 rfl (lv_at hl 2 rfl) ?_
            refine r_iald C hw (hsh 47 _ rfl) (by omega) (by omega) dX1_compare_124 (ti_c (ig54 (B + 47) v4.toInt.toNat).toInt rfl fun z61 hz61 => ?_)
            refine r_iast C hw (hsh 48 _ rfl) (by omega) (by omega) dX1_compare_125 (fun H locs hH hw => ?_)
            obtain ⟨ig62, eig62⟩ : ∃ f, f = up2 ig54 (B + 48) z60.toInt.toNat z61 := ⟨_, rfl⟩
            rw [← eig62] at hw
            have hN : Nx 766 B none kd ig rg lg kd27 ig62 rg29 lg30 := by rw [eig62]; exact hN.pi (by omega)
            have hI : IC τ B kd27 ig62 rg29 := by rw [eig62]; exact hI.pi (show okR none _ from trivial)
            have wig62_45_4 : (ig62 (B + 45) 4).toInt = (ig54 (B + 45) 4).toInt := by rw [eig62, up2_a (by omega)]
            refine lv_aload_n hx hb dX1_compare_126 rfl (lv_at hl 3 rfl) ?_
            refine r_get C hw (hsh 45 _ rfl) fl_X1_22 (oV_r rfl (hrs (45, 3, 48) (by decide))) dX1_compare_127 ?_
            refine lv_aload_n hx hb dX1_compare_130 rfl (lv_at hl 3 rfl) ?_
            refine r_get C hw (hsh 45 _ rfl) fl_X1_25 (oV_i rfl) dX1_compare_131 (ti_c (ig62 (B + 45) 4).toInt rfl fun z63 hz63 => ?_)
            have k64 : 0 ≤ (ig62 (B + 45) 4).toInt ∧ (ig62 (B + 45) 4).toInt ≤ 288 := hI.i 45 4 (by decide)
            refine lv_iconst (v := 5) hx hb dX1_compare_134 (by decide) (ti_c 5 (by decide) fun z65 hz65 => ?_)
            refine lv_imul hx hb dX1_compare_135 (tc_mulR 5 hz65 fun z66 hz66 => ?_)
            first | replace hz66 := hz66 (by omega) | clear hz66
            refine lv_iconst (v := 4) hx hb dX1_compare_136 (by decide) (ti_c 4 (by decide) fun z67 hz67 => ?_)
            refine lv_iadd hx hb dX1_compare_137 (tc_add fun z68 hz68 => ?_)
            first | replace hz68 := hz68 (by omega) | clear hz68
            refine lv_iload_n hx hb dX1_compare_138 rfl (lv_at hl 0 rfl) ?_
            refine r_iast C hw (hsh 48 _ rfl) (by omega) (by omega) dX1_compare_139 (fun H locs hH hw => ?_)
            obtain ⟨ig69, eig69⟩ : ∃ f, f = up2 ig62 (B + 48) z68.toInt.toNat z25 := ⟨_, rfl⟩
            rw [← eig69] at hw
            have hN : Nx 766 B none kd ig rg lg kd27 ig69 rg29 lg30 := by rw [eig69]; exact hN.pi (by omega)
            have hI : IC τ B kd27 ig69 rg29 := by rw [eig69]; exact hI.pi (show okR none _ from trivial)
            have wig69_45_4 : (ig69 (B + 45) 4).toInt = (ig62 (B + 45) 4).toInt := by rw [eig69, up2_a (by omega)]
            refine lv_aload_n hx hb dX1_compare_140 rfl (lv_at hl 3 rfl) ?_
            refine lv_dup hx hb dX1_compare_141 rfl ?_
            refine r_get C hw (hsh 45 _ rfl) fl_X1_25 (oV_i rfl) dX1_compare_142 (ti_c (ig69 (B + 45) 4).toInt rfl fun z70 hz70 => ?_)
            have k71 : 0 ≤ (ig69 (B + 45) 4).toInt ∧ (ig69 (B + 45) 4).toInt ≤ 288 := hI.i 45 4 (by decide)
            refine lv_iconst (v := 1) hx hb dX1_compare_145 (by decide) (ti_c 1 (by decide) fun z72 hz72 => ?_)
            refine lv_iadd hx hb dX1_compare_146 (tc_add fun z73 hz73 => ?_)
            first | replace hz73 := hz73 (by omega) | clear hz73
            refine r_puti C hw (hsh 45 _ rfl) fl_X1_25 rfl rfl rfl dX1_compare_147 (fun H locs hH hw => ?_)
            obtain ⟨ig74, eig74⟩ : ∃ f, f = up2 ig69 (B + 45) 4 z73 := ⟨_, rfl⟩
            rw [← eig74] at hw
            have hN : Nx 766 B none kd ig rg lg kd27 ig74 rg29 lg30 := by rw [eig74]; exact hN.pi (by omega)
            have hI : IC τ B kd27 ig74 rg29 := by rw [eig74]; exact hI.pi (show okR (some (0, 288)) _ from ⟨by show (0 : Int) ≤ _; omega, by show _ ≤ (288 : Int); omega⟩)
            have wig74 : (ig74 (B + 45) 4).toInt = z73.toInt := by rw [eig74, up2_eq]
            refine tc_inc hx hb dX1_compare_150 hl (k := 2) rfl (by decide) (by decide) (fun z75 hz75 ls hl => ?_)
            first | replace hz75 := hz75 (by omega) | clear hz75
            have hl : lv_has ls 4 [(1, .int z75), (3, .int z25), (2, .int z18), (0, .ref (B + 45))] := hl
            refine lv_goto (tgt := 7) hx hb dX1_compare_153 (by decide) ?_
            exact ih7 ls H locs kd27 ig74 rg29 lg30 z75 (lv_sub hl [0, 3] rfl) hw hI hN (by omega) (by omega) (by omega)
        refine b_ne (tgt := 52) hx hb dX1_compare_39 (by decide) (fun c39 => ?_) (fun c39 => ?_)
        · exact J52 ls H locs kd5 ig6 rg7 lg8 (lv_sub hl [0, 1, 2, 3] rfl) hw hI hN
        · refine lv_iload_n hx hb dX1_compare_42 rfl (lv_at hl 0 rfl) ?_
          refine lv_aload_n hx hb dX1_compare_43 rfl (lv_at hl 3 rfl) ?_
          refine r_get C hw (hsh 45 _ rfl) fl_X1_19 (oV_r rfl (hrs (45, 2, 47) (by decide))) dX1_compare_44 ?_
          refine lv_iload_n hx hb dX1_compare_47 rfl (lv_at hl 2 rfl) ?_
          refine r_iald C hw (hsh 47 _ rfl) (by omega) (by omega) dX1_compare_48 (ti_c (ig6 (B + 47) v4.toInt.toNat).toInt rfl fun z76 hz76 => ?_)
          refine b_eq (tgt := 150) hx hb dX1_compare_49 (by decide) (fun c49 => ?_) (fun c49 => ?_)
          · refine tc_inc hx hb dX1_compare_150 hl (k := 2) rfl (by decide) (by decide) (fun z77 hz77 ls hl => ?_)
            first | replace hz77 := hz77 (by omega) | clear hz77
            have hl : lv_has ls 4 [(1, .int z77), (3, .int z25), (2, .int z18), (0, .ref (B + 45))] := hl
            refine lv_goto (tgt := 7) hx hb dX1_compare_153 (by decide) ?_
            exact ih7 ls H locs kd5 ig6 rg7 lg8 z77 (lv_sub hl [0, 3] rfl) hw hI hN (by omega) (by omega) (by omega)
          · exact J52 ls H locs kd5 ig6 rg7 lg8 (lv_sub hl [0, 1, 2, 3] rfl) hw hI hN
  exact L7 ((288 - z3.toInt) + 1).toNat ls H locs kd ig2 rg lg z3 (lv_sub hl [0, 1] rfl) hw hI hN (by omega) (by omega) (by omega)

set_option maxHeartbeats 4000000 in
set_option maxRecDepth 100000 in
theorem t_X1_tell {τ : Tp} (l : Launch) (B : Nat) (D : va_G) (cA : Nat → ClassId) (kd : sK) (ig : sI) (rg : sR) (lg : sG) (sz : Nat) (x : Int32) (y : Int32) (hI : IC τ B kd ig rg) : MC l B D cA yX1_tell cX1_tell 3 (some .int) (rL 0 0 0) [.ref (B + 45), .int x, .int y] kd ig rg lg sz (Pu kd ig rg lg sz (fun r => ∃ z : Int32, r = some (.int z) ∧ True)) := by
  refine MC.of (own := RX1) (by decide +kernel) rfl (Nat.le_of_ble_eq_true rfl) ?_
  intro p e s m args below meth c ls C hr hlk hnm hw hsz hl
  have hx := C.1.1
  have hb := C.1.2.1
  have hown := C.1.2.2.2.1
  have hts := C.1.2.2.2.2
  have hl : lv_has ls 3 [(0, .ref (B + 45)), (1, .int x), (2, .int y)] := hl
  have hsh := hI.sh
  have hrs := hI.rs
  refine lv_iload_n hx hb dX1_tell_0 rfl (lv_at hl 1 rfl) ?_
  refine z_lt (tgt := 28) hx hb dX1_tell_1 (by decide) (fun c1 => ?_) (fun c1 => ?_)
  · refine lv_iconst (v := (-1)) hx hb dX1_tell_28 (by decide) (ti_c (-1) (by decide) fun z1 hz1 => ?_)
    exact r_iret C hw hr hlk rfl (Nat.le_of_ble_eq_true rfl) (Nat.le_of_ble_eq_true rfl) dX1_tell_29 ⟨rfl, rfl, rfl, rfl, hsz, ⟨_, rfl, trivial⟩⟩
  · refine lv_iload_n hx hb dX1_tell_4 rfl (lv_at hl 1 rfl) ?_
    refine lv_aload_n hx hb dX1_tell_5 rfl (lv_at hl 0 rfl) ?_
    refine r_get C hw (hsh 45 _ rfl) fl_X1_25 (oV_i rfl) dX1_tell_6 (ti_c (ig (B + 45) 4).toInt rfl fun z2 hz2 => ?_)
    have k3 : 0 ≤ (ig (B + 45) 4).toInt ∧ (ig (B + 45) 4).toInt ≤ 288 := hI.i 45 4 (by decide)
    refine b_ge (tgt := 28) hx hb dX1_tell_9 (by decide) (fun c9 => ?_) (fun c9 => ?_)
    · refine lv_iconst (v := (-1)) hx hb dX1_tell_28 (by decide) (ti_c (-1) (by decide) fun z4 hz4 => ?_)
      exact r_iret C hw hr hlk rfl (Nat.le_of_ble_eq_true rfl) (Nat.le_of_ble_eq_true rfl) dX1_tell_29 ⟨rfl, rfl, rfl, rfl, hsz, ⟨_, rfl, trivial⟩⟩
    · refine lv_iload_n hx hb dX1_tell_12 rfl (lv_at hl 1 rfl) ?_
      refine lv_sipush (v := 288) hx hb dX1_tell_13 (by decide) (ti_c 288 (by decide) fun z5 hz5 => ?_)
      refine b_ge (tgt := 28) hx hb dX1_tell_16 (by decide) (fun c16 => ?_) (fun c16 => ?_)
      · refine lv_iconst (v := (-1)) hx hb dX1_tell_28 (by decide) (ti_c (-1) (by decide) fun z6 hz6 => ?_)
        exact r_iret C hw hr hlk rfl (Nat.le_of_ble_eq_true rfl) (Nat.le_of_ble_eq_true rfl) dX1_tell_29 ⟨rfl, rfl, rfl, rfl, hsz, ⟨_, rfl, trivial⟩⟩
      · refine lv_iload_n hx hb dX1_tell_19 rfl (lv_at hl 2 rfl) ?_
        refine z_lt (tgt := 28) hx hb dX1_tell_20 (by decide) (fun c20 => ?_) (fun c20 => ?_)
        · refine lv_iconst (v := (-1)) hx hb dX1_tell_28 (by decide) (ti_c (-1) (by decide) fun z7 hz7 => ?_)
          exact r_iret C hw hr hlk rfl (Nat.le_of_ble_eq_true rfl) (Nat.le_of_ble_eq_true rfl) dX1_tell_29 ⟨rfl, rfl, rfl, rfl, hsz, ⟨_, rfl, trivial⟩⟩
        · refine lv_iload_n hx hb dX1_tell_23 rfl (lv_at hl 2 rfl) ?_
          refine lv_iconst (v := 5) hx hb dX1_tell_24 (by decide) (ti_c 5 (by decide) fun z8 hz8 => ?_)
          refine b_lt (tgt := 30) hx hb dX1_tell_25 (by decide) (fun c25 => ?_) (fun c25 => ?_)
          · refine lv_aload_n hx hb dX1_tell_30 rfl (lv_at hl 0 rfl) ?_
            refine r_get C hw (hsh 45 _ rfl) fl_X1_22 (oV_r rfl (hrs (45, 3, 48) (by decide))) dX1_tell_31 ?_
            refine lv_iload_n hx hb dX1_tell_34 rfl (lv_at hl 1 rfl) ?_
            refine lv_iconst (v := 5) hx hb dX1_tell_35 (by decide) (ti_c 5 (by decide) fun z9 hz9 => ?_)
            refine lv_imul hx hb dX1_tell_36 (tc_mulR 5 hz9 fun z10 hz10 => ?_)
            first | replace hz10 := hz10 (by omega) | clear hz10
            refine lv_iload_n hx hb dX1_tell_37 rfl (lv_at hl 2 rfl) ?_
            refine lv_iadd hx hb dX1_tell_38 (tc_add fun z11 hz11 => ?_)
            first | replace hz11 := hz11 (by omega) | clear hz11
            refine r_iald C hw (hsh 48 _ rfl) (by omega) (by omega) dX1_tell_39 (ti_c (ig (B + 48) z11.toInt.toNat).toInt rfl fun z12 hz12 => ?_)
            exact r_iret C hw hr hlk rfl (Nat.le_of_ble_eq_true rfl) (Nat.le_of_ble_eq_true rfl) dX1_tell_40 ⟨rfl, rfl, rfl, rfl, hsz, ⟨_, rfl, trivial⟩⟩
          · refine lv_iconst (v := (-1)) hx hb dX1_tell_28 (by decide) (ti_c (-1) (by decide) fun z13 hz13 => ?_)
            exact r_iret C hw hr hlk rfl (Nat.le_of_ble_eq_true rfl) (Nat.le_of_ble_eq_true rfl) dX1_tell_29 ⟨rfl, rfl, rfl, rfl, hsz, ⟨_, rfl, trivial⟩⟩
