set_option maxHeartbeats 4000000 in
set_option maxRecDepth 100000 in
theorem t_X9_settleE {κ : Int} {τ : Tp} (l : Launch) (B : Nat) (D : va_G) (cA : Nat → ClassId) (kd : sK) (ig : sI) (rg : sR) (lg : sG) (sz : Nat) (σ : Sg) (π : Ps) (ν : Nat) (hS : SCh B σ π ν kd ig rg) (hLv : LV κ B σ ν ig lg) (hW : WS σ π) (hI : IC τ B kd ig rg) : MC l B D cA yX9_settle cX9_settle 4 none (rL 6 0 0) [.ref (B + 32)] kd ig rg lg sz (PI 982 τ B none kd ig rg lg (fun r kd' ig' rg' lg' => (r = none ∧ LV κ B σ ν ig' lg'))) := by
  refine MC.of (own := RX9) (by decide +kernel) rfl (Nat.le_of_ble_eq_true rfl) ?_
  intro p e s m args below meth c ls C hr hlk hnm hw hsz hl
  have hx := C.1.1
  have hb := C.1.2.1
  have hown := C.1.2.2.2.1
  have hts := C.1.2.2.2.2
  have hl : lv_has ls 4 [(0, .ref (B + 32))] := hl
  have hN : Nx 982 B none kd ig rg lg kd ig rg lg := Nx.rf
  have hsh := hI.sh
  have hrs := hI.rs
  refine lv_aload_n hx hb dX9_settle_0 rfl (lv_at hl 0 rfl) ?_
  refine r_get C hw (hsh 32 _ rfl) fl_X9_33 (oV_i rfl) dX9_settle_1 (ti_c (ig (B + 32) 8).toInt rfl fun z1 hz1 => ?_)
  refine lv_aload_n hx hb dX9_settle_4 rfl (lv_at hl 0 rfl) ?_
  refine r_get C hw (hsh 32 _ rfl) fl_X9_9 (oV_r rfl (hrs (32, 0, 9) (by decide))) dX9_settle_5 ?_
  refine r_get C hw (hsh 9 _ rfl) fl_X9_37 (oV_i rfl) dX9_settle_8 (ti_c (ig (B + 9) 6).toInt rfl fun z2 hz2 => ?_)
  refine b_ne (tgt := 15) hx hb dX9_settle_11 (by decide) (fun c11 => ?_) (fun c11 => ?_)
  · refine lv_aload_n hx hb dX9_settle_15 rfl (lv_at hl 0 rfl) ?_
    refine lv_aload_n hx hb dX9_settle_16 rfl (lv_at hl 0 rfl) ?_
    refine r_get C hw (hsh 32 _ rfl) fl_X9_9 (oV_r rfl (hrs (32, 0, 9) (by decide))) dX9_settle_17 ?_
    refine r_get C hw (hsh 9 _ rfl) fl_X9_37 (oV_i rfl) dX9_settle_20 (ti_c (ig (B + 9) 6).toInt rfl fun z3 hz3 => ?_)
    refine r_puti C hw (hsh 32 _ rfl) fl_X9_33 rfl rfl rfl dX9_settle_23 (fun H locs hH hw => ?_)
    obtain ⟨ig4, eig4⟩ : ∃ f, f = up2 ig (B + 32) 8 z3 := ⟨_, rfl⟩
    rw [← eig4] at hw
    have hN : Nx 982 B none kd ig rg lg kd ig4 rg lg := by rw [eig4]; exact hN.pi (by omega)
    have hI : IC τ B kd ig4 rg := by rw [eig4]; exact hI.pi (show okR none _ from trivial)
    have hLv : LV κ B σ ν ig4 lg := by rw [eig4]; exact hLv.w (by decide)
    refine lv_aload_n hx hb dX9_settle_26 rfl (lv_at hl 0 rfl) ?_
    refine r_get C hw (hsh 32 _ rfl) fl_X9_15 (oV_r rfl (hrs (32, 1, 15) (by decide))) dX9_settle_27 ?_
    refine r_callV (As := []) (rest := []) C hw (t_X5_settleE l B D cA kd ig4 rg lg _  σ π ν (hS.nx hN) hLv hW hI) sv_X9_40 (hsh 15 _ rfl) rfl hl.1 rfl (Nat.le_of_ble_eq_true rfl) ⟨Nat.le_of_ble_eq_true rfl, Nat.le_of_ble_eq_true rfl⟩ ⟨Nat.le_of_ble_eq_true rfl, Nat.le_of_ble_eq_true rfl⟩ dX9_settle_30 (fun r9 kd5 ig6 rg7 lg8 H locs hw hH hp10 => ?_)
    obtain ⟨hI, hchp10, hrhp10⟩ := hp10
    have hN := hN.tr hchp10
    have hsh := hI.sh
    have hrs := hI.rs
    have hLv := LV.of hrhp10.2.1.1 hrhp10.2.1.2.1 hrhp10.2.1.2.2 hLv.le
    obtain ⟨rfl, hvhp10⟩ := hrhp10
    refine lv_iconst (v := 0) hx hb dX9_settle_33 (by decide) (ti_c 0 (by decide) fun z11 hz11 => ?_)
    refine lv_istore_n (lv' := [(1, .int z11), (0, .ref (B + 32))]) hx hb dX9_settle_34 rfl hl (by decide) rfl (fun ls hl => ?_)
    have L35 : ∀ (n : Nat) (ls : Array Slot) (H : Heap) (locs : List Loc) (kd13 : sK) (ig14 : sI) (rg15 : sR) (lg16 : sG) (v12 : Int32), lv_has ls 4 [(1, .int v12), (0, .ref (B + 32))] → WD B D cA s.heap kd13 ig14 rg15 lg16 H locs → IC τ B kd13 ig14 rg15 → Nx 982 B none kd ig rg lg kd13 ig14 rg15 lg16 → (0 ≤ v12.toInt) → (v12.toInt ≤ 288) → (LV κ B σ ν ig14 lg16) → 288 - v12.toInt < (n : Int) → W p l e (rL 6 0 0) s m args below meth c H locs 0 0 (MQ below (QcW B D cA (PI 982 τ B none kd ig rg lg (fun r kd' ig' rg' lg' => (r = none ∧ LV κ B σ ν ig' lg')))) args s 0 0 (fun q => B ≤ q)) (F0 m 35 ls []) := by
      intro n35
      induction n35 with
      | zero => intro ls H locs kd13 ig14 rg15 lg16 v12 hl hw hI hN g35_0 g35_1 g35_2 hmu; exact absurd hmu (by omega)
      | succ n35 ih35 =>
        intro ls H locs kd13 ig14 rg15 lg16 v12 hl hw hI hN g35_0 g35_1 g35_2 hmu
        have hsh := hI.sh
        have hrs := hI.rs
        have hLv := g35_2
        refine lv_iload_n hx hb dX9_settle_35 rfl (lv_at hl 0 rfl) ?_
        refine lv_sipush (v := 288) hx hb dX9_settle_36 (by decide) (ti_c 288 (by decide) fun z17 hz17 => ?_)
        refine b_ge (tgt := 104) hx hb dX9_settle_39 (by decide) (fun c39 => ?_) (fun c39 => ?_)
        · refine lv_iconst (v := 0) hx hb dX9_settle_104 (by decide) (ti_c 0 (by decide) fun z18 hz18 => ?_)
          refine lv_istore_n (lv' := [(1, .int z18), (0, .ref (B + 32))]) hx hb dX9_settle_105 rfl hl (by decide) rfl (fun ls hl => ?_)
          have L106 : ∀ (n : Nat) (ls : Array Slot) (H : Heap) (locs : List Loc) (kd20 : sK) (ig21 : sI) (rg22 : sR) (lg23 : sG) (v19 : Int32), lv_has ls 4 [(1, .int v19), (0, .ref (B + 32))] → WD B D cA s.heap kd20 ig21 rg22 lg23 H locs → IC τ B kd20 ig21 rg22 → Nx 982 B none kd ig rg lg kd20 ig21 rg22 lg23 → (0 ≤ v19.toInt) → (v19.toInt ≤ 288) → (LV κ B σ ν ig21 lg23) → 288 - v19.toInt < (n : Int) → W p l e (rL 6 0 0) s m args below meth c H locs 0 0 (MQ below (QcW B D cA (PI 982 τ B none kd ig rg lg (fun r kd' ig' rg' lg' => (r = none ∧ LV κ B σ ν ig' lg')))) args s 0 0 (fun q => B ≤ q)) (F0 m 106 ls []) := by
            intro n106
            induction n106 with
            | zero => intro ls H locs kd20 ig21 rg22 lg23 v19 hl hw hI hN g106_0 g106_1 g106_2 hmu; exact absurd hmu (by omega)
            | succ n106 ih106 =>
              intro ls H locs kd20 ig21 rg22 lg23 v19 hl hw hI hN g106_0 g106_1 g106_2 hmu
              have hsh := hI.sh
              have hrs := hI.rs
              have hLv := g106_2
              refine lv_iload_n hx hb dX9_settle_106 rfl (lv_at hl 0 rfl) ?_
              refine lv_aload_n hx hb dX9_settle_107 rfl (lv_at hl 1 rfl) ?_
              refine r_get C hw (hsh 32 _ rfl) fl_X9_15 (oV_r rfl (hrs (32, 1, 15) (by decide))) dX9_settle_108 ?_
              refine r_callV (As := []) (rest := [.int v19]) C hw (t_X5_orderSize l B D cA kd20 ig21 rg22 lg23 _   hI) sv_X9_60 (hsh 15 _ rfl) rfl hl.1 rfl (Nat.le_of_ble_eq_true rfl) ⟨Nat.le_of_ble_eq_true rfl, Nat.le_of_ble_eq_true rfl⟩ ⟨Nat.le_of_ble_eq_true rfl, Nat.le_of_ble_eq_true rfl⟩ dX9_settle_111 (fun r28 kd24 ig25 rg26 lg27 H locs hw hH hp29 => ?_)
              obtain ⟨rfl, rfl, rfl, rfl, hzhp29, hrhp29⟩ := hp29
              obtain ⟨z30, rfl, hz30⟩ := hrhp29
              refine b_ge (tgt := 169) hx hb dX9_settle_114 (by decide) (fun c114 => ?_) (fun c114 => ?_)
              · exact r_vret C hw hr hlk (Nat.le_of_ble_eq_true rfl) (Nat.le_of_ble_eq_true rfl) dX9_settle_169 ⟨hI, hN, ⟨rfl, hLv⟩⟩
              · refine lv_aload_n hx hb dX9_settle_117 rfl (lv_at hl 1 rfl) ?_
                refine r_get C hw (hsh 32 _ rfl) fl_X9_15 (oV_r rfl (hrs (32, 1, 15) (by decide))) dX9_settle_118 ?_
                refine lv_iload_n hx hb dX9_settle_121 rfl (lv_at hl 0 rfl) ?_
                refine r_callV (As := [.int v19]) (rest := []) C hw (t_X5_inOrder l B D cA kd20 ig21 rg22 lg23 _ v19  hI) sv_X9_64 (hsh 15 _ rfl) rfl hl.1 rfl (Nat.le_of_ble_eq_true rfl) ⟨Nat.le_of_ble_eq_true rfl, Nat.le_of_ble_eq_true rfl⟩ ⟨Nat.le_of_ble_eq_true rfl, Nat.le_of_ble_eq_true rfl⟩ dX9_settle_122 (fun r35 kd31 ig32 rg33 lg34 H locs hw hH hp36 => ?_)
                obtain ⟨rfl, rfl, rfl, rfl, hzhp36, hrhp36⟩ := hp36
                obtain ⟨z37, rfl, hz37⟩ := hrhp36
                refine lv_istore_n (lv' := [(2, .int z37), (1, .int v19), (0, .ref (B + 32))]) hx hb dX9_settle_125 rfl hl (by decide) rfl (fun ls hl => ?_)
                refine lv_aload_n hx hb dX9_settle_126 rfl (lv_at hl 2 rfl) ?_
                refine r_get C hw (hsh 32 _ rfl) fl_X9_9 (oV_r rfl (hrs (32, 0, 9) (by decide))) dX9_settle_127 ?_
                refine lv_iload_n hx hb dX9_settle_130 rfl (lv_at hl 0 rfl) ?_
                refine r_callV (As := [.int z37]) (rest := []) C hw (t_X6_formulaAt l B D cA kd20 ig21 rg22 lg23 _ z37  hI) sv_X9_68 (hsh 9 _ rfl) rfl hl.1 rfl (Nat.le_of_ble_eq_true rfl) ⟨Nat.le_of_ble_eq_true rfl, Nat.le_of_ble_eq_true rfl⟩ ⟨Nat.le_of_ble_eq_true rfl, Nat.le_of_ble_eq_true rfl⟩ dX9_settle_131 (fun r42 kd38 ig39 rg40 lg41 H locs hw hH hp43 => ?_)
                obtain ⟨rfl, rfl, rfl, rfl, hzhp43, hrhp43⟩ := hp43
                rcases hrhp43 with rfl | ⟨f44, nf44, rfl, Ff44⟩
                · refine lv_astore_nN (lv' := [(3, .null), (2, .int z37), (1, .int v19), (0, .ref (B + 32))]) hx hb dX9_settle_134 rfl hl (by decide) rfl (fun ls hl => ?_)
                  refine lv_iload_n hx hb dX9_settle_135 rfl (lv_at hl 1 rfl) ?_
                  refine r_callN (As := [.int z37]) (rest := []) C hw (t_X11_onSheet l B D cA kd20 ig21 rg22 lg23 _ z37  hI) sn_X9_72 rfl hl.1 rfl (Nat.le_of_ble_eq_true rfl) ⟨Nat.le_of_ble_eq_true rfl, Nat.le_of_ble_eq_true rfl⟩ ⟨Nat.le_of_ble_eq_true rfl, Nat.le_of_ble_eq_true rfl⟩ dX9_settle_136 (fun r49 kd45 ig46 rg47 lg48 H locs hw hH hp50 => ?_)
                  obtain ⟨rfl, rfl, rfl, rfl, hzhp50, hrhp50⟩ := hp50
                  obtain ⟨z51, rfl, hz51⟩ := hrhp50
                  refine z_eq (tgt := 163) hx hb dX9_settle_139 (by decide) (fun c139 => ?_) (fun c139 => ?_)
                  · refine tc_inc hx hb dX9_settle_163 hl (k := 2) rfl (by decide) (by decide) (fun z52 hz52 ls hl => ?_)
                    first | replace hz52 := hz52 (by omega) | clear hz52
                    have hl : lv_has ls 4 [(1, .int z52), (3, .null), (2, .int z37), (0, .ref (B + 32))] := hl
                    refine lv_goto (tgt := 106) hx hb dX9_settle_166 (by decide) ?_
                    exact ih106 ls H locs kd20 ig21 rg22 lg23 z52 (lv_sub hl [0, 3] rfl) hw hI hN (by omega) (by omega) (hLv) (by omega)
                  · refine lv_aload_nN hx hb dX9_settle_142 rfl (lv_at hl 0 rfl) ?_
                    refine lv_ifnullN (tgt := 163) hx hb dX9_settle_143 (by decide) ?_
                    refine tc_inc hx hb dX9_settle_163 hl (k := 2) rfl (by decide) (by decide) (fun z53 hz53 ls hl => ?_)
                    first | replace hz53 := hz53 (by omega) | clear hz53
                    have hl : lv_has ls 4 [(1, .int z53), (3, .null), (2, .int z37), (0, .ref (B + 32))] := hl
                    refine lv_goto (tgt := 106) hx hb dX9_settle_166 (by decide) ?_
                    exact ih106 ls H locs kd20 ig21 rg22 lg23 z53 (lv_sub hl [0, 3] rfl) hw hI hN (by omega) (by omega) (hLv) (by omega)
                · have lf44 := isFn.le Ff44
                  refine lv_astore_n (lv' := [(3, .ref f44), (2, .int z37), (1, .int v19), (0, .ref (B + 32))]) hx hb dX9_settle_134 rfl hl (by decide) rfl (fun ls hl => ?_)
                  refine lv_iload_n hx hb dX9_settle_135 rfl (lv_at hl 1 rfl) ?_
                  refine r_callN (As := [.int z37]) (rest := []) C hw (t_X11_onSheet l B D cA kd20 ig21 rg22 lg23 _ z37  hI) sn_X9_72 rfl hl.1 rfl (Nat.le_of_ble_eq_true rfl) ⟨Nat.le_of_ble_eq_true rfl, Nat.le_of_ble_eq_true rfl⟩ ⟨Nat.le_of_ble_eq_true rfl, Nat.le_of_ble_eq_true rfl⟩ dX9_settle_136 (fun r58 kd54 ig55 rg56 lg57 H locs hw hH hp59 => ?_)
                  obtain ⟨rfl, rfl, rfl, rfl, hzhp59, hrhp59⟩ := hp59
                  obtain ⟨z60, rfl, hz60⟩ := hrhp59
                  refine z_eq (tgt := 163) hx hb dX9_settle_139 (by decide) (fun c139 => ?_) (fun c139 => ?_)
                  · refine tc_inc hx hb dX9_settle_163 hl (k := 2) rfl (by decide) (by decide) (fun z61 hz61 ls hl => ?_)
                    first | replace hz61 := hz61 (by omega) | clear hz61
                    have hl : lv_has ls 4 [(1, .int z61), (3, .ref f44), (2, .int z37), (0, .ref (B + 32))] := hl
                    refine lv_goto (tgt := 106) hx hb dX9_settle_166 (by decide) ?_
                    exact ih106 ls H locs kd20 ig21 rg22 lg23 z61 (lv_sub hl [0, 3] rfl) hw hI hN (by omega) (by omega) (hLv) (by omega)
                  · refine lv_aload_n hx hb dX9_settle_142 rfl (lv_at hl 0 rfl) ?_
                    refine lv_ifnull hx hb dX9_settle_143 ?_
                    refine lv_aload_n hx hb dX9_settle_146 rfl (lv_at hl 3 rfl) ?_
                    refine r_get C hw (hsh 32 _ rfl) fl_X9_15 (oV_r rfl (hrs (32, 1, 15) (by decide))) dX9_settle_147 ?_
                    refine lv_iload_n hx hb dX9_settle_150 rfl (lv_at hl 1 rfl) ?_
                    refine r_callV (As := [.int z37]) (rest := []) C hw (t_X5_inRing l B D cA kd20 ig21 rg22 lg23 _ z37  hI) sv_X9_76 (hsh 15 _ rfl) rfl hl.1 rfl (Nat.le_of_ble_eq_true rfl) ⟨Nat.le_of_ble_eq_true rfl, Nat.le_of_ble_eq_true rfl⟩ ⟨Nat.le_of_ble_eq_true rfl, Nat.le_of_ble_eq_true rfl⟩ dX9_settle_151 (fun r66 kd62 ig63 rg64 lg65 H locs hw hH hp67 => ?_)
                    obtain ⟨rfl, rfl, rfl, rfl, hzhp67, hrhp67⟩ := hp67
                    obtain ⟨z68, rfl, hz68⟩ := hrhp67
                    refine z_ne (tgt := 163) hx hb dX9_settle_154 (by decide) (fun c154 => ?_) (fun c154 => ?_)
                    · refine tc_inc hx hb dX9_settle_163 hl (k := 2) rfl (by decide) (by decide) (fun z69 hz69 ls hl => ?_)
                      first | replace hz69 := hz69 (by omega) | clear hz69
                      have hl : lv_has ls 4 [(1, .int z69), (3, .ref f44), (2, .int z37), (0, .ref (B + 32))] := hl
                      refine lv_goto (tgt := 106) hx hb dX9_settle_166 (by decide) ?_
                      exact ih106 ls H locs kd20 ig21 rg22 lg23 z69 (lv_sub hl [0, 3] rfl) hw hI hN (by omega) (by omega) (hLv) (by omega)
                    · refine lv_aload_n hx hb dX9_settle_157 rfl (lv_at hl 3 rfl) ?_
                      refine lv_iload_n hx hb dX9_settle_158 rfl (lv_at hl 1 rfl) ?_
                      refine lv_aload_n hx hb dX9_settle_159 rfl (lv_at hl 0 rfl) ?_
                      refine r_callV (As := [.int z37, .ref f44]) (rest := []) C hw (t_X9_workOut l B D cA kd20 ig21 rg22 lg23 _ z37 f44 nf44 Ff44 (by omega) hI) sv_X9_79 (hsh 32 _ rfl) rfl hl.1 rfl (Nat.le_of_ble_eq_true rfl) ⟨Nat.le_of_ble_eq_true rfl, Nat.le_of_ble_eq_true rfl⟩ ⟨Nat.le_of_ble_eq_true rfl, Nat.le_of_ble_eq_true rfl⟩ dX9_settle_160 (fun r74 kd70 ig71 rg72 lg73 H locs hw hH hp75 => ?_)
                      obtain ⟨hI, hchp75, hrhp75⟩ := hp75
                      have hN := hN.tr hchp75
                      have hsh := hI.sh
                      have hrs := hI.rs
                      have hLv := LV.nx hLv hchp75
                      obtain rfl := hrhp75
                      refine tc_inc hx hb dX9_settle_163 hl (k := 2) rfl (by decide) (by decide) (fun z76 hz76 ls hl => ?_)
                      first | replace hz76 := hz76 (by omega) | clear hz76
                      have hl : lv_has ls 4 [(1, .int z76), (3, .ref f44), (2, .int z37), (0, .ref (B + 32))] := hl
                      refine lv_goto (tgt := 106) hx hb dX9_settle_166 (by decide) ?_
                      exact ih106 ls H locs kd70 ig71 rg72 lg73 z76 (lv_sub hl [0, 3] rfl) hw hI hN (by omega) (by omega) (hLv) (by omega)
          exact L106 ((288 - z18.toInt) + 1).toNat ls H locs kd13 ig14 rg15 lg16 z18 (lv_sub hl [0, 1] rfl) hw hI hN (by omega) (by omega) (hLv) (by omega)
        · refine lv_aload_n hx hb dX9_settle_42 rfl (lv_at hl 1 rfl) ?_
          refine r_get C hw (hsh 32 _ rfl) fl_X9_9 (oV_r rfl (hrs (32, 0, 9) (by decide))) dX9_settle_43 ?_
          refine lv_iload_n hx hb dX9_settle_46 rfl (lv_at hl 0 rfl) ?_
          refine r_callV (As := [.int v12]) (rest := []) C hw (t_X6_at l B D cA kd13 ig14 rg15 lg16 _ v12  hI) sv_X9_45 (hsh 9 _ rfl) rfl hl.1 rfl (Nat.le_of_ble_eq_true rfl) ⟨Nat.le_of_ble_eq_true rfl, Nat.le_of_ble_eq_true rfl⟩ ⟨Nat.le_of_ble_eq_true rfl, Nat.le_of_ble_eq_true rfl⟩ dX9_settle_47 (fun r81 kd77 ig78 rg79 lg80 H locs hw hH hp82 => ?_)
          obtain ⟨rfl, rfl, rfl, rfl, hzhp82, hrhp82⟩ := hp82
          obtain ⟨q83, nq83, rfl, kq83⟩ := hrhp82
          refine lv_astore_n (lv' := [(2, .ref q83), (1, .int v12), (0, .ref (B + 32))]) hx hb dX9_settle_50 rfl hl (by decide) rfl (fun ls hl => ?_)
          refine lv_aload_n hx hb dX9_settle_51 rfl (lv_at hl 2 rfl) ?_
          refine r_get C hw (hsh 32 _ rfl) fl_X9_19 (oV_r rfl (hrs (32, 2, 33) (by decide))) dX9_settle_52 ?_
          refine lv_iload_n hx hb dX9_settle_55 rfl (lv_at hl 1 rfl) ?_
          refine lv_iconst (v := 3) hx hb dX9_settle_56 (by decide) (ti_c 3 (by decide) fun z84 hz84 => ?_)
          refine lv_imul hx hb dX9_settle_57 (tc_mulR 3 hz84 fun z85 hz85 => ?_)
          first | replace hz85 := hz85 (by omega) | clear hz85
          refine lv_aload_n hx hb dX9_settle_58 rfl (lv_at hl 0 rfl) ?_
          refine r_get C hw kq83 fl_X9_49 (oV_i rfl) dX9_settle_59 (ti_c (ig14 q83 3).toInt rfl fun z86 hz86 => ?_)
          refine r_iast C hw (hsh 33 _ rfl) (by omega) (by omega) dX9_settle_62 (fun H locs hH hw => ?_)
          obtain ⟨ig87, eig87⟩ : ∃ f, f = up2 ig14 (B + 33) z85.toInt.toNat z86 := ⟨_, rfl⟩
          rw [← eig87] at hw
          have hN : Nx 982 B none kd ig rg lg kd13 ig87 rg15 lg16 := by rw [eig87]; exact hN.pi (by omega)
          have hI : IC τ B kd13 ig87 rg15 := by rw [eig87]; exact hI.pi (show okR none _ from trivial)
          have hLv : LV κ B σ ν ig87 lg16 := by rw [eig87]; exact hLv.w (by decide)
          refine lv_aload_n hx hb dX9_settle_63 rfl (lv_at hl 2 rfl) ?_
          refine r_get C hw (hsh 32 _ rfl) fl_X9_19 (oV_r rfl (hrs (32, 2, 33) (by decide))) dX9_settle_64 ?_
          refine lv_iload_n hx hb dX9_settle_67 rfl (lv_at hl 1 rfl) ?_
          refine lv_iconst (v := 3) hx hb dX9_settle_68 (by decide) (ti_c 3 (by decide) fun z88 hz88 => ?_)
          refine lv_imul hx hb dX9_settle_69 (tc_mulR 3 hz88 fun z89 hz89 => ?_)
          first | replace hz89 := hz89 (by omega) | clear hz89
          refine lv_iconst (v := 1) hx hb dX9_settle_70 (by decide) (ti_c 1 (by decide) fun z90 hz90 => ?_)
          refine lv_iadd hx hb dX9_settle_71 (tc_add fun z91 hz91 => ?_)
          first | replace hz91 := hz91 (by omega) | clear hz91
          refine lv_aload_n hx hb dX9_settle_72 rfl (lv_at hl 0 rfl) ?_
          refine r_get C hw kq83 fl_X9_54 (oV_i rfl) dX9_settle_73 (ti_c (ig87 q83 4).toInt rfl fun z92 hz92 => ?_)
          refine r_iast C hw (hsh 33 _ rfl) (by omega) (by omega) dX9_settle_76 (fun H locs hH hw => ?_)
          obtain ⟨ig93, eig93⟩ : ∃ f, f = up2 ig87 (B + 33) z91.toInt.toNat z92 := ⟨_, rfl⟩
          rw [← eig93] at hw
          have hN : Nx 982 B none kd ig rg lg kd13 ig93 rg15 lg16 := by rw [eig93]; exact hN.pi (by omega)
          have hI : IC τ B kd13 ig93 rg15 := by rw [eig93]; exact hI.pi (show okR none _ from trivial)
          have hLv : LV κ B σ ν ig93 lg16 := by rw [eig93]; exact hLv.w (by decide)
          refine lv_aload_n hx hb dX9_settle_77 rfl (lv_at hl 2 rfl) ?_
          refine r_get C hw (hsh 32 _ rfl) fl_X9_19 (oV_r rfl (hrs (32, 2, 33) (by decide))) dX9_settle_78 ?_
          refine lv_iload_n hx hb dX9_settle_81 rfl (lv_at hl 1 rfl) ?_
          refine lv_iconst (v := 3) hx hb dX9_settle_82 (by decide) (ti_c 3 (by decide) fun z94 hz94 => ?_)
          refine lv_imul hx hb dX9_settle_83 (tc_mulR 3 hz94 fun z95 hz95 => ?_)
          first | replace hz95 := hz95 (by omega) | clear hz95
          refine lv_iconst (v := 2) hx hb dX9_settle_84 (by decide) (ti_c 2 (by decide) fun z96 hz96 => ?_)
          refine lv_iadd hx hb dX9_settle_85 (tc_add fun z97 hz97 => ?_)
          first | replace hz97 := hz97 (by omega) | clear hz97
          refine lv_aload_n hx hb dX9_settle_86 rfl (lv_at hl 0 rfl) ?_
          refine r_get C hw kq83 fl_X9_57 (oV_i rfl) dX9_settle_87 (ti_c (ig93 q83 5).toInt rfl fun z98 hz98 => ?_)
          refine r_iast C hw (hsh 33 _ rfl) (by omega) (by omega) dX9_settle_90 (fun H locs hH hw => ?_)
          obtain ⟨ig99, eig99⟩ : ∃ f, f = up2 ig93 (B + 33) z97.toInt.toNat z98 := ⟨_, rfl⟩
          rw [← eig99] at hw
          have hN : Nx 982 B none kd ig rg lg kd13 ig99 rg15 lg16 := by rw [eig99]; exact hN.pi (by omega)
          have hI : IC τ B kd13 ig99 rg15 := by rw [eig99]; exact hI.pi (show okR none _ from trivial)
          have hLv : LV κ B σ ν ig99 lg16 := by rw [eig99]; exact hLv.w (by decide)
          refine lv_aload_n hx hb dX9_settle_91 rfl (lv_at hl 2 rfl) ?_
          refine r_get C hw (hsh 32 _ rfl) fl_X9_23 (oV_r rfl (hrs (32, 3, 34) (by decide))) dX9_settle_92 ?_
          refine lv_iload_n hx hb dX9_settle_95 rfl (lv_at hl 1 rfl) ?_
          refine lv_iconst (v := 0) hx hb dX9_settle_96 (by decide) (ti_c 0 (by decide) fun z100 hz100 => ?_)
          refine r_zast C hw (hsh 34 _ rfl) (by omega) (by omega) (nar_b (by omega)) dX9_settle_97 (fun H locs hH hw => ?_)
          obtain ⟨ig101, eig101⟩ : ∃ f, f = up2 ig99 (B + 34) v12.toInt.toNat z100 := ⟨_, rfl⟩
          rw [← eig101] at hw
          have hN : Nx 982 B none kd ig rg lg kd13 ig101 rg15 lg16 := by rw [eig101]; exact hN.pi (by omega)
          have hI : IC τ B kd13 ig101 rg15 := by rw [eig101]; exact hI.pi (show okR none _ from trivial)
          have hLv : LV κ B σ ν ig101 lg16 := by rw [eig101]; exact hLv.w (by decide)
          refine tc_inc hx hb dX9_settle_98 hl (k := 1) rfl (by decide) (by decide) (fun z102 hz102 ls hl => ?_)
          first | replace hz102 := hz102 (by omega) | clear hz102
          have hl : lv_has ls 4 [(1, .int z102), (2, .ref q83), (0, .ref (B + 32))] := hl
          refine lv_goto (tgt := 35) hx hb dX9_settle_101 (by decide) ?_
          exact ih35 ls H locs kd13 ig101 rg15 lg16 z102 (lv_sub hl [0, 2] rfl) hw hI hN (by omega) (by omega) (hLv) (by omega)
    exact L35 ((288 - z11.toInt) + 1).toNat ls H locs kd5 ig6 rg7 lg8 z11 (lv_sub hl [0, 1] rfl) hw hI hN (by omega) (by omega) (hLv) (by omega)
  · exact r_vret C hw hr hlk (Nat.le_of_ble_eq_true rfl) (Nat.le_of_ble_eq_true rfl) dX9_settle_14 ⟨hI, hN, ⟨rfl, hLv⟩⟩

set_option maxHeartbeats 4000000 in
set_option maxRecDepth 100000 in
theorem t_X8_settleE {κ : Int} {τ : Tp} (l : Launch) (B : Nat) (D : va_G) (cA : Nat → ClassId) (kd : sK) (ig : sI) (rg : sR) (lg : sG) (sz : Nat) (σ : Sg) (π : Ps) (ν : Nat) (hS : SCh B σ π ν kd ig rg) (hLv : LV κ B σ ν ig lg) (hW : WS σ π) (hI : IC τ B kd ig rg) : MC l B D cA yX8_settle cX8_settle 3 none (rL 6 0 0) [.ref (B + 37)] kd ig rg lg sz (PI 950 τ B none kd ig rg lg (fun r kd' ig' rg' lg' => (r = none ∧ LV κ B σ ν ig' lg'))) := by
  refine MC.of (own := RX8) (by decide +kernel) rfl (Nat.le_of_ble_eq_true rfl) ?_
  intro p e s m args below meth c ls C hr hlk hnm hw hsz hl
  have hx := C.1.1
  have hb := C.1.2.1
  have hown := C.1.2.2.2.1
  have hts := C.1.2.2.2.2
  have hl : lv_has ls 3 [(0, .ref (B + 37))] := hl
  have hN : Nx 950 B none kd ig rg lg kd ig rg lg := Nx.rf
  have hsh := hI.sh
  have hrs := hI.rs
  refine lv_aload_n hx hb dX8_settle_0 rfl (lv_at hl 0 rfl) ?_
  refine r_get C hw (hsh 37 _ rfl) fl_X8_37 (oV_i rfl) dX8_settle_1 (ti_c (ig (B + 37) 7).toInt rfl fun z1 hz1 => ?_)
  refine lv_aload_n hx hb dX8_settle_4 rfl (lv_at hl 0 rfl) ?_
  refine r_get C hw (hsh 37 _ rfl) fl_X8_9 (oV_r rfl (hrs (37, 0, 9) (by decide))) dX8_settle_5 ?_
  refine r_get C hw (hsh 9 _ rfl) fl_X8_41 (oV_i rfl) dX8_settle_8 (ti_c (ig (B + 9) 6).toInt rfl fun z2 hz2 => ?_)
  refine b_ne (tgt := 15) hx hb dX8_settle_11 (by decide) (fun c11 => ?_) (fun c11 => ?_)
  · refine lv_aload_n hx hb dX8_settle_15 rfl (lv_at hl 0 rfl) ?_
    refine lv_aload_n hx hb dX8_settle_16 rfl (lv_at hl 0 rfl) ?_
    refine r_get C hw (hsh 37 _ rfl) fl_X8_9 (oV_r rfl (hrs (37, 0, 9) (by decide))) dX8_settle_17 ?_
    refine r_get C hw (hsh 9 _ rfl) fl_X8_41 (oV_i rfl) dX8_settle_20 (ti_c (ig (B + 9) 6).toInt rfl fun z3 hz3 => ?_)
    refine r_puti C hw (hsh 37 _ rfl) fl_X8_37 rfl rfl rfl dX8_settle_23 (fun H locs hH hw => ?_)
    obtain ⟨ig4, eig4⟩ : ∃ f, f = up2 ig (B + 37) 7 z3 := ⟨_, rfl⟩
    rw [← eig4] at hw
    have hN : Nx 950 B none kd ig rg lg kd ig4 rg lg := by rw [eig4]; exact hN.pi (by omega)
    have hI : IC τ B kd ig4 rg := by rw [eig4]; exact hI.pi (show okR none _ from trivial)
    have hLv : LV κ B σ ν ig4 lg := by rw [eig4]; exact hLv.w (by decide)
    refine lv_aload_n hx hb dX8_settle_26 rfl (lv_at hl 0 rfl) ?_
    refine r_get C hw (hsh 37 _ rfl) fl_X8_15 (oV_r rfl (hrs (37, 1, 15) (by decide))) dX8_settle_27 ?_
    refine r_callV (As := []) (rest := []) C hw (t_X5_settleE l B D cA kd ig4 rg lg _  σ π ν (hS.nx hN) hLv hW hI) sv_X8_44 (hsh 15 _ rfl) rfl hl.1 rfl (Nat.le_of_ble_eq_true rfl) ⟨Nat.le_of_ble_eq_true rfl, Nat.le_of_ble_eq_true rfl⟩ ⟨Nat.le_of_ble_eq_true rfl, Nat.le_of_ble_eq_true rfl⟩ dX8_settle_30 (fun r9 kd5 ig6 rg7 lg8 H locs hw hH hp10 => ?_)
    obtain ⟨hI, hchp10, hrhp10⟩ := hp10
    have hN := hN.tr hchp10
    have hsh := hI.sh
    have hrs := hI.rs
    have hLv := LV.of hrhp10.2.1.1 hrhp10.2.1.2.1 hrhp10.2.1.2.2 hLv.le
    obtain ⟨rfl, hvhp10⟩ := hrhp10
    refine lv_iconst (v := 0) hx hb dX8_settle_33 (by decide) (ti_c 0 (by decide) fun z11 hz11 => ?_)
    refine lv_istore_n (lv' := [(1, .int z11), (0, .ref (B + 37))]) hx hb dX8_settle_34 rfl hl (by decide) rfl (fun ls hl => ?_)
    have L35 : ∀ (n : Nat) (ls : Array Slot) (H : Heap) (locs : List Loc) (kd13 : sK) (ig14 : sI) (rg15 : sR) (lg16 : sG) (v12 : Int32), lv_has ls 3 [(1, .int v12), (0, .ref (B + 37))] → WD B D cA s.heap kd13 ig14 rg15 lg16 H locs → IC τ B kd13 ig14 rg15 → Nx 950 B none kd ig rg lg kd13 ig14 rg15 lg16 → (0 ≤ v12.toInt) → (v12.toInt ≤ 288) → (LV κ B σ ν ig14 lg16) → 288 - v12.toInt < (n : Int) → W p l e (rL 6 0 0) s m args below meth c H locs 0 0 (MQ below (QcW B D cA (PI 950 τ B none kd ig rg lg (fun r kd' ig' rg' lg' => (r = none ∧ LV κ B σ ν ig' lg')))) args s 0 0 (fun q => B ≤ q)) (F0 m 35 ls []) := by
      intro n35
      induction n35 with
      | zero => intro ls H locs kd13 ig14 rg15 lg16 v12 hl hw hI hN g35_0 g35_1 g35_2 hmu; exact absurd hmu (by omega)
      | succ n35 ih35 =>
        intro ls H locs kd13 ig14 rg15 lg16 v12 hl hw hI hN g35_0 g35_1 g35_2 hmu
        have hsh := hI.sh
        have hrs := hI.rs
        have hLv := g35_2
        refine lv_iload_n hx hb dX8_settle_35 rfl (lv_at hl 0 rfl) ?_
        refine lv_sipush (v := 288) hx hb dX8_settle_36 (by decide) (ti_c 288 (by decide) fun z17 hz17 => ?_)
        refine b_ge (tgt := 90) hx hb dX8_settle_39 (by decide) (fun c39 => ?_) (fun c39 => ?_)
        · exact r_vret C hw hr hlk (Nat.le_of_ble_eq_true rfl) (Nat.le_of_ble_eq_true rfl) dX8_settle_90 ⟨hI, hN, ⟨rfl, hLv⟩⟩
        · refine lv_aload_n hx hb dX8_settle_42 rfl (lv_at hl 1 rfl) ?_
          refine r_get C hw (hsh 37 _ rfl) fl_X8_9 (oV_r rfl (hrs (37, 0, 9) (by decide))) dX8_settle_43 ?_
          refine lv_iload_n hx hb dX8_settle_46 rfl (lv_at hl 0 rfl) ?_
          refine r_callV (As := [.int v12]) (rest := []) C hw (t_X6_formulaAt l B D cA kd13 ig14 rg15 lg16 _ v12  hI) sv_X8_49 (hsh 9 _ rfl) rfl hl.1 rfl (Nat.le_of_ble_eq_true rfl) ⟨Nat.le_of_ble_eq_true rfl, Nat.le_of_ble_eq_true rfl⟩ ⟨Nat.le_of_ble_eq_true rfl, Nat.le_of_ble_eq_true rfl⟩ dX8_settle_47 (fun r22 kd18 ig19 rg20 lg21 H locs hw hH hp23 => ?_)
          obtain ⟨rfl, rfl, rfl, rfl, hzhp23, hrhp23⟩ := hp23
          rcases hrhp23 with rfl | ⟨f24, nf24, rfl, Ff24⟩
          · refine lv_astore_nN (lv' := [(2, .null), (1, .int v12), (0, .ref (B + 37))]) hx hb dX8_settle_50 rfl hl (by decide) rfl (fun ls hl => ?_)
            refine lv_aload_n hx hb dX8_settle_51 rfl (lv_at hl 2 rfl) ?_
            refine r_get C hw (hsh 37 _ rfl) fl_X8_19 (oV_r rfl (hrs (37, 2, 38) (by decide))) dX8_settle_52 ?_
            refine lv_iload_n hx hb dX8_settle_55 rfl (lv_at hl 1 rfl) ?_
            refine lv_aload_nN hx hb dX8_settle_56 rfl (lv_at hl 0 rfl) ?_
            refine lv_ifnullN (tgt := 82) hx hb dX8_settle_57 (by decide) ?_
            refine lv_iconst (v := 0) hx hb dX8_settle_82 (by decide) (ti_c 0 (by decide) fun z25 hz25 => ?_)
            refine r_zast C hw (hsh 38 _ rfl) (by omega) (by omega) (nar_b (by omega)) dX8_settle_83 (fun H locs hH hw => ?_)
            obtain ⟨ig26, eig26⟩ : ∃ f, f = up2 ig14 (B + 38) v12.toInt.toNat z25 := ⟨_, rfl⟩
            rw [← eig26] at hw
            have hN : Nx 950 B none kd ig rg lg kd13 ig26 rg15 lg16 := by rw [eig26]; exact hN.pi (by omega)
            have hI : IC τ B kd13 ig26 rg15 := by rw [eig26]; exact hI.pi (show okR none _ from trivial)
            have hLv : LV κ B σ ν ig26 lg16 := by rw [eig26]; exact hLv.w (by decide)
            refine tc_inc hx hb dX8_settle_84 hl (k := 1) rfl (by decide) (by decide) (fun z27 hz27 ls hl => ?_)
            first | replace hz27 := hz27 (by omega) | clear hz27
            have hl : lv_has ls 3 [(1, .int z27), (2, .null), (0, .ref (B + 37))] := hl
            refine lv_goto (tgt := 35) hx hb dX8_settle_87 (by decide) ?_
            exact ih35 ls H locs kd13 ig26 rg15 lg16 z27 (lv_sub hl [0, 2] rfl) hw hI hN (by omega) (by omega) (hLv) (by omega)
          · have lf24 := isFn.le Ff24
            refine lv_astore_n (lv' := [(2, .ref f24), (1, .int v12), (0, .ref (B + 37))]) hx hb dX8_settle_50 rfl hl (by decide) rfl (fun ls hl => ?_)
            refine lv_aload_n hx hb dX8_settle_51 rfl (lv_at hl 2 rfl) ?_
            refine r_get C hw (hsh 37 _ rfl) fl_X8_19 (oV_r rfl (hrs (37, 2, 38) (by decide))) dX8_settle_52 ?_
            refine lv_iload_n hx hb dX8_settle_55 rfl (lv_at hl 1 rfl) ?_
            refine lv_aload_n hx hb dX8_settle_56 rfl (lv_at hl 0 rfl) ?_
            refine lv_ifnull hx hb dX8_settle_57 ?_
            refine lv_aload_n hx hb dX8_settle_60 rfl (lv_at hl 0 rfl) ?_
            refine r_callV (As := []) (rest := [.int v12, .ref (B + 38)]) C hw (t_X4_isOfReadsAndPlus l B D cA kd13 ig14 rg15 lg16 _ f24 nf24 Ff24  hI) sv_X8_53 (isFn.k Ff24) rfl hl.1 rfl (Nat.le_of_ble_eq_true rfl) ⟨Nat.le_of_ble_eq_true rfl, Nat.le_of_ble_eq_true rfl⟩ ⟨Nat.le_of_ble_eq_true rfl, Nat.le_of_ble_eq_true rfl⟩ dX8_settle_61 (fun r32 kd28 ig29 rg30 lg31 H locs hw hH hp33 => ?_)
            obtain ⟨rfl, rfl, rfl, rfl, hzhp33, hrhp33⟩ := hp33
            obtain ⟨z34, rfl, hz34⟩ := hrhp33
            refine z_eq (tgt := 82) hx hb dX8_settle_64 (by decide) (fun c64 => ?_) (fun c64 => ?_)
            · refine lv_iconst (v := 0) hx hb dX8_settle_82 (by decide) (ti_c 0 (by decide) fun z35 hz35 => ?_)
              refine r_zast C hw (hsh 38 _ rfl) (by omega) (by omega) (nar_b (by omega)) dX8_settle_83 (fun H locs hH hw => ?_)
              obtain ⟨ig36, eig36⟩ : ∃ f, f = up2 ig14 (B + 38) v12.toInt.toNat z35 := ⟨_, rfl⟩
              rw [← eig36] at hw
              have hN : Nx 950 B none kd ig rg lg kd13 ig36 rg15 lg16 := by rw [eig36]; exact hN.pi (by omega)
              have hI : IC τ B kd13 ig36 rg15 := by rw [eig36]; exact hI.pi (show okR none _ from trivial)
              have hLv : LV κ B σ ν ig36 lg16 := by rw [eig36]; exact hLv.w (by decide)
              refine tc_inc hx hb dX8_settle_84 hl (k := 1) rfl (by decide) (by decide) (fun z37 hz37 ls hl => ?_)
              first | replace hz37 := hz37 (by omega) | clear hz37
              have hl : lv_has ls 3 [(1, .int z37), (2, .ref f24), (0, .ref (B + 37))] := hl
              refine lv_goto (tgt := 35) hx hb dX8_settle_87 (by decide) ?_
              exact ih35 ls H locs kd13 ig36 rg15 lg16 z37 (lv_sub hl [0, 2] rfl) hw hI hN (by omega) (by omega) (hLv) (by omega)
            · refine lv_aload_n hx hb dX8_settle_67 rfl (lv_at hl 2 rfl) ?_
              refine r_get C hw (hsh 37 _ rfl) fl_X8_15 (oV_r rfl (hrs (37, 1, 15) (by decide))) dX8_settle_68 ?_
              refine lv_iload_n hx hb dX8_settle_71 rfl (lv_at hl 1 rfl) ?_
              refine r_callV (As := [.int v12]) (rest := [.int v12, .ref (B + 38)]) C hw (t_X5_inRing l B D cA kd13 ig14 rg15 lg16 _ v12  hI) sv_X8_59 (hsh 15 _ rfl) rfl hl.1 rfl (Nat.le_of_ble_eq_true rfl) ⟨Nat.le_of_ble_eq_true rfl, Nat.le_of_ble_eq_true rfl⟩ ⟨Nat.le_of_ble_eq_true rfl, Nat.le_of_ble_eq_true rfl⟩ dX8_settle_72 (fun r42 kd38 ig39 rg40 lg41 H locs hw hH hp43 => ?_)
              obtain ⟨rfl, rfl, rfl, rfl, hzhp43, hrhp43⟩ := hp43
              obtain ⟨z44, rfl, hz44⟩ := hrhp43
              refine z_ne (tgt := 82) hx hb dX8_settle_75 (by decide) (fun c75 => ?_) (fun c75 => ?_)
              · refine lv_iconst (v := 0) hx hb dX8_settle_82 (by decide) (ti_c 0 (by decide) fun z45 hz45 => ?_)
                refine r_zast C hw (hsh 38 _ rfl) (by omega) (by omega) (nar_b (by omega)) dX8_settle_83 (fun H locs hH hw => ?_)
                obtain ⟨ig46, eig46⟩ : ∃ f, f = up2 ig14 (B + 38) v12.toInt.toNat z45 := ⟨_, rfl⟩
                rw [← eig46] at hw
                have hN : Nx 950 B none kd ig rg lg kd13 ig46 rg15 lg16 := by rw [eig46]; exact hN.pi (by omega)
                have hI : IC τ B kd13 ig46 rg15 := by rw [eig46]; exact hI.pi (show okR none _ from trivial)
                have hLv : LV κ B σ ν ig46 lg16 := by rw [eig46]; exact hLv.w (by decide)
                refine tc_inc hx hb dX8_settle_84 hl (k := 1) rfl (by decide) (by decide) (fun z47 hz47 ls hl => ?_)
                first | replace hz47 := hz47 (by omega) | clear hz47
                have hl : lv_has ls 3 [(1, .int z47), (2, .ref f24), (0, .ref (B + 37))] := hl
                refine lv_goto (tgt := 35) hx hb dX8_settle_87 (by decide) ?_
                exact ih35 ls H locs kd13 ig46 rg15 lg16 z47 (lv_sub hl [0, 2] rfl) hw hI hN (by omega) (by omega) (hLv) (by omega)
              · refine lv_iconst (v := 1) hx hb dX8_settle_78 (by decide) (ti_c 1 (by decide) fun z48 hz48 => ?_)
                refine lv_goto (tgt := 83) hx hb dX8_settle_79 (by decide) ?_
                refine r_zast C hw (hsh 38 _ rfl) (by omega) (by omega) (nar_b (by omega)) dX8_settle_83 (fun H locs hH hw => ?_)
                obtain ⟨ig49, eig49⟩ : ∃ f, f = up2 ig14 (B + 38) v12.toInt.toNat z48 := ⟨_, rfl⟩
                rw [← eig49] at hw
                have hN : Nx 950 B none kd ig rg lg kd13 ig49 rg15 lg16 := by rw [eig49]; exact hN.pi (by omega)
                have hI : IC τ B kd13 ig49 rg15 := by rw [eig49]; exact hI.pi (show okR none _ from trivial)
                have hLv : LV κ B σ ν ig49 lg16 := by rw [eig49]; exact hLv.w (by decide)
                refine tc_inc hx hb dX8_settle_84 hl (k := 1) rfl (by decide) (by decide) (fun z50 hz50 ls hl => ?_)
                first | replace hz50 := hz50 (by omega) | clear hz50
                have hl : lv_has ls 3 [(1, .int z50), (2, .ref f24), (0, .ref (B + 37))] := hl
                refine lv_goto (tgt := 35) hx hb dX8_settle_87 (by decide) ?_
                exact ih35 ls H locs kd13 ig49 rg15 lg16 z50 (lv_sub hl [0, 2] rfl) hw hI hN (by omega) (by omega) (hLv) (by omega)
    exact L35 ((288 - z11.toInt) + 1).toNat ls H locs kd5 ig6 rg7 lg8 z11 (lv_sub hl [0, 1] rfl) hw hI hN (by omega) (by omega) (hLv) (by omega)
  · exact r_vret C hw hr hlk (Nat.le_of_ble_eq_true rfl) (Nat.le_of_ble_eq_true rfl) dX8_settle_14 ⟨hI, hN, ⟨rfl, hLv⟩⟩

set_option maxHeartbeats 4000000 in
set_option maxRecDepth 100000 in
theorem t_X11_checkK {κ : Int} {τ : Tp} (l : Launch) (B : Nat) (D : va_G) (cA : Nat → ClassId) (kd : sK) (ig : sI) (rg : sR) (lg : sG) (sz : Nat) (σ : Sg) (π : Ps) (ν : Nat) (hS : SCh B σ π ν kd ig rg) (hV : FV B σ ν ig) (hν : ν < 1000000) (hLv : LV κ B σ ν ig lg) (hVv : VV B σ ν ig) (hW : WS σ π) (hHt : HtS σ) (hI : IC τ B kd ig rg) : MC l B D cA yX11_check cX11_check 1 (some .int) (rL 7 0 0) [.ref (B + 0)] kd ig rg lg sz (PI 786 τ B none kd ig rg lg (fun r kd' ig' rg' lg' => ∃ z : Int32, r = some (.int z) ∧ (SCh B σ π ν kd' ig' rg' ∧ FV B σ ν ig' ∧ LV κ B σ ν ig' lg' ∧ VV B σ ν ig'))) := by
  refine MC.of (own := RX11) (by decide +kernel) rfl (Nat.le_of_ble_eq_true rfl) ?_
  intro p e s m args below meth c ls C hr hlk hnm hw hsz hl
  have hx := C.1.1
  have hb := C.1.2.1
  have hown := C.1.2.2.2.1
  have hts := C.1.2.2.2.2
  have hl : lv_has ls 1 [(0, .ref (B + 0))] := hl
  have hN : Nx 786 B none kd ig rg lg kd ig rg lg := Nx.rf
  have hsh := hI.sh
  have hrs := hI.rs
  refine lv_aload_n hx hb dX11_check_0 rfl (lv_at hl 0 rfl) ?_
  refine r_get C hw (hsh 0 _ rfl) fl_X11_44 (oV_r rfl (hrs (0, 4, 29) (by decide))) dX11_check_1 ?_
  refine r_callV (As := []) (rest := []) C hw (t_X2_settleE l B D cA kd ig rg lg _  σ π ν hS hV hI) sv_X11_140 (hsh 29 _ rfl) rfl hl.1 rfl (Nat.le_of_ble_eq_true rfl) ⟨Nat.le_of_ble_eq_true rfl, Nat.le_of_ble_eq_true rfl⟩ ⟨Nat.le_of_ble_eq_true rfl, Nat.le_of_ble_eq_true rfl⟩ dX11_check_4 (fun r5 kd1 ig2 rg3 lg4 H locs hw hH hp6 => ?_)
  obtain ⟨hI, hchp6, hrhp6⟩ := hp6
  have hN := hN.tr hchp6
  have hsh := hI.sh
  have hrs := hI.rs
  have hV := FV.of hrhp6.2.1 hrhp6.2.2
  have hS := SCh.nx hS hchp6
  have hLv := LV.nx hLv hchp6
  have hVv := VV.nx hVv hchp6
  obtain ⟨rfl, hvhp6⟩ := hrhp6
  refine lv_aload_n hx hb dX11_check_7 rfl (lv_at hl 0 rfl) ?_
  refine r_get C hw (hsh 0 _ rfl) fl_X11_51 (oV_r rfl (hrs (0, 5, 32) (by decide))) dX11_check_8 ?_
  refine r_callV (As := []) (rest := []) C hw (t_X9_settleE l B D cA kd1 ig2 rg3 lg4 _  σ π ν hS hLv hW hI) sv_X11_143 (hsh 32 _ rfl) rfl hl.1 rfl (Nat.le_of_ble_eq_true rfl) ⟨Nat.le_of_ble_eq_true rfl, Nat.le_of_ble_eq_true rfl⟩ ⟨Nat.le_of_ble_eq_true rfl, Nat.le_of_ble_eq_true rfl⟩ dX11_check_11 (fun r11 kd7 ig8 rg9 lg10 H locs hw hH hp12 => ?_)
  obtain ⟨hI, hchp12, hrhp12⟩ := hp12
  have hN := hN.tr hchp12
  have hsh := hI.sh
  have hrs := hI.rs
  have hLv := hrhp12.2
  have hS := SCh.nx hS hchp12
  have hV := FV.nx hV hchp12
  have hVv := VV.nx hVv hchp12
  obtain ⟨rfl, hvhp12⟩ := hrhp12
  refine lv_aload_n hx hb dX11_check_14 rfl (lv_at hl 0 rfl) ?_
  refine r_get C hw (hsh 0 _ rfl) fl_X11_58 (oV_r rfl (hrs (0, 6, 37) (by decide))) dX11_check_15 ?_
  refine r_callV (As := []) (rest := []) C hw (t_X8_settleE l B D cA kd7 ig8 rg9 lg10 _  σ π ν hS hLv hW hI) sv_X11_144 (hsh 37 _ rfl) rfl hl.1 rfl (Nat.le_of_ble_eq_true rfl) ⟨Nat.le_of_ble_eq_true rfl, Nat.le_of_ble_eq_true rfl⟩ ⟨Nat.le_of_ble_eq_true rfl, Nat.le_of_ble_eq_true rfl⟩ dX11_check_18 (fun r17 kd13 ig14 rg15 lg16 H locs hw hH hp18 => ?_)
  obtain ⟨hI, hchp18, hrhp18⟩ := hp18
  have hN := hN.tr hchp18
  have hsh := hI.sh
  have hrs := hI.rs
  have hLv := hrhp18.2
  have hS := SCh.nx hS hchp18
  have hV := FV.nx hV hchp18
  have hVv := VV.nx hVv hchp18
  obtain ⟨rfl, hvhp18⟩ := hrhp18
  refine lv_aload_n hx hb dX11_check_21 rfl (lv_at hl 0 rfl) ?_
  refine r_get C hw (hsh 0 _ rfl) fl_X11_67 (oV_r rfl (hrs (0, 7, 43) (by decide))) dX11_check_22 ?_
  refine r_callV (As := []) (rest := []) C hw (t_X3_gather l B D cA kd13 ig14 rg15 lg16 _   hI) sv_X11_145 (hsh 43 _ rfl) rfl hl.1 rfl (Nat.le_of_ble_eq_true rfl) ⟨Nat.le_of_ble_eq_true rfl, Nat.le_of_ble_eq_true rfl⟩ ⟨Nat.le_of_ble_eq_true rfl, Nat.le_of_ble_eq_true rfl⟩ dX11_check_25 (fun r23 kd19 ig20 rg21 lg22 H locs hw hH hp24 => ?_)
  obtain ⟨hI, hchp24, hrhp24⟩ := hp24
  have hN := hN.tr hchp24
  have hsh := hI.sh
  have hrs := hI.rs
  have hS := SCh.nx hS hchp24
  have hV := FV.nx hV hchp24
  have hLv := LV.nx hLv hchp24
  have hVv := VV.nx hVv hchp24
  obtain ⟨z25, rfl, hz25⟩ := hrhp24
  exact r_iret C hw hr hlk rfl (Nat.le_of_ble_eq_true rfl) (Nat.le_of_ble_eq_true rfl) dX11_check_28 ⟨hI, hN, ⟨_, rfl, ⟨hS, hV, hLv, hVv⟩⟩⟩

set_option maxHeartbeats 4000000 in
set_option maxRecDepth 100000 in
theorem t_X11_countK {κ : Int} {τ : Tp} (l : Launch) (B : Nat) (D : va_G) (cA : Nat → ClassId) (kd : sK) (ig : sI) (rg : sR) (lg : sG) (sz : Nat) (x : Int32) (σ : Sg) (π : Ps) (ν : Nat) (hS : SCh B σ π ν kd ig rg) (hV : FV B σ ν ig) (hν : ν < 1000000) (hLv : LV κ B σ ν ig lg) (hVv : VV B σ ν ig) (hW : WS σ π) (hHt : HtS σ) (hI : IC τ B kd ig rg) : MC l B D cA yX11_count cX11_count 2 (some .int) (rL 7 0 0) [.ref (B + 0), .int x] kd ig rg lg sz (PI 994 τ B none kd ig rg lg (fun r kd' ig' rg' lg' => ∃ z : Int32, r = some (.int z) ∧ (SCh B σ π ν kd' ig' rg' ∧ FV B σ ν ig' ∧ LV κ B σ ν ig' lg' ∧ VV B σ ν ig'))) := by
  refine MC.of (own := RX11) (by decide +kernel) rfl (Nat.le_of_ble_eq_true rfl) ?_
  intro p e s m args below meth c ls C hr hlk hnm hw hsz hl
  have hx := C.1.1
  have hb := C.1.2.1
  have hown := C.1.2.2.2.1
  have hts := C.1.2.2.2.2
  have hl : lv_has ls 2 [(0, .ref (B + 0)), (1, .int x)] := hl
  have hN : Nx 994 B none kd ig rg lg kd ig rg lg := Nx.rf
  have hsh := hI.sh
  have hrs := hI.rs
  refine lv_iload_n hx hb dX11_count_0 rfl (lv_at hl 1 rfl) ?_
  by_cases s1_0 : x.toInt = 0
  · refine lv_tableIn hx hb dX11_count_1 (by omega) (by omega) (off := 39) (by rw [s1_0]; rfl) (tgt := 40) (by decide) ?_
    refine lv_aload_n hx hb dX11_count_40 rfl (lv_at hl 0 rfl) ?_
    refine r_get C hw (hsh 0 _ rfl) fl_X11_19 (oV_r rfl (hrs (0, 1, 9) (by decide))) dX11_count_41 ?_
    refine lv_iconst (v := 1) hx hb dX11_count_44 (by decide) (ti_c 1 (by decide) fun z1 hz1 => ?_)
    refine r_callV (As := [.int z1]) (rest := []) C hw (t_X6_cellsOfKind l B D cA kd ig rg lg _ z1  hI) sv_X11_212 (hsh 9 _ rfl) rfl hl.1 rfl (Nat.le_of_ble_eq_true rfl) ⟨Nat.le_of_ble_eq_true rfl, Nat.le_of_ble_eq_true rfl⟩ ⟨Nat.le_of_ble_eq_true rfl, Nat.le_of_ble_eq_true rfl⟩ dX11_count_45 (fun r6 kd2 ig3 rg4 lg5 H locs hw hH hp7 => ?_)
    obtain ⟨rfl, rfl, rfl, rfl, hzhp7, hrhp7⟩ := hp7
    obtain ⟨z8, rfl, hz8⟩ := hrhp7
    exact r_iret C hw hr hlk rfl (Nat.le_of_ble_eq_true rfl) (Nat.le_of_ble_eq_true rfl) dX11_count_48 ⟨hI, hN, ⟨_, rfl, ⟨hS, hV, hLv, hVv⟩⟩⟩
  by_cases s1_1 : x.toInt = 1
  · refine lv_tableIn hx hb dX11_count_1 (by omega) (by omega) (off := 48) (by rw [s1_1]; rfl) (tgt := 49) (by decide) ?_
    refine lv_aload_n hx hb dX11_count_49 rfl (lv_at hl 0 rfl) ?_
    refine r_get C hw (hsh 0 _ rfl) fl_X11_19 (oV_r rfl (hrs (0, 1, 9) (by decide))) dX11_count_50 ?_
    refine lv_iconst (v := 2) hx hb dX11_count_53 (by decide) (ti_c 2 (by decide) fun z9 hz9 => ?_)
    refine r_callV (As := [.int z9]) (rest := []) C hw (t_X6_cellsOfKind l B D cA kd ig rg lg _ z9  hI) sv_X11_212 (hsh 9 _ rfl) rfl hl.1 rfl (Nat.le_of_ble_eq_true rfl) ⟨Nat.le_of_ble_eq_true rfl, Nat.le_of_ble_eq_true rfl⟩ ⟨Nat.le_of_ble_eq_true rfl, Nat.le_of_ble_eq_true rfl⟩ dX11_count_54 (fun r14 kd10 ig11 rg12 lg13 H locs hw hH hp15 => ?_)
    obtain ⟨rfl, rfl, rfl, rfl, hzhp15, hrhp15⟩ := hp15
    obtain ⟨z16, rfl, hz16⟩ := hrhp15
    exact r_iret C hw hr hlk rfl (Nat.le_of_ble_eq_true rfl) (Nat.le_of_ble_eq_true rfl) dX11_count_57 ⟨hI, hN, ⟨_, rfl, ⟨hS, hV, hLv, hVv⟩⟩⟩
  by_cases s1_2 : x.toInt = 2
  · refine lv_tableIn hx hb dX11_count_1 (by omega) (by omega) (off := 57) (by rw [s1_2]; rfl) (tgt := 58) (by decide) ?_
    refine lv_aload_n hx hb dX11_count_58 rfl (lv_at hl 0 rfl) ?_
    refine r_get C hw (hsh 0 _ rfl) fl_X11_44 (oV_r rfl (hrs (0, 4, 29) (by decide))) dX11_count_59 ?_
    refine r_callV (As := []) (rest := []) C hw (t_X2_settleE l B D cA kd ig rg lg _  σ π ν hS hV hI) sv_X11_140 (hsh 29 _ rfl) rfl hl.1 rfl (Nat.le_of_ble_eq_true rfl) ⟨Nat.le_of_ble_eq_true rfl, Nat.le_of_ble_eq_true rfl⟩ ⟨Nat.le_of_ble_eq_true rfl, Nat.le_of_ble_eq_true rfl⟩ dX11_count_62 (fun r21 kd17 ig18 rg19 lg20 H locs hw hH hp22 => ?_)
    obtain ⟨hI, hchp22, hrhp22⟩ := hp22
    have hN := hN.tr hchp22
    have hsh := hI.sh
    have hrs := hI.rs
    have hV := FV.of hrhp22.2.1 hrhp22.2.2
    have hS := SCh.nx hS hchp22
    have hLv := LV.nx hLv hchp22
    have hVv := VV.nx hVv hchp22
    obtain ⟨rfl, hvhp22⟩ := hrhp22
    refine lv_aload_n hx hb dX11_count_65 rfl (lv_at hl 0 rfl) ?_
    refine r_get C hw (hsh 0 _ rfl) fl_X11_44 (oV_r rfl (hrs (0, 4, 29) (by decide))) dX11_count_66 ?_
    refine r_get C hw (hsh 29 _ rfl) fl_X11_215 (oV_i rfl) dX11_count_69 (ti_c (ig18 (B + 29) 3).toInt rfl fun z23 hz23 => ?_)
    have k24 : 0 ≤ (ig18 (B + 29) 3).toInt ∧ (ig18 (B + 29) 3).toInt ≤ 288 := hI.i 29 3 (by decide)
    exact r_iret C hw hr hlk rfl (Nat.le_of_ble_eq_true rfl) (Nat.le_of_ble_eq_true rfl) dX11_count_72 ⟨hI, hN, ⟨_, rfl, ⟨hS, hV, hLv, hVv⟩⟩⟩
  by_cases s1_3 : x.toInt = 3
  · refine lv_tableIn hx hb dX11_count_1 (by omega) (by omega) (off := 72) (by rw [s1_3]; rfl) (tgt := 73) (by decide) ?_
    refine lv_aload_n hx hb dX11_count_73 rfl (lv_at hl 0 rfl) ?_
    refine r_get C hw (hsh 0 _ rfl) fl_X11_37 (oV_r rfl (hrs (0, 3, 24) (by decide))) dX11_count_74 ?_
    refine r_callV (As := []) (rest := []) C hw (t_X10_settleE l B D cA kd ig rg lg _  σ π ν hS hLv hVv hW hHt hI) sv_X11_159 (hsh 24 _ rfl) rfl hl.1 rfl (Nat.le_of_ble_eq_true rfl) ⟨Nat.le_of_ble_eq_true rfl, Nat.le_of_ble_eq_true rfl⟩ ⟨Nat.le_of_ble_eq_true rfl, Nat.le_of_ble_eq_true rfl⟩ dX11_count_77 (fun r29 kd25 ig26 rg27 lg28 H locs hw hH hp30 => ?_)
    obtain ⟨hI, hchp30, hrhp30⟩ := hp30
    have hN := hN.tr hchp30
    have hsh := hI.sh
    have hrs := hI.rs
    have hLv := hrhp30.2.1.2.2
    have hVk := hrhp30.2.1.1
    have hVv := VV.of hrhp30.2.1.1 hrhp30.2.1.2.1
    have hS := SCh.nx hS hchp30
    have hV := FV.nx hV hchp30
    obtain ⟨rfl, hvhp30⟩ := hrhp30
    refine lv_aload_n hx hb dX11_count_80 rfl (lv_at hl 0 rfl) ?_
    refine r_get C hw (hsh 0 _ rfl) fl_X11_37 (oV_r rfl (hrs (0, 3, 24) (by decide))) dX11_count_81 ?_
    refine r_callV (As := []) (rest := []) C hw (t_X10_errors l B D cA kd25 ig26 rg27 lg28 _   hI) sv_X11_218 (hsh 24 _ rfl) rfl hl.1 rfl (Nat.le_of_ble_eq_true rfl) ⟨Nat.le_of_ble_eq_true rfl, Nat.le_of_ble_eq_true rfl⟩ ⟨Nat.le_of_ble_eq_true rfl, Nat.le_of_ble_eq_true rfl⟩ dX11_count_84 (fun r35 kd31 ig32 rg33 lg34 H locs hw hH hp36 => ?_)
    obtain ⟨rfl, rfl, rfl, rfl, hzhp36, hrhp36⟩ := hp36
    obtain ⟨z37, rfl, hz37⟩ := hrhp36
    exact r_iret C hw hr hlk rfl (Nat.le_of_ble_eq_true rfl) (Nat.le_of_ble_eq_true rfl) dX11_count_87 ⟨hI, hN, ⟨_, rfl, ⟨hS, hV, hLv, hVv⟩⟩⟩
  by_cases s1_4 : x.toInt = 4
  · refine lv_tableIn hx hb dX11_count_1 (by omega) (by omega) (off := 87) (by rw [s1_4]; rfl) (tgt := 88) (by decide) ?_
    refine lv_aload_n hx hb dX11_count_88 rfl (lv_at hl 0 rfl) ?_
    refine r_get C hw (hsh 0 _ rfl) fl_X11_12 (oV_r rfl (hrs (0, 0, 1) (by decide))) dX11_count_89 ?_
    refine r_get C hw (hsh 1 _ rfl) fl_X11_84 (oV_i rfl) dX11_count_92 (ti_c (ig (B + 1) 1).toInt rfl fun z38 hz38 => ?_)
    have k39 : 0 ≤ (ig (B + 1) 1).toInt ∧ (ig (B + 1) 1).toInt ≤ 120 := hI.i 1 1 (by decide)
    exact r_iret C hw hr hlk rfl (Nat.le_of_ble_eq_true rfl) (Nat.le_of_ble_eq_true rfl) dX11_count_95 ⟨hI, hN, ⟨_, rfl, ⟨hS, hV, hLv, hVv⟩⟩⟩
  by_cases s1_5 : x.toInt = 5
  · refine lv_tableIn hx hb dX11_count_1 (by omega) (by omega) (off := 95) (by rw [s1_5]; rfl) (tgt := 96) (by decide) ?_
    refine lv_aload_n hx hb dX11_count_96 rfl (lv_at hl 0 rfl) ?_
    refine r_get C hw (hsh 0 _ rfl) fl_X11_19 (oV_r rfl (hrs (0, 1, 9) (by decide))) dX11_count_97 ?_
    refine r_get C hw (hsh 9 _ rfl) fl_X11_171 (oV_i rfl) dX11_count_100 (ti_c (ig (B + 9) 5).toInt rfl fun z40 hz40 => ?_)
    have k41 : 0 ≤ (ig (B + 9) 5).toInt ∧ (ig (B + 9) 5).toInt ≤ 20 := hI.i 9 5 (by decide)
    exact r_iret C hw hr hlk rfl (Nat.le_of_ble_eq_true rfl) (Nat.le_of_ble_eq_true rfl) dX11_count_103 ⟨hI, hN, ⟨_, rfl, ⟨hS, hV, hLv, hVv⟩⟩⟩
  refine lv_tableOut hx hb dX11_count_1 (by omega) (tgt := 104) (by decide) ?_
  refine lv_iconst (v := (-1)) hx hb dX11_count_104 (by decide) (ti_c (-1) (by decide) fun z42 hz42 => ?_)
  exact r_iret C hw hr hlk rfl (Nat.le_of_ble_eq_true rfl) (Nat.le_of_ble_eq_true rfl) dX11_count_105 ⟨hI, hN, ⟨_, rfl, ⟨hS, hV, hLv, hVv⟩⟩⟩

set_option maxHeartbeats 4000000 in
set_option maxRecDepth 100000 in
theorem t_X11_waysK {κ : Int} {τ : Tp} (l : Launch) (B : Nat) (D : va_G) (cA : Nat → ClassId) (kd : sK) (ig : sI) (rg : sR) (lg : sG) (sz : Nat) (x : Int32) (y : Int32) (σ : Sg) (π : Ps) (ν : Nat) (hS : SCh B σ π ν kd ig rg) (hV : FV B σ ν ig) (hν : ν < 1000000) (hLv : LV κ B σ ν ig lg) (hVv : VV B σ ν ig) (hW : WS σ π) (hHt : HtS σ) (hI : IC τ B kd ig rg) : MC l B D cA yX11_ways cX11_ways 3 (some .int) (rL 7 0 0) [.ref (B + 0), .int x, .int y] kd ig rg lg sz (PI 950 τ B none kd ig rg lg (fun r kd' ig' rg' lg' => ∃ z : Int32, r = some (.int z) ∧ (SCh B σ π ν kd' ig' rg' ∧ FV B σ ν ig' ∧ LV κ B σ ν ig' lg' ∧ VV B σ ν ig'))) := by
  refine MC.of (own := RX11) (by decide +kernel) rfl (Nat.le_of_ble_eq_true rfl) ?_
  intro p e s m args below meth c ls C hr hlk hnm hw hsz hl
  have hx := C.1.1
  have hb := C.1.2.1
  have hown := C.1.2.2.2.1
  have hts := C.1.2.2.2.2
  have hl : lv_has ls 3 [(0, .ref (B + 0)), (1, .int x), (2, .int y)] := hl
  have hN : Nx 950 B none kd ig rg lg kd ig rg lg := Nx.rf
  have hsh := hI.sh
  have hrs := hI.rs
  refine lv_iload_n hx hb dX11_ways_0 rfl (lv_at hl 1 rfl) ?_
  refine r_callS (As := [.int x]) (rest := []) C hw (t_X11_onSheet l B D cA kd ig rg lg _ x  hI) ss_X11_88 rfl hl.1 rfl (Nat.le_of_ble_eq_true rfl) ⟨Nat.le_of_ble_eq_true rfl, Nat.le_of_ble_eq_true rfl⟩ ⟨Nat.le_of_ble_eq_true rfl, Nat.le_of_ble_eq_true rfl⟩ dX11_ways_1 (fun r5 kd1 ig2 rg3 lg4 H locs hw hH hp6 => ?_)
  obtain ⟨rfl, rfl, rfl, rfl, hzhp6, hrhp6⟩ := hp6
  obtain ⟨z7, rfl, hz7⟩ := hrhp6
  refine z_eq (tgt := 14) hx hb dX11_ways_4 (by decide) (fun c4 => ?_) (fun c4 => ?_)
  · refine lv_iconst (v := (-1)) hx hb dX11_ways_14 (by decide) (ti_c (-1) (by decide) fun z8 hz8 => ?_)
    exact r_iret C hw hr hlk rfl (Nat.le_of_ble_eq_true rfl) (Nat.le_of_ble_eq_true rfl) dX11_ways_15 ⟨hI, hN, ⟨_, rfl, ⟨hS, hV, hLv, hVv⟩⟩⟩
  · refine lv_iload_n hx hb dX11_ways_7 rfl (lv_at hl 2 rfl) ?_
    refine r_callS (As := [.int y]) (rest := []) C hw (t_X11_onSheet l B D cA kd ig rg lg _ y  hI) ss_X11_88 rfl hl.1 rfl (Nat.le_of_ble_eq_true rfl) ⟨Nat.le_of_ble_eq_true rfl, Nat.le_of_ble_eq_true rfl⟩ ⟨Nat.le_of_ble_eq_true rfl, Nat.le_of_ble_eq_true rfl⟩ dX11_ways_8 (fun r13 kd9 ig10 rg11 lg12 H locs hw hH hp14 => ?_)
    obtain ⟨rfl, rfl, rfl, rfl, hzhp14, hrhp14⟩ := hp14
    obtain ⟨z15, rfl, hz15⟩ := hrhp14
    refine z_ne (tgt := 16) hx hb dX11_ways_11 (by decide) (fun c11 => ?_) (fun c11 => ?_)
    · refine lv_aload_n hx hb dX11_ways_16 rfl (lv_at hl 0 rfl) ?_
      refine r_get C hw (hsh 0 _ rfl) fl_X11_58 (oV_r rfl (hrs (0, 6, 37) (by decide))) dX11_ways_17 ?_
      refine r_callV (As := []) (rest := []) C hw (t_X8_settleE l B D cA kd ig rg lg _  σ π ν hS hLv hW hI) sv_X11_144 (hsh 37 _ rfl) rfl hl.1 rfl (Nat.le_of_ble_eq_true rfl) ⟨Nat.le_of_ble_eq_true rfl, Nat.le_of_ble_eq_true rfl⟩ ⟨Nat.le_of_ble_eq_true rfl, Nat.le_of_ble_eq_true rfl⟩ dX11_ways_20 (fun r20 kd16 ig17 rg18 lg19 H locs hw hH hp21 => ?_)
      obtain ⟨hI, hchp21, hrhp21⟩ := hp21
      have hN := hN.tr hchp21
      have hsh := hI.sh
      have hrs := hI.rs
      have hLv := hrhp21.2
      have hS := SCh.nx hS hchp21
      have hV := FV.nx hV hchp21
      have hVv := VV.nx hVv hchp21
      obtain ⟨rfl, hvhp21⟩ := hrhp21
      refine lv_aload_n hx hb dX11_ways_23 rfl (lv_at hl 0 rfl) ?_
      refine r_get C hw (hsh 0 _ rfl) fl_X11_58 (oV_r rfl (hrs (0, 6, 37) (by decide))) dX11_ways_24 ?_
      refine lv_iload_n hx hb dX11_ways_27 rfl (lv_at hl 2 rfl) ?_
      refine r_callV (As := [.int y]) (rest := []) C hw (t_X8_isTotal l B D cA kd16 ig17 rg18 lg19 _ y  hI) sv_X11_196 (hsh 37 _ rfl) rfl hl.1 rfl (Nat.le_of_ble_eq_true rfl) ⟨Nat.le_of_ble_eq_true rfl, Nat.le_of_ble_eq_true rfl⟩ ⟨Nat.le_of_ble_eq_true rfl, Nat.le_of_ble_eq_true rfl⟩ dX11_ways_28 (fun r26 kd22 ig23 rg24 lg25 H locs hw hH hp27 => ?_)
      obtain ⟨rfl, rfl, rfl, rfl, hzhp27, hrhp27⟩ := hp27
      obtain ⟨z28, rfl, hz28⟩ := hrhp27
      refine z_eq (tgt := 46) hx hb dX11_ways_31 (by decide) (fun c31 => ?_) (fun c31 => ?_)
      · refine lv_iconst (v := (-1)) hx hb dX11_ways_46 (by decide) (ti_c (-1) (by decide) fun z29 hz29 => ?_)
        exact r_iret C hw hr hlk rfl (Nat.le_of_ble_eq_true rfl) (Nat.le_of_ble_eq_true rfl) dX11_ways_47 ⟨hI, hN, ⟨_, rfl, ⟨hS, hV, hLv, hVv⟩⟩⟩
      · refine lv_aload_n hx hb dX11_ways_34 rfl (lv_at hl 0 rfl) ?_
        refine r_get C hw (hsh 0 _ rfl) fl_X11_58 (oV_r rfl (hrs (0, 6, 37) (by decide))) dX11_ways_35 ?_
        refine lv_iload_n hx hb dX11_ways_38 rfl (lv_at hl 1 rfl) ?_
        refine lv_iload_n hx hb dX11_ways_39 rfl (lv_at hl 2 rfl) ?_
        refine r_callV (As := [.int x, .int y]) (rest := []) C hw (t_X8_waysInto l B D cA kd16 ig17 rg18 lg19 _ x y  hI) sv_X11_209 (hsh 37 _ rfl) rfl hl.1 rfl (Nat.le_of_ble_eq_true rfl) ⟨Nat.le_of_ble_eq_true rfl, Nat.le_of_ble_eq_true rfl⟩ ⟨Nat.le_of_ble_eq_true rfl, Nat.le_of_ble_eq_true rfl⟩ dX11_ways_40 (fun r34 kd30 ig31 rg32 lg33 H locs hw hH hp35 => ?_)
        obtain ⟨hI, hchp35, hrhp35⟩ := hp35
        have hN := hN.tr hchp35
        have hsh := hI.sh
        have hrs := hI.rs
        have hS := SCh.nx hS hchp35
        have hV := FV.nx hV hchp35
        have hLv := LV.nx hLv hchp35
        have hVv := VV.nx hVv hchp35
        obtain ⟨z36, rfl, hz36⟩ := hrhp35
        refine lv_goto (tgt := 47) hx hb dX11_ways_43 (by decide) ?_
        exact r_iret C hw hr hlk rfl (Nat.le_of_ble_eq_true rfl) (Nat.le_of_ble_eq_true rfl) dX11_ways_47 ⟨hI, hN, ⟨_, rfl, ⟨hS, hV, hLv, hVv⟩⟩⟩
    · refine lv_iconst (v := (-1)) hx hb dX11_ways_14 (by decide) (ti_c (-1) (by decide) fun z37 hz37 => ?_)
      exact r_iret C hw hr hlk rfl (Nat.le_of_ble_eq_true rfl) (Nat.le_of_ble_eq_true rfl) dX11_ways_15 ⟨hI, hN, ⟨_, rfl, ⟨hS, hV, hLv, hVv⟩⟩⟩

set_option maxHeartbeats 4000000 in
set_option maxRecDepth 100000 in
theorem t_X11_cellK {κ : Int} {τ : Tp} (l : Launch) (B : Nat) (D : va_G) (cA : Nat → ClassId) (kd : sK) (ig : sI) (rg : sR) (lg : sG) (sz : Nat) (x : Int32) (y : Int32) (hst : l.stackTraces = false) (σ : Sg) (π : Ps) (ν : Nat) (hS : SCh B σ π ν kd ig rg) (hV : FV B σ ν ig) (hν : ν < 1000000) (hLv : LV κ B σ ν ig lg) (hVv : VV B σ ν ig) (hW : WS σ π) (hHt : HtS σ) (hI : IC τ B kd ig rg) : MX l B D cA yX11_cell cX11_cell 3 (some .int) (rL 7 1 6) [.ref (B + 0), .int x, .int y] kd ig rg lg sz False (PI 898 τ B none kd ig rg lg (fun r kd' ig' rg' lg' => ∃ z : Int32, r = some (.int z) ∧ (SCh B σ π ν kd' ig' rg' ∧ FV B σ ν ig' ∧ LV κ B σ ν ig' lg' ∧ VV B σ ν ig'))) := by
  refine MX.of (own := RX11) (by decide +kernel) rfl (Nat.le_of_ble_eq_true rfl) ?_
  intro p e s m args below meth c ls C hr hlk hnm hw hsz hl hnt
  have hx := C.1.1
  have hb := C.1.2.1
  have hown := C.1.2.2.2.1
  have hts := C.1.2.2.2.2
  have hl : lv_has ls 3 [(0, .ref (B + 0)), (1, .int x), (2, .int y)] := hl
  have hN : Nx 898 B none kd ig rg lg kd ig rg lg := Nx.rf
  have hsh := hI.sh
  have hrs := hI.rs
  obtain ⟨sa, hKX⟩ := C.2.2.2.2.1
  refine lv_iload_n hx hb dX11_cell_0 rfl (lv_at hl 1 rfl) ?_
  refine r_callS (As := [.int x]) (rest := []) C hw (t_X11_onSheet l B D cA kd ig rg lg _ x  hI) ss_X11_88 rfl hl.1 rfl (Nat.le_of_ble_eq_true rfl) ⟨Nat.le_of_ble_eq_true rfl, Nat.le_of_ble_eq_true rfl⟩ ⟨Nat.le_of_ble_eq_true rfl, Nat.le_of_ble_eq_true rfl⟩ dX11_cell_1 (fun r5 kd1 ig2 rg3 lg4 H locs hw hH hp6 => ?_)
  obtain ⟨rfl, rfl, rfl, rfl, hzhp6, hrhp6⟩ := hp6
  obtain ⟨z7, rfl, hz7⟩ := hrhp6
  refine z_eq (tgt := 17) hx hb dX11_cell_4 (by decide) (fun c4 => ?_) (fun c4 => ?_)
  · exact vx_throwX (pc := 17) (ix := 13) (rx := prog_27_method_4_code) (own := RX11) (cls := NSE) (names := NSEs) (ik := 177) (is := 179) (ic := 181) (sa := sa) hx hb hst (by decide +kernel) (by decide +kernel) (by decide +kernel) (by decide +kernel) hown (by decide +kernel) (by decide +kernel) (hts _ (TBg_in (atN_c _ (List.mem_cons_self)).1 (atN_c _ (List.mem_cons_self)).2)) (hts _ (TBg_in (atN_c _ (List.mem_cons_of_mem _ List.mem_cons_self)).1 (atN_c _ (List.mem_cons_of_mem _ List.mem_cons_self)).2)) hKX.2.1 (atN hts hKX.1) atN_o hKX.2.2.1 hKX.2.2.2 hw.2.2.1 (hl.1.trans C.1.2.2.1.symm) dX11_cell_17 dX11_cell_20 dX11_cell_21 dX11_cell_23 dX11_cell_26 (fun x hx => (hnt x hx).elim) (by decide) (by decide) (Nat.le_of_ble_eq_true rfl) (Nat.le_of_ble_eq_true rfl) hlk (XcW.now hw (fun h => h)) hw.2.2.1.2.2 (Nat.le_of_ble_eq_true rfl) (Nat.le_of_ble_eq_true rfl)
  · refine lv_iload_n hx hb dX11_cell_7 rfl (lv_at hl 2 rfl) ?_
    refine z_lt (tgt := 17) hx hb dX11_cell_8 (by decide) (fun c8 => ?_) (fun c8 => ?_)
    · exact vx_throwX (pc := 17) (ix := 13) (rx := prog_27_method_4_code) (own := RX11) (cls := NSE) (names := NSEs) (ik := 177) (is := 179) (ic := 181) (sa := sa) hx hb hst (by decide +kernel) (by decide +kernel) (by decide +kernel) (by decide +kernel) hown (by decide +kernel) (by decide +kernel) (hts _ (TBg_in (atN_c _ (List.mem_cons_self)).1 (atN_c _ (List.mem_cons_self)).2)) (hts _ (TBg_in (atN_c _ (List.mem_cons_of_mem _ List.mem_cons_self)).1 (atN_c _ (List.mem_cons_of_mem _ List.mem_cons_self)).2)) hKX.2.1 (atN hts hKX.1) atN_o hKX.2.2.1 hKX.2.2.2 hw.2.2.1 (hl.1.trans C.1.2.2.1.symm) dX11_cell_17 dX11_cell_20 dX11_cell_21 dX11_cell_23 dX11_cell_26 (fun x hx => (hnt x hx).elim) (by decide) (by decide) (Nat.le_of_ble_eq_true rfl) (Nat.le_of_ble_eq_true rfl) hlk (XcW.now hw (fun h => h)) hw.2.2.1.2.2 (Nat.le_of_ble_eq_true rfl) (Nat.le_of_ble_eq_true rfl)
    · refine lv_iload_n hx hb dX11_cell_11 rfl (lv_at hl 2 rfl) ?_
      refine lv_bipush (v := 10) hx hb dX11_cell_12 (by decide) (ti_c 10 (by decide) fun z8 hz8 => ?_)
      refine b_le (tgt := 27) hx hb dX11_cell_14 (by decide) (fun c14 => ?_) (fun c14 => ?_)
      · refine lv_iload_n hx hb dX11_cell_27 rfl (lv_at hl 2 rfl) ?_
        by_cases s28_0 : y.toInt = 0
        · refine lv_tableIn hx hb dX11_cell_28 (by omega) (by omega) (off := 56) (by rw [s28_0]; rfl) (tgt := 84) (by decide) ?_
          refine lv_aload_n hx hb dX11_cell_84 rfl (lv_at hl 0 rfl) ?_
          refine r_get C hw (hsh 0 _ rfl) fl_X11_19 (oV_r rfl (hrs (0, 1, 9) (by decide))) dX11_cell_85 ?_
          refine lv_iload_n hx hb dX11_cell_88 rfl (lv_at hl 1 rfl) ?_
          refine r_callV (As := [.int x]) (rest := []) C hw (t_X6_kindAt l B D cA kd ig rg lg _ x  hI) sv_X11_116 (hsh 9 _ rfl) rfl hl.1 rfl (Nat.le_of_ble_eq_true rfl) ⟨Nat.le_of_ble_eq_true rfl, Nat.le_of_ble_eq_true rfl⟩ ⟨Nat.le_of_ble_eq_true rfl, Nat.le_of_ble_eq_true rfl⟩ dX11_cell_89 (fun r13 kd9 ig10 rg11 lg12 H locs hw hH hp14 => ?_)
          obtain ⟨rfl, rfl, rfl, rfl, hzhp14, hrhp14⟩ := hp14
          obtain ⟨z15, rfl, hz15⟩ := hrhp14
          exact vx_ret (r_iret C hw hr hlk rfl (Nat.le_of_ble_eq_true rfl) (Nat.le_of_ble_eq_true rfl) dX11_cell_92 ⟨hI, hN, ⟨_, rfl, ⟨hS, hV, hLv, hVv⟩⟩⟩)
        by_cases s28_1 : y.toInt = 1
        · refine lv_tableIn hx hb dX11_cell_28 (by omega) (by omega) (off := 65) (by rw [s28_1]; rfl) (tgt := 93) (by decide) ?_
          refine lv_aload_n hx hb dX11_cell_93 rfl (lv_at hl 0 rfl) ?_
          refine r_get C hw (hsh 0 _ rfl) fl_X11_37 (oV_r rfl (hrs (0, 3, 24) (by decide))) dX11_cell_94 ?_
          refine r_callV (As := []) (rest := []) C hw (t_X10_settleE l B D cA kd ig rg lg _  σ π ν hS hLv hVv hW hHt hI) sv_X11_159 (hsh 24 _ rfl) rfl hl.1 rfl (Nat.le_of_ble_eq_true rfl) ⟨Nat.le_of_ble_eq_true rfl, Nat.le_of_ble_eq_true rfl⟩ ⟨Nat.le_of_ble_eq_true rfl, Nat.le_of_ble_eq_true rfl⟩ dX11_cell_97 (fun r20 kd16 ig17 rg18 lg19 H locs hw hH hp21 => ?_)
          obtain ⟨hI, hchp21, hrhp21⟩ := hp21
          have hN := hN.tr hchp21
          have hsh := hI.sh
          have hrs := hI.rs
          have hLv := hrhp21.2.1.2.2
          have hVk := hrhp21.2.1.1
          have hVv := VV.of hrhp21.2.1.1 hrhp21.2.1.2.1
          have hS := SCh.nx hS hchp21
          have hV := FV.nx hV hchp21
          obtain ⟨rfl, hvhp21⟩ := hrhp21
          refine lv_aload_n hx hb dX11_cell_100 rfl (lv_at hl 0 rfl) ?_
          refine r_get C hw (hsh 0 _ rfl) fl_X11_37 (oV_r rfl (hrs (0, 3, 24) (by decide))) dX11_cell_101 ?_
          refine lv_iload_n hx hb dX11_cell_104 rfl (lv_at hl 1 rfl) ?_
          refine r_callV (As := [.int x]) (rest := []) C hw (t_X10_valueAt l B D cA kd16 ig17 rg18 lg19 _ x  hI) sv_X11_184 (hsh 24 _ rfl) rfl hl.1 rfl (Nat.le_of_ble_eq_true rfl) ⟨Nat.le_of_ble_eq_true rfl, Nat.le_of_ble_eq_true rfl⟩ ⟨Nat.le_of_ble_eq_true rfl, Nat.le_of_ble_eq_true rfl⟩ dX11_cell_105 (fun r26 kd22 ig23 rg24 lg25 H locs hw hH hp27 => ?_)
          obtain ⟨rfl, rfl, rfl, rfl, hzhp27, hrhp27⟩ := hp27
          obtain ⟨z28, rfl, hz28⟩ := hrhp27
          exact vx_ret (r_iret C hw hr hlk rfl (Nat.le_of_ble_eq_true rfl) (Nat.le_of_ble_eq_true rfl) dX11_cell_108 ⟨hI, hN, ⟨_, rfl, ⟨hS, hV, hLv, hVv⟩⟩⟩)
        by_cases s28_2 : y.toInt = 2
        · refine lv_tableIn hx hb dX11_cell_28 (by omega) (by omega) (off := 81) (by rw [s28_2]; rfl) (tgt := 109) (by decide) ?_
          refine lv_aload_n hx hb dX11_cell_109 rfl (lv_at hl 0 rfl) ?_
          refine r_get C hw (hsh 0 _ rfl) fl_X11_37 (oV_r rfl (hrs (0, 3, 24) (by decide))) dX11_cell_110 ?_
          refine r_callV (As := []) (rest := []) C hw (t_X10_settleE l B D cA kd ig rg lg _  σ π ν hS hLv hVv hW hHt hI) sv_X11_159 (hsh 24 _ rfl) rfl hl.1 rfl (Nat.le_of_ble_eq_true rfl) ⟨Nat.le_of_ble_eq_true rfl, Nat.le_of_ble_eq_true rfl⟩ ⟨Nat.le_of_ble_eq_true rfl, Nat.le_of_ble_eq_true rfl⟩ dX11_cell_113 (fun r33 kd29 ig30 rg31 lg32 H locs hw hH hp34 => ?_)
          obtain ⟨hI, hchp34, hrhp34⟩ := hp34
          have hN := hN.tr hchp34
          have hsh := hI.sh
          have hrs := hI.rs
          have hLv := hrhp34.2.1.2.2
          have hVk := hrhp34.2.1.1
          have hVv := VV.of hrhp34.2.1.1 hrhp34.2.1.2.1
          have hS := SCh.nx hS hchp34
          have hV := FV.nx hV hchp34
          obtain ⟨rfl, hvhp34⟩ := hrhp34
          refine lv_aload_n hx hb dX11_cell_116 rfl (lv_at hl 0 rfl) ?_
          refine r_get C hw (hsh 0 _ rfl) fl_X11_37 (oV_r rfl (hrs (0, 3, 24) (by decide))) dX11_cell_117 ?_
          refine lv_iload_n hx hb dX11_cell_120 rfl (lv_at hl 1 rfl) ?_
          refine r_callV (As := [.int x]) (rest := []) C hw (t_X10_errorAt l B D cA kd29 ig30 rg31 lg32 _ x  hI) sv_X11_187 (hsh 24 _ rfl) rfl hl.1 rfl (Nat.le_of_ble_eq_true rfl) ⟨Nat.le_of_ble_eq_true rfl, Nat.le_of_ble_eq_true rfl⟩ ⟨Nat.le_of_ble_eq_true rfl, Nat.le_of_ble_eq_true rfl⟩ dX11_cell_121 (fun r39 kd35 ig36 rg37 lg38 H locs hw hH hp40 => ?_)
          obtain ⟨rfl, rfl, rfl, rfl, hzhp40, hrhp40⟩ := hp40
          obtain ⟨z41, rfl, hz41⟩ := hrhp40
          exact vx_ret (r_iret C hw hr hlk rfl (Nat.le_of_ble_eq_true rfl) (Nat.le_of_ble_eq_true rfl) dX11_cell_124 ⟨hI, hN, ⟨_, rfl, ⟨hS, hV, hLv, hVv⟩⟩⟩)
        by_cases s28_3 : y.toInt = 3
        · refine lv_tableIn hx hb dX11_cell_28 (by omega) (by omega) (off := 97) (by rw [s28_3]; rfl) (tgt := 125) (by decide) ?_
          refine lv_aload_n hx hb dX11_cell_125 rfl (lv_at hl 0 rfl) ?_
          refine r_get C hw (hsh 0 _ rfl) fl_X11_44 (oV_r rfl (hrs (0, 4, 29) (by decide))) dX11_cell_126 ?_
          refine r_callV (As := []) (rest := []) C hw (t_X2_settleE l B D cA kd ig rg lg _  σ π ν hS hV hI) sv_X11_140 (hsh 29 _ rfl) rfl hl.1 rfl (Nat.le_of_ble_eq_true rfl) ⟨Nat.le_of_ble_eq_true rfl, Nat.le_of_ble_eq_true rfl⟩ ⟨Nat.le_of_ble_eq_true rfl, Nat.le_of_ble_eq_true rfl⟩ dX11_cell_129 (fun r46 kd42 ig43 rg44 lg45 H locs hw hH hp47 => ?_)
          obtain ⟨hI, hchp47, hrhp47⟩ := hp47
          have hN := hN.tr hchp47
          have hsh := hI.sh
          have hrs := hI.rs
          have hV := FV.of hrhp47.2.1 hrhp47.2.2
          have hS := SCh.nx hS hchp47
          have hLv := LV.nx hLv hchp47
          have hVv := VV.nx hVv hchp47
          obtain ⟨rfl, hvhp47⟩ := hrhp47
          refine lv_aload_n hx hb dX11_cell_132 rfl (lv_at hl 0 rfl) ?_
          refine r_get C hw (hsh 0 _ rfl) fl_X11_44 (oV_r rfl (hrs (0, 4, 29) (by decide))) dX11_cell_133 ?_
          refine lv_iload_n hx hb dX11_cell_136 rfl (lv_at hl 1 rfl) ?_
          refine r_callV (As := [.int x]) (rest := []) C hw (t_X2_familyAt l B D cA kd42 ig43 rg44 lg45 _ x  hI) sv_X11_190 (hsh 29 _ rfl) rfl hl.1 rfl (Nat.le_of_ble_eq_true rfl) ⟨Nat.le_of_ble_eq_true rfl, Nat.le_of_ble_eq_true rfl⟩ ⟨Nat.le_of_ble_eq_true rfl, Nat.le_of_ble_eq_true rfl⟩ dX11_cell_137 (fun r52 kd48 ig49 rg50 lg51 H locs hw hH hp53 => ?_)
          obtain ⟨rfl, rfl, rfl, rfl, hzhp53, hrhp53⟩ := hp53
          obtain ⟨z54, rfl, hz54⟩ := hrhp53
          exact vx_ret (r_iret C hw hr hlk rfl (Nat.le_of_ble_eq_true rfl) (Nat.le_of_ble_eq_true rfl) dX11_cell_140 ⟨hI, hN, ⟨_, rfl, ⟨hS, hV, hLv, hVv⟩⟩⟩)
        by_cases s28_4 : y.toInt = 4
        · refine lv_tableIn hx hb dX11_cell_28 (by omega) (by omega) (off := 113) (by rw [s28_4]; rfl) (tgt := 141) (by decide) ?_
          refine lv_aload_n hx hb dX11_cell_141 rfl (lv_at hl 0 rfl) ?_
          refine r_get C hw (hsh 0 _ rfl) fl_X11_51 (oV_r rfl (hrs (0, 5, 32) (by decide))) dX11_cell_142 ?_
          refine r_callV (As := []) (rest := []) C hw (t_X9_settleE l B D cA kd ig rg lg _  σ π ν hS hLv hW hI) sv_X11_143 (hsh 32 _ rfl) rfl hl.1 rfl (Nat.le_of_ble_eq_true rfl) ⟨Nat.le_of_ble_eq_true rfl, Nat.le_of_ble_eq_true rfl⟩ ⟨Nat.le_of_ble_eq_true rfl, Nat.le_of_ble_eq_true rfl⟩ dX11_cell_145 (fun r59 kd55 ig56 rg57 lg58 H locs hw hH hp60 => ?_)
          obtain ⟨hI, hchp60, hrhp60⟩ := hp60
          have hN := hN.tr hchp60
          have hsh := hI.sh
          have hrs := hI.rs
          have hLv := hrhp60.2
          have hS := SCh.nx hS hchp60
          have hV := FV.nx hV hchp60
          have hVv := VV.nx hVv hchp60
          obtain ⟨rfl, hvhp60⟩ := hrhp60
          refine lv_aload_n hx hb dX11_cell_148 rfl (lv_at hl 0 rfl) ?_
          refine r_get C hw (hsh 0 _ rfl) fl_X11_51 (oV_r rfl (hrs (0, 5, 32) (by decide))) dX11_cell_149 ?_
          refine lv_iload_n hx hb dX11_cell_152 rfl (lv_at hl 1 rfl) ?_
          refine lv_iload_n hx hb dX11_cell_153 rfl (lv_at hl 2 rfl) ?_
          refine lv_iconst (v := 4) hx hb dX11_cell_154 (by decide) (ti_c 4 (by decide) fun z61 hz61 => ?_)
          refine lv_isub hx hb dX11_cell_155 (tc_sub fun z62 hz62 => ?_)
          first | replace hz62 := hz62 (by omega) | clear hz62
          refine r_callV (As := [.int x, .int z62]) (rest := []) C hw (t_X9_exponentAt l B D cA kd55 ig56 rg57 lg58 _ x z62  hI) sv_X11_193 (hsh 32 _ rfl) rfl hl.1 rfl (Nat.le_of_ble_eq_true rfl) ⟨Nat.le_of_ble_eq_true rfl, Nat.le_of_ble_eq_true rfl⟩ ⟨Nat.le_of_ble_eq_true rfl, Nat.le_of_ble_eq_true rfl⟩ dX11_cell_156 (fun r67 kd63 ig64 rg65 lg66 H locs hw hH hp68 => ?_)
          obtain ⟨rfl, rfl, rfl, rfl, hzhp68, hrhp68⟩ := hp68
          obtain ⟨z69, rfl, hz69⟩ := hrhp68
          exact vx_ret (r_iret C hw hr hlk rfl (Nat.le_of_ble_eq_true rfl) (Nat.le_of_ble_eq_true rfl) dX11_cell_159 ⟨hI, hN, ⟨_, rfl, ⟨hS, hV, hLv, hVv⟩⟩⟩)
        by_cases s28_5 : y.toInt = 5
        · refine lv_tableIn hx hb dX11_cell_28 (by omega) (by omega) (off := 113) (by rw [s28_5]; rfl) (tgt := 141) (by decide) ?_
          refine lv_aload_n hx hb dX11_cell_141 rfl (lv_at hl 0 rfl) ?_
          refine r_get C hw (hsh 0 _ rfl) fl_X11_51 (oV_r rfl (hrs (0, 5, 32) (by decide))) dX11_cell_142 ?_
          refine r_callV (As := []) (rest := []) C hw (t_X9_settleE l B D cA kd ig rg lg _  σ π ν hS hLv hW hI) sv_X11_143 (hsh 32 _ rfl) rfl hl.1 rfl (Nat.le_of_ble_eq_true rfl) ⟨Nat.le_of_ble_eq_true rfl, Nat.le_of_ble_eq_true rfl⟩ ⟨Nat.le_of_ble_eq_true rfl, Nat.le_of_ble_eq_true rfl⟩ dX11_cell_145 (fun r74 kd70 ig71 rg72 lg73 H locs hw hH hp75 => ?_)
          obtain ⟨hI, hchp75, hrhp75⟩ := hp75
          have hN := hN.tr hchp75
          have hsh := hI.sh
          have hrs := hI.rs
          have hLv := hrhp75.2
          have hS := SCh.nx hS hchp75
          have hV := FV.nx hV hchp75
          have hVv := VV.nx hVv hchp75
          obtain ⟨rfl, hvhp75⟩ := hrhp75
          refine lv_aload_n hx hb dX11_cell_148 rfl (lv_at hl 0 rfl) ?_
          refine r_get C hw (hsh 0 _ rfl) fl_X11_51 (oV_r rfl (hrs (0, 5, 32) (by decide))) dX11_cell_149 ?_
          refine lv_iload_n hx hb dX11_cell_152 rfl (lv_at hl 1 rfl) ?_
          refine lv_iload_n hx hb dX11_cell_153 rfl (lv_at hl 2 rfl) ?_
          refine lv_iconst (v := 4) hx hb dX11_cell_154 (by decide) (ti_c 4 (by decide) fun z76 hz76 => ?_)
          refine lv_isub hx hb dX11_cell_155 (tc_sub fun z77 hz77 => ?_)
          first | replace hz77 := hz77 (by omega) | clear hz77
          refine r_callV (As := [.int x, .int z77]) (rest := []) C hw (t_X9_exponentAt l B D cA kd70 ig71 rg72 lg73 _ x z77  hI) sv_X11_193 (hsh 32 _ rfl) rfl hl.1 rfl (Nat.le_of_ble_eq_true rfl) ⟨Nat.le_of_ble_eq_true rfl, Nat.le_of_ble_eq_true rfl⟩ ⟨Nat.le_of_ble_eq_true rfl, Nat.le_of_ble_eq_true rfl⟩ dX11_cell_156 (fun r82 kd78 ig79 rg80 lg81 H locs hw hH hp83 => ?_)
          obtain ⟨rfl, rfl, rfl, rfl, hzhp83, hrhp83⟩ := hp83
          obtain ⟨z84, rfl, hz84⟩ := hrhp83
          exact vx_ret (r_iret C hw hr hlk rfl (Nat.le_of_ble_eq_true rfl) (Nat.le_of_ble_eq_true rfl) dX11_cell_159 ⟨hI, hN, ⟨_, rfl, ⟨hS, hV, hLv, hVv⟩⟩⟩)
        by_cases s28_6 : y.toInt = 6
        · refine lv_tableIn hx hb dX11_cell_28 (by omega) (by omega) (off := 113) (by rw [s28_6]; rfl) (tgt := 141) (by decide) ?_
          refine lv_aload_n hx hb dX11_cell_141 rfl (lv_at hl 0 rfl) ?_
          refine r_get C hw (hsh 0 _ rfl) fl_X11_51 (oV_r rfl (hrs (0, 5, 32) (by decide))) dX11_cell_142 ?_
          refine r_callV (As := []) (rest := []) C hw (t_X9_settleE l B D cA kd ig rg lg _  σ π ν hS hLv hW hI) sv_X11_143 (hsh 32 _ rfl) rfl hl.1 rfl (Nat.le_of_ble_eq_true rfl) ⟨Nat.le_of_ble_eq_true rfl, Nat.le_of_ble_eq_true rfl⟩ ⟨Nat.le_of_ble_eq_true rfl, Nat.le_of_ble_eq_true rfl⟩ dX11_cell_145 (fun r89 kd85 ig86 rg87 lg88 H locs hw hH hp90 => ?_)
          obtain ⟨hI, hchp90, hrhp90⟩ := hp90
          have hN := hN.tr hchp90
          have hsh := hI.sh
          have hrs := hI.rs
          have hLv := hrhp90.2
          have hS := SCh.nx hS hchp90
          have hV := FV.nx hV hchp90
          have hVv := VV.nx hVv hchp90
          obtain ⟨rfl, hvhp90⟩ := hrhp90
          refine lv_aload_n hx hb dX11_cell_148 rfl (lv_at hl 0 rfl) ?_
          refine r_get C hw (hsh 0 _ rfl) fl_X11_51 (oV_r rfl (hrs (0, 5, 32) (by decide))) dX11_cell_149 ?_
          refine lv_iload_n hx hb dX11_cell_152 rfl (lv_at hl 1 rfl) ?_
          refine lv_iload_n hx hb dX11_cell_153 rfl (lv_at hl 2 rfl) ?_
          refine lv_iconst (v := 4) hx hb dX11_cell_154 (by decide) (ti_c 4 (by decide) fun z91 hz91 => ?_)
          refine lv_isub hx hb dX11_cell_155 (tc_sub fun z92 hz92 => ?_)
          first | replace hz92 := hz92 (by omega) | clear hz92
          refine r_callV (As := [.int x, .int z92]) (rest := []) C hw (t_X9_exponentAt l B D cA kd85 ig86 rg87 lg88 _ x z92  hI) sv_X11_193 (hsh 32 _ rfl) rfl hl.1 rfl (Nat.le_of_ble_eq_true rfl) ⟨Nat.le_of_ble_eq_true rfl, Nat.le_of_ble_eq_true rfl⟩ ⟨Nat.le_of_ble_eq_true rfl, Nat.le_of_ble_eq_true rfl⟩ dX11_cell_156 (fun r97 kd93 ig94 rg95 lg96 H locs hw hH hp98 => ?_)
          obtain ⟨rfl, rfl, rfl, rfl, hzhp98, hrhp98⟩ := hp98
          obtain ⟨z99, rfl, hz99⟩ := hrhp98
          exact vx_ret (r_iret C hw hr hlk rfl (Nat.le_of_ble_eq_true rfl) (Nat.le_of_ble_eq_true rfl) dX11_cell_159 ⟨hI, hN, ⟨_, rfl, ⟨hS, hV, hLv, hVv⟩⟩⟩)
        by_cases s28_7 : y.toInt = 7
        · refine lv_tableIn hx hb dX11_cell_28 (by omega) (by omega) (off := 132) (by rw [s28_7]; rfl) (tgt := 160) (by decide) ?_
          refine lv_aload_n hx hb dX11_cell_160 rfl (lv_at hl 0 rfl) ?_
          refine r_get C hw (hsh 0 _ rfl) fl_X11_58 (oV_r rfl (hrs (0, 6, 37) (by decide))) dX11_cell_161 ?_
          refine r_callV (As := []) (rest := []) C hw (t_X8_settleE l B D cA kd ig rg lg _  σ π ν hS hLv hW hI) sv_X11_144 (hsh 37 _ rfl) rfl hl.1 rfl (Nat.le_of_ble_eq_true rfl) ⟨Nat.le_of_ble_eq_true rfl, Nat.le_of_ble_eq_true rfl⟩ ⟨Nat.le_of_ble_eq_true rfl, Nat.le_of_ble_eq_true rfl⟩ dX11_cell_164 (fun r104 kd100 ig101 rg102 lg103 H locs hw hH hp105 => ?_)
          obtain ⟨hI, hchp105, hrhp105⟩ := hp105
          have hN := hN.tr hchp105
          have hsh := hI.sh
          have hrs := hI.rs
          have hLv := hrhp105.2
          have hS := SCh.nx hS hchp105
          have hV := FV.nx hV hchp105
          have hVv := VV.nx hVv hchp105
          obtain ⟨rfl, hvhp105⟩ := hrhp105
          refine lv_aload_n hx hb dX11_cell_167 rfl (lv_at hl 0 rfl) ?_
          refine r_get C hw (hsh 0 _ rfl) fl_X11_58 (oV_r rfl (hrs (0, 6, 37) (by decide))) dX11_cell_168 ?_
          refine lv_iload_n hx hb dX11_cell_171 rfl (lv_at hl 1 rfl) ?_
          refine r_callV (As := [.int x]) (rest := []) C hw (t_X8_isTotal l B D cA kd100 ig101 rg102 lg103 _ x  hI) sv_X11_196 (hsh 37 _ rfl) rfl hl.1 rfl (Nat.le_of_ble_eq_true rfl) ⟨Nat.le_of_ble_eq_true rfl, Nat.le_of_ble_eq_true rfl⟩ ⟨Nat.le_of_ble_eq_true rfl, Nat.le_of_ble_eq_true rfl⟩ dX11_cell_172 (fun r110 kd106 ig107 rg108 lg109 H locs hw hH hp111 => ?_)
          obtain ⟨rfl, rfl, rfl, rfl, hzhp111, hrhp111⟩ := hp111
          obtain ⟨z112, rfl, hz112⟩ := hrhp111
          refine z_eq (tgt := 182) hx hb dX11_cell_175 (by decide) (fun c175 => ?_) (fun c175 => ?_)
          · refine lv_iconst (v := 0) hx hb dX11_cell_182 (by decide) (ti_c 0 (by decide) fun z113 hz113 => ?_)
            exact vx_ret (r_iret C hw hr hlk rfl (Nat.le_of_ble_eq_true rfl) (Nat.le_of_ble_eq_true rfl) dX11_cell_183 ⟨hI, hN, ⟨_, rfl, ⟨hS, hV, hLv, hVv⟩⟩⟩)
          · refine lv_iconst (v := 1) hx hb dX11_cell_178 (by decide) (ti_c 1 (by decide) fun z114 hz114 => ?_)
            refine lv_goto (tgt := 183) hx hb dX11_cell_179 (by decide) ?_
            exact vx_ret (r_iret C hw hr hlk rfl (Nat.le_of_ble_eq_true rfl) (Nat.le_of_ble_eq_true rfl) dX11_cell_183 ⟨hI, hN, ⟨_, rfl, ⟨hS, hV, hLv, hVv⟩⟩⟩)
        by_cases s28_8 : y.toInt = 8
        · refine lv_tableIn hx hb dX11_cell_28 (by omega) (by omega) (off := 156) (by rw [s28_8]; rfl) (tgt := 184) (by decide) ?_
          refine lv_aload_n hx hb dX11_cell_184 rfl (lv_at hl 0 rfl) ?_
          refine r_get C hw (hsh 0 _ rfl) fl_X11_28 (oV_r rfl (hrs (0, 2, 15) (by decide))) dX11_cell_185 ?_
          refine r_callV (As := []) (rest := []) C hw (t_X5_settleE l B D cA kd ig rg lg _  σ π ν hS hLv hW hI) sv_X11_199 (hsh 15 _ rfl) rfl hl.1 rfl (Nat.le_of_ble_eq_true rfl) ⟨Nat.le_of_ble_eq_true rfl, Nat.le_of_ble_eq_true rfl⟩ ⟨Nat.le_of_ble_eq_true rfl, Nat.le_of_ble_eq_true rfl⟩ dX11_cell_188 (fun r119 kd115 ig116 rg117 lg118 H locs hw hH hp120 => ?_)
          obtain ⟨hI, hchp120, hrhp120⟩ := hp120
          have hN := hN.tr hchp120
          have hsh := hI.sh
          have hrs := hI.rs
          have hLv := LV.of hrhp120.2.1.1 hrhp120.2.1.2.1 hrhp120.2.1.2.2 hLv.le
          have hS := SCh.nx hS hchp120
          have hV := FV.nx hV hchp120
          have hVv := VV.nx hVv hchp120
          obtain ⟨rfl, hvhp120⟩ := hrhp120
          refine lv_aload_n hx hb dX11_cell_191 rfl (lv_at hl 0 rfl) ?_
          refine r_get C hw (hsh 0 _ rfl) fl_X11_28 (oV_r rfl (hrs (0, 2, 15) (by decide))) dX11_cell_192 ?_
          refine lv_iload_n hx hb dX11_cell_195 rfl (lv_at hl 1 rfl) ?_
          refine r_callV (As := [.int x]) (rest := []) C hw (t_X5_cellsReadBy l B D cA kd115 ig116 rg117 lg118 _ x  hI) sv_X11_200 (hsh 15 _ rfl) rfl hl.1 rfl (Nat.le_of_ble_eq_true rfl) ⟨Nat.le_of_ble_eq_true rfl, Nat.le_of_ble_eq_true rfl⟩ ⟨Nat.le_of_ble_eq_true rfl, Nat.le_of_ble_eq_true rfl⟩ dX11_cell_196 (fun r125 kd121 ig122 rg123 lg124 H locs hw hH hp126 => ?_)
          obtain ⟨rfl, rfl, rfl, rfl, hzhp126, hrhp126⟩ := hp126
          obtain ⟨z127, rfl, hz127⟩ := hrhp126
          exact vx_ret (r_iret C hw hr hlk rfl (Nat.le_of_ble_eq_true rfl) (Nat.le_of_ble_eq_true rfl) dX11_cell_199 ⟨hI, hN, ⟨_, rfl, ⟨hS, hV, hLv, hVv⟩⟩⟩)
        by_cases s28_9 : y.toInt = 9
        · refine lv_tableIn hx hb dX11_cell_28 (by omega) (by omega) (off := 172) (by rw [s28_9]; rfl) (tgt := 200) (by decide) ?_
          refine lv_aload_n hx hb dX11_cell_200 rfl (lv_at hl 0 rfl) ?_
          refine r_get C hw (hsh 0 _ rfl) fl_X11_28 (oV_r rfl (hrs (0, 2, 15) (by decide))) dX11_cell_201 ?_
          refine r_callV (As := []) (rest := []) C hw (t_X5_settleE l B D cA kd ig rg lg _  σ π ν hS hLv hW hI) sv_X11_199 (hsh 15 _ rfl) rfl hl.1 rfl (Nat.le_of_ble_eq_true rfl) ⟨Nat.le_of_ble_eq_true rfl, Nat.le_of_ble_eq_true rfl⟩ ⟨Nat.le_of_ble_eq_true rfl, Nat.le_of_ble_eq_true rfl⟩ dX11_cell_204 (fun r132 kd128 ig129 rg130 lg131 H locs hw hH hp133 => ?_)
          obtain ⟨hI, hchp133, hrhp133⟩ := hp133
          have hN := hN.tr hchp133
          have hsh := hI.sh
          have hrs := hI.rs
          have hLv := LV.of hrhp133.2.1.1 hrhp133.2.1.2.1 hrhp133.2.1.2.2 hLv.le
          have hS := SCh.nx hS hchp133
          have hV := FV.nx hV hchp133
          have hVv := VV.nx hVv hchp133
          obtain ⟨rfl, hvhp133⟩ := hrhp133
          refine lv_aload_n hx hb dX11_cell_207 rfl (lv_at hl 0 rfl) ?_
          refine r_get C hw (hsh 0 _ rfl) fl_X11_28 (oV_r rfl (hrs (0, 2, 15) (by decide))) dX11_cell_208 ?_
          refine lv_iload_n hx hb dX11_cell_211 rfl (lv_at hl 1 rfl) ?_
          refine r_callV (As := [.int x]) (rest := []) C hw (t_X5_readersOf l B D cA kd128 ig129 rg130 lg131 _ x  hI) sv_X11_203 (hsh 15 _ rfl) rfl hl.1 rfl (Nat.le_of_ble_eq_true rfl) ⟨Nat.le_of_ble_eq_true rfl, Nat.le_of_ble_eq_true rfl⟩ ⟨Nat.le_of_ble_eq_true rfl, Nat.le_of_ble_eq_true rfl⟩ dX11_cell_212 (fun r138 kd134 ig135 rg136 lg137 H locs hw hH hp139 => ?_)
          obtain ⟨rfl, rfl, rfl, rfl, hzhp139, hrhp139⟩ := hp139
          obtain ⟨z140, rfl, hz140⟩ := hrhp139
          exact vx_ret (r_iret C hw hr hlk rfl (Nat.le_of_ble_eq_true rfl) (Nat.le_of_ble_eq_true rfl) dX11_cell_215 ⟨hI, hN, ⟨_, rfl, ⟨hS, hV, hLv, hVv⟩⟩⟩)
        refine lv_tableOut hx hb dX11_cell_28 (by omega) (tgt := 216) (by decide) ?_
        refine lv_aload_n hx hb dX11_cell_216 rfl (lv_at hl 0 rfl) ?_
        refine r_get C hw (hsh 0 _ rfl) fl_X11_19 (oV_r rfl (hrs (0, 1, 9) (by decide))) dX11_cell_217 ?_
        refine lv_iload_n hx hb dX11_cell_220 rfl (lv_at hl 1 rfl) ?_
        refine r_callV (As := [.int x]) (rest := []) C hw (t_X6_isKept l B D cA kd ig rg lg _ x  hI) sv_X11_206 (hsh 9 _ rfl) rfl hl.1 rfl (Nat.le_of_ble_eq_true rfl) ⟨Nat.le_of_ble_eq_true rfl, Nat.le_of_ble_eq_true rfl⟩ ⟨Nat.le_of_ble_eq_true rfl, Nat.le_of_ble_eq_true rfl⟩ dX11_cell_221 (fun r145 kd141 ig142 rg143 lg144 H locs hw hH hp146 => ?_)
        obtain ⟨rfl, rfl, rfl, rfl, hzhp146, hrhp146⟩ := hp146
        obtain ⟨z147, rfl, hz147⟩ := hrhp146
        refine z_eq (tgt := 231) hx hb dX11_cell_224 (by decide) (fun c224 => ?_) (fun c224 => ?_)
        · refine lv_iconst (v := 0) hx hb dX11_cell_231 (by decide) (ti_c 0 (by decide) fun z148 hz148 => ?_)
          exact vx_ret (r_iret C hw hr hlk rfl (Nat.le_of_ble_eq_true rfl) (Nat.le_of_ble_eq_true rfl) dX11_cell_232 ⟨hI, hN, ⟨_, rfl, ⟨hS, hV, hLv, hVv⟩⟩⟩)
        · refine lv_iconst (v := 1) hx hb dX11_cell_227 (by decide) (ti_c 1 (by decide) fun z149 hz149 => ?_)
          refine lv_goto (tgt := 232) hx hb dX11_cell_228 (by decide) ?_
          exact vx_ret (r_iret C hw hr hlk rfl (Nat.le_of_ble_eq_true rfl) (Nat.le_of_ble_eq_true rfl) dX11_cell_232 ⟨hI, hN, ⟨_, rfl, ⟨hS, hV, hLv, hVv⟩⟩⟩)
      · exact vx_throwX (pc := 17) (ix := 13) (rx := prog_27_method_4_code) (own := RX11) (cls := NSE) (names := NSEs) (ik := 177) (is := 179) (ic := 181) (sa := sa) hx hb hst (by decide +kernel) (by decide +kernel) (by decide +kernel) (by decide +kernel) hown (by decide +kernel) (by decide +kernel) (hts _ (TBg_in (atN_c _ (List.mem_cons_self)).1 (atN_c _ (List.mem_cons_self)).2)) (hts _ (TBg_in (atN_c _ (List.mem_cons_of_mem _ List.mem_cons_self)).1 (atN_c _ (List.mem_cons_of_mem _ List.mem_cons_self)).2)) hKX.2.1 (atN hts hKX.1) atN_o hKX.2.2.1 hKX.2.2.2 hw.2.2.1 (hl.1.trans C.1.2.2.1.symm) dX11_cell_17 dX11_cell_20 dX11_cell_21 dX11_cell_23 dX11_cell_26 (fun x hx => (hnt x hx).elim) (by decide) (by decide) (Nat.le_of_ble_eq_true rfl) (Nat.le_of_ble_eq_true rfl) hlk (XcW.now hw (fun h => h)) hw.2.2.1.2.2 (Nat.le_of_ble_eq_true rfl) (Nat.le_of_ble_eq_true rfl)
