theorem wu_f {c : Cl} (k : kdO (wuC c) = 2) : kdO c = 2 ∧ fmO (wuC c) = fmO c := by
  unfold wuC at k ⊢
  by_cases h : kdO c = 1
  · rw [if_pos h] at k
    exact absurd k (by show ¬ (1 : Int) = 2; decide)
  · rw [if_neg h] at k ⊢
    exact ⟨k, rfl⟩

set_option maxHeartbeats 4000000 in
set_option maxRecDepth 100000 in
theorem t_X11_undoZ {κ : Int} {τ : Tp} (l : Launch) (B : Nat) (D : va_G) (cA : Nat → ClassId) (kd : sK) (ig : sI) (rg : sR) (lg : sG) (sz : Nat) (σ : Sg) (π : Ps) (ν : Nat) (hS : SCh B σ π ν kd ig rg) (hV : FV B σ ν ig) (hν : ν < 1000000) (hLv : LV κ B σ ν ig lg) (hVv : VV B σ ν ig) (hW : WS σ π) (hHt : HtS σ) (hHp : HtP π) (hI : IC τ B kd ig rg) : MC l B D cA yX11_undo cX11_undo 1 (some .int) (rL 7 0 0) [.ref (B + 0)] kd ig rg lg sz (PI 736 τ B none kd ig rg lg (fun r kd' ig' rg' lg' => ∃ z : Int32, r = some (.int z) ∧ (∃ σ' π' ν', SCh B σ' π' ν' kd' ig' rg' ∧ FV B σ' ν' ig' ∧ LV κ B σ' ν' ig' lg' ∧ VV B σ' ν' ig' ∧ (ν' = ν + 1 ∨ (ν' = ν ∧ σ' = σ)) ∧ stBz σ π σ' π' z.toInt))) := by
  refine MC.of (own := RX11) (by decide +kernel) rfl (Nat.le_of_ble_eq_true rfl) ?_
  intro p e s m args below meth c ls C hr hlk hnm hw hsz hl
  have hx := C.1.1
  have hb := C.1.2.1
  have hown := C.1.2.2.2.1
  have hts := C.1.2.2.2.2
  have hl : lv_has ls 1 [(0, .ref (B + 0))] := hl
  have hN : Nx 736 B none kd ig rg lg kd ig rg lg := Nx.rf
  have hsh := hI.sh
  have hrs := hI.rs
  refine lv_aload_n hx hb dX11_undo_0 rfl (lv_at hl 0 rfl) ?_
  refine r_get C hw (hsh 0 _ rfl) fl_X11_76 (oV_r rfl (hrs (0, 8, 45) (by decide))) dX11_undo_1 ?_
  refine r_callV (As := []) (rest := []) C hw (t_X1_forget l B D cA kd ig rg lg _   hI) sv_X11_153 (hsh 45 _ rfl) rfl hl.1 rfl (Nat.le_of_ble_eq_true rfl) ⟨Nat.le_of_ble_eq_true rfl, Nat.le_of_ble_eq_true rfl⟩ ⟨Nat.le_of_ble_eq_true rfl, Nat.le_of_ble_eq_true rfl⟩ dX11_undo_4 (fun r5 kd1 ig2 rg3 lg4 H locs hw hH hp6 => ?_)
  obtain ⟨hI, hchp6, hrhp6⟩ := hp6
  have hN := hN.tr hchp6
  have hsh := hI.sh
  have hrs := hI.rs
  have hS := SCh.nx hS hchp6
  have hV := FV.nx hV hchp6
  have hLv := LV.nx hLv hchp6
  have hVv := VV.nx hVv hchp6
  obtain rfl := hrhp6
  refine lv_aload_n hx hb dX11_undo_7 rfl (lv_at hl 0 rfl) ?_
  refine r_get C hw (hsh 0 _ rfl) fl_X11_19 (oV_r rfl (hrs (0, 1, 9) (by decide))) dX11_undo_8 ?_
  refine r_get C hw (hsh 9 _ rfl) fl_X11_171 (oV_i rfl) dX11_undo_11 (ti_c (ig2 (B + 9) 5).toInt rfl fun z7 hz7 => ?_)
  have k8 : 0 ≤ (ig2 (B + 9) 5).toInt ∧ (ig2 (B + 9) 5).toInt ≤ 20 := hI.i 9 5 (by decide)
  have hl9 := hS.len
  refine z_ne (tgt := 19) hx hb dX11_undo_14 (by decide) (fun c14 => ?_) (fun c14 => ?_)
  · obtain ⟨π0, ⟨p0, c0⟩, hπ0⟩ : ∃ π0 e, π = π0 ++ [e] := ⟨π.dropLast, π.getLast (by intro q; rw [q] at hl9; simp at hl9; omega), (List.dropLast_concat_getLast _).symm⟩
    have hW2 := hW.stB (Or.inr ⟨π0, p0, c0, hπ0, rfl, rfl⟩)
    have hHt2 : HtS (upS σ p0 c0) := hHt.up (hHp (p0, c0) (by rw [hπ0]; simp))
    refine lv_aload_n hx hb dX11_undo_19 rfl (lv_at hl 0 rfl) ?_
    refine r_get C hw (hsh 0 _ rfl) fl_X11_37 (oV_r rfl (hrs (0, 3, 24) (by decide))) dX11_undo_20 ?_
    refine r_callV (As := []) (rest := []) C hw (t_X10_settleE l B D cA kd1 ig2 rg3 lg4 _  σ π ν hS hLv hVv hW hHt hI) sv_X11_159 (hsh 24 _ rfl) rfl hl.1 rfl (Nat.le_of_ble_eq_true rfl) ⟨Nat.le_of_ble_eq_true rfl, Nat.le_of_ble_eq_true rfl⟩ ⟨Nat.le_of_ble_eq_true rfl, Nat.le_of_ble_eq_true rfl⟩ dX11_undo_23 (fun r13 kd9 ig10 rg11 lg12 H locs hw hH hp14 => ?_)
    obtain ⟨hI, hchp14, hrhp14⟩ := hp14
    have hN := hN.tr hchp14
    have hsh := hI.sh
    have hrs := hI.rs
    have hLv := hrhp14.2.1.2.2
    have hVk := hrhp14.2.1.1
    have hVv := VV.of hrhp14.2.1.1 hrhp14.2.1.2.1
    have hS := SCh.nx hS hchp14
    have hV := FV.nx hV hchp14
    obtain ⟨rfl, hvhp14⟩ := hrhp14
    refine lv_aload_n hx hb dX11_undo_26 rfl (lv_at hl 0 rfl) ?_
    refine r_get C hw (hsh 0 _ rfl) fl_X11_76 (oV_r rfl (hrs (0, 8, 45) (by decide))) dX11_undo_27 ?_
    refine r_callV (As := []) (rest := []) C hw (t_X1_rememberE l B D cA kd9 ig10 rg11 lg12 _   hI) sv_X11_160 (hsh 45 _ rfl) rfl hl.1 rfl (Nat.le_of_ble_eq_true rfl) ⟨Nat.le_of_ble_eq_true rfl, Nat.le_of_ble_eq_true rfl⟩ ⟨Nat.le_of_ble_eq_true rfl, Nat.le_of_ble_eq_true rfl⟩ dX11_undo_30 (fun r19 kd15 ig16 rg17 lg18 H locs hw hH hp20 => ?_)
    obtain ⟨hI, hchp20, hrhp20⟩ := hp20
    have hN := hN.tr hchp20
    have hsh := hI.sh
    have hrs := hI.rs
    have hS := SCh.nx hS hchp20
    have hV := FV.nx hV hchp20
    have hLv := LV.nx hLv hchp20
    have hVv := VV.nx hVv hchp20
    obtain ⟨v0, ev0⟩ : ∃ f, f = ig10 (B + 25) := ⟨_, rfl⟩
    obtain ⟨e0, ee0⟩ : ∃ f, f = ig10 (B + 26) := ⟨_, rfl⟩
    have hRm : ReM B v0 e0 ig16 := by rw [ev0, ee0]; exact hrhp20.2.1
    have hVk0 := hVk
    rw [← ev0, ← ee0] at hVk0
    obtain ⟨rfl, hvhp20⟩ := hrhp20
    refine lv_aload_n hx hb dX11_undo_33 rfl (lv_at hl 0 rfl) ?_
    refine r_get C hw (hsh 0 _ rfl) fl_X11_19 (oV_r rfl (hrs (0, 1, 9) (by decide))) dX11_undo_34 ?_
    refine r_callV (As := []) (rest := []) C hw (t_X6_takeBackE l B D cA kd15 ig16 rg17 lg18 _  σ π ν π0 p0 c0 hπ0 hS (by omega) hI) sv_X11_174 (hsh 9 _ rfl) rfl hl.1 rfl (Nat.le_of_ble_eq_true rfl) ⟨Nat.le_of_ble_eq_true rfl, Nat.le_of_ble_eq_true rfl⟩ ⟨Nat.le_of_ble_eq_true rfl, Nat.le_of_ble_eq_true rfl⟩ dX11_undo_37 (fun r25 kd21 ig22 rg23 lg24 H locs hw hH hp26 => ?_)
    obtain ⟨hI, hchp26, hrhp26⟩ := hp26
    have hN := hN.tr hchp26
    have hsh := hI.sh
    have hrs := hI.rs
    have hLv := LV.step (σ' := (upS σ p0 c0)) hLv hchp26
    have hVv := VV.step (σ' := (upS σ p0 c0)) hVv hchp26
    have hV := FV.step (σ' := (upS σ p0 c0)) hV hrhp26.2.2
    have hS := hrhp26.2.1
    have hRm := ReM.nx hRm hchp26
    obtain ⟨rfl, hvhp26⟩ := hrhp26
    refine lv_aload_n hx hb dX11_undo_40 rfl (lv_at hl 0 rfl) ?_
    refine r_get C hw (hsh 0 _ rfl) fl_X11_37 (oV_r rfl (hrs (0, 3, 24) (by decide))) dX11_undo_41 ?_
    refine r_callV (As := []) (rest := []) C hw (t_X10_settleE l B D cA kd21 ig22 rg23 lg24 _  (upS σ p0 c0) π0 (ν + 1) hS hLv hVv hW2 hHt2 hI) sv_X11_159 (hsh 24 _ rfl) rfl hl.1 rfl (Nat.le_of_ble_eq_true rfl) ⟨Nat.le_of_ble_eq_true rfl, Nat.le_of_ble_eq_true rfl⟩ ⟨Nat.le_of_ble_eq_true rfl, Nat.le_of_ble_eq_true rfl⟩ dX11_undo_44 (fun r31 kd27 ig28 rg29 lg30 H locs hw hH hp32 => ?_)
    obtain ⟨hI, hchp32, hrhp32⟩ := hp32
    have hN := hN.tr hchp32
    have hsh := hI.sh
    have hrs := hI.rs
    have hLv := hrhp32.2.1.2.2
    have hVk := hrhp32.2.1.1
    have hVv := VV.of hrhp32.2.1.1 hrhp32.2.1.2.1
    have hS := SCh.nx hS hchp32
    have hV := FV.nx hV hchp32
    have hRm := ReM.nx hRm hchp32
    obtain ⟨rfl, hvhp32⟩ := hrhp32
    refine lv_aload_n hx hb dX11_undo_47 rfl (lv_at hl 0 rfl) ?_
    refine r_get C hw (hsh 0 _ rfl) fl_X11_76 (oV_r rfl (hrs (0, 8, 45) (by decide))) dX11_undo_48 ?_
    have hRm0 := hRm
    refine r_callV (As := []) (rest := []) C hw (t_X1_compareE l B D cA kd27 ig28 rg29 lg30 _   hI) sv_X11_163 (hsh 45 _ rfl) rfl hl.1 rfl (Nat.le_of_ble_eq_true rfl) ⟨Nat.le_of_ble_eq_true rfl, Nat.le_of_ble_eq_true rfl⟩ ⟨Nat.le_of_ble_eq_true rfl, Nat.le_of_ble_eq_true rfl⟩ dX11_undo_51 (fun r37 kd33 ig34 rg35 lg36 H locs hw hH hp38 => ?_)
    obtain ⟨hI, hchp38, hrhp38⟩ := hp38
    have hN := hN.tr hchp38
    have hsh := hI.sh
    have hrs := hI.rs
    have hS := SCh.nx hS hchp38
    have hV := FV.nx hV hchp38
    have hLv := LV.nx hLv hchp38
    have hVv := VV.nx hVv hchp38
    obtain ⟨z39, rfl, hz39⟩ := hrhp38
    exact r_iret C hw hr hlk rfl (Nat.le_of_ble_eq_true rfl) (Nat.le_of_ble_eq_true rfl) dX11_undo_54 ⟨hI, hN, ⟨_, rfl, ⟨_, _, _, hS, hV, hLv, hVv, (by first | exact Or.inl rfl | exact Or.inr ⟨rfl, rfl⟩), Or.inr ⟨π0, p0, c0, hπ0, rfl, rfl, chR.of hVk0 hRm0 hVk hz39.1⟩⟩⟩⟩
  · have hπ0 : π = [] := List.length_eq_zero_iff.mp (by omega)
    refine lv_iconst (v := (-1)) hx hb dX11_undo_17 (by decide) (ti_c (-1) (by decide) fun z40 hz40 => ?_)
    exact r_iret C hw hr hlk rfl (Nat.le_of_ble_eq_true rfl) (Nat.le_of_ble_eq_true rfl) dX11_undo_18 ⟨hI, hN, ⟨_, rfl, ⟨_, _, _, hS, hV, hLv, hVv, (by first | exact Or.inl rfl | exact Or.inr ⟨rfl, rfl⟩), Or.inl ⟨hπ0, ⟨rfl, rfl⟩, by omega⟩⟩⟩⟩

set_option maxHeartbeats 4000000 in
set_option maxRecDepth 100000 in
theorem t_X11_mendZ {κ : Int} {τ : Tp} (l : Launch) (B : Nat) (D : va_G) (cA : Nat → ClassId) (kd : sK) (ig : sI) (rg : sR) (lg : sG) (sz : Nat) (x : Int32) (σ : Sg) (π : Ps) (ν : Nat) (hS : SCh B σ π ν kd ig rg) (hV : FV B σ ν ig) (hν : ν < 1000000) (hLv : LV κ B σ ν ig lg) (hVv : VV B σ ν ig) (hW : WS σ π) (hHt : HtS σ) (hI : IC τ B kd ig rg) : MC l B D cA yX11_mend cX11_mend 4 (some .int) (rL 7 1 6) [.ref (B + 0), .int x] kd ig rg lg sz (PI 736 τ B none kd ig rg lg (fun r kd' ig' rg' lg' => ∃ z : Int32, r = some (.int z) ∧ (∃ σ' π' ν', SCh B σ' π' ν' kd' ig' rg' ∧ FV B σ' ν' ig' ∧ LV κ B σ' ν' ig' lg' ∧ VV B σ' ν' ig' ∧ (ν' = ν + 1 ∨ (ν' = ν ∧ σ' = σ)) ∧ stMz σ π x.toInt σ' π' z.toInt))) := by
  refine MC.of (own := RX11) (by decide +kernel) rfl (Nat.le_of_ble_eq_true rfl) ?_
  intro p e s m args below meth c ls C hr hlk hnm hw hsz hl
  have hx := C.1.1
  have hb := C.1.2.1
  have hown := C.1.2.2.2.1
  have hts := C.1.2.2.2.2
  have hl : lv_has ls 4 [(0, .ref (B + 0)), (1, .int x)] := hl
  have hN : Nx 736 B none kd ig rg lg kd ig rg lg := Nx.rf
  have hsh := hI.sh
  have hrs := hI.rs
  refine lv_aload_n hx hb dX11_mend_0 rfl (lv_at hl 0 rfl) ?_
  refine r_get C hw (hsh 0 _ rfl) fl_X11_76 (oV_r rfl (hrs (0, 8, 45) (by decide))) dX11_mend_1 ?_
  refine r_callV (As := []) (rest := []) C hw (t_X1_forget l B D cA kd ig rg lg _   hI) sv_X11_153 (hsh 45 _ rfl) rfl hl.1 rfl (Nat.le_of_ble_eq_true rfl) ⟨Nat.le_of_ble_eq_true rfl, Nat.le_of_ble_eq_true rfl⟩ ⟨Nat.le_of_ble_eq_true rfl, Nat.le_of_ble_eq_true rfl⟩ dX11_mend_4 (fun r5 kd1 ig2 rg3 lg4 H locs hw hH hp6 => ?_)
  obtain ⟨hI, hchp6, hrhp6⟩ := hp6
  have hN := hN.tr hchp6
  have hsh := hI.sh
  have hrs := hI.rs
  have hS := SCh.nx hS hchp6
  have hV := FV.nx hV hchp6
  have hLv := LV.nx hLv hchp6
  have hVv := VV.nx hVv hchp6
  obtain rfl := hrhp6
  refine lv_aload_n hx hb dX11_mend_7 rfl (lv_at hl 0 rfl) ?_
  refine r_get C hw (hsh 0 _ rfl) fl_X11_44 (oV_r rfl (hrs (0, 4, 29) (by decide))) dX11_mend_8 ?_
  refine r_callV (As := []) (rest := []) C hw (t_X2_settleE l B D cA kd1 ig2 rg3 lg4 _  σ π ν hS hV hI) sv_X11_140 (hsh 29 _ rfl) rfl hl.1 rfl (Nat.le_of_ble_eq_true rfl) ⟨Nat.le_of_ble_eq_true rfl, Nat.le_of_ble_eq_true rfl⟩ ⟨Nat.le_of_ble_eq_true rfl, Nat.le_of_ble_eq_true rfl⟩ dX11_mend_11 (fun r11 kd7 ig8 rg9 lg10 H locs hw hH hp12 => ?_)
  obtain ⟨hI, hchp12, hrhp12⟩ := hp12
  have hN := hN.tr hchp12
  have hsh := hI.sh
  have hrs := hI.rs
  have hV := FV.of hrhp12.2.1 hrhp12.2.2
  have hS := SCh.nx hS hchp12
  have hLv := LV.nx hLv hchp12
  have hVv := VV.nx hVv hchp12
  obtain ⟨rfl, hvhp12⟩ := hrhp12
  have fam9 : FaR σ (fun p => (ig8 (B + 30) p).toInt) := hvhp12.1
  refine lv_aload_n hx hb dX11_mend_14 rfl (lv_at hl 0 rfl) ?_
  refine r_get C hw (hsh 0 _ rfl) fl_X11_44 (oV_r rfl (hrs (0, 4, 29) (by decide))) dX11_mend_15 ?_
  refine lv_iload_n hx hb dX11_mend_18 rfl (lv_at hl 1 rfl) ?_
  refine r_callV (As := [.int x]) (rest := []) C hw (t_X2_neighbourToCopyE l B D cA kd7 ig8 rg9 lg10 _ x σ π ν hS (fun p => (ig8 (B + 30) p).toInt) (fun p hp => rfl) hI) sv_X11_156 (hsh 29 _ rfl) rfl hl.1 rfl (Nat.le_of_ble_eq_true rfl) ⟨Nat.le_of_ble_eq_true rfl, Nat.le_of_ble_eq_true rfl⟩ ⟨Nat.le_of_ble_eq_true rfl, Nat.le_of_ble_eq_true rfl⟩ dX11_mend_19 (fun r17 kd13 ig14 rg15 lg16 H locs hw hH hp18 => ?_)
  obtain ⟨rfl, rfl, rfl, rfl, hzhp18, hrhp18⟩ := hp18
  obtain ⟨z19, rfl, hz19⟩ := hrhp18
  have odd9 := hz19
  refine lv_istore_n (lv' := [(2, .int z19), (0, .ref (B + 0)), (1, .int x)]) hx hb dX11_mend_22 rfl hl (by decide) rfl (fun ls hl => ?_)
  refine lv_iload_n hx hb dX11_mend_23 rfl (lv_at hl 0 rfl) ?_
  refine lv_iconst (v := (-1)) hx hb dX11_mend_24 (by decide) (ti_c (-1) (by decide) fun z20 hz20 => ?_)
  refine b_ne (tgt := 30) hx hb dX11_mend_25 (by decide) (fun c25 => ?_) (fun c25 => ?_)
  · have hx0 : 0 ≤ x.toInt ∧ x.toInt < 288 := (by rcases odd9 with ⟨-, q⟩ | ⟨q, -⟩; omega; exact atC_k q)
    refine lv_aload_n hx hb dX11_mend_30 rfl (lv_at hl 1 rfl) ?_
    refine r_get C hw (hsh 0 _ rfl) fl_X11_19 (oV_r rfl (hrs (0, 1, 9) (by decide))) dX11_mend_31 ?_
    refine lv_iload_n hx hb dX11_mend_34 rfl (lv_at hl 0 rfl) ?_
    refine lv_iload_n hx hb dX11_mend_35 rfl (lv_at hl 2 rfl) ?_
    refine r_callV (As := [.int z19, .int x]) (rest := []) C hw (t_X6_copyForE l B D cA kd7 ig8 rg9 lg10 _ z19 x σ π ν hS (fun q => (hW.wf q).2) (by omega) hI) sv_X11_112 (hsh 9 _ rfl) rfl hl.1 rfl (Nat.le_of_ble_eq_true rfl) ⟨Nat.le_of_ble_eq_true rfl, Nat.le_of_ble_eq_true rfl⟩ ⟨Nat.le_of_ble_eq_true rfl, Nat.le_of_ble_eq_true rfl⟩ dX11_mend_36 (fun r25 kd21 ig22 rg23 lg24 H locs hw hH hp26 => ?_)
    obtain ⟨hI, hchp26, hrhp26⟩ := hp26
    have hN := hN.tr hchp26
    have hsh := hI.sh
    have hrs := hI.rs
    have hS := SCh.nx hS hchp26
    have hV := FV.nx hV hchp26
    have hLv := LV.nx hLv hchp26
    have hVv := VV.nx hVv hchp26
    rcases hrhp26 with ⟨rfl, ftq27⟩ | ⟨q27, rfl, ftq27, hcq27⟩
    · refine lv_astore_nN (lv' := [(3, .null), (2, .int z19), (0, .ref (B + 0)), (1, .int x)]) hx hb dX11_mend_39 rfl hl (by decide) rfl (fun ls hl => ?_)
      refine lv_aload_nN hx hb dX11_mend_40 rfl (lv_at hl 0 rfl) ?_
      refine lv_ifnonnullN hx hb dX11_mend_41 ?_
      refine lv_iconst (v := (-1)) hx hb dX11_mend_44 (by decide) (ti_c (-1) (by decide) fun z28 hz28 => ?_)
      exact r_iret C hw hr hlk rfl (Nat.le_of_ble_eq_true rfl) (Nat.le_of_ble_eq_true rfl) dX11_mend_45 ⟨hI, hN, ⟨_, rfl, ⟨_, _, _, hS, hV, hLv, hVv, (by first | exact Or.inl rfl | exact Or.inr ⟨rfl, rfl⟩), ⟨(fun p => (ig8 (B + 30) p).toInt), _, fam9, odd9, Or.inl ⟨fun w => ftq27 w.2, ⟨rfl, rfl⟩, by omega⟩⟩⟩⟩⟩
    · obtain ⟨nq27, kq27⟩ := hcq27.kq
      refine lv_astore_n (lv' := [(3, .ref q27), (2, .int z19), (0, .ref (B + 0)), (1, .int x)]) hx hb dX11_mend_39 rfl hl (by decide) rfl (fun ls hl => ?_)
      refine lv_aload_n hx hb dX11_mend_40 rfl (lv_at hl 0 rfl) ?_
      refine lv_ifnonnull (tgt := 46) hx hb dX11_mend_41 (by decide) ?_
      have hW2 := hW.cp (n := z19.toInt) (y := x.toInt) (show onS x.toInt from hx0) ftq27 ⟨rfl, rfl⟩
      have hHt2 : HtS (upS σ x.toInt.toNat (wuC (atC σ z19.toInt))) := hHt.up (fun k9 => by rw [(wu_f k9).2]; exact hHt.a (wu_f k9).1)
      refine lv_aload_n hx hb dX11_mend_46 rfl (lv_at hl 2 rfl) ?_
      refine r_get C hw (hsh 0 _ rfl) fl_X11_37 (oV_r rfl (hrs (0, 3, 24) (by decide))) dX11_mend_47 ?_
      refine r_callV (As := []) (rest := []) C hw (t_X10_settleE l B D cA kd21 ig22 rg23 lg24 _  σ π ν hS hLv hVv hW hHt hI) sv_X11_159 (hsh 24 _ rfl) rfl hl.1 rfl (Nat.le_of_ble_eq_true rfl) ⟨Nat.le_of_ble_eq_true rfl, Nat.le_of_ble_eq_true rfl⟩ ⟨Nat.le_of_ble_eq_true rfl, Nat.le_of_ble_eq_true rfl⟩ dX11_mend_50 (fun r33 kd29 ig30 rg31 lg32 H locs hw hH hp34 => ?_)
      obtain ⟨hI, hchp34, hrhp34⟩ := hp34
      have hcq27 := ClQ.nx hcq27 hchp34
      have kq27 := Nx.k hchp34 kq27
      have hN := hN.tr hchp34
      have hsh := hI.sh
      have hrs := hI.rs
      have hLv := hrhp34.2.1.2.2
      have hVk := hrhp34.2.1.1
      have hVv := VV.of hrhp34.2.1.1 hrhp34.2.1.2.1
      have hS := SCh.nx hS hchp34
      have hV := FV.nx hV hchp34
      obtain ⟨rfl, hvhp34⟩ := hrhp34
      refine lv_aload_n hx hb dX11_mend_53 rfl (lv_at hl 2 rfl) ?_
      refine r_get C hw (hsh 0 _ rfl) fl_X11_76 (oV_r rfl (hrs (0, 8, 45) (by decide))) dX11_mend_54 ?_
      refine r_callV (As := []) (rest := []) C hw (t_X1_rememberE l B D cA kd29 ig30 rg31 lg32 _   hI) sv_X11_160 (hsh 45 _ rfl) rfl hl.1 rfl (Nat.le_of_ble_eq_true rfl) ⟨Nat.le_of_ble_eq_true rfl, Nat.le_of_ble_eq_true rfl⟩ ⟨Nat.le_of_ble_eq_true rfl, Nat.le_of_ble_eq_true rfl⟩ dX11_mend_57 (fun r39 kd35 ig36 rg37 lg38 H locs hw hH hp40 => ?_)
      obtain ⟨hI, hchp40, hrhp40⟩ := hp40
      have hcq27 := ClQ.nx hcq27 hchp40
      have kq27 := Nx.k hchp40 kq27
      have hN := hN.tr hchp40
      have hsh := hI.sh
      have hrs := hI.rs
      have hS := SCh.nx hS hchp40
      have hV := FV.nx hV hchp40
      have hLv := LV.nx hLv hchp40
      have hVv := VV.nx hVv hchp40
      obtain ⟨v0, ev0⟩ : ∃ f, f = ig30 (B + 25) := ⟨_, rfl⟩
      obtain ⟨e0, ee0⟩ : ∃ f, f = ig30 (B + 26) := ⟨_, rfl⟩
      have hRm : ReM B v0 e0 ig36 := by rw [ev0, ee0]; exact hrhp40.2.1
      have hVk0 := hVk
      rw [← ev0, ← ee0] at hVk0
      obtain ⟨rfl, hvhp40⟩ := hrhp40
      refine lv_aload_n hx hb dX11_mend_60 rfl (lv_at hl 2 rfl) ?_
      refine r_get C hw (hsh 0 _ rfl) fl_X11_19 (oV_r rfl (hrs (0, 1, 9) (by decide))) dX11_mend_61 ?_
      refine lv_iload_n hx hb dX11_mend_64 rfl (lv_at hl 3 rfl) ?_
      refine lv_aload_n hx hb dX11_mend_65 rfl (lv_at hl 0 rfl) ?_
      refine r_callV (As := [.int x, .ref q27]) (rest := []) C hw (t_X6_putE l B D cA kd35 ig36 rg37 lg38 _ x q27 (wuC (atC σ z19.toInt)) hcq27 σ π ν hS (by omega) (by omega) hI) sv_X11_104 (hsh 9 _ rfl) rfl hl.1 rfl (Nat.le_of_ble_eq_true rfl) ⟨Nat.le_of_ble_eq_true rfl, Nat.le_of_ble_eq_true rfl⟩ ⟨Nat.le_of_ble_eq_true rfl, Nat.le_of_ble_eq_true rfl⟩ dX11_mend_66 (fun r45 kd41 ig42 rg43 lg44 H locs hw hH hp46 => ?_)
      obtain ⟨hI, hchp46, hrhp46⟩ := hp46
      have hN := hN.tr hchp46
      have hsh := hI.sh
      have hrs := hI.rs
      have hLv := LV.step (σ' := (upS σ x.toInt.toNat (wuC (atC σ z19.toInt)))) hLv hchp46
      have hVv := VV.step (σ' := (upS σ x.toInt.toNat (wuC (atC σ z19.toInt)))) hVv hchp46
      have hV := FV.step (σ' := (upS σ x.toInt.toNat (wuC (atC σ z19.toInt)))) hV hrhp46.2.2
      have hS := hrhp46.2.1
      have hRm := ReM.nx hRm hchp46
      obtain ⟨rfl, hvhp46⟩ := hrhp46
      refine lv_aload_n hx hb dX11_mend_69 rfl (lv_at hl 2 rfl) ?_
      refine r_get C hw (hsh 0 _ rfl) fl_X11_37 (oV_r rfl (hrs (0, 3, 24) (by decide))) dX11_mend_70 ?_
      refine r_callV (As := []) (rest := []) C hw (t_X10_settleE l B D cA kd41 ig42 rg43 lg44 _  (upS σ x.toInt.toNat (wuC (atC σ z19.toInt))) (pput π x.toInt.toNat (σ x.toInt.toNat)) (ν + 1) hS hLv hVv hW2 hHt2 hI) sv_X11_159 (hsh 24 _ rfl) rfl hl.1 rfl (Nat.le_of_ble_eq_true rfl) ⟨Nat.le_of_ble_eq_true rfl, Nat.le_of_ble_eq_true rfl⟩ ⟨Nat.le_of_ble_eq_true rfl, Nat.le_of_ble_eq_true rfl⟩ dX11_mend_73 (fun r51 kd47 ig48 rg49 lg50 H locs hw hH hp52 => ?_)
      obtain ⟨hI, hchp52, hrhp52⟩ := hp52
      have hN := hN.tr hchp52
      have hsh := hI.sh
      have hrs := hI.rs
      have hLv := hrhp52.2.1.2.2
      have hVk := hrhp52.2.1.1
      have hVv := VV.of hrhp52.2.1.1 hrhp52.2.1.2.1
      have hS := SCh.nx hS hchp52
      have hV := FV.nx hV hchp52
      have hRm := ReM.nx hRm hchp52
      obtain ⟨rfl, hvhp52⟩ := hrhp52
      refine lv_aload_n hx hb dX11_mend_76 rfl (lv_at hl 2 rfl) ?_
      refine r_get C hw (hsh 0 _ rfl) fl_X11_76 (oV_r rfl (hrs (0, 8, 45) (by decide))) dX11_mend_77 ?_
      have hRm0 := hRm
      refine r_callV (As := []) (rest := []) C hw (t_X1_compareE l B D cA kd47 ig48 rg49 lg50 _   hI) sv_X11_163 (hsh 45 _ rfl) rfl hl.1 rfl (Nat.le_of_ble_eq_true rfl) ⟨Nat.le_of_ble_eq_true rfl, Nat.le_of_ble_eq_true rfl⟩ ⟨Nat.le_of_ble_eq_true rfl, Nat.le_of_ble_eq_true rfl⟩ dX11_mend_80 (fun r57 kd53 ig54 rg55 lg56 H locs hw hH hp58 => ?_)
      obtain ⟨hI, hchp58, hrhp58⟩ := hp58
      have hN := hN.tr hchp58
      have hsh := hI.sh
      have hrs := hI.rs
      have hS := SCh.nx hS hchp58
      have hV := FV.nx hV hchp58
      have hLv := LV.nx hLv hchp58
      have hVv := VV.nx hVv hchp58
      obtain ⟨z59, rfl, hz59⟩ := hrhp58
      exact r_iret C hw hr hlk rfl (Nat.le_of_ble_eq_true rfl) (Nat.le_of_ble_eq_true rfl) dX11_mend_83 ⟨hI, hN, ⟨_, rfl, ⟨_, _, _, hS, hV, hLv, hVv, (by first | exact Or.inl rfl | exact Or.inr ⟨rfl, rfl⟩), ⟨(fun p => (ig8 (B + 30) p).toInt), _, fam9, odd9, Or.inr ⟨⟨by omega, ftq27⟩, ⟨rfl, rfl⟩, chR.of hVk0 hRm0 hVk hz59.1⟩⟩⟩⟩⟩
  · refine lv_iconst (v := (-1)) hx hb dX11_mend_28 (by decide) (ti_c (-1) (by decide) fun z60 hz60 => ?_)
    exact r_iret C hw hr hlk rfl (Nat.le_of_ble_eq_true rfl) (Nat.le_of_ble_eq_true rfl) dX11_mend_29 ⟨hI, hN, ⟨_, rfl, ⟨_, _, _, hS, hV, hLv, hVv, (by first | exact Or.inl rfl | exact Or.inr ⟨rfl, rfl⟩), ⟨(fun p => (ig8 (B + 30) p).toInt), _, fam9, odd9, Or.inl ⟨fun w => w.1 (by omega), ⟨rfl, rfl⟩, by omega⟩⟩⟩⟩⟩

set_option maxHeartbeats 4000000 in
set_option maxRecDepth 100000 in
theorem t_X11_stretchZ {κ : Int} {τ : Tp} (l : Launch) (B : Nat) (D : va_G) (cA : Nat → ClassId) (kd : sK) (ig : sI) (rg : sR) (lg : sG) (sz : Nat) (x : Int32) (y : Int32) (σ : Sg) (π : Ps) (ν : Nat) (hS : SCh B σ π ν kd ig rg) (hV : FV B σ ν ig) (hν : ν < 1000000) (hLv : LV κ B σ ν ig lg) (hVv : VV B σ ν ig) (hW : WS σ π) (hHt : HtS σ) (hI : IC τ B kd ig rg) : MC l B D cA yX11_stretch cX11_stretch 4 (some .int) (rL 7 5 369) [.ref (B + 0), .int x, .int y] kd ig rg lg sz (PI 736 τ B none kd ig rg lg (fun r kd' ig' rg' lg' => ∃ z : Int32, r = some (.int z) ∧ (∃ σ' π' ν', SCh B σ' π' ν' kd' ig' rg' ∧ FV B σ' ν' ig' ∧ LV κ B σ' ν' ig' lg' ∧ VV B σ' ν' ig' ∧ (ν' = ν + 1 ∨ (ν' = ν ∧ σ' = σ)) ∧ stTz σ π x.toInt σ' π' y.toInt z.toInt))) := by
  refine MC.of (own := RX11) (by decide +kernel) rfl (Nat.le_of_ble_eq_true rfl) ?_
  intro p e s m args below meth c ls C hr hlk hnm hw hsz hl
  have hx := C.1.1
  have hb := C.1.2.1
  have hown := C.1.2.2.2.1
  have hts := C.1.2.2.2.2
  have hl : lv_has ls 4 [(0, .ref (B + 0)), (1, .int x), (2, .int y)] := hl
  have hN : Nx 736 B none kd ig rg lg kd ig rg lg := Nx.rf
  have hsh := hI.sh
  have hrs := hI.rs
  refine lv_aload_n hx hb dX11_stretch_0 rfl (lv_at hl 0 rfl) ?_
  refine r_get C hw (hsh 0 _ rfl) fl_X11_76 (oV_r rfl (hrs (0, 8, 45) (by decide))) dX11_stretch_1 ?_
  refine r_callV (As := []) (rest := []) C hw (t_X1_forget l B D cA kd ig rg lg _   hI) sv_X11_153 (hsh 45 _ rfl) rfl hl.1 rfl (Nat.le_of_ble_eq_true rfl) ⟨Nat.le_of_ble_eq_true rfl, Nat.le_of_ble_eq_true rfl⟩ ⟨Nat.le_of_ble_eq_true rfl, Nat.le_of_ble_eq_true rfl⟩ dX11_stretch_4 (fun r5 kd1 ig2 rg3 lg4 H locs hw hH hp6 => ?_)
  obtain ⟨hI, hchp6, hrhp6⟩ := hp6
  have hN := hN.tr hchp6
  have hsh := hI.sh
  have hrs := hI.rs
  have hS := SCh.nx hS hchp6
  have hV := FV.nx hV hchp6
  have hLv := LV.nx hLv hchp6
  have hVv := VV.nx hVv hchp6
  obtain rfl := hrhp6
  refine lv_aload_n hx hb dX11_stretch_7 rfl (lv_at hl 0 rfl) ?_
  refine lv_iload_n hx hb dX11_stretch_8 rfl (lv_at hl 1 rfl) ?_
  refine lv_iload_n hx hb dX11_stretch_9 rfl (lv_at hl 2 rfl) ?_
  refine r_callV (As := [.int x, .int y]) (rest := []) C hw (t_X11_stretchedFormulaE l B D cA kd1 ig2 rg3 lg4 _ x y σ π ν hS hV hν hW hI) sv_X11_166 (hsh 0 _ rfl) rfl hl.1 rfl (Nat.le_of_ble_eq_true rfl) ⟨Nat.le_of_ble_eq_true rfl, Nat.le_of_ble_eq_true rfl⟩ ⟨Nat.le_of_ble_eq_true rfl, Nat.le_of_ble_eq_true rfl⟩ dX11_stretch_10 (fun r11 kd7 ig8 rg9 lg10 H locs hw hH hp12 => ?_)
  obtain ⟨hI, hchp12, hrhp12⟩ := hp12
  have hN := hN.tr hchp12
  have hsh := hI.sh
  have hrs := hI.rs
  obtain ⟨hV, hrhp12⟩ := hrhp12
  have hS := SCh.nx hS hchp12
  have hLv := LV.nx hLv hchp12
  have hVv := VV.nx hVv hchp12
  rcases hrhp12 with ⟨rfl, qqf13⟩ | ⟨f13, Lf13, rfl, hLf13, qqf13⟩
  · refine lv_astore_nN (lv' := [(3, .null), (0, .ref (B + 0)), (1, .int x), (2, .int y)]) hx hb dX11_stretch_13 rfl hl (by decide) rfl (fun ls hl => ?_)
    refine lv_aload_nN hx hb dX11_stretch_14 rfl (lv_at hl 0 rfl) ?_
    refine lv_ifnonnullN hx hb dX11_stretch_15 ?_
    refine lv_iconst (v := (-1)) hx hb dX11_stretch_18 (by decide) (ti_c (-1) (by decide) fun z14 hz14 => ?_)
    exact r_iret C hw hr hlk rfl (Nat.le_of_ble_eq_true rfl) (Nat.le_of_ble_eq_true rfl) dX11_stretch_19 ⟨hI, hN, ⟨_, rfl, ⟨_, _, _, hS, hV, hLv, hVv, (by first | exact Or.inl rfl | exact Or.inr ⟨rfl, rfl⟩), ⟨_, qqf13, Or.inl ⟨rfl, ⟨rfl, rfl⟩, by omega⟩⟩⟩⟩⟩
  · have lf13 := hLf13.le
    refine lv_astore_n (lv' := [(3, .ref f13), (0, .ref (B + 0)), (1, .int x), (2, .int y)]) hx hb dX11_stretch_13 rfl hl (by decide) rfl (fun ls hl => ?_)
    refine lv_aload_n hx hb dX11_stretch_14 rfl (lv_at hl 0 rfl) ?_
    refine lv_ifnonnull (tgt := 20) hx hb dX11_stretch_15 (by decide) ?_
    have hx1 := (stQ.fit hW qqf13).1
    have hx0 := hx1
    unfold onS at hx0
    have hW2 := hW.stT (k := y.toInt) ⟨_, qqf13, Or.inr ⟨_, rfl, ⟨rfl, rfl⟩⟩⟩
    have hHt2 : HtS (upS σ x.toInt.toNat (fCl Lf13)) := hHt.up (fun _ => hHt.q qqf13)
    refine lv_aload_n hx hb dX11_stretch_20 rfl (lv_at hl 1 rfl) ?_
    refine r_get C hw (hsh 0 _ rfl) fl_X11_37 (oV_r rfl (hrs (0, 3, 24) (by decide))) dX11_stretch_21 ?_
    refine r_callV (As := []) (rest := []) C hw (t_X10_settleE l B D cA kd7 ig8 rg9 lg10 _  σ π ν hS hLv hVv hW hHt hI) sv_X11_159 (hsh 24 _ rfl) rfl hl.1 rfl (Nat.le_of_ble_eq_true rfl) ⟨Nat.le_of_ble_eq_true rfl, Nat.le_of_ble_eq_true rfl⟩ ⟨Nat.le_of_ble_eq_true rfl, Nat.le_of_ble_eq_true rfl⟩ dX11_stretch_24 (fun r19 kd15 ig16 rg17 lg18 H locs hw hH hp20 => ?_)
    obtain ⟨hI, hchp20, hrhp20⟩ := hp20
    have hLf13 := FnL.nx hLf13 hchp20
    have hN := hN.tr hchp20
    have hsh := hI.sh
    have hrs := hI.rs
    have hLv := hrhp20.2.1.2.2
    have hVk := hrhp20.2.1.1
    have hVv := VV.of hrhp20.2.1.1 hrhp20.2.1.2.1
    have hS := SCh.nx hS hchp20
    have hV := FV.nx hV hchp20
    obtain ⟨rfl, hvhp20⟩ := hrhp20
    refine lv_aload_n hx hb dX11_stretch_27 rfl (lv_at hl 1 rfl) ?_
    refine r_get C hw (hsh 0 _ rfl) fl_X11_76 (oV_r rfl (hrs (0, 8, 45) (by decide))) dX11_stretch_28 ?_
    refine r_callV (As := []) (rest := []) C hw (t_X1_rememberE l B D cA kd15 ig16 rg17 lg18 _   hI) sv_X11_160 (hsh 45 _ rfl) rfl hl.1 rfl (Nat.le_of_ble_eq_true rfl) ⟨Nat.le_of_ble_eq_true rfl, Nat.le_of_ble_eq_true rfl⟩ ⟨Nat.le_of_ble_eq_true rfl, Nat.le_of_ble_eq_true rfl⟩ dX11_stretch_31 (fun r25 kd21 ig22 rg23 lg24 H locs hw hH hp26 => ?_)
    obtain ⟨hI, hchp26, hrhp26⟩ := hp26
    have hLf13 := FnL.nx hLf13 hchp26
    have hN := hN.tr hchp26
    have hsh := hI.sh
    have hrs := hI.rs
    have hS := SCh.nx hS hchp26
    have hV := FV.nx hV hchp26
    have hLv := LV.nx hLv hchp26
    have hVv := VV.nx hVv hchp26
    obtain ⟨v0, ev0⟩ : ∃ f, f = ig16 (B + 25) := ⟨_, rfl⟩
    obtain ⟨e0, ee0⟩ : ∃ f, f = ig16 (B + 26) := ⟨_, rfl⟩
    have hRm : ReM B v0 e0 ig22 := by rw [ev0, ee0]; exact hrhp26.2.1
    have hVk0 := hVk
    rw [← ev0, ← ee0] at hVk0
    obtain ⟨rfl, hvhp26⟩ := hrhp26
    refine lv_aload_n hx hb dX11_stretch_34 rfl (lv_at hl 1 rfl) ?_
    refine r_get C hw (hsh 0 _ rfl) fl_X11_19 (oV_r rfl (hrs (0, 1, 9) (by decide))) dX11_stretch_35 ?_
    refine lv_iload_n hx hb dX11_stretch_38 rfl (lv_at hl 2 rfl) ?_
    obtain ⟨h27, sh27⟩ : ∃ h, H.size = h := ⟨_, rfl⟩
    have oh27 : kd21 h27 = none := by have h9 := hw.fresh; rw [sh27] at h9; exact h9
    have bh27 : B + 80 ≤ h27 := by have h9 := hw.lt (hsh 79 _ rfl); omega
    have noh27 := hN.no oh27
    have hI := IC.new (k := 0) (n := 0) hI oh27 bh27
    have hN := Nx.new (k := 0) (n := 0) hN oh27 bh27
    refine r_new (k := 0) (t0 := tyX0) C hw rfl (by decide) rfl inT0 tyX0_ok dfX0 cl_X11_99 it_0 id_0 (Nat.le_of_ble_eq_true rfl) (Nat.le_of_ble_eq_true rfl) dX11_stretch_39 sh27 (fun H hsz hw => ?_)
    obtain ⟨kd28, ekd28⟩ : ∃ f, f = upK kd21 h27 0 0 := ⟨_, rfl⟩
    obtain ⟨ig29, eig29⟩ : ∃ f, f = upR ig22 h27 0 := ⟨_, rfl⟩
    obtain ⟨rg30, erg30⟩ : ∃ f, f = upR rg23 h27 none := ⟨_, rfl⟩
    have kh27 : kd28 h27 = some (0, 0) := by rw [ekd28, upK_eq]
    have rnh27 : ∀ j, rg30 h27 j = none := fun j => by rw [erg30, upR_eq]
    rw [← ekd28, ← eig29, ← erg30] at hw hI hN
    have hsh := hI.sh
    have hrs := hI.rs
    have hLf13 : FnL B kd28 ig29 rg30 f13 (Lf13) := by rw [ekd28, eig29, erg30]; exact FnL.nx hLf13 (Nx.new (b := 0) (k := 0) (n := 0) (lg := lg) Nx.rf oh27 bh27)
    refine lv_dup hx hb dX11_stretch_42 rfl ?_
    refine lv_iconst (v := 2) hx hb dX11_stretch_43 (by decide) (ti_c 2 (by decide) fun z31 hz31 => ?_)
    refine lv_iconst (v := 0) hx hb dX11_stretch_44 (by decide) (ti_c 0 (by decide) fun z32 hz32 => ?_)
    refine lv_aload_n hx hb dX11_stretch_45 rfl (lv_at hl 0 rfl) ?_
    refine r_callI (As := [.int z31, .int z32, .ref f13]) (rest := [.ref h27, .int x, .ref (B + 9)]) C hw (t_X0_initFE l B D cA kd28 ig29 rg30 lg24 _ h27 kh27 bh27 z31 z32 f13 (Lf13) hLf13 (by omega) hI) sc_X11_101 rfl hl.1 rfl (Nat.le_of_ble_eq_true rfl) ⟨Nat.le_of_ble_eq_true rfl, Nat.le_of_ble_eq_true rfl⟩ ⟨Nat.le_of_ble_eq_true rfl, Nat.le_of_ble_eq_true rfl⟩ dX11_stretch_46 (fun r37 kd33 ig34 rg35 lg36 H locs hw hH hp38 => ?_)
    obtain ⟨hI, hchp38, hrhp38⟩ := hp38
    have kh27 := Nx.k hchp38 kh27
    have hN := hN.trx hchp38 noh27
    have hsh := hI.sh
    have hrs := hI.rs
    obtain ⟨rfl, hc39⟩ := hrhp38
    rw [hz31] at hc39
    rw [hz32] at hc39
    have hm9 : Nx 1022 B none kd21 ig22 rg23 lg24 kd33 ig34 rg35 lg36 := ((show Nx 1022 B none kd21 ig22 rg23 lg24 kd28 ig29 rg30 lg24 from by rw [ekd28, eig29, erg30]; exact Nx.new (k := 0) (n := 0) Nx.rf oh27 bh27)).trx hchp38 oh27
    have hS := SCh.nx hS hm9
    have hV := FV.nx hV hm9
    have hLv := LV.nx hLv hm9
    have hVv := VV.nx hVv hm9
    have hRm := ReM.nx hRm hm9
    refine r_callV (As := [.int x, .ref h27]) (rest := []) C hw (t_X6_putE l B D cA kd33 ig34 rg35 lg36 _ x h27 (((2, 0), (0, 0, 0), (Lf13))) hc39 σ π ν hS (by omega) (by omega) hI) sv_X11_104 (hsh 9 _ rfl) rfl hl.1 rfl (Nat.le_of_ble_eq_true rfl) ⟨Nat.le_of_ble_eq_true rfl, Nat.le_of_ble_eq_true rfl⟩ ⟨Nat.le_of_ble_eq_true rfl, Nat.le_of_ble_eq_true rfl⟩ dX11_stretch_49 (fun r44 kd40 ig41 rg42 lg43 H locs hw hH hp45 => ?_)
    obtain ⟨hI, hchp45, hrhp45⟩ := hp45
    have hN := hN.tr hchp45
    have hsh := hI.sh
    have hrs := hI.rs
    have hLv := LV.step (σ' := (upS σ x.toInt.toNat (((2, 0), (0, 0, 0), (Lf13))))) hLv hchp45
    have hVv := VV.step (σ' := (upS σ x.toInt.toNat (((2, 0), (0, 0, 0), (Lf13))))) hVv hchp45
    have hV := FV.step (σ' := (upS σ x.toInt.toNat (((2, 0), (0, 0, 0), (Lf13))))) hV hrhp45.2.2
    have hS := hrhp45.2.1
    have hRm := ReM.nx hRm hchp45
    obtain ⟨rfl, hvhp45⟩ := hrhp45
    refine lv_aload_n hx hb dX11_stretch_52 rfl (lv_at hl 1 rfl) ?_
    refine r_get C hw (hsh 0 _ rfl) fl_X11_37 (oV_r rfl (hrs (0, 3, 24) (by decide))) dX11_stretch_53 ?_
    refine r_callV (As := []) (rest := []) C hw (t_X10_settleE l B D cA kd40 ig41 rg42 lg43 _  (upS σ x.toInt.toNat (((2, 0), (0, 0, 0), (Lf13)))) (pput π x.toInt.toNat (σ x.toInt.toNat)) (ν + 1) hS hLv hVv hW2 hHt2 hI) sv_X11_159 (hsh 24 _ rfl) rfl hl.1 rfl (Nat.le_of_ble_eq_true rfl) ⟨Nat.le_of_ble_eq_true rfl, Nat.le_of_ble_eq_true rfl⟩ ⟨Nat.le_of_ble_eq_true rfl, Nat.le_of_ble_eq_true rfl⟩ dX11_stretch_56 (fun r50 kd46 ig47 rg48 lg49 H locs hw hH hp51 => ?_)
    obtain ⟨hI, hchp51, hrhp51⟩ := hp51
    have hN := hN.tr hchp51
    have hsh := hI.sh
    have hrs := hI.rs
    have hLv := hrhp51.2.1.2.2
    have hVk := hrhp51.2.1.1
    have hVv := VV.of hrhp51.2.1.1 hrhp51.2.1.2.1
    have hS := SCh.nx hS hchp51
    have hV := FV.nx hV hchp51
    have hRm := ReM.nx hRm hchp51
    obtain ⟨rfl, hvhp51⟩ := hrhp51
    refine lv_aload_n hx hb dX11_stretch_59 rfl (lv_at hl 1 rfl) ?_
    refine r_get C hw (hsh 0 _ rfl) fl_X11_76 (oV_r rfl (hrs (0, 8, 45) (by decide))) dX11_stretch_60 ?_
    have hRm0 := hRm
    refine r_callV (As := []) (rest := []) C hw (t_X1_compareE l B D cA kd46 ig47 rg48 lg49 _   hI) sv_X11_163 (hsh 45 _ rfl) rfl hl.1 rfl (Nat.le_of_ble_eq_true rfl) ⟨Nat.le_of_ble_eq_true rfl, Nat.le_of_ble_eq_true rfl⟩ ⟨Nat.le_of_ble_eq_true rfl, Nat.le_of_ble_eq_true rfl⟩ dX11_stretch_63 (fun r56 kd52 ig53 rg54 lg55 H locs hw hH hp57 => ?_)
    obtain ⟨hI, hchp57, hrhp57⟩ := hp57
    have hN := hN.tr hchp57
    have hsh := hI.sh
    have hrs := hI.rs
    have hS := SCh.nx hS hchp57
    have hV := FV.nx hV hchp57
    have hLv := LV.nx hLv hchp57
    have hVv := VV.nx hVv hchp57
    obtain ⟨z58, rfl, hz58⟩ := hrhp57
    exact r_iret C hw hr hlk rfl (Nat.le_of_ble_eq_true rfl) (Nat.le_of_ble_eq_true rfl) dX11_stretch_66 ⟨hI, hN, ⟨_, rfl, ⟨_, _, _, hS, hV, hLv, hVv, (by first | exact Or.inl rfl | exact Or.inr ⟨rfl, rfl⟩), ⟨_, qqf13, Or.inr ⟨_, rfl, ⟨rfl, rfl⟩, chR.of hVk0 hRm0 hVk hz58.1⟩⟩⟩⟩⟩
