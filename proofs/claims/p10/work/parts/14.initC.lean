set_option maxHeartbeats 4000000 in
set_option maxRecDepth 100000 in
theorem t_X11_init (l : Launch) (B : Nat) (D : va_G) (cA : Nat → ClassId) (kd : sK) (ig : sI) (rg : sR) (lg : sG) (sz : Nat) (hs0 : sz = B + 1) (hk0 : kd = kx B 1) (hci : CI B 1 ig rg lg) : MC l B D cA yX11_init cX11_init 1 none (rL 3 48 15533) [.ref (B + 0)] kd ig rg lg sz (fun r kd' ig' rg' lg' n => kd' = kx B 49 ∧ n = B + 49 ∧ lg = lg' ∧ r = none ∧ CI B 49 ig' rg' lg' ∧ ∀ x ∈ rfp, x.1 = 0 → rg' (B + 0) x.2.1 = some (B + x.2.2)) := by
  refine MC.of (own := RX11) (by decide +kernel) rfl (Nat.le_of_ble_eq_true rfl) ?_
  intro p e s m args below meth c ls C hr hlk hnm hw hsz hl
  have hx := C.1.1
  have hb := C.1.2.1
  have hown := C.1.2.2.2.1
  have hts := C.1.2.2.2.2
  have hl : lv_has ls 1 [(0, .ref (B + 0))] := hl
  subst hs0
  subst hk0
  have zn := hci.2.2.2.1
  have zl := hci.2.2.2.2
  refine lv_aload_n hx hb dX11_init_0 rfl (lv_at hl 0 rfl) ?_
  refine r_obj C ol_X11_3 oi_i oi_c hl.1 (by decide) (by decide) dX11_init_1 ?_
  refine lv_aload_n hx hb dX11_init_4 rfl (lv_at hl 0 rfl) ?_
  refine r_new (k := 7) (t0 := tyX7) C hw rfl (by decide) rfl inT7 tyX7_ok dfX7 cl_X11_9 it_7 id_7 (Nat.le_of_ble_eq_true rfl) (Nat.le_of_ble_eq_true rfl) dX11_init_5 hsz (fun H hsz hw => ?_)
  rw [kx_up (m := 2) rfl rfl] at hw
  rw [upR_same (fun j => (zn _ j (by omega)).1), upR_same (fun j => (zn _ j (by omega)).2)] at hw
  have hsz : H.size = B + 2 := hsz
  refine lv_dup hx hb dX11_init_8 rfl ?_
  refine r_callI (As := []) (rest := [.ref (B + 1), .ref (B + 0)]) C hw (t_X7_init l B D cA (kx B 2) ig rg lg _ hsz rfl hci) sc_X11_11 rfl hl.1 rfl (Nat.le_of_ble_eq_true rfl) ⟨Nat.le_of_ble_eq_true rfl, Nat.le_of_ble_eq_true rfl⟩ ⟨Nat.le_of_ble_eq_true rfl, Nat.le_of_ble_eq_true rfl⟩ dX11_init_9 (fun r5 kd1 ig2 rg3 lg4 H locs hw hH hp6 => ?_)
  obtain ⟨rfl, hqs, rfl, rfl, hci, hi0, hr0⟩ := hp6
  have hsz := hqs
  have zn := hci.2.2.2.1
  refine r_putrF C hw (some (B + 1)) rfl hnm rfl (kxs 0 (by decide) rfl) fl_X11_12 rfl rfl rfl dX11_init_12 (fun H locs hH hw => ?_)
  obtain ⟨rg7, erg7⟩ : ∃ f, f = up2 rg3 (B + 0) 0 (some (B + 1)) := ⟨_, rfl⟩
  rw [← erg7] at hw
  have hsz := hH.trans hsz
  have hci : CI B 9 ig2 rg7 lg := by rw [erg7]; exact CI.up0 hci (by decide)
  have zn := hci.2.2.2.1
  have f0 : rg7 (B + 0) 0 = some (B + 1) := by rw [erg7, up2_eq]
  refine lv_aload_n hx hb dX11_init_15 rfl (lv_at hl 0 rfl) ?_
  refine r_new (k := 6) (t0 := tyX6) C hw rfl (by decide) rfl inT6 tyX6_ok dfX6 cl_X11_16 it_6 id_6 (Nat.le_of_ble_eq_true rfl) (Nat.le_of_ble_eq_true rfl) dX11_init_16 hsz (fun H hsz hw => ?_)
  rw [kx_up (m := 10) rfl rfl] at hw
  rw [upR_same (fun j => (zn _ j (by omega)).1), upR_same (fun j => (zn _ j (by omega)).2)] at hw
  have hsz : H.size = B + 10 := hsz
  refine lv_dup hx hb dX11_init_19 rfl ?_
  refine r_callI (As := []) (rest := [.ref (B + 9), .ref (B + 0)]) C hw (t_X6_init l B D cA (kx B 10) ig2 rg7 lg _ hsz rfl hci) sc_X11_18 rfl hl.1 rfl (Nat.le_of_ble_eq_true rfl) ⟨Nat.le_of_ble_eq_true rfl, Nat.le_of_ble_eq_true rfl⟩ ⟨Nat.le_of_ble_eq_true rfl, Nat.le_of_ble_eq_true rfl⟩ dX11_init_20 (fun r12 kd8 ig9 rg10 lg11 H locs hw hH hp13 => ?_)
  obtain ⟨rfl, hqs, rfl, rfl, hci, hi0, hr0⟩ := hp13
  have hsz := hqs
  have zn := hci.2.2.2.1
  have f0 := (hr0 0).trans f0
  refine r_putrF C hw (some (B + 9)) rfl hnm rfl (kxs 0 (by decide) rfl) fl_X11_19 rfl rfl rfl dX11_init_23 (fun H locs hH hw => ?_)
  obtain ⟨rg14, erg14⟩ : ∃ f, f = up2 rg10 (B + 0) 1 (some (B + 9)) := ⟨_, rfl⟩
  rw [← erg14] at hw
  have hsz := hH.trans hsz
  have hci : CI B 15 ig9 rg14 lg := by rw [erg14]; exact CI.up0 hci (by decide)
  have zn := hci.2.2.2.1
  have f0 : rg14 (B + 0) 0 = some (B + 1) := by rw [erg14, up2_j (by decide)]; exact f0
  have f1 : rg14 (B + 0) 1 = some (B + 9) := by rw [erg14, up2_eq]
  refine lv_aload_n hx hb dX11_init_26 rfl (lv_at hl 0 rfl) ?_
  refine r_new (k := 5) (t0 := tyX5) C hw rfl (by decide) rfl inT5 tyX5_ok dfX5 cl_X11_23 it_5 id_5 (Nat.le_of_ble_eq_true rfl) (Nat.le_of_ble_eq_true rfl) dX11_init_27 hsz (fun H hsz hw => ?_)
  rw [kx_up (m := 16) rfl rfl] at hw
  rw [upR_same (fun j => (zn _ j (by omega)).1), upR_same (fun j => (zn _ j (by omega)).2)] at hw
  have hsz : H.size = B + 16 := hsz
  refine lv_dup hx hb dX11_init_30 rfl ?_
  refine lv_aload_n hx hb dX11_init_31 rfl (lv_at hl 0 rfl) ?_
  refine r_get C hw (kxs 0 (by decide) rfl) fl_X11_19 (oV_r rfl f1) dX11_init_32 ?_
  refine r_callI (As := [.ref (B + 9)]) (rest := [.ref (B + 15), .ref (B + 0)]) C hw (t_X5_init l B D cA (kx B 16) ig9 rg14 lg _ hsz rfl hci) sc_X11_25 rfl hl.1 rfl (Nat.le_of_ble_eq_true rfl) ⟨Nat.le_of_ble_eq_true rfl, Nat.le_of_ble_eq_true rfl⟩ ⟨Nat.le_of_ble_eq_true rfl, Nat.le_of_ble_eq_true rfl⟩ dX11_init_35 (fun r19 kd15 ig16 rg17 lg18 H locs hw hH hp20 => ?_)
  obtain ⟨rfl, hqs, rfl, rfl, hci, hi0, hr0⟩ := hp20
  have hsz := hqs
  have zn := hci.2.2.2.1
  have f0 := (hr0 0).trans f0
  have f1 := (hr0 1).trans f1
  refine r_putrF C hw (some (B + 15)) rfl hnm rfl (kxs 0 (by decide) rfl) fl_X11_28 rfl rfl rfl dX11_init_38 (fun H locs hH hw => ?_)
  obtain ⟨rg21, erg21⟩ : ∃ f, f = up2 rg17 (B + 0) 2 (some (B + 15)) := ⟨_, rfl⟩
  rw [← erg21] at hw
  have hsz := hH.trans hsz
  have hci : CI B 24 ig16 rg21 lg := by rw [erg21]; exact CI.up0 hci (by decide)
  have zn := hci.2.2.2.1
  have f0 : rg21 (B + 0) 0 = some (B + 1) := by rw [erg21, up2_j (by decide)]; exact f0
  have f1 : rg21 (B + 0) 1 = some (B + 9) := by rw [erg21, up2_j (by decide)]; exact f1
  have f2 : rg21 (B + 0) 2 = some (B + 15) := by rw [erg21, up2_eq]
  refine lv_aload_n hx hb dX11_init_41 rfl (lv_at hl 0 rfl) ?_
  refine r_new (k := 10) (t0 := tyX10) C hw rfl (by decide) rfl inT10 tyX10_ok dfX10 cl_X11_32 it_10 id_10 (Nat.le_of_ble_eq_true rfl) (Nat.le_of_ble_eq_true rfl) dX11_init_42 hsz (fun H hsz hw => ?_)
  rw [kx_up (m := 25) rfl rfl] at hw
  rw [upR_same (fun j => (zn _ j (by omega)).1), upR_same (fun j => (zn _ j (by omega)).2)] at hw
  have hsz : H.size = B + 25 := hsz
  refine lv_dup hx hb dX11_init_45 rfl ?_
  refine lv_aload_n hx hb dX11_init_46 rfl (lv_at hl 0 rfl) ?_
  refine r_get C hw (kxs 0 (by decide) rfl) fl_X11_19 (oV_r rfl f1) dX11_init_47 ?_
  refine lv_aload_n hx hb dX11_init_50 rfl (lv_at hl 0 rfl) ?_
  refine r_get C hw (kxs 0 (by decide) rfl) fl_X11_28 (oV_r rfl f2) dX11_init_51 ?_
  refine r_callI (As := [.ref (B + 9), .ref (B + 15)]) (rest := [.ref (B + 24), .ref (B + 0)]) C hw (t_X10_init l B D cA (kx B 25) ig16 rg21 lg _ hsz rfl hci) sc_X11_34 rfl hl.1 rfl (Nat.le_of_ble_eq_true rfl) ⟨Nat.le_of_ble_eq_true rfl, Nat.le_of_ble_eq_true rfl⟩ ⟨Nat.le_of_ble_eq_true rfl, Nat.le_of_ble_eq_true rfl⟩ dX11_init_54 (fun r26 kd22 ig23 rg24 lg25 H locs hw hH hp27 => ?_)
  obtain ⟨rfl, hqs, rfl, rfl, hci, hi0, hr0⟩ := hp27
  have hsz := hqs
  have zn := hci.2.2.2.1
  have f0 := (hr0 0).trans f0
  have f1 := (hr0 1).trans f1
  have f2 := (hr0 2).trans f2
  refine r_putrF C hw (some (B + 24)) rfl hnm rfl (kxs 0 (by decide) rfl) fl_X11_37 rfl rfl rfl dX11_init_57 (fun H locs hH hw => ?_)
  obtain ⟨rg28, erg28⟩ : ∃ f, f = up2 rg24 (B + 0) 3 (some (B + 24)) := ⟨_, rfl⟩
  rw [← erg28] at hw
  have hsz := hH.trans hsz
  have hci : CI B 29 ig23 rg28 lg := by rw [erg28]; exact CI.up0 hci (by decide)
  have zn := hci.2.2.2.1
  have f0 : rg28 (B + 0) 0 = some (B + 1) := by rw [erg28, up2_j (by decide)]; exact f0
  have f1 : rg28 (B + 0) 1 = some (B + 9) := by rw [erg28, up2_j (by decide)]; exact f1
  have f2 : rg28 (B + 0) 2 = some (B + 15) := by rw [erg28, up2_j (by decide)]; exact f2
  have f3 : rg28 (B + 0) 3 = some (B + 24) := by rw [erg28, up2_eq]
  refine lv_aload_n hx hb dX11_init_60 rfl (lv_at hl 0 rfl) ?_
  refine r_new (k := 2) (t0 := tyX2) C hw rfl (by decide) rfl inT2 tyX2_ok dfX2 cl_X11_41 it_2 id_2 (Nat.le_of_ble_eq_true rfl) (Nat.le_of_ble_eq_true rfl) dX11_init_61 hsz (fun H hsz hw => ?_)
  rw [kx_up (m := 30) rfl rfl] at hw
  rw [upR_same (fun j => (zn _ j (by omega)).1), upR_same (fun j => (zn _ j (by omega)).2)] at hw
  have hsz : H.size = B + 30 := hsz
  refine lv_dup hx hb dX11_init_64 rfl ?_
  refine lv_aload_n hx hb dX11_init_65 rfl (lv_at hl 0 rfl) ?_
  refine r_get C hw (kxs 0 (by decide) rfl) fl_X11_19 (oV_r rfl f1) dX11_init_66 ?_
  refine r_callI (As := [.ref (B + 9)]) (rest := [.ref (B + 29), .ref (B + 0)]) C hw (t_X2_init l B D cA (kx B 30) ig23 rg28 lg _ hsz rfl hci) sc_X11_43 rfl hl.1 rfl (Nat.le_of_ble_eq_true rfl) ⟨Nat.le_of_ble_eq_true rfl, Nat.le_of_ble_eq_true rfl⟩ ⟨Nat.le_of_ble_eq_true rfl, Nat.le_of_ble_eq_true rfl⟩ dX11_init_69 (fun r33 kd29 ig30 rg31 lg32 H locs hw hH hp34 => ?_)
  obtain ⟨rfl, hqs, rfl, rfl, hci, hi0, hr0⟩ := hp34
  have hsz := hqs
  have zn := hci.2.2.2.1
  have f0 := (hr0 0).trans f0
  have f1 := (hr0 1).trans f1
  have f2 := (hr0 2).trans f2
  have f3 := (hr0 3).trans f3
  refine r_putrF C hw (some (B + 29)) rfl hnm rfl (kxs 0 (by decide) rfl) fl_X11_44 rfl rfl rfl dX11_init_72 (fun H locs hH hw => ?_)
  obtain ⟨rg35, erg35⟩ : ∃ f, f = up2 rg31 (B + 0) 4 (some (B + 29)) := ⟨_, rfl⟩
  rw [← erg35] at hw
  have hsz := hH.trans hsz
  have hci : CI B 32 ig30 rg35 lg := by rw [erg35]; exact CI.up0 hci (by decide)
  have zn := hci.2.2.2.1
  have f0 : rg35 (B + 0) 0 = some (B + 1) := by rw [erg35, up2_j (by decide)]; exact f0
  have f1 : rg35 (B + 0) 1 = some (B + 9) := by rw [erg35, up2_j (by decide)]; exact f1
  have f2 : rg35 (B + 0) 2 = some (B + 15) := by rw [erg35, up2_j (by decide)]; exact f2
  have f3 : rg35 (B + 0) 3 = some (B + 24) := by rw [erg35, up2_j (by decide)]; exact f3
  have f4 : rg35 (B + 0) 4 = some (B + 29) := by rw [erg35, up2_eq]
  refine lv_aload_n hx hb dX11_init_75 rfl (lv_at hl 0 rfl) ?_
  refine r_new (k := 9) (t0 := tyX9) C hw rfl (by decide) rfl inT9 tyX9_ok dfX9 cl_X11_48 it_9 id_9 (Nat.le_of_ble_eq_true rfl) (Nat.le_of_ble_eq_true rfl) dX11_init_76 hsz (fun H hsz hw => ?_)
  rw [kx_up (m := 33) rfl rfl] at hw
  rw [upR_same (fun j => (zn _ j (by omega)).1), upR_same (fun j => (zn _ j (by omega)).2)] at hw
  have hsz : H.size = B + 33 := hsz
  refine lv_dup hx hb dX11_init_79 rfl ?_
  refine lv_aload_n hx hb dX11_init_80 rfl (lv_at hl 0 rfl) ?_
  refine r_get C hw (kxs 0 (by decide) rfl) fl_X11_19 (oV_r rfl f1) dX11_init_81 ?_
  refine lv_aload_n hx hb dX11_init_84 rfl (lv_at hl 0 rfl) ?_
  refine r_get C hw (kxs 0 (by decide) rfl) fl_X11_28 (oV_r rfl f2) dX11_init_85 ?_
  refine r_callI (As := [.ref (B + 9), .ref (B + 15)]) (rest := [.ref (B + 32), .ref (B + 0)]) C hw (t_X9_init l B D cA (kx B 33) ig30 rg35 lg _ hsz rfl hci) sc_X11_50 rfl hl.1 rfl (Nat.le_of_ble_eq_true rfl) ⟨Nat.le_of_ble_eq_true rfl, Nat.le_of_ble_eq_true rfl⟩ ⟨Nat.le_of_ble_eq_true rfl, Nat.le_of_ble_eq_true rfl⟩ dX11_init_88 (fun r40 kd36 ig37 rg38 lg39 H locs hw hH hp41 => ?_)
  obtain ⟨rfl, hqs, rfl, rfl, hci, hi0, hr0⟩ := hp41
  have hsz := hqs
  have zn := hci.2.2.2.1
  have f0 := (hr0 0).trans f0
  have f1 := (hr0 1).trans f1
  have f2 := (hr0 2).trans f2
  have f3 := (hr0 3).trans f3
  have f4 := (hr0 4).trans f4
  refine r_putrF C hw (some (B + 32)) rfl hnm rfl (kxs 0 (by decide) rfl) fl_X11_51 rfl rfl rfl dX11_init_91 (fun H locs hH hw => ?_)
  obtain ⟨rg42, erg42⟩ : ∃ f, f = up2 rg38 (B + 0) 5 (some (B + 32)) := ⟨_, rfl⟩
  rw [← erg42] at hw
  have hsz := hH.trans hsz
  have hci : CI B 37 ig37 rg42 lg := by rw [erg42]; exact CI.up0 hci (by decide)
  have zn := hci.2.2.2.1
  have f0 : rg42 (B + 0) 0 = some (B + 1) := by rw [erg42, up2_j (by decide)]; exact f0
  have f1 : rg42 (B + 0) 1 = some (B + 9) := by rw [erg42, up2_j (by decide)]; exact f1
  have f2 : rg42 (B + 0) 2 = some (B + 15) := by rw [erg42, up2_j (by decide)]; exact f2
  have f3 : rg42 (B + 0) 3 = some (B + 24) := by rw [erg42, up2_j (by decide)]; exact f3
  have f4 : rg42 (B + 0) 4 = some (B + 29) := by rw [erg42, up2_j (by decide)]; exact f4
  have f5 : rg42 (B + 0) 5 = some (B + 32) := by rw [erg42, up2_eq]
  refine lv_aload_n hx hb dX11_init_94 rfl (lv_at hl 0 rfl) ?_
  refine r_new (k := 8) (t0 := tyX8) C hw rfl (by decide) rfl inT8 tyX8_ok dfX8 cl_X11_55 it_8 id_8 (Nat.le_of_ble_eq_true rfl) (Nat.le_of_ble_eq_true rfl) dX11_init_95 hsz (fun H hsz hw => ?_)
  rw [kx_up (m := 38) rfl rfl] at hw
  rw [upR_same (fun j => (zn _ j (by omega)).1), upR_same (fun j => (zn _ j (by omega)).2)] at hw
  have hsz : H.size = B + 38 := hsz
  refine lv_dup hx hb dX11_init_98 rfl ?_
  refine lv_aload_n hx hb dX11_init_99 rfl (lv_at hl 0 rfl) ?_
  refine r_get C hw (kxs 0 (by decide) rfl) fl_X11_19 (oV_r rfl f1) dX11_init_100 ?_
  refine lv_aload_n hx hb dX11_init_103 rfl (lv_at hl 0 rfl) ?_
  refine r_get C hw (kxs 0 (by decide) rfl) fl_X11_28 (oV_r rfl f2) dX11_init_104 ?_
  refine r_callI (As := [.ref (B + 9), .ref (B + 15)]) (rest := [.ref (B + 37), .ref (B + 0)]) C hw (t_X8_init l B D cA (kx B 38) ig37 rg42 lg _ hsz rfl hci) sc_X11_57 rfl hl.1 rfl (Nat.le_of_ble_eq_true rfl) ⟨Nat.le_of_ble_eq_true rfl, Nat.le_of_ble_eq_true rfl⟩ ⟨Nat.le_of_ble_eq_true rfl, Nat.le_of_ble_eq_true rfl⟩ dX11_init_107 (fun r47 kd43 ig44 rg45 lg46 H locs hw hH hp48 => ?_)
  obtain ⟨rfl, hqs, rfl, rfl, hci, hi0, hr0⟩ := hp48
  have hsz := hqs
  have zn := hci.2.2.2.1
  have f0 := (hr0 0).trans f0
  have f1 := (hr0 1).trans f1
  have f2 := (hr0 2).trans f2
  have f3 := (hr0 3).trans f3
  have f4 := (hr0 4).trans f4
  have f5 := (hr0 5).trans f5
  refine r_putrF C hw (some (B + 37)) rfl hnm rfl (kxs 0 (by decide) rfl) fl_X11_58 rfl rfl rfl dX11_init_110 (fun H locs hH hw => ?_)
  obtain ⟨rg49, erg49⟩ : ∃ f, f = up2 rg45 (B + 0) 6 (some (B + 37)) := ⟨_, rfl⟩
  rw [← erg49] at hw
  have hsz := hH.trans hsz
  have hci : CI B 43 ig44 rg49 lg := by rw [erg49]; exact CI.up0 hci (by decide)
  have zn := hci.2.2.2.1
  have f0 : rg49 (B + 0) 0 = some (B + 1) := by rw [erg49, up2_j (by decide)]; exact f0
  have f1 : rg49 (B + 0) 1 = some (B + 9) := by rw [erg49, up2_j (by decide)]; exact f1
  have f2 : rg49 (B + 0) 2 = some (B + 15) := by rw [erg49, up2_j (by decide)]; exact f2
  have f3 : rg49 (B + 0) 3 = some (B + 24) := by rw [erg49, up2_j (by decide)]; exact f3
  have f4 : rg49 (B + 0) 4 = some (B + 29) := by rw [erg49, up2_j (by decide)]; exact f4
  have f5 : rg49 (B + 0) 5 = some (B + 32) := by rw [erg49, up2_j (by decide)]; exact f5
  have f6 : rg49 (B + 0) 6 = some (B + 37) := by rw [erg49, up2_eq]
  refine lv_aload_n hx hb dX11_init_113 rfl (lv_at hl 0 rfl) ?_
  refine r_new (k := 3) (t0 := tyX3) C hw rfl (by decide) rfl inT3 tyX3_ok dfX3 cl_X11_62 it_3 id_3 (Nat.le_of_ble_eq_true rfl) (Nat.le_of_ble_eq_true rfl) dX11_init_114 hsz (fun H hsz hw => ?_)
  rw [kx_up (m := 44) rfl rfl] at hw
  rw [upR_same (fun j => (zn _ j (by omega)).1), upR_same (fun j => (zn _ j (by omega)).2)] at hw
  have hsz : H.size = B + 44 := hsz
  refine lv_dup hx hb dX11_init_117 rfl ?_
  refine lv_aload_n hx hb dX11_init_118 rfl (lv_at hl 0 rfl) ?_
  refine r_get C hw (kxs 0 (by decide) rfl) fl_X11_19 (oV_r rfl f1) dX11_init_119 ?_
  refine lv_aload_n hx hb dX11_init_122 rfl (lv_at hl 0 rfl) ?_
  refine r_get C hw (kxs 0 (by decide) rfl) fl_X11_28 (oV_r rfl f2) dX11_init_123 ?_
  refine lv_aload_n hx hb dX11_init_126 rfl (lv_at hl 0 rfl) ?_
  refine r_get C hw (kxs 0 (by decide) rfl) fl_X11_44 (oV_r rfl f4) dX11_init_127 ?_
  refine lv_aload_n hx hb dX11_init_130 rfl (lv_at hl 0 rfl) ?_
  refine r_get C hw (kxs 0 (by decide) rfl) fl_X11_51 (oV_r rfl f5) dX11_init_131 ?_
  refine lv_aload_n hx hb dX11_init_134 rfl (lv_at hl 0 rfl) ?_
  refine r_get C hw (kxs 0 (by decide) rfl) fl_X11_58 (oV_r rfl f6) dX11_init_135 ?_
  refine r_callI (As := [.ref (B + 9), .ref (B + 15), .ref (B + 29), .ref (B + 32), .ref (B + 37)]) (rest := [.ref (B + 43), .ref (B + 0)]) C hw (t_X3_init l B D cA (kx B 44) ig44 rg49 lg _ hsz rfl hci) sc_X11_64 rfl hl.1 rfl (Nat.le_of_ble_eq_true rfl) ⟨Nat.le_of_ble_eq_true rfl, Nat.le_of_ble_eq_true rfl⟩ ⟨Nat.le_of_ble_eq_true rfl, Nat.le_of_ble_eq_true rfl⟩ dX11_init_138 (fun r54 kd50 ig51 rg52 lg53 H locs hw hH hp55 => ?_)
  obtain ⟨rfl, hqs, rfl, rfl, hci, hi0, hr0⟩ := hp55
  have hsz := hqs
  have zn := hci.2.2.2.1
  have f0 := (hr0 0).trans f0
  have f1 := (hr0 1).trans f1
  have f2 := (hr0 2).trans f2
  have f3 := (hr0 3).trans f3
  have f4 := (hr0 4).trans f4
  have f5 := (hr0 5).trans f5
  have f6 := (hr0 6).trans f6
  refine r_putrF C hw (some (B + 43)) rfl hnm rfl (kxs 0 (by decide) rfl) fl_X11_67 rfl rfl rfl dX11_init_141 (fun H locs hH hw => ?_)
  obtain ⟨rg56, erg56⟩ : ∃ f, f = up2 rg52 (B + 0) 7 (some (B + 43)) := ⟨_, rfl⟩
  rw [← erg56] at hw
  have hsz := hH.trans hsz
  have hci : CI B 45 ig51 rg56 lg := by rw [erg56]; exact CI.up0 hci (by decide)
  have zn := hci.2.2.2.1
  have f0 : rg56 (B + 0) 0 = some (B + 1) := by rw [erg56, up2_j (by decide)]; exact f0
  have f1 : rg56 (B + 0) 1 = some (B + 9) := by rw [erg56, up2_j (by decide)]; exact f1
  have f2 : rg56 (B + 0) 2 = some (B + 15) := by rw [erg56, up2_j (by decide)]; exact f2
  have f3 : rg56 (B + 0) 3 = some (B + 24) := by rw [erg56, up2_j (by decide)]; exact f3
  have f4 : rg56 (B + 0) 4 = some (B + 29) := by rw [erg56, up2_j (by decide)]; exact f4
  have f5 : rg56 (B + 0) 5 = some (B + 32) := by rw [erg56, up2_j (by decide)]; exact f5
  have f6 : rg56 (B + 0) 6 = some (B + 37) := by rw [erg56, up2_j (by decide)]; exact f6
  have f7 : rg56 (B + 0) 7 = some (B + 43) := by rw [erg56, up2_eq]
  refine lv_aload_n hx hb dX11_init_144 rfl (lv_at hl 0 rfl) ?_
  refine r_new (k := 1) (t0 := tyX1) C hw rfl (by decide) rfl inT1 tyX1_ok dfX1 cl_X11_71 it_1 id_1 (Nat.le_of_ble_eq_true rfl) (Nat.le_of_ble_eq_true rfl) dX11_init_145 hsz (fun H hsz hw => ?_)
  rw [kx_up (m := 46) rfl rfl] at hw
  rw [upR_same (fun j => (zn _ j (by omega)).1), upR_same (fun j => (zn _ j (by omega)).2)] at hw
  have hsz : H.size = B + 46 := hsz
  refine lv_dup hx hb dX11_init_148 rfl ?_
  refine lv_aload_n hx hb dX11_init_149 rfl (lv_at hl 0 rfl) ?_
  refine r_get C hw (kxs 0 (by decide) rfl) fl_X11_37 (oV_r rfl f3) dX11_init_150 ?_
  refine r_callI (As := [.ref (B + 24)]) (rest := [.ref (B + 45), .ref (B + 0)]) C hw (t_X1_init l B D cA (kx B 46) ig51 rg56 lg _ hsz rfl hci) sc_X11_73 rfl hl.1 rfl (Nat.le_of_ble_eq_true rfl) ⟨Nat.le_of_ble_eq_true rfl, Nat.le_of_ble_eq_true rfl⟩ ⟨Nat.le_of_ble_eq_true rfl, Nat.le_of_ble_eq_true rfl⟩ dX11_init_153 (fun r61 kd57 ig58 rg59 lg60 H locs hw hH hp62 => ?_)
  obtain ⟨rfl, hqs, rfl, rfl, hci, hi0, hr0⟩ := hp62
  have hsz := hqs
  have zn := hci.2.2.2.1
  have f0 := (hr0 0).trans f0
  have f1 := (hr0 1).trans f1
  have f2 := (hr0 2).trans f2
  have f3 := (hr0 3).trans f3
  have f4 := (hr0 4).trans f4
  have f5 := (hr0 5).trans f5
  have f6 := (hr0 6).trans f6
  have f7 := (hr0 7).trans f7
  refine r_putrF C hw (some (B + 45)) rfl hnm rfl (kxs 0 (by decide) rfl) fl_X11_76 rfl rfl rfl dX11_init_156 (fun H locs hH hw => ?_)
  obtain ⟨rg63, erg63⟩ : ∃ f, f = up2 rg59 (B + 0) 8 (some (B + 45)) := ⟨_, rfl⟩
  rw [← erg63] at hw
  have hsz := hH.trans hsz
  have hci : CI B 49 ig58 rg63 lg := by rw [erg63]; exact CI.up0 hci (by decide)
  have zn := hci.2.2.2.1
  have f0 : rg63 (B + 0) 0 = some (B + 1) := by rw [erg63, up2_j (by decide)]; exact f0
  have f1 : rg63 (B + 0) 1 = some (B + 9) := by rw [erg63, up2_j (by decide)]; exact f1
  have f2 : rg63 (B + 0) 2 = some (B + 15) := by rw [erg63, up2_j (by decide)]; exact f2
  have f3 : rg63 (B + 0) 3 = some (B + 24) := by rw [erg63, up2_j (by decide)]; exact f3
  have f4 : rg63 (B + 0) 4 = some (B + 29) := by rw [erg63, up2_j (by decide)]; exact f4
  have f5 : rg63 (B + 0) 5 = some (B + 32) := by rw [erg63, up2_j (by decide)]; exact f5
  have f6 : rg63 (B + 0) 6 = some (B + 37) := by rw [erg63, up2_j (by decide)]; exact f6
  have f7 : rg63 (B + 0) 7 = some (B + 43) := by rw [erg63, up2_j (by decide)]; exact f7
  have f8 : rg63 (B + 0) 8 = some (B + 45) := by rw [erg63, up2_eq]
  have hrr : ∀ x ∈ rfp, x.1 = 0 → rg63 (B + 0) x.2.1 = some (B + x.2.2) := by
    intro x hx h0
    have q := (by decide : ∀ x ∈ rfp, x.1 = 0 → x ∈ ([(0, 0, 1), (0, 1, 9), (0, 2, 15), (0, 3, 24), (0, 4, 29), (0, 5, 32), (0, 6, 37), (0, 7, 43), (0, 8, 45)] : List (Nat × Nat × Nat))) x hx h0
    simp only [List.mem_cons, List.not_mem_nil, or_false] at q
    rcases q with rfl | rfl | rfl | rfl | rfl | rfl | rfl | rfl | rfl
    · exact f0
    · exact f1
    · exact f2
    · exact f3
    · exact f4
    · exact f5
    · exact f6
    · exact f7
    · exact f8
  exact r_vret C hw hr hlk (Nat.le_of_ble_eq_true rfl) (Nat.le_of_ble_eq_true rfl) dX11_init_159 ⟨rfl, hsz, rfl, rfl, hci, hrr⟩

set_option maxHeartbeats 4000000 in
set_option maxRecDepth 100000 in
theorem t_X12_init (l : Launch) (B : Nat) (D : va_G) (cA : Nat → ClassId) (kd : sK) (ig : sI) (rg : sR) (lg : sG) (sz : Nat) (hs0 : sz = B + 50) (hk0 : kd = kx B 50) (zn : ∀ a j, B + 49 ≤ a → ig a j = 0 ∧ rg a j = none) (zl : ∀ a j, lg a j = 0) : MC l B D cA yX12_init cX12_init 2 none (rL 1 29 242390) [.ref (B + 49)] kd ig rg lg sz (fun r kd' ig' rg' lg' n => kd' = kx B 79 ∧ n = B + 79 ∧ lg = lg' ∧ r = none ∧ Rm B rg' ∧ (∀ a j, a ≠ B + 49 → rg' a j = rg a j) ∧ (∀ a j, a ≠ B + 71 → ig' a j = ig a j) ∧ ∀ j : Nat, j < 288 → ig' (B + 71) j = -1) := by
  refine MC.of (own := RX12) (by decide +kernel) rfl (Nat.le_of_ble_eq_true rfl) ?_
  intro p e s m args below meth c ls C hr hlk hnm hw hsz hl
  have hx := C.1.1
  have hb := C.1.2.1
  have hown := C.1.2.2.2.1
  have hts := C.1.2.2.2.2
  have hl : lv_has ls 2 [(0, .ref (B + 49))] := hl
  subst hs0
  subst hk0
  refine lv_aload_n hx hb dX12_init_0 rfl (lv_at hl 0 rfl) ?_
  refine r_obj C ol_X12_58 oi_i oi_c hl.1 (by decide) (by decide) dX12_init_1 ?_
  refine lv_aload_n hx hb dX12_init_4 rfl (lv_at hl 0 rfl) ?_
  refine lv_bipush (v := 120) hx hb dX12_init_5 (by decide) (ti_c 120 (by decide) fun z1 hz1 => ?_)
  refine r_newa (k := 20) (n := 120) (ty := .int) (atype := .int) C hw rfl rfl (by omega) ac_int hz1 rfl (by decide) (Nat.le_of_ble_eq_true rfl) (Nat.le_of_ble_eq_true rfl) dX12_init_7 hsz (fun H hsz hw => ?_)
  rw [kx_up (m := 51) rfl rfl] at hw
  rw [upR_same (fun j => (zn _ j (by omega)).1)] at hw
  have hsz : H.size = B + 51 := hsz
  refine r_putrF C hw (some (B + 50)) rfl hnm rfl (kxs 49 (by decide) rfl) fl_X12_14 rfl rfl rfl dX12_init_9 (fun H locs hH hw => ?_)
  obtain ⟨rg2, erg2⟩ : ∃ f, f = up2 rg (B + 49) 1 (some (B + 50)) := ⟨_, rfl⟩
  rw [← erg2] at hw
  have hsz := hH.trans hsz
  refine lv_aload_n hx hb dX12_init_12 rfl (lv_at hl 0 rfl) ?_
  refine lv_bipush (v := 122) hx hb dX12_init_13 (by decide) (ti_c 122 (by decide) fun z3 hz3 => ?_)
  refine r_newa (k := 20) (n := 122) (ty := .int) (atype := .int) C hw rfl rfl (by omega) ac_int hz3 rfl (by decide) (Nat.le_of_ble_eq_true rfl) (Nat.le_of_ble_eq_true rfl) dX12_init_15 hsz (fun H hsz hw => ?_)
  rw [kx_up (m := 52) rfl rfl] at hw
  rw [upR_same (fun j => (zn _ j (by omega)).1)] at hw
  have hsz : H.size = B + 52 := hsz
  refine r_putrF C hw (some (B + 51)) rfl hnm rfl (kxs 49 (by decide) rfl) fl_X12_32 rfl rfl rfl dX12_init_17 (fun H locs hH hw => ?_)
  obtain ⟨rg4, erg4⟩ : ∃ f, f = up2 rg2 (B + 49) 4 (some (B + 51)) := ⟨_, rfl⟩
  rw [← erg4] at hw
  have hsz := hH.trans hsz
  refine lv_aload_n hx hb dX12_init_20 rfl (lv_at hl 0 rfl) ?_
  refine lv_bipush (v := 122) hx hb dX12_init_21 (by decide) (ti_c 122 (by decide) fun z5 hz5 => ?_)
  refine r_newa (k := 20) (n := 122) (ty := .int) (atype := .int) C hw rfl rfl (by omega) ac_int hz5 rfl (by decide) (Nat.le_of_ble_eq_true rfl) (Nat.le_of_ble_eq_true rfl) dX12_init_23 hsz (fun H hsz hw => ?_)
  rw [kx_up (m := 53) rfl rfl] at hw
  rw [upR_same (fun j => (zn _ j (by omega)).1)] at hw
  have hsz : H.size = B + 53 := hsz
  refine r_putrF C hw (some (B + 52)) rfl hnm rfl (kxs 49 (by decide) rfl) fl_X12_21 rfl rfl rfl dX12_init_25 (fun H locs hH hw => ?_)
  obtain ⟨rg6, erg6⟩ : ∃ f, f = up2 rg4 (B + 49) 5 (some (B + 52)) := ⟨_, rfl⟩
  rw [← erg6] at hw
  have hsz := hH.trans hsz
  refine lv_aload_n hx hb dX12_init_28 rfl (lv_at hl 0 rfl) ?_
  refine lv_bipush (v := 122) hx hb dX12_init_29 (by decide) (ti_c 122 (by decide) fun z7 hz7 => ?_)
  refine r_newl (n := 122) C hw ac_long hz7 (by decide) (Nat.le_of_ble_eq_true rfl) (Nat.le_of_ble_eq_true rfl) dX12_init_31 hsz (fun H hsz hw => ?_)
  rw [kx_up (m := 54) rfl rfl] at hw
  rw [upR_same (fun j => zl _ j)] at hw
  have hsz : H.size = B + 54 := hsz
  refine r_putrF C hw (some (B + 53)) rfl hnm rfl (kxs 49 (by decide) rfl) fl_X12_45 rfl rfl rfl dX12_init_33 (fun H locs hH hw => ?_)
  obtain ⟨rg8, erg8⟩ : ∃ f, f = up2 rg6 (B + 49) 6 (some (B + 53)) := ⟨_, rfl⟩
  rw [← erg8] at hw
  have hsz := hH.trans hsz
  refine lv_aload_n hx hb dX12_init_36 rfl (lv_at hl 0 rfl) ?_
  refine lv_ldc (v := 37080) hx hb hown (hts _ kc_X12_64) dX12_init_37 (ti_c 37080 (by decide) fun z9 hz9 => ?_)
  refine r_newa (k := 20) (n := 37080) (ty := .int) (atype := .int) C hw rfl rfl (by omega) ac_int hz9 rfl (by decide) (Nat.le_of_ble_eq_true rfl) (Nat.le_of_ble_eq_true rfl) dX12_init_39 hsz (fun H hsz hw => ?_)
  rw [kx_up (m := 55) rfl rfl] at hw
  rw [upR_same (fun j => (zn _ j (by omega)).1)] at hw
  have hsz : H.size = B + 55 := hsz
  refine r_putrF C hw (some (B + 54)) rfl hnm rfl (kxs 49 (by decide) rfl) fl_X12_65 rfl rfl rfl dX12_init_41 (fun H locs hH hw => ?_)
  obtain ⟨rg10, erg10⟩ : ∃ f, f = up2 rg8 (B + 49) 9 (some (B + 54)) := ⟨_, rfl⟩
  rw [← erg10] at hw
  have hsz := hH.trans hsz
  refine lv_aload_n hx hb dX12_init_44 rfl (lv_at hl 0 rfl) ?_
  refine lv_ldc (v := 37080) hx hb hown (hts _ kc_X12_64) dX12_init_45 (ti_c 37080 (by decide) fun z11 hz11 => ?_)
  refine r_newa (k := 20) (n := 37080) (ty := .int) (atype := .int) C hw rfl rfl (by omega) ac_int hz11 rfl (by decide) (Nat.le_of_ble_eq_true rfl) (Nat.le_of_ble_eq_true rfl) dX12_init_47 hsz (fun H hsz hw => ?_)
  rw [kx_up (m := 56) rfl rfl] at hw
  rw [upR_same (fun j => (zn _ j (by omega)).1)] at hw
  have hsz : H.size = B + 56 := hsz
  refine r_putrF C hw (some (B + 55)) rfl hnm rfl (kxs 49 (by decide) rfl) fl_X12_68 rfl rfl rfl dX12_init_49 (fun H locs hH hw => ?_)
  obtain ⟨rg12, erg12⟩ : ∃ f, f = up2 rg10 (B + 49) 10 (some (B + 55)) := ⟨_, rfl⟩
  rw [← erg12] at hw
  have hsz := hH.trans hsz
  refine lv_aload_n hx hb dX12_init_52 rfl (lv_at hl 0 rfl) ?_
  refine lv_ldc (v := 37080) hx hb hown (hts _ kc_X12_64) dX12_init_53 (ti_c 37080 (by decide) fun z13 hz13 => ?_)
  refine r_newa (k := 20) (n := 37080) (ty := .int) (atype := .int) C hw rfl rfl (by omega) ac_int hz13 rfl (by decide) (Nat.le_of_ble_eq_true rfl) (Nat.le_of_ble_eq_true rfl) dX12_init_55 hsz (fun H hsz hw => ?_)
  rw [kx_up (m := 57) rfl rfl] at hw
  rw [upR_same (fun j => (zn _ j (by omega)).1)] at hw
  have hsz : H.size = B + 57 := hsz
  refine r_putrF C hw (some (B + 56)) rfl hnm rfl (kxs 49 (by decide) rfl) fl_X12_71 rfl rfl rfl dX12_init_57 (fun H locs hH hw => ?_)
  obtain ⟨rg14, erg14⟩ : ∃ f, f = up2 rg12 (B + 49) 11 (some (B + 56)) := ⟨_, rfl⟩
  rw [← erg14] at hw
  have hsz := hH.trans hsz
  refine lv_aload_n hx hb dX12_init_60 rfl (lv_at hl 0 rfl) ?_
  refine lv_ldc (v := 37080) hx hb hown (hts _ kc_X12_64) dX12_init_61 (ti_c 37080 (by decide) fun z15 hz15 => ?_)
  refine r_newa (k := 20) (n := 37080) (ty := .int) (atype := .int) C hw rfl rfl (by omega) ac_int hz15 rfl (by decide) (Nat.le_of_ble_eq_true rfl) (Nat.le_of_ble_eq_true rfl) dX12_init_63 hsz (fun H hsz hw => ?_)
  rw [kx_up (m := 58) rfl rfl] at hw
  rw [upR_same (fun j => (zn _ j (by omega)).1)] at hw
  have hsz : H.size = B + 58 := hsz
  refine r_putrF C hw (some (B + 57)) rfl hnm rfl (kxs 49 (by decide) rfl) fl_X12_74 rfl rfl rfl dX12_init_65 (fun H locs hH hw => ?_)
  obtain ⟨rg16, erg16⟩ : ∃ f, f = up2 rg14 (B + 49) 12 (some (B + 57)) := ⟨_, rfl⟩
  rw [← erg16] at hw
  have hsz := hH.trans hsz
  refine lv_aload_n hx hb dX12_init_68 rfl (lv_at hl 0 rfl) ?_
  refine lv_sipush (v := 309) hx hb dX12_init_69 (by decide) (ti_c 309 (by decide) fun z17 hz17 => ?_)
  refine r_newa (k := 20) (n := 309) (ty := .int) (atype := .int) C hw rfl rfl (by omega) ac_int hz17 rfl (by decide) (Nat.le_of_ble_eq_true rfl) (Nat.le_of_ble_eq_true rfl) dX12_init_72 hsz (fun H hsz hw => ?_)
  rw [kx_up (m := 59) rfl rfl] at hw
  rw [upR_same (fun j => (zn _ j (by omega)).1)] at hw
  have hsz : H.size = B + 59 := hsz
  refine r_putrF C hw (some (B + 58)) rfl hnm rfl (kxs 49 (by decide) rfl) fl_X12_77 rfl rfl rfl dX12_init_74 (fun H locs hH hw => ?_)
  obtain ⟨rg18, erg18⟩ : ∃ f, f = up2 rg16 (B + 49) 13 (some (B + 58)) := ⟨_, rfl⟩
  rw [← erg18] at hw
  have hsz := hH.trans hsz
  refine lv_aload_n hx hb dX12_init_77 rfl (lv_at hl 0 rfl) ?_
  refine lv_sipush (v := 309) hx hb dX12_init_78 (by decide) (ti_c 309 (by decide) fun z19 hz19 => ?_)
  refine r_newa (k := 20) (n := 309) (ty := .int) (atype := .int) C hw rfl rfl (by omega) ac_int hz19 rfl (by decide) (Nat.le_of_ble_eq_true rfl) (Nat.le_of_ble_eq_true rfl) dX12_init_81 hsz (fun H hsz hw => ?_)
  rw [kx_up (m := 60) rfl rfl] at hw
  rw [upR_same (fun j => (zn _ j (by omega)).1)] at hw
  have hsz : H.size = B + 60 := hsz
  refine r_putrF C hw (some (B + 59)) rfl hnm rfl (kxs 49 (by decide) rfl) fl_X12_80 rfl rfl rfl dX12_init_83 (fun H locs hH hw => ?_)
  obtain ⟨rg20, erg20⟩ : ∃ f, f = up2 rg18 (B + 49) 15 (some (B + 59)) := ⟨_, rfl⟩
  rw [← erg20] at hw
  have hsz := hH.trans hsz
  refine lv_aload_n hx hb dX12_init_86 rfl (lv_at hl 0 rfl) ?_
  refine lv_sipush (v := 309) hx hb dX12_init_87 (by decide) (ti_c 309 (by decide) fun z21 hz21 => ?_)
  refine r_newa (k := 20) (n := 309) (ty := .int) (atype := .int) C hw rfl rfl (by omega) ac_int hz21 rfl (by decide) (Nat.le_of_ble_eq_true rfl) (Nat.le_of_ble_eq_true rfl) dX12_init_90 hsz (fun H hsz hw => ?_)
  rw [kx_up (m := 61) rfl rfl] at hw
  rw [upR_same (fun j => (zn _ j (by omega)).1)] at hw
  have hsz : H.size = B + 61 := hsz
  refine r_putrF C hw (some (B + 60)) rfl hnm rfl (kxs 49 (by decide) rfl) fl_X12_83 rfl rfl rfl dX12_init_92 (fun H locs hH hw => ?_)
  obtain ⟨rg22, erg22⟩ : ∃ f, f = up2 rg20 (B + 49) 16 (some (B + 60)) := ⟨_, rfl⟩
  rw [← erg22] at hw
  have hsz := hH.trans hsz
  refine lv_aload_n hx hb dX12_init_95 rfl (lv_at hl 0 rfl) ?_
  refine lv_sipush (v := 927) hx hb dX12_init_96 (by decide) (ti_c 927 (by decide) fun z23 hz23 => ?_)
  refine r_newa (k := 20) (n := 927) (ty := .int) (atype := .int) C hw rfl rfl (by omega) ac_int hz23 rfl (by decide) (Nat.le_of_ble_eq_true rfl) (Nat.le_of_ble_eq_true rfl) dX12_init_99 hsz (fun H hsz hw => ?_)
  rw [kx_up (m := 62) rfl rfl] at hw
  rw [upR_same (fun j => (zn _ j (by omega)).1)] at hw
  have hsz : H.size = B + 62 := hsz
  refine r_putrF C hw (some (B + 61)) rfl hnm rfl (kxs 49 (by decide) rfl) fl_X12_86 rfl rfl rfl dX12_init_101 (fun H locs hH hw => ?_)
  obtain ⟨rg24, erg24⟩ : ∃ f, f = up2 rg22 (B + 49) 17 (some (B + 61)) := ⟨_, rfl⟩
  rw [← erg24] at hw
  have hsz := hH.trans hsz
  refine lv_aload_n hx hb dX12_init_104 rfl (lv_at hl 0 rfl) ?_
  refine lv_sipush (v := 288) hx hb dX12_init_105 (by decide) (ti_c 288 (by decide) fun z25 hz25 => ?_)
  refine r_newa (k := 22) (n := 288) (ty := .boolean) (atype := .boolean) C hw rfl rfl (by omega) ac_boolean hz25 rfl (by decide) (Nat.le_of_ble_eq_true rfl) (Nat.le_of_ble_eq_true rfl) dX12_init_108 hsz (fun H hsz hw => ?_)
  rw [kx_up (m := 63) rfl rfl] at hw
  rw [upR_same (fun j => (zn _ j (by omega)).1)] at hw
  have hsz : H.size = B + 63 := hsz
  refine r_putrF C hw (some (B + 62)) rfl hnm rfl (kxs 49 (by decide) rfl) fl_X12_89 rfl rfl rfl dX12_init_110 (fun H locs hH hw => ?_)
  obtain ⟨rg26, erg26⟩ : ∃ f, f = up2 rg24 (B + 49) 18 (some (B + 62)) := ⟨_, rfl⟩
  rw [← erg26] at hw
  have hsz := hH.trans hsz
  refine lv_aload_n hx hb dX12_init_113 rfl (lv_at hl 0 rfl) ?_
  refine lv_bipush (v := 20) hx hb dX12_init_114 (by decide) (ti_c 20 (by decide) fun z27 hz27 => ?_)
  refine r_newa (k := 20) (n := 20) (ty := .int) (atype := .int) C hw rfl rfl (by omega) ac_int hz27 rfl (by decide) (Nat.le_of_ble_eq_true rfl) (Nat.le_of_ble_eq_true rfl) dX12_init_116 hsz (fun H hsz hw => ?_)
  rw [kx_up (m := 64) rfl rfl] at hw
  rw [upR_same (fun j => (zn _ j (by omega)).1)] at hw
  have hsz : H.size = B + 64 := hsz
  refine r_putrF C hw (some (B + 63)) rfl hnm rfl (kxs 49 (by decide) rfl) fl_X12_93 rfl rfl rfl dX12_init_118 (fun H locs hH hw => ?_)
  obtain ⟨rg28, erg28⟩ : ∃ f, f = up2 rg26 (B + 49) 20 (some (B + 63)) := ⟨_, rfl⟩
  rw [← erg28] at hw
  have hsz := hH.trans hsz
  refine lv_aload_n hx hb dX12_init_121 rfl (lv_at hl 0 rfl) ?_
  refine lv_sipush (v := 1440) hx hb dX12_init_122 (by decide) (ti_c 1440 (by decide) fun z29 hz29 => ?_)
  refine r_newl (n := 1440) C hw ac_long hz29 (by decide) (Nat.le_of_ble_eq_true rfl) (Nat.le_of_ble_eq_true rfl) dX12_init_125 hsz (fun H hsz hw => ?_)
  rw [kx_up (m := 65) rfl rfl] at hw
  rw [upR_same (fun j => zl _ j)] at hw
  have hsz : H.size = B + 65 := hsz
  refine r_putrF C hw (some (B + 64)) rfl hnm rfl (kxs 49 (by decide) rfl) fl_X12_96 rfl rfl rfl dX12_init_127 (fun H locs hH hw => ?_)
  obtain ⟨rg30, erg30⟩ : ∃ f, f = up2 rg28 (B + 49) 21 (some (B + 64)) := ⟨_, rfl⟩
  rw [← erg30] at hw
  have hsz := hH.trans hsz
  refine lv_aload_n hx hb dX12_init_130 rfl (lv_at hl 0 rfl) ?_
  refine lv_sipush (v := 1440) hx hb dX12_init_131 (by decide) (ti_c 1440 (by decide) fun z31 hz31 => ?_)
  refine r_newl (n := 1440) C hw ac_long hz31 (by decide) (Nat.le_of_ble_eq_true rfl) (Nat.le_of_ble_eq_true rfl) dX12_init_134 hsz (fun H hsz hw => ?_)
  rw [kx_up (m := 66) rfl rfl] at hw
  rw [upR_same (fun j => zl _ j)] at hw
  have hsz : H.size = B + 66 := hsz
  refine r_putrF C hw (some (B + 65)) rfl hnm rfl (kxs 49 (by decide) rfl) fl_X12_99 rfl rfl rfl dX12_init_136 (fun H locs hH hw => ?_)
  obtain ⟨rg32, erg32⟩ : ∃ f, f = up2 rg30 (B + 49) 22 (some (B + 65)) := ⟨_, rfl⟩
  rw [← erg32] at hw
  have hsz := hH.trans hsz
  refine lv_aload_n hx hb dX12_init_139 rfl (lv_at hl 0 rfl) ?_
  refine lv_sipush (v := 288) hx hb dX12_init_140 (by decide) (ti_c 288 (by decide) fun z33 hz33 => ?_)
  refine r_newa (k := 20) (n := 288) (ty := .int) (atype := .int) C hw rfl rfl (by omega) ac_int hz33 rfl (by decide) (Nat.le_of_ble_eq_true rfl) (Nat.le_of_ble_eq_true rfl) dX12_init_143 hsz (fun H hsz hw => ?_)
  rw [kx_up (m := 67) rfl rfl] at hw
  rw [upR_same (fun j => (zn _ j (by omega)).1)] at hw
  have hsz : H.size = B + 67 := hsz
  refine r_putrF C hw (some (B + 66)) rfl hnm rfl (kxs 49 (by decide) rfl) fl_X12_102 rfl rfl rfl dX12_init_145 (fun H locs hH hw => ?_)
  obtain ⟨rg34, erg34⟩ : ∃ f, f = up2 rg32 (B + 49) 23 (some (B + 66)) := ⟨_, rfl⟩
  rw [← erg34] at hw
  have hsz := hH.trans hsz
  refine lv_aload_n hx hb dX12_init_148 rfl (lv_at hl 0 rfl) ?_
  refine lv_sipush (v := 288) hx hb dX12_init_149 (by decide) (ti_c 288 (by decide) fun z35 hz35 => ?_)
  refine r_newa (k := 20) (n := 288) (ty := .int) (atype := .int) C hw rfl rfl (by omega) ac_int hz35 rfl (by decide) (Nat.le_of_ble_eq_true rfl) (Nat.le_of_ble_eq_true rfl) dX12_init_152 hsz (fun H hsz hw => ?_)
  rw [kx_up (m := 68) rfl rfl] at hw
  rw [upR_same (fun j => (zn _ j (by omega)).1)] at hw
  have hsz : H.size = B + 68 := hsz
  refine r_putrF C hw (some (B + 67)) rfl hnm rfl (kxs 49 (by decide) rfl) fl_X12_105 rfl rfl rfl dX12_init_154 (fun H locs hH hw => ?_)
  obtain ⟨rg36, erg36⟩ : ∃ f, f = up2 rg34 (B + 49) 24 (some (B + 67)) := ⟨_, rfl⟩
  rw [← erg36] at hw
  have hsz := hH.trans hsz
  refine lv_aload_n hx hb dX12_init_157 rfl (lv_at hl 0 rfl) ?_
  refine lv_sipush (v := 864) hx hb dX12_init_158 (by decide) (ti_c 864 (by decide) fun z37 hz37 => ?_)
  refine r_newa (k := 20) (n := 864) (ty := .int) (atype := .int) C hw rfl rfl (by omega) ac_int hz37 rfl (by decide) (Nat.le_of_ble_eq_true rfl) (Nat.le_of_ble_eq_true rfl) dX12_init_161 hsz (fun H hsz hw => ?_)
  rw [kx_up (m := 69) rfl rfl] at hw
  rw [upR_same (fun j => (zn _ j (by omega)).1)] at hw
  have hsz : H.size = B + 69 := hsz
  refine r_putrF C hw (some (B + 68)) rfl hnm rfl (kxs 49 (by decide) rfl) fl_X12_108 rfl rfl rfl dX12_init_163 (fun H locs hH hw => ?_)
  obtain ⟨rg38, erg38⟩ : ∃ f, f = up2 rg36 (B + 49) 25 (some (B + 68)) := ⟨_, rfl⟩
  rw [← erg38] at hw
  have hsz := hH.trans hsz
  refine lv_aload_n hx hb dX12_init_166 rfl (lv_at hl 0 rfl) ?_
  refine lv_sipush (v := 288) hx hb dX12_init_167 (by decide) (ti_c 288 (by decide) fun z39 hz39 => ?_)
  refine r_newa (k := 22) (n := 288) (ty := .boolean) (atype := .boolean) C hw rfl rfl (by omega) ac_boolean hz39 rfl (by decide) (Nat.le_of_ble_eq_true rfl) (Nat.le_of_ble_eq_true rfl) dX12_init_170 hsz (fun H hsz hw => ?_)
  rw [kx_up (m := 70) rfl rfl] at hw
  rw [upR_same (fun j => (zn _ j (by omega)).1)] at hw
  have hsz : H.size = B + 70 := hsz
  refine r_putrF C hw (some (B + 69)) rfl hnm rfl (kxs 49 (by decide) rfl) fl_X12_111 rfl rfl rfl dX12_init_172 (fun H locs hH hw => ?_)
  obtain ⟨rg40, erg40⟩ : ∃ f, f = up2 rg38 (B + 49) 26 (some (B + 69)) := ⟨_, rfl⟩
  rw [← erg40] at hw
  have hsz := hH.trans hsz
  refine lv_aload_n hx hb dX12_init_175 rfl (lv_at hl 0 rfl) ?_
  refine lv_sipush (v := 288) hx hb dX12_init_176 (by decide) (ti_c 288 (by decide) fun z41 hz41 => ?_)
  refine r_newa (k := 22) (n := 288) (ty := .boolean) (atype := .boolean) C hw rfl rfl (by omega) ac_boolean hz41 rfl (by decide) (Nat.le_of_ble_eq_true rfl) (Nat.le_of_ble_eq_true rfl) dX12_init_179 hsz (fun H hsz hw => ?_)
  rw [kx_up (m := 71) rfl rfl] at hw
  rw [upR_same (fun j => (zn _ j (by omega)).1)] at hw
  have hsz : H.size = B + 71 := hsz
  refine r_putrF C hw (some (B + 70)) rfl hnm rfl (kxs 49 (by decide) rfl) fl_X12_114 rfl rfl rfl dX12_init_181 (fun H locs hH hw => ?_)
  obtain ⟨rg42, erg42⟩ : ∃ f, f = up2 rg40 (B + 49) 27 (some (B + 70)) := ⟨_, rfl⟩
  rw [← erg42] at hw
  have hsz := hH.trans hsz
  refine lv_aload_n hx hb dX12_init_184 rfl (lv_at hl 0 rfl) ?_
  refine lv_sipush (v := 288) hx hb dX12_init_185 (by decide) (ti_c 288 (by decide) fun z43 hz43 => ?_)
  refine r_newa (k := 20) (n := 288) (ty := .int) (atype := .int) C hw rfl rfl (by omega) ac_int hz43 rfl (by decide) (Nat.le_of_ble_eq_true rfl) (Nat.le_of_ble_eq_true rfl) dX12_init_188 hsz (fun H hsz hw => ?_)
  rw [kx_up (m := 72) rfl rfl] at hw
  rw [upR_same (fun j => (zn _ j (by omega)).1)] at hw
  have hsz : H.size = B + 72 := hsz
  refine r_putrF C hw (some (B + 71)) rfl hnm rfl (kxs 49 (by decide) rfl) fl_X12_117 rfl rfl rfl dX12_init_190 (fun H locs hH hw => ?_)
  obtain ⟨rg44, erg44⟩ : ∃ f, f = up2 rg42 (B + 49) 28 (some (B + 71)) := ⟨_, rfl⟩
  rw [← erg44] at hw
  have hsz := hH.trans hsz
  refine lv_aload_n hx hb dX12_init_193 rfl (lv_at hl 0 rfl) ?_
  refine lv_ldc (v := 82944) hx hb hown (hts _ kc_X12_120) dX12_init_194 (ti_c 82944 (by decide) fun z45 hz45 => ?_)
  refine r_newa (k := 20) (n := 82944) (ty := .int) (atype := .int) C hw rfl rfl (by omega) ac_int hz45 rfl (by decide) (Nat.le_of_ble_eq_true rfl) (Nat.le_of_ble_eq_true rfl) dX12_init_196 hsz (fun H hsz hw => ?_)
  rw [kx_up (m := 73) rfl rfl] at hw
  rw [upR_same (fun j => (zn _ j (by omega)).1)] at hw
  have hsz : H.size = B + 73 := hsz
  refine r_putrF C hw (some (B + 72)) rfl hnm rfl (kxs 49 (by decide) rfl) fl_X12_121 rfl rfl rfl dX12_init_198 (fun H locs hH hw => ?_)
  obtain ⟨rg46, erg46⟩ : ∃ f, f = up2 rg44 (B + 49) 29 (some (B + 72)) := ⟨_, rfl⟩
  rw [← erg46] at hw
  have hsz := hH.trans hsz
  refine lv_aload_n hx hb dX12_init_201 rfl (lv_at hl 0 rfl) ?_
  refine lv_sipush (v := 288) hx hb dX12_init_202 (by decide) (ti_c 288 (by decide) fun z47 hz47 => ?_)
  refine r_newa (k := 22) (n := 288) (ty := .boolean) (atype := .boolean) C hw rfl rfl (by omega) ac_boolean hz47 rfl (by decide) (Nat.le_of_ble_eq_true rfl) (Nat.le_of_ble_eq_true rfl) dX12_init_205 hsz (fun H hsz hw => ?_)
  rw [kx_up (m := 74) rfl rfl] at hw
  rw [upR_same (fun j => (zn _ j (by omega)).1)] at hw
  have hsz : H.size = B + 74 := hsz
  refine r_putrF C hw (some (B + 73)) rfl hnm rfl (kxs 49 (by decide) rfl) fl_X12_124 rfl rfl rfl dX12_init_207 (fun H locs hH hw => ?_)
  obtain ⟨rg48, erg48⟩ : ∃ f, f = up2 rg46 (B + 49) 30 (some (B + 73)) := ⟨_, rfl⟩
  rw [← erg48] at hw
  have hsz := hH.trans hsz
  refine lv_aload_n hx hb dX12_init_210 rfl (lv_at hl 0 rfl) ?_
  refine lv_bipush (v := 90) hx hb dX12_init_211 (by decide) (ti_c 90 (by decide) fun z49 hz49 => ?_)
  refine r_newa (k := 20) (n := 90) (ty := .int) (atype := .int) C hw rfl rfl (by omega) ac_int hz49 rfl (by decide) (Nat.le_of_ble_eq_true rfl) (Nat.le_of_ble_eq_true rfl) dX12_init_213 hsz (fun H hsz hw => ?_)
  rw [kx_up (m := 75) rfl rfl] at hw
  rw [upR_same (fun j => (zn _ j (by omega)).1)] at hw
  have hsz : H.size = B + 75 := hsz
  refine r_putrF C hw (some (B + 74)) rfl hnm rfl (kxs 49 (by decide) rfl) fl_X12_127 rfl rfl rfl dX12_init_215 (fun H locs hH hw => ?_)
  obtain ⟨rg50, erg50⟩ : ∃ f, f = up2 rg48 (B + 49) 36 (some (B + 74)) := ⟨_, rfl⟩
  rw [← erg50] at hw
  have hsz := hH.trans hsz
  refine lv_aload_n hx hb dX12_init_218 rfl (lv_at hl 0 rfl) ?_
  refine lv_sipush (v := 900) hx hb dX12_init_219 (by decide) (ti_c 900 (by decide) fun z51 hz51 => ?_)
  refine r_newa (k := 20) (n := 900) (ty := .int) (atype := .int) C hw rfl rfl (by omega) ac_int hz51 rfl (by decide) (Nat.le_of_ble_eq_true rfl) (Nat.le_of_ble_eq_true rfl) dX12_init_222 hsz (fun H hsz hw => ?_)
  rw [kx_up (m := 76) rfl rfl] at hw
  rw [upR_same (fun j => (zn _ j (by omega)).1)] at hw
  have hsz : H.size = B + 76 := hsz
  refine r_putrF C hw (some (B + 75)) rfl hnm rfl (kxs 49 (by decide) rfl) fl_X12_130 rfl rfl rfl dX12_init_224 (fun H locs hH hw => ?_)
  obtain ⟨rg52, erg52⟩ : ∃ f, f = up2 rg50 (B + 49) 38 (some (B + 75)) := ⟨_, rfl⟩
  rw [← erg52] at hw
  have hsz := hH.trans hsz
  refine lv_aload_n hx hb dX12_init_227 rfl (lv_at hl 0 rfl) ?_
  refine lv_sipush (v := 288) hx hb dX12_init_228 (by decide) (ti_c 288 (by decide) fun z53 hz53 => ?_)
  refine r_newa (k := 20) (n := 288) (ty := .int) (atype := .int) C hw rfl rfl (by omega) ac_int hz53 rfl (by decide) (Nat.le_of_ble_eq_true rfl) (Nat.le_of_ble_eq_true rfl) dX12_init_231 hsz (fun H hsz hw => ?_)
  rw [kx_up (m := 77) rfl rfl] at hw
  rw [upR_same (fun j => (zn _ j (by omega)).1)] at hw
  have hsz : H.size = B + 77 := hsz
  refine r_putrF C hw (some (B + 76)) rfl hnm rfl (kxs 49 (by decide) rfl) fl_X12_133 rfl rfl rfl dX12_init_233 (fun H locs hH hw => ?_)
  obtain ⟨rg54, erg54⟩ : ∃ f, f = up2 rg52 (B + 49) 39 (some (B + 76)) := ⟨_, rfl⟩
  rw [← erg54] at hw
  have hsz := hH.trans hsz
  refine lv_aload_n hx hb dX12_init_236 rfl (lv_at hl 0 rfl) ?_
  refine lv_sipush (v := 288) hx hb dX12_init_237 (by decide) (ti_c 288 (by decide) fun z55 hz55 => ?_)
  refine r_newa (k := 20) (n := 288) (ty := .int) (atype := .int) C hw rfl rfl (by omega) ac_int hz55 rfl (by decide) (Nat.le_of_ble_eq_true rfl) (Nat.le_of_ble_eq_true rfl) dX12_init_240 hsz (fun H hsz hw => ?_)
  rw [kx_up (m := 78) rfl rfl] at hw
  rw [upR_same (fun j => (zn _ j (by omega)).1)] at hw
  have hsz : H.size = B + 78 := hsz
  refine r_putrF C hw (some (B + 77)) rfl hnm rfl (kxs 49 (by decide) rfl) fl_X12_136 rfl rfl rfl dX12_init_242 (fun H locs hH hw => ?_)
  obtain ⟨rg56, erg56⟩ : ∃ f, f = up2 rg54 (B + 49) 40 (some (B + 77)) := ⟨_, rfl⟩
  rw [← erg56] at hw
  have hsz := hH.trans hsz
  refine lv_aload_n hx hb dX12_init_245 rfl (lv_at hl 0 rfl) ?_
  refine lv_sipush (v := 1440) hx hb dX12_init_246 (by decide) (ti_c 1440 (by decide) fun z57 hz57 => ?_)
  refine r_newa (k := 20) (n := 1440) (ty := .int) (atype := .int) C hw rfl rfl (by omega) ac_int hz57 rfl (by decide) (Nat.le_of_ble_eq_true rfl) (Nat.le_of_ble_eq_true rfl) dX12_init_249 hsz (fun H hsz hw => ?_)
  rw [kx_up (m := 79) rfl rfl] at hw
  rw [upR_same (fun j => (zn _ j (by omega)).1)] at hw
  have hsz : H.size = B + 79 := hsz
  refine r_putrF C hw (some (B + 78)) rfl hnm rfl (kxs 49 (by decide) rfl) fl_X12_139 rfl rfl rfl dX12_init_251 (fun H locs hH hw => ?_)
  obtain ⟨rg58, erg58⟩ : ∃ f, f = up2 rg56 (B + 49) 42 (some (B + 78)) := ⟨_, rfl⟩
  rw [← erg58] at hw
  have hsz := hH.trans hsz
  obtain ⟨rgA, hrgA⟩ : ∃ f, f = rg58 := ⟨_, rfl⟩
  have hrmA : Rm B rgA := by
    intro x hx
    have q := (by decide : ∀ x ∈ rfm, x ∈ ([(49, 1, 50), (49, 4, 51), (49, 5, 52), (49, 6, 53), (49, 9, 54), (49, 10, 55), (49, 11, 56), (49, 12, 57), (49, 13, 58), (49, 15, 59), (49, 16, 60), (49, 17, 61), (49, 18, 62), (49, 20, 63), (49, 21, 64), (49, 22, 65), (49, 23, 66), (49, 24, 67), (49, 25, 68), (49, 26, 69), (49, 27, 70), (49, 28, 71), (49, 29, 72), (49, 30, 73), (49, 36, 74), (49, 38, 75), (49, 39, 76), (49, 40, 77), (49, 42, 78)] : List (Nat × Nat × Nat))) x hx
    simp only [List.mem_cons, List.not_mem_nil, or_false] at q
    rcases q with rfl | rfl | rfl | rfl | rfl | rfl | rfl | rfl | rfl | rfl | rfl | rfl | rfl | rfl | rfl | rfl | rfl | rfl | rfl | rfl | rfl | rfl | rfl | rfl | rfl | rfl | rfl | rfl | rfl
    · exact (by rw [hrgA, erg58, up2_j (by decide), erg56, up2_j (by decide), erg54, up2_j (by decide), erg52, up2_j (by decide), erg50, up2_j (by decide), erg48, up2_j (by decide), erg46, up2_j (by decide), erg44, up2_j (by decide), erg42, up2_j (by decide), erg40, up2_j (by decide), erg38, up2_j (by decide), erg36, up2_j (by decide), erg34, up2_j (by decide), erg32, up2_j (by decide), erg30, up2_j (by decide), erg28, up2_j (by decide), erg26, up2_j (by decide), erg24, up2_j (by decide), erg22, up2_j (by decide), erg20, up2_j (by decide), erg18, up2_j (by decide), erg16, up2_j (by decide), erg14, up2_j (by decide), erg12, up2_j (by decide), erg10, up2_j (by decide), erg8, up2_j (by decide), erg6, up2_j (by decide), erg4, up2_j (by decide), erg2, up2_eq] : rgA (B + 49) 1 = some (B + 50))
    · exact (by rw [hrgA, erg58, up2_j (by decide), erg56, up2_j (by decide), erg54, up2_j (by decide), erg52, up2_j (by decide), erg50, up2_j (by decide), erg48, up2_j (by decide), erg46, up2_j (by decide), erg44, up2_j (by decide), erg42, up2_j (by decide), erg40, up2_j (by decide), erg38, up2_j (by decide), erg36, up2_j (by decide), erg34, up2_j (by decide), erg32, up2_j (by decide), erg30, up2_j (by decide), erg28, up2_j (by decide), erg26, up2_j (by decide), erg24, up2_j (by decide), erg22, up2_j (by decide), erg20, up2_j (by decide), erg18, up2_j (by decide), erg16, up2_j (by decide), erg14, up2_j (by decide), erg12, up2_j (by decide), erg10, up2_j (by decide), erg8, up2_j (by decide), erg6, up2_j (by decide), erg4, up2_eq] : rgA (B + 49) 4 = some (B + 51))
    · exact (by rw [hrgA, erg58, up2_j (by decide), erg56, up2_j (by decide), erg54, up2_j (by decide), erg52, up2_j (by decide), erg50, up2_j (by decide), erg48, up2_j (by decide), erg46, up2_j (by decide), erg44, up2_j (by decide), erg42, up2_j (by decide), erg40, up2_j (by decide), erg38, up2_j (by decide), erg36, up2_j (by decide), erg34, up2_j (by decide), erg32, up2_j (by decide), erg30, up2_j (by decide), erg28, up2_j (by decide), erg26, up2_j (by decide), erg24, up2_j (by decide), erg22, up2_j (by decide), erg20, up2_j (by decide), erg18, up2_j (by decide), erg16, up2_j (by decide), erg14, up2_j (by decide), erg12, up2_j (by decide), erg10, up2_j (by decide), erg8, up2_j (by decide), erg6, up2_eq] : rgA (B + 49) 5 = some (B + 52))
    · exact (by rw [hrgA, erg58, up2_j (by decide), erg56, up2_j (by decide), erg54, up2_j (by decide), erg52, up2_j (by decide), erg50, up2_j (by decide), erg48, up2_j (by decide), erg46, up2_j (by decide), erg44, up2_j (by decide), erg42, up2_j (by decide), erg40, up2_j (by decide), erg38, up2_j (by decide), erg36, up2_j (by decide), erg34, up2_j (by decide), erg32, up2_j (by decide), erg30, up2_j (by decide), erg28, up2_j (by decide), erg26, up2_j (by decide), erg24, up2_j (by decide), erg22, up2_j (by decide), erg20, up2_j (by decide), erg18, up2_j (by decide), erg16, up2_j (by decide), erg14, up2_j (by decide), erg12, up2_j (by decide), erg10, up2_j (by decide), erg8, up2_eq] : rgA (B + 49) 6 = some (B + 53))
    · exact (by rw [hrgA, erg58, up2_j (by decide), erg56, up2_j (by decide), erg54, up2_j (by decide), erg52, up2_j (by decide), erg50, up2_j (by decide), erg48, up2_j (by decide), erg46, up2_j (by decide), erg44, up2_j (by decide), erg42, up2_j (by decide), erg40, up2_j (by decide), erg38, up2_j (by decide), erg36, up2_j (by decide), erg34, up2_j (by decide), erg32, up2_j (by decide), erg30, up2_j (by decide), erg28, up2_j (by decide), erg26, up2_j (by decide), erg24, up2_j (by decide), erg22, up2_j (by decide), erg20, up2_j (by decide), erg18, up2_j (by decide), erg16, up2_j (by decide), erg14, up2_j (by decide), erg12, up2_j (by decide), erg10, up2_eq] : rgA (B + 49) 9 = some (B + 54))
    · exact (by rw [hrgA, erg58, up2_j (by decide), erg56, up2_j (by decide), erg54, up2_j (by decide), erg52, up2_j (by decide), erg50, up2_j (by decide), erg48, up2_j (by decide), erg46, up2_j (by decide), erg44, up2_j (by decide), erg42, up2_j (by decide), erg40, up2_j (by decide), erg38, up2_j (by decide), erg36, up2_j (by decide), erg34, up2_j (by decide), erg32, up2_j (by decide), erg30, up2_j (by decide), erg28, up2_j (by decide), erg26, up2_j (by decide), erg24, up2_j (by decide), erg22, up2_j (by decide), erg20, up2_j (by decide), erg18, up2_j (by decide), erg16, up2_j (by decide), erg14, up2_j (by decide), erg12, up2_eq] : rgA (B + 49) 10 = some (B + 55))
    · exact (by rw [hrgA, erg58, up2_j (by decide), erg56, up2_j (by decide), erg54, up2_j (by decide), erg52, up2_j (by decide), erg50, up2_j (by decide), erg48, up2_j (by decide), erg46, up2_j (by decide), erg44, up2_j (by decide), erg42, up2_j (by decide), erg40, up2_j (by decide), erg38, up2_j (by decide), erg36, up2_j (by decide), erg34, up2_j (by decide), erg32, up2_j (by decide), erg30, up2_j (by decide), erg28, up2_j (by decide), erg26, up2_j (by decide), erg24, up2_j (by decide), erg22, up2_j (by decide), erg20, up2_j (by decide), erg18, up2_j (by decide), erg16, up2_j (by decide), erg14, up2_eq] : rgA (B + 49) 11 = some (B + 56))
    · exact (by rw [hrgA, erg58, up2_j (by decide), erg56, up2_j (by decide), erg54, up2_j (by decide), erg52, up2_j (by decide), erg50, up2_j (by decide), erg48, up2_j (by decide), erg46, up2_j (by decide), erg44, up2_j (by decide), erg42, up2_j (by decide), erg40, up2_j (by decide), erg38, up2_j (by decide), erg36, up2_j (by decide), erg34, up2_j (by decide), erg32, up2_j (by decide), erg30, up2_j (by decide), erg28, up2_j (by decide), erg26, up2_j (by decide), erg24, up2_j (by decide), erg22, up2_j (by decide), erg20, up2_j (by decide), erg18, up2_j (by decide), erg16, up2_eq] : rgA (B + 49) 12 = some (B + 57))
    · exact (by rw [hrgA, erg58, up2_j (by decide), erg56, up2_j (by decide), erg54, up2_j (by decide), erg52, up2_j (by decide), erg50, up2_j (by decide), erg48, up2_j (by decide), erg46, up2_j (by decide), erg44, up2_j (by decide), erg42, up2_j (by decide), erg40, up2_j (by decide), erg38, up2_j (by decide), erg36, up2_j (by decide), erg34, up2_j (by decide), erg32, up2_j (by decide), erg30, up2_j (by decide), erg28, up2_j (by decide), erg26, up2_j (by decide), erg24, up2_j (by decide), erg22, up2_j (by decide), erg20, up2_j (by decide), erg18, up2_eq] : rgA (B + 49) 13 = some (B + 58))
    · exact (by rw [hrgA, erg58, up2_j (by decide), erg56, up2_j (by decide), erg54, up2_j (by decide), erg52, up2_j (by decide), erg50, up2_j (by decide), erg48, up2_j (by decide), erg46, up2_j (by decide), erg44, up2_j (by decide), erg42, up2_j (by decide), erg40, up2_j (by decide), erg38, up2_j (by decide), erg36, up2_j (by decide), erg34, up2_j (by decide), erg32, up2_j (by decide), erg30, up2_j (by decide), erg28, up2_j (by decide), erg26, up2_j (by decide), erg24, up2_j (by decide), erg22, up2_j (by decide), erg20, up2_eq] : rgA (B + 49) 15 = some (B + 59))
    · exact (by rw [hrgA, erg58, up2_j (by decide), erg56, up2_j (by decide), erg54, up2_j (by decide), erg52, up2_j (by decide), erg50, up2_j (by decide), erg48, up2_j (by decide), erg46, up2_j (by decide), erg44, up2_j (by decide), erg42, up2_j (by decide), erg40, up2_j (by decide), erg38, up2_j (by decide), erg36, up2_j (by decide), erg34, up2_j (by decide), erg32, up2_j (by decide), erg30, up2_j (by decide), erg28, up2_j (by decide), erg26, up2_j (by decide), erg24, up2_j (by decide), erg22, up2_eq] : rgA (B + 49) 16 = some (B + 60))
    · exact (by rw [hrgA, erg58, up2_j (by decide), erg56, up2_j (by decide), erg54, up2_j (by decide), erg52, up2_j (by decide), erg50, up2_j (by decide), erg48, up2_j (by decide), erg46, up2_j (by decide), erg44, up2_j (by decide), erg42, up2_j (by decide), erg40, up2_j (by decide), erg38, up2_j (by decide), erg36, up2_j (by decide), erg34, up2_j (by decide), erg32, up2_j (by decide), erg30, up2_j (by decide), erg28, up2_j (by decide), erg26, up2_j (by decide), erg24, up2_eq] : rgA (B + 49) 17 = some (B + 61))
    · exact (by rw [hrgA, erg58, up2_j (by decide), erg56, up2_j (by decide), erg54, up2_j (by decide), erg52, up2_j (by decide), erg50, up2_j (by decide), erg48, up2_j (by decide), erg46, up2_j (by decide), erg44, up2_j (by decide), erg42, up2_j (by decide), erg40, up2_j (by decide), erg38, up2_j (by decide), erg36, up2_j (by decide), erg34, up2_j (by decide), erg32, up2_j (by decide), erg30, up2_j (by decide), erg28, up2_j (by decide), erg26, up2_eq] : rgA (B + 49) 18 = some (B + 62))
    · exact (by rw [hrgA, erg58, up2_j (by decide), erg56, up2_j (by decide), erg54, up2_j (by decide), erg52, up2_j (by decide), erg50, up2_j (by decide), erg48, up2_j (by decide), erg46, up2_j (by decide), erg44, up2_j (by decide), erg42, up2_j (by decide), erg40, up2_j (by decide), erg38, up2_j (by decide), erg36, up2_j (by decide), erg34, up2_j (by decide), erg32, up2_j (by decide), erg30, up2_j (by decide), erg28, up2_eq] : rgA (B + 49) 20 = some (B + 63))
    · exact (by rw [hrgA, erg58, up2_j (by decide), erg56, up2_j (by decide), erg54, up2_j (by decide), erg52, up2_j (by decide), erg50, up2_j (by decide), erg48, up2_j (by decide), erg46, up2_j (by decide), erg44, up2_j (by decide), erg42, up2_j (by decide), erg40, up2_j (by decide), erg38, up2_j (by decide), erg36, up2_j (by decide), erg34, up2_j (by decide), erg32, up2_j (by decide), erg30, up2_eq] : rgA (B + 49) 21 = some (B + 64))
    · exact (by rw [hrgA, erg58, up2_j (by decide), erg56, up2_j (by decide), erg54, up2_j (by decide), erg52, up2_j (by decide), erg50, up2_j (by decide), erg48, up2_j (by decide), erg46, up2_j (by decide), erg44, up2_j (by decide), erg42, up2_j (by decide), erg40, up2_j (by decide), erg38, up2_j (by decide), erg36, up2_j (by decide), erg34, up2_j (by decide), erg32, up2_eq] : rgA (B + 49) 22 = some (B + 65))
    · exact (by rw [hrgA, erg58, up2_j (by decide), erg56, up2_j (by decide), erg54, up2_j (by decide), erg52, up2_j (by decide), erg50, up2_j (by decide), erg48, up2_j (by decide), erg46, up2_j (by decide), erg44, up2_j (by decide), erg42, up2_j (by decide), erg40, up2_j (by decide), erg38, up2_j (by decide), erg36, up2_j (by decide), erg34, up2_eq] : rgA (B + 49) 23 = some (B + 66))
    · exact (by rw [hrgA, erg58, up2_j (by decide), erg56, up2_j (by decide), erg54, up2_j (by decide), erg52, up2_j (by decide), erg50, up2_j (by decide), erg48, up2_j (by decide), erg46, up2_j (by decide), erg44, up2_j (by decide), erg42, up2_j (by decide), erg40, up2_j (by decide), erg38, up2_j (by decide), erg36, up2_eq] : rgA (B + 49) 24 = some (B + 67))
    · exact (by rw [hrgA, erg58, up2_j (by decide), erg56, up2_j (by decide), erg54, up2_j (by decide), erg52, up2_j (by decide), erg50, up2_j (by decide), erg48, up2_j (by decide), erg46, up2_j (by decide), erg44, up2_j (by decide), erg42, up2_j (by decide), erg40, up2_j (by decide), erg38, up2_eq] : rgA (B + 49) 25 = some (B + 68))
    · exact (by rw [hrgA, erg58, up2_j (by decide), erg56, up2_j (by decide), erg54, up2_j (by decide), erg52, up2_j (by decide), erg50, up2_j (by decide), erg48, up2_j (by decide), erg46, up2_j (by decide), erg44, up2_j (by decide), erg42, up2_j (by decide), erg40, up2_eq] : rgA (B + 49) 26 = some (B + 69))
    · exact (by rw [hrgA, erg58, up2_j (by decide), erg56, up2_j (by decide), erg54, up2_j (by decide), erg52, up2_j (by decide), erg50, up2_j (by decide), erg48, up2_j (by decide), erg46, up2_j (by decide), erg44, up2_j (by decide), erg42, up2_eq] : rgA (B + 49) 27 = some (B + 70))
    · exact (by rw [hrgA, erg58, up2_j (by decide), erg56, up2_j (by decide), erg54, up2_j (by decide), erg52, up2_j (by decide), erg50, up2_j (by decide), erg48, up2_j (by decide), erg46, up2_j (by decide), erg44, up2_eq] : rgA (B + 49) 28 = some (B + 71))
    · exact (by rw [hrgA, erg58, up2_j (by decide), erg56, up2_j (by decide), erg54, up2_j (by decide), erg52, up2_j (by decide), erg50, up2_j (by decide), erg48, up2_j (by decide), erg46, up2_eq] : rgA (B + 49) 29 = some (B + 72))
    · exact (by rw [hrgA, erg58, up2_j (by decide), erg56, up2_j (by decide), erg54, up2_j (by decide), erg52, up2_j (by decide), erg50, up2_j (by decide), erg48, up2_eq] : rgA (B + 49) 30 = some (B + 73))
    · exact (by rw [hrgA, erg58, up2_j (by decide), erg56, up2_j (by decide), erg54, up2_j (by decide), erg52, up2_j (by decide), erg50, up2_eq] : rgA (B + 49) 36 = some (B + 74))
    · exact (by rw [hrgA, erg58, up2_j (by decide), erg56, up2_j (by decide), erg54, up2_j (by decide), erg52, up2_eq] : rgA (B + 49) 38 = some (B + 75))
    · exact (by rw [hrgA, erg58, up2_j (by decide), erg56, up2_j (by decide), erg54, up2_eq] : rgA (B + 49) 39 = some (B + 76))
    · exact (by rw [hrgA, erg58, up2_j (by decide), erg56, up2_eq] : rgA (B + 49) 40 = some (B + 77))
    · exact (by rw [hrgA, erg58, up2_eq] : rgA (B + 49) 42 = some (B + 78))
  have oA : ∀ a j, a ≠ B + 49 → rgA a j = rg a j := fun a j h => by rw [hrgA, erg58, up2_a h, erg56, up2_a h, erg54, up2_a h, erg52, up2_a h, erg50, up2_a h, erg48, up2_a h, erg46, up2_a h, erg44, up2_a h, erg42, up2_a h, erg40, up2_a h, erg38, up2_a h, erg36, up2_a h, erg34, up2_a h, erg32, up2_a h, erg30, up2_a h, erg28, up2_a h, erg26, up2_a h, erg24, up2_a h, erg22, up2_a h, erg20, up2_a h, erg18, up2_a h, erg16, up2_a h, erg14, up2_a h, erg12, up2_a h, erg10, up2_a h, erg8, up2_a h, erg6, up2_a h, erg4, up2_a h, erg2, up2_a h]
  rw [← hrgA] at hw
  clear hrgA
  refine lv_iconst (v := 0) hx hb dX12_init_254 (by decide) (ti_c 0 (by decide) fun z59 hz59 => ?_)
  refine lv_istore_n (lv' := [(1, .int z59), (0, .ref (B + 49))]) hx hb dX12_init_255 rfl hl (by decide) rfl (fun ls hl => ?_)
  have L256 : ∀ (n : Nat) (ls : Array Slot) (H : Heap) (locs : List Loc) (ig61 : sI) (v60 : Int32), lv_has ls 2 [(1, .int v60), (0, .ref (B + 49))] → WD B D cA s.heap (kx B 79) ig61 rgA lg H locs → H.size = B + 79 → (0 ≤ v60.toInt) → (v60.toInt ≤ 288) → (∀ j : Nat, (j : Int) < v60.toInt → ig61 (B + 71) j = -1) → (∀ a j, a ≠ B + 71 → ig61 a j = ig a j) → 288 - v60.toInt < (n : Int) → W p l e (rL 1 29 242390) s m args below meth c H locs 29 242390 (MQ below (QcW B D cA (fun r kd' ig' rg' lg' n => kd' = kx B 79 ∧ n = B + 79 ∧ lg = lg' ∧ r = none ∧ Rm B rg' ∧ (∀ a j, a ≠ B + 49 → rg' a j = rg a j) ∧ (∀ a j, a ≠ B + 71 → ig' a j = ig a j) ∧ ∀ j : Nat, j < 288 → ig' (B + 71) j = -1)) args s 29 242390 (fun q => B ≤ q)) (F0 m 256 ls []) := by
    intro n256
    induction n256 with
    | zero => intro ls H locs ig61 v60 hl hw hsz g256_0 g256_1 g256_2 g256_3 hmu; exact absurd hmu (by omega)
    | succ n256 ih256 =>
      intro ls H locs ig61 v60 hl hw hsz g256_0 g256_1 g256_2 g256_3 hmu
      refine lv_iload_n hx hb dX12_init_256 rfl (lv_at hl 0 rfl) ?_
      refine lv_sipush (v := 288) hx hb dX12_init_257 (by decide) (ti_c 288 (by decide) fun z62 hz62 => ?_)
      refine b_ge (tgt := 276) hx hb dX12_init_260 (by decide) (fun c260 => ?_) (fun c260 => ?_)
      · exact r_vret C hw hr hlk (Nat.le_of_ble_eq_true rfl) (Nat.le_of_ble_eq_true rfl) dX12_init_276 ⟨rfl, hsz, rfl, rfl, hrmA, oA, g256_3, fun j hj => g256_2 j (by omega)⟩
      · refine lv_aload_n hx hb dX12_init_263 rfl (lv_at hl 1 rfl) ?_
        refine r_get C hw (kxs 49 (by decide) rfl) fl_X12_117 (oV_r rfl (hrmA (49, 28, 71) (by decide))) dX12_init_264 ?_
        refine lv_iload_n hx hb dX12_init_267 rfl (lv_at hl 0 rfl) ?_
        refine lv_iconst (v := (-1)) hx hb dX12_init_268 (by decide) (ti_c (-1) (by decide) fun z63 hz63 => ?_)
        refine r_iast C hw (kxs 71 (by decide) rfl) (by omega) (by omega) dX12_init_269 (fun H locs hH hw => ?_)
        obtain ⟨ig64, eig64⟩ : ∃ f, f = up2 ig61 (B + 71) v60.toInt.toNat z63 := ⟨_, rfl⟩
        rw [← eig64] at hw
        have hsz := hH.trans hsz
        refine ti_inc hx hb dX12_init_270 hl (k := 0) rfl (by decide) (by decide) (by omega) (fun z65 hz65 ls hl => ?_)
        have hl : lv_has ls 2 [(1, .int z65), (0, .ref (B + 49))] := hl
        refine lv_goto (tgt := 256) hx hb dX12_init_273 (by decide) ?_
        exact ih256 ls H locs ig64 z65 (lv_sub hl [0, 1] rfl) hw hsz (by omega) (by omega) (by intro j hj; rw [eig64]; exact fill1 g256_2 (by omega) (eqm1 (by omega)) j (by omega)) (fun a j h => by rw [eig64, up2_a h]; exact g256_3 a j h) (by omega)
  exact L256 ((288 - z59.toInt) + 1).toNat ls H locs ig z59 (lv_sub hl [0, 1] rfl) hw hsz (by omega) (by omega) (fun j hj => absurd hj (by omega)) (fun a j h => rfl) (by omega)
