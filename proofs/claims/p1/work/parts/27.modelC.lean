theorem FM.ki {B : Nat} {kd : sK} {ig : sI} {rg : sR} {lg : sG} (h : FM B kd ig rg lg) : KI B ig := ⟨fun j _ => Or.inl (z0 (h.2.2.1 59 j (by decide) (by decide) (by decide))), fun j _ => h.2.2.1 58 j (by decide) (by decide) (by decide)⟩

set_option maxHeartbeats 4000000 in
set_option maxRecDepth 100000 in
theorem t_X12_formula (l : Launch) (B : Nat) (D : va_G) (cA : Nat → ClassId) (kd : sK) (ig : sI) (rg : sR) (lg : sG) (sz : Nat) (x : Int32) (F8 : FM B kd ig rg lg) : MC l B D cA yX12_formula cX12_formula 2 (some .int) (rL 6 0 0) [.ref (B + 49), .int x] kd ig rg lg sz (fun r kd' ig' rg' lg' n => kd = kd' ∧ rg = rg' ∧ ∃ z : Int32, r = some (.int z) ∧ ((0 ≤ x.toInt ∧ x.toInt < 288) → z.toInt = 1) ∧ (¬ (0 ≤ x.toInt ∧ x.toInt < 288) → z.toInt = -1)) := by
  refine MC.of (own := RX12) (by decide +kernel) rfl (Nat.le_of_ble_eq_true rfl) ?_
  intro p e s m args below meth c ls C hr hlk hnm hw hsz hl
  have hx := C.1.1
  have hb := C.1.2.1
  have hown := C.1.2.2.2.1
  have hts := C.1.2.2.2.2
  have hl : lv_has ls 2 [(0, .ref (B + 49)), (1, .int x)] := hl
  obtain ⟨hsh, hrm, hz, hf71, hlz⟩ := F8
  refine lv_aload_n hx hb dX12_formula_0 rfl (lv_at hl 0 rfl) ?_
  refine lv_iconst (v := 0) hx hb dX12_formula_1 (by decide) (ti_c 0 (by decide) fun z1 hz1 => ?_)
  refine r_puti C hw (hsh 49 _ rfl) fl_X12_1 rfl rfl rfl dX12_formula_2 (fun H locs hH hw => ?_)
  obtain ⟨ig2, eig2⟩ : ∃ f, f = up2 ig (B + 49) 0 z1 := ⟨_, rfl⟩
  rw [← eig2] at hw
  have hsz := hH.trans hsz
  refine lv_iload_n hx hb dX12_formula_5 rfl (lv_at hl 1 rfl) ?_
  refine r_callS (As := [.int x]) (rest := []) C hw (t_X12_isPlace l B D cA kd ig2 rg lg _ x) ss_X12_198 rfl hl.1 rfl (Nat.le_of_ble_eq_true rfl) ⟨Nat.le_of_ble_eq_true rfl, Nat.le_of_ble_eq_true rfl⟩ ⟨Nat.le_of_ble_eq_true rfl, Nat.le_of_ble_eq_true rfl⟩ dX12_formula_6 (fun r8 kd4 ig5 rg6 lg7 H locs hw hH hp9 => ?_)
  obtain ⟨rfl, rfl, rfl, rfl, hzz3, z3, rfl, hz3⟩ := hp9
  have hsz := hzz3.trans hsz
  refine z_ne (tgt := 19) hx hb dX12_formula_9 (by decide) (fun c9 => ?_) (fun c9 => ?_)
  · refine lv_aload_n hx hb dX12_formula_19 rfl (lv_at hl 0 rfl) ?_
    refine r_callV (As := []) (rest := []) C hw (t_X12_cutAll l B D cA kd ig2 rg lg _ hsh hrm (by rw [eig2, up2_j (by decide)]; exact hz 49 2 (by decide) (by decide) (by decide))) sv_X12_201 (hsh 49 _ rfl) rfl hl.1 rfl (Nat.le_of_ble_eq_true rfl) ⟨Nat.le_of_ble_eq_true rfl, Nat.le_of_ble_eq_true rfl⟩ ⟨Nat.le_of_ble_eq_true rfl, Nat.le_of_ble_eq_true rfl⟩ dX12_formula_20 (fun r15 kd11 ig12 rg13 lg14 H locs hw hH hp16 => ?_)
    obtain ⟨rfl, rfl, rfl, hq10, rfl, oa10, ha, hf0, hs, hp0⟩ := hp16
    have hsz := hq10.trans hsz
    refine lv_aload_n hx hb dX12_formula_23 rfl (lv_at hl 0 rfl) ?_
    refine lv_iconst (v := 2) hx hb dX12_formula_24 (by decide) (ti_c 2 (by decide) fun z17 hz17 => ?_)
    refine lv_iconst (v := 0) hx hb dX12_formula_25 (by decide) (ti_c 0 (by decide) fun z18 hz18 => ?_)
    refine r_callV (As := [.int z17, .int z18]) (rest := []) C hw (t_X12_clearDraft l B D cA kd ig12 rg lg _ z17 z18 hsh hrm) sv_X12_204 (hsh 49 _ rfl) rfl hl.1 rfl (Nat.le_of_ble_eq_true rfl) ⟨Nat.le_of_ble_eq_true rfl, Nat.le_of_ble_eq_true rfl⟩ ⟨Nat.le_of_ble_eq_true rfl, Nat.le_of_ble_eq_true rfl⟩ dX12_formula_26 (fun r24 kd20 ig21 rg22 lg23 H locs hw hH hp25 => ?_)
    obtain ⟨rfl, rfl, rfl, hq19, rfl, ob19, hkk19⟩ := hp25
    have hsz := hq19.trans hsz
    have ha := (ob19 (B + 49) 7 (by omega)).trans ha
    have hf0 := (ob19 (B + 49) 8 (by omega)).trans hf0
    have hs := (ob19 (B + 51) 0 (by omega)).trans hs
    have hp0 := (ob19 (B + 52) 0 (by omega)).trans hp0
    refine lv_aload_n hx hb dX12_formula_29 rfl (lv_at hl 0 rfl) ?_
    refine lv_iconst (v := 0) hx hb dX12_formula_30 (by decide) (ti_c 0 (by decide) fun z26 hz26 => ?_)
    refine r_puti C hw (hsh 49 _ rfl) fl_X12_174 rfl rfl rfl dX12_formula_31 (fun H locs hH hw => ?_)
    obtain ⟨ig27, eig27⟩ : ∃ f, f = up2 ig21 (B + 49) 14 z26 := ⟨_, rfl⟩
    rw [← eig27] at hw
    have hsz := hH.trans hsz
    refine lv_aload_n hx hb dX12_formula_34 rfl (lv_at hl 0 rfl) ?_
    refine r_callV (As := []) (rest := []) C hw (t_X12_readE l B D cA kd ig27 rg lg _ hsh hrm (by rw [eig27, up2_j (by decide)]; exact ha) (by rw [eig27, up2_a (by omega)]; exact hs) (by rw [eig27, up2_a (by omega)]; exact hp0) (by rw [eig27, up2_j (by decide)]; exact hf0)) sv_X12_180 (hsh 49 _ rfl) rfl hl.1 rfl (Nat.le_of_ble_eq_true rfl) ⟨Nat.le_of_ble_eq_true rfl, Nat.le_of_ble_eq_true rfl⟩ ⟨Nat.le_of_ble_eq_true rfl, Nat.le_of_ble_eq_true rfl⟩ dX12_formula_35 (fun r33 kd29 ig30 rg31 lg32 H locs hw hH hp34 => ?_)
    obtain ⟨rfl, rfl, rfl, hq28, rfl, oc28, hf8, ha⟩ := hp34
    have hsz := hq28.trans hsz
    refine lv_aload_n hx hb dX12_formula_38 rfl (lv_at hl 0 rfl) ?_
    refine r_get C hw (hsh 49 _ rfl) fl_X12_52 (oV_i rfl) dX12_formula_39 (ti_c (ig30 (B + 49) 8).toInt rfl fun z35 hz35 => ?_)
    refine z_ne (tgt := 62) hx hb dX12_formula_42 (by decide) (fun c42 => ?_) (fun c42 => ?_)
    · refine lv_aload_n hx hb dX12_formula_62 rfl (lv_at hl 0 rfl) ?_
      refine r_get C hw (hsh 49 _ rfl) fl_X12_52 (oV_i rfl) dX12_formula_63 (ti_c (ig30 (B + 49) 8).toInt rfl fun z36 hz36 => ?_)
      refine z_ne (tgt := 74) hx hb dX12_formula_66 (by decide) (fun c66 => ?_) (fun c66 => ?_)
      · refine lv_aload_n hx hb dX12_formula_74 rfl (lv_at hl 0 rfl) ?_
        refine r_get C hw (hsh 49 _ rfl) fl_X12_52 (oV_i rfl) dX12_formula_75 (ti_c (ig30 (B + 49) 8).toInt rfl fun z37 hz37 => ?_)
        exact r_iret C hw hr hlk rfl (Nat.le_of_ble_eq_true rfl) (Nat.le_of_ble_eq_true rfl) dX12_formula_78 ⟨rfl, rfl, _, rfl, by omega⟩
      · exact absurd c66 (by omega)
    · exact absurd c42 (by omega)
  · refine lv_aload_n hx hb dX12_formula_12 rfl (lv_at hl 0 rfl) ?_
    refine lv_iconst (v := 0) hx hb dX12_formula_13 (by decide) (ti_c 0 (by decide) fun z38 hz38 => ?_)
    refine r_puti C hw (hsh 49 _ rfl) fl_X12_11 rfl rfl rfl dX12_formula_14 (fun H locs hH hw => ?_)
    obtain ⟨ig39, eig39⟩ : ∃ f, f = up2 ig2 (B + 49) 2 z38 := ⟨_, rfl⟩
    rw [← eig39] at hw
    have hsz := hH.trans hsz
    refine lv_iconst (v := (-1)) hx hb dX12_formula_17 (by decide) (ti_c (-1) (by decide) fun z40 hz40 => ?_)
    exact r_iret C hw hr hlk rfl (Nat.le_of_ble_eq_true rfl) (Nat.le_of_ble_eq_true rfl) dX12_formula_18 ⟨rfl, rfl, _, rfl, by omega⟩

set_option maxHeartbeats 4000000 in
set_option maxRecDepth 100000 in
theorem t_X12_number (l : Launch) (B : Nat) (D : va_G) (cA : Nat → ClassId) (kd : sK) (ig : sI) (rg : sR) (lg : sG) (sz : Nat) (x y : Int32) (F8 : FM B kd ig rg lg) : MC l B D cA yX12_number cX12_number 3 (some .boolean) (rL 6 0 0) [.ref (B + 49), .int x, .int y] kd ig rg lg sz (fun r kd' ig' rg' lg' n => kd = kd' ∧ rg = rg' ∧ ∃ z : Int32, r = some (.int z) ∧ ((0 ≤ x.toInt ∧ x.toInt < 288) → z.toInt = 1) ∧ (¬ (0 ≤ x.toInt ∧ x.toInt < 288) → z.toInt = 0)) := by
  refine MC.of (own := RX12) (by decide +kernel) rfl (Nat.le_of_ble_eq_true rfl) ?_
  intro p e s m args below meth c ls C hr hlk hnm hw hsz hl
  have hx := C.1.1
  have hb := C.1.2.1
  have hown := C.1.2.2.2.1
  have hts := C.1.2.2.2.2
  have hl : lv_has ls 3 [(0, .ref (B + 49)), (1, .int x), (2, .int y)] := hl
  have hki := FM.ki F8
  obtain ⟨hsh, hrm, hz, hf71, hlz⟩ := F8
  refine lv_aload_n hx hb dX12_number_0 rfl (lv_at hl 0 rfl) ?_
  refine lv_iconst (v := 0) hx hb dX12_number_1 (by decide) (ti_c 0 (by decide) fun z1 hz1 => ?_)
  refine r_puti C hw (hsh 49 _ rfl) fl_X12_1 rfl rfl rfl dX12_number_2 (fun H locs hH hw => ?_)
  obtain ⟨ig2, eig2⟩ : ∃ f, f = up2 ig (B + 49) 0 z1 := ⟨_, rfl⟩
  rw [← eig2] at hw
  have hsz := hH.trans hsz
  have hki1 : KI B ig2 := by rw [eig2]; exact KI.o hki (by decide)
  have hu : ig2 (B + 49) 19 = 0 := (by rw [eig2, up2_j (by decide)]; exact hz 49 19 (by decide) (by decide) (by decide))
  refine lv_iload_n hx hb dX12_number_5 rfl (lv_at hl 1 rfl) ?_
  refine r_callS (As := [.int x]) (rest := []) C hw (t_X12_isPlace l B D cA kd ig2 rg lg _ x) ss_X12_198 rfl hl.1 rfl (Nat.le_of_ble_eq_true rfl) ⟨Nat.le_of_ble_eq_true rfl, Nat.le_of_ble_eq_true rfl⟩ ⟨Nat.le_of_ble_eq_true rfl, Nat.le_of_ble_eq_true rfl⟩ dX12_number_6 (fun r8 kd4 ig5 rg6 lg7 H locs hw hH hp9 => ?_)
  obtain ⟨rfl, rfl, rfl, rfl, hzz3, z3, rfl, hz3⟩ := hp9
  have hsz := hzz3.trans hsz
  refine z_ne (tgt := 14) hx hb dX12_number_9 (by decide) (fun c9 => ?_) (fun c9 => ?_)
  · refine lv_aload_n hx hb dX12_number_14 rfl (lv_at hl 0 rfl) ?_
    refine lv_iconst (v := 1) hx hb dX12_number_15 (by decide) (ti_c 1 (by decide) fun z10 hz10 => ?_)
    refine lv_iload_n hx hb dX12_number_16 rfl (lv_at hl 2 rfl) ?_
    refine r_callV (As := [.int z10, .int y]) (rest := []) C hw (t_X12_clearDraft l B D cA kd ig2 rg lg _ z10 y hsh hrm) sv_X12_204 (hsh 49 _ rfl) rfl hl.1 rfl (Nat.le_of_ble_eq_true rfl) ⟨Nat.le_of_ble_eq_true rfl, Nat.le_of_ble_eq_true rfl⟩ ⟨Nat.le_of_ble_eq_true rfl, Nat.le_of_ble_eq_true rfl⟩ dX12_number_17 (fun r16 kd12 ig13 rg14 lg15 H locs hw hH hp17 => ?_)
    obtain ⟨rfl, rfl, rfl, hq11, rfl, ob11, hkk11⟩ := hp17
    have hsz := hq11.trans hsz
    have hki := hkk11 hki1 (by omega)
    have hu := (ob11 (B + 49) 19 (by omega)).trans hu
    refine lv_aload_n hx hb dX12_number_20 rfl (lv_at hl 0 rfl) ?_
    refine lv_iload_n hx hb dX12_number_21 rfl (lv_at hl 1 rfl) ?_
    refine r_callV (As := [.int x]) (rest := []) C hw (t_X12_puts l B D cA kd ig13 rg lg _ x (by omega) hu hki hsh hrm) sv_X12_207 (hsh 49 _ rfl) rfl hl.1 rfl (Nat.le_of_ble_eq_true rfl) ⟨Nat.le_of_ble_eq_true rfl, Nat.le_of_ble_eq_true rfl⟩ ⟨Nat.le_of_ble_eq_true rfl, Nat.le_of_ble_eq_true rfl⟩ dX12_number_22 (fun r23 kd19 ig20 rg21 lg22 H locs hw hH hp24 => ?_)
    obtain ⟨rfl, rfl, ht18, hq18, rfl, hv18⟩ := hp24
    have hsz := hq18.trans hsz
    refine lv_iconst (v := 1) hx hb dX12_number_25 (by decide) (ti_c 1 (by decide) fun z25 hz25 => ?_)
    exact r_iret C hw hr hlk (nar_b (by omega)) (Nat.le_of_ble_eq_true rfl) (Nat.le_of_ble_eq_true rfl) dX12_number_26 ⟨rfl, rfl, _, rfl, by omega⟩
  · refine lv_iconst (v := 0) hx hb dX12_number_12 (by decide) (ti_c 0 (by decide) fun z26 hz26 => ?_)
    exact r_iret C hw hr hlk (nar_b (by omega)) (Nat.le_of_ble_eq_true rfl) (Nat.le_of_ble_eq_true rfl) dX12_number_13 ⟨rfl, rfl, _, rfl, by omega⟩

set_option maxHeartbeats 4000000 in
set_option maxRecDepth 100000 in
theorem t_X12_empty (l : Launch) (B : Nat) (D : va_G) (cA : Nat → ClassId) (kd : sK) (ig : sI) (rg : sR) (lg : sG) (sz : Nat) (x : Int32) (F8 : FM B kd ig rg lg) : MC l B D cA yX12_empty cX12_empty 2 (some .boolean) (rL 6 0 0) [.ref (B + 49), .int x] kd ig rg lg sz (fun r kd' ig' rg' lg' n => kd = kd' ∧ rg = rg' ∧ ∃ z : Int32, r = some (.int z) ∧ ((0 ≤ x.toInt ∧ x.toInt < 288) → z.toInt = 1) ∧ (¬ (0 ≤ x.toInt ∧ x.toInt < 288) → z.toInt = 0)) := by
  refine MC.of (own := RX12) (by decide +kernel) rfl (Nat.le_of_ble_eq_true rfl) ?_
  intro p e s m args below meth c ls C hr hlk hnm hw hsz hl
  have hx := C.1.1
  have hb := C.1.2.1
  have hown := C.1.2.2.2.1
  have hts := C.1.2.2.2.2
  have hl : lv_has ls 2 [(0, .ref (B + 49)), (1, .int x)] := hl
  have hki := FM.ki F8
  obtain ⟨hsh, hrm, hz, hf71, hlz⟩ := F8
  refine lv_aload_n hx hb dX12_empty_0 rfl (lv_at hl 0 rfl) ?_
  refine lv_iconst (v := 0) hx hb dX12_empty_1 (by decide) (ti_c 0 (by decide) fun z1 hz1 => ?_)
  refine r_puti C hw (hsh 49 _ rfl) fl_X12_1 rfl rfl rfl dX12_empty_2 (fun H locs hH hw => ?_)
  obtain ⟨ig2, eig2⟩ : ∃ f, f = up2 ig (B + 49) 0 z1 := ⟨_, rfl⟩
  rw [← eig2] at hw
  have hsz := hH.trans hsz
  have hki1 : KI B ig2 := by rw [eig2]; exact KI.o hki (by decide)
  have hu : ig2 (B + 49) 19 = 0 := (by rw [eig2, up2_j (by decide)]; exact hz 49 19 (by decide) (by decide) (by decide))
  refine lv_iload_n hx hb dX12_empty_5 rfl (lv_at hl 1 rfl) ?_
  refine r_callS (As := [.int x]) (rest := []) C hw (t_X12_isPlace l B D cA kd ig2 rg lg _ x) ss_X12_198 rfl hl.1 rfl (Nat.le_of_ble_eq_true rfl) ⟨Nat.le_of_ble_eq_true rfl, Nat.le_of_ble_eq_true rfl⟩ ⟨Nat.le_of_ble_eq_true rfl, Nat.le_of_ble_eq_true rfl⟩ dX12_empty_6 (fun r8 kd4 ig5 rg6 lg7 H locs hw hH hp9 => ?_)
  obtain ⟨rfl, rfl, rfl, rfl, hzz3, z3, rfl, hz3⟩ := hp9
  have hsz := hzz3.trans hsz
  refine z_ne (tgt := 14) hx hb dX12_empty_9 (by decide) (fun c9 => ?_) (fun c9 => ?_)
  · refine lv_aload_n hx hb dX12_empty_14 rfl (lv_at hl 0 rfl) ?_
    refine lv_iconst (v := 0) hx hb dX12_empty_15 (by decide) (ti_c 0 (by decide) fun z10 hz10 => ?_)
    refine lv_iconst (v := 0) hx hb dX12_empty_16 (by decide) (ti_c 0 (by decide) fun z11 hz11 => ?_)
    refine r_callV (As := [.int z10, .int z11]) (rest := []) C hw (t_X12_clearDraft l B D cA kd ig2 rg lg _ z10 z11 hsh hrm) sv_X12_204 (hsh 49 _ rfl) rfl hl.1 rfl (Nat.le_of_ble_eq_true rfl) ⟨Nat.le_of_ble_eq_true rfl, Nat.le_of_ble_eq_true rfl⟩ ⟨Nat.le_of_ble_eq_true rfl, Nat.le_of_ble_eq_true rfl⟩ dX12_empty_17 (fun r17 kd13 ig14 rg15 lg16 H locs hw hH hp18 => ?_)
    obtain ⟨rfl, rfl, rfl, hq12, rfl, ob12, hkk12⟩ := hp18
    have hsz := hq12.trans hsz
    have hki := hkk12 hki1 (by omega)
    have hu := (ob12 (B + 49) 19 (by omega)).trans hu
    refine lv_aload_n hx hb dX12_empty_20 rfl (lv_at hl 0 rfl) ?_
    refine lv_iload_n hx hb dX12_empty_21 rfl (lv_at hl 1 rfl) ?_
    refine r_callV (As := [.int x]) (rest := []) C hw (t_X12_puts l B D cA kd ig14 rg lg _ x (by omega) hu hki hsh hrm) sv_X12_207 (hsh 49 _ rfl) rfl hl.1 rfl (Nat.le_of_ble_eq_true rfl) ⟨Nat.le_of_ble_eq_true rfl, Nat.le_of_ble_eq_true rfl⟩ ⟨Nat.le_of_ble_eq_true rfl, Nat.le_of_ble_eq_true rfl⟩ dX12_empty_22 (fun r24 kd20 ig21 rg22 lg23 H locs hw hH hp25 => ?_)
    obtain ⟨rfl, rfl, ht19, hq19, rfl, hv19⟩ := hp25
    have hsz := hq19.trans hsz
    refine lv_iconst (v := 1) hx hb dX12_empty_25 (by decide) (ti_c 1 (by decide) fun z26 hz26 => ?_)
    exact r_iret C hw hr hlk (nar_b (by omega)) (Nat.le_of_ble_eq_true rfl) (Nat.le_of_ble_eq_true rfl) dX12_empty_26 ⟨rfl, rfl, _, rfl, by omega⟩
  · refine lv_iconst (v := 0) hx hb dX12_empty_12 (by decide) (ti_c 0 (by decide) fun z27 hz27 => ?_)
    exact r_iret C hw hr hlk (nar_b (by omega)) (Nat.le_of_ble_eq_true rfl) (Nat.le_of_ble_eq_true rfl) dX12_empty_13 ⟨rfl, rfl, _, rfl, by omega⟩

set_option maxHeartbeats 4000000 in
set_option maxRecDepth 100000 in
theorem t_X12_copy (l : Launch) (B : Nat) (D : va_G) (cA : Nat → ClassId) (kd : sK) (ig : sI) (rg : sR) (lg : sG) (sz : Nat) (x y : Int32) (F8 : FM B kd ig rg lg) : MC l B D cA yX12_copy cX12_copy 3 (some .boolean) (rL 6 0 0) [.ref (B + 49), .int x, .int y] kd ig rg lg sz (fun r kd' ig' rg' lg' n => kd = kd' ∧ rg = rg' ∧ ∃ z : Int32, r = some (.int z) ∧ (((0 ≤ x.toInt ∧ x.toInt < 288) ∧ (0 ≤ y.toInt ∧ y.toInt < 288)) → z.toInt = 1) ∧ (¬ ((0 ≤ x.toInt ∧ x.toInt < 288) ∧ (0 ≤ y.toInt ∧ y.toInt < 288)) → z.toInt = 0)) := by
  refine MC.of (own := RX12) (by decide +kernel) rfl (Nat.le_of_ble_eq_true rfl) ?_
  intro p e s m args below meth c ls C hr hlk hnm hw hsz hl
  have hx := C.1.1
  have hb := C.1.2.1
  have hown := C.1.2.2.2.1
  have hts := C.1.2.2.2.2
  have hl : lv_has ls 3 [(0, .ref (B + 49)), (1, .int x), (2, .int y)] := hl
  have hki := FM.ki F8
  obtain ⟨hsh, hrm, hz, hf71, hlz⟩ := F8
  refine lv_aload_n hx hb dX12_copy_0 rfl (lv_at hl 0 rfl) ?_
  refine lv_iconst (v := 0) hx hb dX12_copy_1 (by decide) (ti_c 0 (by decide) fun z1 hz1 => ?_)
  refine r_puti C hw (hsh 49 _ rfl) fl_X12_1 rfl rfl rfl dX12_copy_2 (fun H locs hH hw => ?_)
  obtain ⟨ig2, eig2⟩ : ∃ f, f = up2 ig (B + 49) 0 z1 := ⟨_, rfl⟩
  rw [← eig2] at hw
  have hsz := hH.trans hsz
  have hki1 : KI B ig2 := by rw [eig2]; exact KI.o hki (by decide)
  have hu : ig2 (B + 49) 19 = 0 := (by rw [eig2, up2_j (by decide)]; exact hz 49 19 (by decide) (by decide) (by decide))
  refine lv_iload_n hx hb dX12_copy_5 rfl (lv_at hl 1 rfl) ?_
  refine r_callS (As := [.int x]) (rest := []) C hw (t_X12_isPlace l B D cA kd ig2 rg lg _ x) ss_X12_198 rfl hl.1 rfl (Nat.le_of_ble_eq_true rfl) ⟨Nat.le_of_ble_eq_true rfl, Nat.le_of_ble_eq_true rfl⟩ ⟨Nat.le_of_ble_eq_true rfl, Nat.le_of_ble_eq_true rfl⟩ dX12_copy_6 (fun r8 kd4 ig5 rg6 lg7 H locs hw hH hp9 => ?_)
  obtain ⟨rfl, rfl, rfl, rfl, hzz3, z3, rfl, hz3⟩ := hp9
  have hsz := hzz3.trans hsz
  refine z_eq (tgt := 28) hx hb dX12_copy_9 (by decide) (fun c9 => ?_) (fun c9 => ?_)
  · refine lv_iconst (v := 0) hx hb dX12_copy_28 (by decide) (ti_c 0 (by decide) fun z10 hz10 => ?_)
    exact r_iret C hw hr hlk (nar_b (by omega)) (Nat.le_of_ble_eq_true rfl) (Nat.le_of_ble_eq_true rfl) dX12_copy_29 ⟨rfl, rfl, _, rfl, by omega⟩
  · refine lv_iload_n hx hb dX12_copy_12 rfl (lv_at hl 2 rfl) ?_
    refine r_callS (As := [.int y]) (rest := []) C hw (t_X12_isPlace l B D cA kd ig2 rg lg _ y) ss_X12_198 rfl hl.1 rfl (Nat.le_of_ble_eq_true rfl) ⟨Nat.le_of_ble_eq_true rfl, Nat.le_of_ble_eq_true rfl⟩ ⟨Nat.le_of_ble_eq_true rfl, Nat.le_of_ble_eq_true rfl⟩ dX12_copy_13 (fun r16 kd12 ig13 rg14 lg15 H locs hw hH hp17 => ?_)
    obtain ⟨rfl, rfl, rfl, rfl, hzz11, z11, rfl, hz11⟩ := hp17
    have hsz := hzz11.trans hsz
    refine z_eq (tgt := 28) hx hb dX12_copy_16 (by decide) (fun c16 => ?_) (fun c16 => ?_)
    · refine lv_iconst (v := 0) hx hb dX12_copy_28 (by decide) (ti_c 0 (by decide) fun z18 hz18 => ?_)
      exact r_iret C hw hr hlk (nar_b (by omega)) (Nat.le_of_ble_eq_true rfl) (Nat.le_of_ble_eq_true rfl) dX12_copy_29 ⟨rfl, rfl, _, rfl, by omega⟩
    · refine lv_aload_n hx hb dX12_copy_19 rfl (lv_at hl 0 rfl) ?_
      refine lv_iload_n hx hb dX12_copy_20 rfl (lv_at hl 1 rfl) ?_
      refine lv_iload_n hx hb dX12_copy_21 rfl (lv_at hl 2 rfl) ?_
      refine r_callV (As := [.int x, .int y]) (rest := []) C hw (t_X12_makesCopy l B D cA kd ig2 rg lg _ x y (by omega) (by omega) hki1 hsh hrm) sv_X12_210 (hsh 49 _ rfl) rfl hl.1 rfl (Nat.le_of_ble_eq_true rfl) ⟨Nat.le_of_ble_eq_true rfl, Nat.le_of_ble_eq_true rfl⟩ ⟨Nat.le_of_ble_eq_true rfl, Nat.le_of_ble_eq_true rfl⟩ dX12_copy_22 (fun r24 kd20 ig21 rg22 lg23 H locs hw hH hp25 => ?_)
      obtain ⟨rfl, rfl, rfl, hq19, ⟨zr19, rfl, hzr19⟩, ob19, hki⟩ := hp25
      have hsz := hq19.trans hsz
      have hu := (ob19 (B + 49) 19 (by omega)).trans hu
      refine z_ne (tgt := 30) hx hb dX12_copy_25 (by decide) (fun c25 => ?_) (fun c25 => ?_)
      · refine lv_aload_n hx hb dX12_copy_30 rfl (lv_at hl 0 rfl) ?_
        refine lv_iload_n hx hb dX12_copy_31 rfl (lv_at hl 2 rfl) ?_
        refine r_callV (As := [.int y]) (rest := []) C hw (t_X12_puts l B D cA kd ig21 rg lg _ y (by omega) hu hki hsh hrm) sv_X12_207 (hsh 49 _ rfl) rfl hl.1 rfl (Nat.le_of_ble_eq_true rfl) ⟨Nat.le_of_ble_eq_true rfl, Nat.le_of_ble_eq_true rfl⟩ ⟨Nat.le_of_ble_eq_true rfl, Nat.le_of_ble_eq_true rfl⟩ dX12_copy_32 (fun r31 kd27 ig28 rg29 lg30 H locs hw hH hp32 => ?_)
        obtain ⟨rfl, rfl, ht26, hq26, rfl, hv26⟩ := hp32
        have hsz := hq26.trans hsz
        refine lv_iconst (v := 1) hx hb dX12_copy_35 (by decide) (ti_c 1 (by decide) fun z33 hz33 => ?_)
        exact r_iret C hw hr hlk (nar_b (by omega)) (Nat.le_of_ble_eq_true rfl) (Nat.le_of_ble_eq_true rfl) dX12_copy_36 ⟨rfl, rfl, _, rfl, by omega⟩
      · exact absurd c25 (by omega)

set_option maxHeartbeats 4000000 in
set_option maxRecDepth 100000 in
theorem t_X12_unit (l : Launch) (B : Nat) (D : va_G) (cA : Nat → ClassId) (kd : sK) (ig : sI) (rg : sR) (lg : sG) (sz : Nat) (x y u w : Int32) (F8 : FM B kd ig rg lg) : MC l B D cA yX12_unit cX12_unit 5 (some .boolean) (rL 6 0 0) [.ref (B + 49), .int x, .int y, .int u, .int w] kd ig rg lg sz (fun r kd' ig' rg' lg' n => kd = kd' ∧ rg = rg' ∧ ∃ z : Int32, r = some (.int z) ∧ z.toInt = 0) := by
  refine MC.of (own := RX12) (by decide +kernel) rfl (Nat.le_of_ble_eq_true rfl) ?_
  intro p e s m args below meth c ls C hr hlk hnm hw hsz hl
  have hx := C.1.1
  have hb := C.1.2.1
  have hown := C.1.2.2.2.1
  have hts := C.1.2.2.2.2
  have hl : lv_has ls 5 [(0, .ref (B + 49)), (1, .int x), (2, .int y), (3, .int u), (4, .int w)] := hl
  obtain ⟨hsh, hrm, hz, hf71, hlz⟩ := F8
  refine lv_aload_n hx hb dX12_unit_0 rfl (lv_at hl 0 rfl) ?_
  refine lv_iconst (v := 0) hx hb dX12_unit_1 (by decide) (ti_c 0 (by decide) fun z1 hz1 => ?_)
  refine r_puti C hw (hsh 49 _ rfl) fl_X12_1 rfl rfl rfl dX12_unit_2 (fun H locs hH hw => ?_)
  obtain ⟨ig2, eig2⟩ : ∃ f, f = up2 ig (B + 49) 0 z1 := ⟨_, rfl⟩
  rw [← eig2] at hw
  have hsz := hH.trans hsz
  refine lv_iload_n hx hb dX12_unit_5 rfl (lv_at hl 1 rfl) ?_
  refine r_callS (As := [.int x]) (rest := []) C hw (t_X12_isPlace l B D cA kd ig2 rg lg _ x) ss_X12_198 rfl hl.1 rfl (Nat.le_of_ble_eq_true rfl) ⟨Nat.le_of_ble_eq_true rfl, Nat.le_of_ble_eq_true rfl⟩ ⟨Nat.le_of_ble_eq_true rfl, Nat.le_of_ble_eq_true rfl⟩ dX12_unit_6 (fun r8 kd4 ig5 rg6 lg7 H locs hw hH hp9 => ?_)
  obtain ⟨rfl, rfl, rfl, rfl, hzz3, z3, rfl, hz3⟩ := hp9
  have hsz := hzz3.trans hsz
  refine z_eq (tgt := 57) hx hb dX12_unit_9 (by decide) (fun c9 => ?_) (fun c9 => ?_)
  · refine lv_iconst (v := 0) hx hb dX12_unit_57 (by decide) (ti_c 0 (by decide) fun z10 hz10 => ?_)
    exact r_iret C hw hr hlk (nar_b (by omega)) (Nat.le_of_ble_eq_true rfl) (Nat.le_of_ble_eq_true rfl) dX12_unit_58 ⟨rfl, rfl, _, rfl, by omega⟩
  · refine lv_aload_n hx hb dX12_unit_12 rfl (lv_at hl 0 rfl) ?_
    refine r_get C hw (hsh 49 _ rfl) fl_X12_80 (oV_r rfl (hrm (49, 15, 59) (by decide))) dX12_unit_13 ?_
    refine lv_iload_n hx hb dX12_unit_16 rfl (lv_at hl 1 rfl) ?_
    refine r_iald C hw (hsh 59 _ rfl) (by omega) (by omega) dX12_unit_17 (ti_c (ig2 (B + 59) x.toInt.toNat).toInt rfl fun z11 hz11 => ?_)
    have k12 : (ig2 (B + 59) (x.toInt.toNat)).toInt = 0 := by rw [eig2, up2_a (by omega)]; exact z0 (hz 59 (x.toInt.toNat) (by decide) (by decide) (by decide))
    refine lv_iconst (v := 1) hx hb dX12_unit_18 (by decide) (ti_c 1 (by decide) fun z13 hz13 => ?_)
    refine b_ne (tgt := 57) hx hb dX12_unit_19 (by decide) (fun c19 => ?_) (fun c19 => ?_)
    · refine lv_iconst (v := 0) hx hb dX12_unit_57 (by decide) (ti_c 0 (by decide) fun z14 hz14 => ?_)
      exact r_iret C hw hr hlk (nar_b (by omega)) (Nat.le_of_ble_eq_true rfl) (Nat.le_of_ble_eq_true rfl) dX12_unit_58 ⟨rfl, rfl, _, rfl, by omega⟩
    · exact absurd c19 (by omega)

set_option maxHeartbeats 4000000 in
set_option maxRecDepth 100000 in
theorem t_X12_keep (l : Launch) (B : Nat) (D : va_G) (cA : Nat → ClassId) (kd : sK) (ig : sI) (rg : sR) (lg : sG) (sz : Nat) (x y : Int32) (hy : y.toInt = 0 ∨ y.toInt = 1) (F8 : FM B kd ig rg lg) : MC l B D cA yX12_keep cX12_keep 3 (some .boolean) (rL 6 0 0) [.ref (B + 49), .int x, .int y] kd ig rg lg sz (fun r kd' ig' rg' lg' n => kd = kd' ∧ rg = rg' ∧ ∃ z : Int32, r = some (.int z) ∧ ((0 ≤ x.toInt ∧ x.toInt < 288) → z.toInt = 1) ∧ (¬ (0 ≤ x.toInt ∧ x.toInt < 288) → z.toInt = 0)) := by
  refine MC.of (own := RX12) (by decide +kernel) rfl (Nat.le_of_ble_eq_true rfl) ?_
  intro p e s m args below meth c ls C hr hlk hnm hw hsz hl
  have hx := C.1.1
  have hb := C.1.2.1
  have hown := C.1.2.2.2.1
  have hts := C.1.2.2.2.2
  have hl : lv_has ls 3 [(0, .ref (B + 49)), (1, .int x), (2, .int y)] := hl
  obtain ⟨hsh, hrm, hz, hf71, hlz⟩ := F8
  refine lv_aload_n hx hb dX12_keep_0 rfl (lv_at hl 0 rfl) ?_
  refine lv_iconst (v := 0) hx hb dX12_keep_1 (by decide) (ti_c 0 (by decide) fun z1 hz1 => ?_)
  refine r_puti C hw (hsh 49 _ rfl) fl_X12_1 rfl rfl rfl dX12_keep_2 (fun H locs hH hw => ?_)
  obtain ⟨ig2, eig2⟩ : ∃ f, f = up2 ig (B + 49) 0 z1 := ⟨_, rfl⟩
  rw [← eig2] at hw
  have hsz := hH.trans hsz
  refine lv_iload_n hx hb dX12_keep_5 rfl (lv_at hl 1 rfl) ?_
  refine r_callS (As := [.int x]) (rest := []) C hw (t_X12_isPlace l B D cA kd ig2 rg lg _ x) ss_X12_198 rfl hl.1 rfl (Nat.le_of_ble_eq_true rfl) ⟨Nat.le_of_ble_eq_true rfl, Nat.le_of_ble_eq_true rfl⟩ ⟨Nat.le_of_ble_eq_true rfl, Nat.le_of_ble_eq_true rfl⟩ dX12_keep_6 (fun r8 kd4 ig5 rg6 lg7 H locs hw hH hp9 => ?_)
  obtain ⟨rfl, rfl, rfl, rfl, hzz3, z3, rfl, hz3⟩ := hp9
  have hsz := hzz3.trans hsz
  refine z_ne (tgt := 14) hx hb dX12_keep_9 (by decide) (fun c9 => ?_) (fun c9 => ?_)
  · refine lv_aload_n hx hb dX12_keep_14 rfl (lv_at hl 0 rfl) ?_
    refine r_get C hw (hsh 49 _ rfl) fl_X12_89 (oV_r rfl (hrm (49, 18, 62) (by decide))) dX12_keep_15 ?_
    refine lv_iload_n hx hb dX12_keep_18 rfl (lv_at hl 1 rfl) ?_
    refine lv_iload_n hx hb dX12_keep_19 rfl (lv_at hl 2 rfl) ?_
    refine r_zast C hw (hsh 62 _ rfl) (by omega) (by omega) (nar_b (by omega)) dX12_keep_20 (fun H locs hH hw => ?_)
    obtain ⟨ig10, eig10⟩ : ∃ f, f = up2 ig2 (B + 62) x.toInt.toNat y := ⟨_, rfl⟩
    rw [← eig10] at hw
    have hsz := hH.trans hsz
    refine lv_iconst (v := 1) hx hb dX12_keep_21 (by decide) (ti_c 1 (by decide) fun z11 hz11 => ?_)
    exact r_iret C hw hr hlk (nar_b (by omega)) (Nat.le_of_ble_eq_true rfl) (Nat.le_of_ble_eq_true rfl) dX12_keep_22 ⟨rfl, rfl, _, rfl, by omega⟩
  · refine lv_iconst (v := 0) hx hb dX12_keep_12 (by decide) (ti_c 0 (by decide) fun z12 hz12 => ?_)
    exact r_iret C hw hr hlk (nar_b (by omega)) (Nat.le_of_ble_eq_true rfl) (Nat.le_of_ble_eq_true rfl) dX12_keep_13 ⟨rfl, rfl, _, rfl, by omega⟩

set_option maxHeartbeats 4000000 in
set_option maxRecDepth 100000 in
theorem t_X12_check (l : Launch) (B : Nat) (D : va_G) (cA : Nat → ClassId) (kd : sK) (ig : sI) (rg : sR) (lg : sG) (sz : Nat) (F8 : FM B kd ig rg lg) : MC l B D cA yX12_check cX12_check 3 (some .int) (rL 6 0 0) [.ref (B + 49)] kd ig rg lg sz (fun r kd' ig' rg' lg' n => kd = kd' ∧ rg = rg' ∧ ∃ z : Int32, r = some (.int z) ∧ z.toInt = 0) := by
  refine MC.of (own := RX12) (by decide +kernel) rfl (Nat.le_of_ble_eq_true rfl) ?_
  intro p e s m args below meth c ls C hr hlk hnm hw hsz hl
  have hx := C.1.1
  have hb := C.1.2.1
  have hown := C.1.2.2.2.1
  have hts := C.1.2.2.2.2
  have hl : lv_has ls 3 [(0, .ref (B + 49))] := hl
  obtain ⟨hsh, hrm, hz, hf71, hlz⟩ := F8
  refine lv_aload_n hx hb dX12_check_0 rfl (lv_at hl 0 rfl) ?_
  refine lv_iconst (v := 0) hx hb dX12_check_1 (by decide) (ti_c 0 (by decide) fun z1 hz1 => ?_)
  refine r_puti C hw (hsh 49 _ rfl) fl_X12_1 rfl rfl rfl dX12_check_2 (fun H locs hH hw => ?_)
  obtain ⟨ig2, eig2⟩ : ∃ f, f = up2 ig (B + 49) 0 z1 := ⟨_, rfl⟩
  rw [← eig2] at hw
  have hsz := hH.trans hsz
  refine lv_aload_n hx hb dX12_check_5 rfl (lv_at hl 0 rfl) ?_
  refine lv_iconst (v := 0) hx hb dX12_check_6 (by decide) (ti_c 0 (by decide) fun z3 hz3 => ?_)
  refine r_puti C hw (hsh 49 _ rfl) fl_X12_314 rfl rfl rfl dX12_check_7 (fun H locs hH hw => ?_)
  obtain ⟨ig4, eig4⟩ : ∃ f, f = up2 ig2 (B + 49) 37 z3 := ⟨_, rfl⟩
  rw [← eig4] at hw
  have hsz := hH.trans hsz
  refine lv_iconst (v := 0) hx hb dX12_check_10 (by decide) (ti_c 0 (by decide) fun z5 hz5 => ?_)
  refine lv_istore_n (lv' := [(1, .int z5), (0, .ref (B + 49))]) hx hb dX12_check_11 rfl hl (by decide) rfl (fun ls hl => ?_)
  have L12 : ∀ (n : Nat) (ls : Array Slot) (H : Heap) (locs : List Loc) (v6 : Int32), lv_has ls 3 [(1, .int v6), (0, .ref (B + 49))] → WD B D cA s.heap kd ig4 rg lg H locs → H.size = sz → (0 ≤ v6.toInt) → (v6.toInt ≤ 288) → 288 - v6.toInt < (n : Int) → W p l e (rL 6 0 0) s m args below meth c H locs 0 0 (MQ below (QcW B D cA (fun r kd' ig' rg' lg' n => kd = kd' ∧ rg = rg' ∧ ∃ z : Int32, r = some (.int z) ∧ z.toInt = 0)) args s 0 0 (fun q => B ≤ q)) (F0 m 12 ls []) := by
    intro n12
    induction n12 with
    | zero => intro ls H locs v6 hl hw hsz g12_0 g12_1 hmu; exact absurd hmu (by omega)
    | succ n12 ih12 =>
      intro ls H locs v6 hl hw hsz g12_0 g12_1 hmu
      refine lv_iload_n hx hb dX12_check_12 rfl (lv_at hl 0 rfl) ?_
      refine lv_sipush (v := 288) hx hb dX12_check_13 (by decide) (ti_c 288 (by decide) fun z7 hz7 => ?_)
      refine b_ge (tgt := 149) hx hb dX12_check_16 (by decide) (fun c16 => ?_) (fun c16 => ?_)
      · refine lv_aload_n hx hb dX12_check_149 rfl (lv_at hl 1 rfl) ?_
        refine r_get C hw (hsh 49 _ rfl) fl_X12_314 (oV_i rfl) dX12_check_150 (ti_c (ig4 (B + 49) 37).toInt rfl fun z8 hz8 => ?_)
        have k9 : (ig4 (B + 49) (37)).toInt = z3.toInt := by rw [eig4, up2_eq]
        exact r_iret C hw hr hlk rfl (Nat.le_of_ble_eq_true rfl) (Nat.le_of_ble_eq_true rfl) dX12_check_153 ⟨rfl, rfl, _, rfl, by omega⟩
      · refine lv_aload_n hx hb dX12_check_19 rfl (lv_at hl 1 rfl) ?_
        refine lv_iload_n hx hb dX12_check_20 rfl (lv_at hl 0 rfl) ?_
        refine r_callV (As := [.int v6]) (rest := []) C hw (t_X12_oddBy l B D cA kd ig4 rg lg _ v6 (by omega) hsh hrm (fun j _ => by rw [eig4, up2_a (by omega), eig2, up2_a (by omega)]; exact hz 59 j (by decide) (by decide) (by decide))) sv_X12_327 (hsh 49 _ rfl) rfl hl.1 rfl (Nat.le_of_ble_eq_true rfl) ⟨Nat.le_of_ble_eq_true rfl, Nat.le_of_ble_eq_true rfl⟩ ⟨Nat.le_of_ble_eq_true rfl, Nat.le_of_ble_eq_true rfl⟩ dX12_check_21 (fun r15 kd11 ig12 rg13 lg14 H locs hw hH hp16 => ?_)
        obtain ⟨rfl, rfl, rfl, rfl, hzz10, z10, rfl, hz10⟩ := hp16
        have hsz := hzz10.trans hsz
        refine lv_istore_n (lv' := [(2, .int z10), (1, .int v6), (0, .ref (B + 49))]) hx hb dX12_check_24 rfl hl (by decide) rfl (fun ls hl => ?_)
        refine lv_iload_n hx hb dX12_check_25 rfl (lv_at hl 0 rfl) ?_
        refine z_lt (tgt := 50) hx hb dX12_check_26 (by decide) (fun c26 => ?_) (fun c26 => ?_)
        · refine lv_aload_n hx hb dX12_check_50 rfl (lv_at hl 2 rfl) ?_
          refine r_get C hw (hsh 49 _ rfl) fl_X12_80 (oV_r rfl (hrm (49, 15, 59) (by decide))) dX12_check_51 ?_
          refine lv_iload_n hx hb dX12_check_54 rfl (lv_at hl 1 rfl) ?_
          refine r_iald C hw (hsh 59 _ rfl) (by omega) (by omega) dX12_check_55 (ti_c (ig4 (B + 59) v6.toInt.toNat).toInt rfl fun z17 hz17 => ?_)
          have k18 : (ig4 (B + 59) (v6.toInt.toNat)).toInt = 0 := by rw [eig4, up2_a (by omega), eig2, up2_a (by omega)]; exact z0 (hz 59 (v6.toInt.toNat) (by decide) (by decide) (by decide))
          refine lv_iconst (v := 2) hx hb dX12_check_56 (by decide) (ti_c 2 (by decide) fun z19 hz19 => ?_)
          refine b_ne (tgt := 65) hx hb dX12_check_57 (by decide) (fun c57 => ?_) (fun c57 => ?_)
          · refine lv_aload_n hx hb dX12_check_65 rfl (lv_at hl 2 rfl) ?_
            refine r_get C hw (hsh 49 _ rfl) fl_X12_114 (oV_r rfl (hrm (49, 27, 70) (by decide))) dX12_check_66 ?_
            refine lv_iload_n hx hb dX12_check_69 rfl (lv_at hl 1 rfl) ?_
            refine r_zald C hw (hsh 70 _ rfl) (by omega) (by omega) dX12_check_70 (ti_c (ig4 (B + 70) v6.toInt.toNat).toInt rfl fun z20 hz20 => ?_)
            have k21 : (ig4 (B + 70) (v6.toInt.toNat)).toInt = 0 := by rw [eig4, up2_a (by omega), eig2, up2_a (by omega)]; exact z0 (hz 70 (v6.toInt.toNat) (by decide) (by decide) (by decide))
            refine z_eq (tgt := 93) hx hb dX12_check_71 (by decide) (fun c71 => ?_) (fun c71 => ?_)
            · refine lv_aload_n hx hb dX12_check_93 rfl (lv_at hl 2 rfl) ?_
              refine r_get C hw (hsh 49 _ rfl) fl_X12_80 (oV_r rfl (hrm (49, 15, 59) (by decide))) dX12_check_94 ?_
              refine lv_iload_n hx hb dX12_check_97 rfl (lv_at hl 1 rfl) ?_
              refine r_iald C hw (hsh 59 _ rfl) (by omega) (by omega) dX12_check_98 (ti_c (ig4 (B + 59) v6.toInt.toNat).toInt rfl fun z22 hz22 => ?_)
              have k23 : (ig4 (B + 59) (v6.toInt.toNat)).toInt = 0 := by rw [eig4, up2_a (by omega), eig2, up2_a (by omega)]; exact z0 (hz 59 (v6.toInt.toNat) (by decide) (by decide) (by decide))
              refine z_eq (tgt := 126) hx hb dX12_check_99 (by decide) (fun c99 => ?_) (fun c99 => ?_)
              · refine lv_aload_n hx hb dX12_check_126 rfl (lv_at hl 2 rfl) ?_
                refine r_get C hw (hsh 49 _ rfl) fl_X12_111 (oV_r rfl (hrm (49, 26, 69) (by decide))) dX12_check_127 ?_
                refine lv_iload_n hx hb dX12_check_130 rfl (lv_at hl 1 rfl) ?_
                refine r_zald C hw (hsh 69 _ rfl) (by omega) (by omega) dX12_check_131 (ti_c (ig4 (B + 69) v6.toInt.toNat).toInt rfl fun z24 hz24 => ?_)
                have k25 : (ig4 (B + 69) (v6.toInt.toNat)).toInt = 0 := by rw [eig4, up2_a (by omega), eig2, up2_a (by omega)]; exact z0 (hz 69 (v6.toInt.toNat) (by decide) (by decide) (by decide))
                refine z_eq (tgt := 143) hx hb dX12_check_132 (by decide) (fun c132 => ?_) (fun c132 => ?_)
                · refine ti_inc hx hb dX12_check_143 hl (k := 1) rfl (by decide) (by decide) (by omega) (fun z26 hz26 ls hl => ?_)
                  have hl : lv_has ls 3 [(1, .int z26), (2, .int z10), (0, .ref (B + 49))] := hl
                  refine lv_goto (tgt := 12) hx hb dX12_check_146 (by decide) ?_
                  exact ih12 ls H locs z26 (lv_sub hl [0, 2] rfl) hw hsz (by omega) (by omega) (by omega)
                · exact absurd c132 (by omega)
              · exact absurd c99 (by omega)
            · exact absurd c71 (by omega)
          · exact absurd c57 (by omega)
        · exact absurd c26 (by omega)
  exact L12 ((288 - z5.toInt) + 1).toNat ls H locs z5 (lv_sub hl [0, 1] rfl) hw hsz (by omega) (by omega) (by omega)

set_option maxHeartbeats 4000000 in
set_option maxRecDepth 100000 in
theorem t_X12_finding (l : Launch) (B : Nat) (D : va_G) (cA : Nat → ClassId) (kd : sK) (ig : sI) (rg : sR) (lg : sG) (sz : Nat) (x y : Int32) (F8 : FM B kd ig rg lg) : MC l B D cA yX12_finding cX12_finding 3 (some .int) (rL 6 0 0) [.ref (B + 49), .int x, .int y] kd ig rg lg sz (fun r kd' ig' rg' lg' n => kd = kd' ∧ rg = rg' ∧ ∃ z : Int32, r = some (.int z) ∧ z.toInt = -1) := by
  refine MC.of (own := RX12) (by decide +kernel) rfl (Nat.le_of_ble_eq_true rfl) ?_
  intro p e s m args below meth c ls C hr hlk hnm hw hsz hl
  have hx := C.1.1
  have hb := C.1.2.1
  have hown := C.1.2.2.2.1
  have hts := C.1.2.2.2.2
  have hl : lv_has ls 3 [(0, .ref (B + 49)), (1, .int x), (2, .int y)] := hl
  obtain ⟨hsh, hrm, hz, hf71, hlz⟩ := F8
  refine lv_aload_n hx hb dX12_finding_0 rfl (lv_at hl 0 rfl) ?_
  refine lv_iconst (v := 0) hx hb dX12_finding_1 (by decide) (ti_c 0 (by decide) fun z1 hz1 => ?_)
  refine r_puti C hw (hsh 49 _ rfl) fl_X12_1 rfl rfl rfl dX12_finding_2 (fun H locs hH hw => ?_)
  obtain ⟨ig2, eig2⟩ : ∃ f, f = up2 ig (B + 49) 0 z1 := ⟨_, rfl⟩
  rw [← eig2] at hw
  have hsz := hH.trans hsz
  refine lv_iload_n hx hb dX12_finding_5 rfl (lv_at hl 1 rfl) ?_
  refine z_lt (tgt := 33) hx hb dX12_finding_6 (by decide) (fun c6 => ?_) (fun c6 => ?_)
  · refine lv_iconst (v := (-1)) hx hb dX12_finding_33 (by decide) (ti_c (-1) (by decide) fun z3 hz3 => ?_)
    refine lv_goto (tgt := 47) hx hb dX12_finding_34 (by decide) ?_
    exact r_iret C hw hr hlk rfl (Nat.le_of_ble_eq_true rfl) (Nat.le_of_ble_eq_true rfl) dX12_finding_47 ⟨rfl, rfl, _, rfl, by omega⟩
  · refine lv_iload_n hx hb dX12_finding_9 rfl (lv_at hl 1 rfl) ?_
    refine lv_aload_n hx hb dX12_finding_10 rfl (lv_at hl 0 rfl) ?_
    refine r_get C hw (hsh 49 _ rfl) fl_X12_314 (oV_i rfl) dX12_finding_11 (ti_c (ig2 (B + 49) 37).toInt rfl fun z4 hz4 => ?_)
    have k5 : (ig2 (B + 49) (37)).toInt = 0 := by rw [eig2, up2_j (by decide)]; exact z0 (hz 49 (37) (by decide) (by decide) (by decide))
    refine b_ge (tgt := 33) hx hb dX12_finding_14 (by decide) (fun c14 => ?_) (fun c14 => ?_)
    · refine lv_iconst (v := (-1)) hx hb dX12_finding_33 (by decide) (ti_c (-1) (by decide) fun z6 hz6 => ?_)
      refine lv_goto (tgt := 47) hx hb dX12_finding_34 (by decide) ?_
      exact r_iret C hw hr hlk rfl (Nat.le_of_ble_eq_true rfl) (Nat.le_of_ble_eq_true rfl) dX12_finding_47 ⟨rfl, rfl, _, rfl, by omega⟩
    · exact absurd c14 (by omega)

set_option maxHeartbeats 4000000 in
set_option maxRecDepth 100000 in
theorem t_X12_changed (l : Launch) (B : Nat) (D : va_G) (cA : Nat → ClassId) (kd : sK) (ig : sI) (rg : sR) (lg : sG) (sz : Nat) (x y : Int32) (F8 : FM B kd ig rg lg) : MC l B D cA yX12_changed cX12_changed 3 (some .int) (rL 6 0 0) [.ref (B + 49), .int x, .int y] kd ig rg lg sz (fun r kd' ig' rg' lg' n => kd = kd' ∧ rg = rg' ∧ ∃ z : Int32, r = some (.int z) ∧ z.toInt = -1) := by
  refine MC.of (own := RX12) (by decide +kernel) rfl (Nat.le_of_ble_eq_true rfl) ?_
  intro p e s m args below meth c ls C hr hlk hnm hw hsz hl
  have hx := C.1.1
  have hb := C.1.2.1
  have hown := C.1.2.2.2.1
  have hts := C.1.2.2.2.2
  have hl : lv_has ls 3 [(0, .ref (B + 49)), (1, .int x), (2, .int y)] := hl
  obtain ⟨hsh, hrm, hz, hf71, hlz⟩ := F8
  refine lv_aload_n hx hb dX12_changed_0 rfl (lv_at hl 0 rfl) ?_
  refine lv_iconst (v := 0) hx hb dX12_changed_1 (by decide) (ti_c 0 (by decide) fun z1 hz1 => ?_)
  refine r_puti C hw (hsh 49 _ rfl) fl_X12_1 rfl rfl rfl dX12_changed_2 (fun H locs hH hw => ?_)
  obtain ⟨ig2, eig2⟩ : ∃ f, f = up2 ig (B + 49) 0 z1 := ⟨_, rfl⟩
  rw [← eig2] at hw
  have hsz := hH.trans hsz
  refine lv_iload_n hx hb dX12_changed_5 rfl (lv_at hl 1 rfl) ?_
  refine z_lt (tgt := 26) hx hb dX12_changed_6 (by decide) (fun c6 => ?_) (fun c6 => ?_)
  · refine lv_iconst (v := (-1)) hx hb dX12_changed_26 (by decide) (ti_c (-1) (by decide) fun z3 hz3 => ?_)
    refine lv_goto (tgt := 40) hx hb dX12_changed_27 (by decide) ?_
    exact r_iret C hw hr hlk rfl (Nat.le_of_ble_eq_true rfl) (Nat.le_of_ble_eq_true rfl) dX12_changed_40 ⟨rfl, rfl, _, rfl, by omega⟩
  · refine lv_iload_n hx hb dX12_changed_9 rfl (lv_at hl 1 rfl) ?_
    refine lv_aload_n hx hb dX12_changed_10 rfl (lv_at hl 0 rfl) ?_
    refine r_get C hw (hsh 49 _ rfl) fl_X12_339 (oV_i rfl) dX12_changed_11 (ti_c (ig2 (B + 49) 41).toInt rfl fun z4 hz4 => ?_)
    have k5 : (ig2 (B + 49) (41)).toInt = 0 := by rw [eig2, up2_j (by decide)]; exact z0 (hz 49 (41) (by decide) (by decide) (by decide))
    refine b_ge (tgt := 26) hx hb dX12_changed_14 (by decide) (fun c14 => ?_) (fun c14 => ?_)
    · refine lv_iconst (v := (-1)) hx hb dX12_changed_26 (by decide) (ti_c (-1) (by decide) fun z6 hz6 => ?_)
      refine lv_goto (tgt := 40) hx hb dX12_changed_27 (by decide) ?_
      exact r_iret C hw hr hlk rfl (Nat.le_of_ble_eq_true rfl) (Nat.le_of_ble_eq_true rfl) dX12_changed_40 ⟨rfl, rfl, _, rfl, by omega⟩
    · exact absurd c14 (by omega)

set_option maxHeartbeats 4000000 in
set_option maxRecDepth 100000 in
theorem t_X12_mend (l : Launch) (B : Nat) (D : va_G) (cA : Nat → ClassId) (kd : sK) (ig : sI) (rg : sR) (lg : sG) (sz : Nat) (x : Int32) (F8 : FM B kd ig rg lg) : MC l B D cA yX12_mend cX12_mend 3 (some .int) (rL 6 0 0) [.ref (B + 49), .int x] kd ig rg lg sz (fun r kd' ig' rg' lg' n => kd = kd' ∧ rg = rg' ∧ ∃ z : Int32, r = some (.int z) ∧ z.toInt = -1) := by
  refine MC.of (own := RX12) (by decide +kernel) rfl (Nat.le_of_ble_eq_true rfl) ?_
  intro p e s m args below meth c ls C hr hlk hnm hw hsz hl
  have hx := C.1.1
  have hb := C.1.2.1
  have hown := C.1.2.2.2.1
  have hts := C.1.2.2.2.2
  have hl : lv_has ls 3 [(0, .ref (B + 49)), (1, .int x)] := hl
  obtain ⟨hsh, hrm, hz, hf71, hlz⟩ := F8
  refine lv_aload_n hx hb dX12_mend_0 rfl (lv_at hl 0 rfl) ?_
  refine lv_iconst (v := 0) hx hb dX12_mend_1 (by decide) (ti_c 0 (by decide) fun z1 hz1 => ?_)
  refine r_puti C hw (hsh 49 _ rfl) fl_X12_1 rfl rfl rfl dX12_mend_2 (fun H locs hH hw => ?_)
  obtain ⟨ig2, eig2⟩ : ∃ f, f = up2 ig (B + 49) 0 z1 := ⟨_, rfl⟩
  rw [← eig2] at hw
  have hsz := hH.trans hsz
  refine lv_iload_n hx hb dX12_mend_5 rfl (lv_at hl 1 rfl) ?_
  refine r_callS (As := [.int x]) (rest := []) C hw (t_X12_isPlace l B D cA kd ig2 rg lg _ x) ss_X12_198 rfl hl.1 rfl (Nat.le_of_ble_eq_true rfl) ⟨Nat.le_of_ble_eq_true rfl, Nat.le_of_ble_eq_true rfl⟩ ⟨Nat.le_of_ble_eq_true rfl, Nat.le_of_ble_eq_true rfl⟩ dX12_mend_6 (fun r8 kd4 ig5 rg6 lg7 H locs hw hH hp9 => ?_)
  obtain ⟨rfl, rfl, rfl, rfl, hzz3, z3, rfl, hz3⟩ := hp9
  have hsz := hzz3.trans hsz
  have J21 : ∀ (ls : Array Slot) (H : Heap) (locs : List Loc) (u10 : Int32), lv_has ls 3 [] → WD B D cA s.heap kd ig2 rg lg H locs → H.size = sz → (u10.toInt = -1) → W p l e (rL 6 0 0) s m args below meth c H locs 0 0 (MQ below (QcW B D cA (fun r kd' ig' rg' lg' n => kd = kd' ∧ rg = rg' ∧ ∃ z : Int32, r = some (.int z) ∧ z.toInt = -1)) args s 0 0 (fun q => B ≤ q)) (F0 m 21 ls [.int u10]) := by
    intro ls H locs u10 hl hw hsz g21_0
    refine lv_istore_n (lv' := [(2, .int u10)]) hx hb dX12_mend_21 rfl hl (by decide) rfl (fun ls hl => ?_)
    refine lv_iload_n hx hb dX12_mend_22 rfl (lv_at hl 0 rfl) ?_
    refine z_lt (tgt := 35) hx hb dX12_mend_23 (by decide) (fun c23 => ?_) (fun c23 => ?_)
    · refine lv_iconst (v := (-1)) hx hb dX12_mend_35 (by decide) (ti_c (-1) (by decide) fun z11 hz11 => ?_)
      exact r_iret C hw hr hlk rfl (Nat.le_of_ble_eq_true rfl) (Nat.le_of_ble_eq_true rfl) dX12_mend_36 ⟨rfl, rfl, _, rfl, by omega⟩
    · exact absurd c23 (by omega)
  refine z_eq (tgt := 20) hx hb dX12_mend_9 (by decide) (fun c9 => ?_) (fun c9 => ?_)
  · refine lv_iconst (v := (-1)) hx hb dX12_mend_20 (by decide) (ti_c (-1) (by decide) fun z12 hz12 => ?_)
    exact J21 ls H locs z12 (lv_sub hl [] rfl) hw hsz (by omega)
  · refine lv_aload_n hx hb dX12_mend_12 rfl (lv_at hl 0 rfl) ?_
    refine lv_iload_n hx hb dX12_mend_13 rfl (lv_at hl 1 rfl) ?_
    refine r_callV (As := [.int x]) (rest := []) C hw (t_X12_oddBy l B D cA kd ig2 rg lg _ x (by omega) hsh hrm (fun j _ => by rw [eig2, up2_a (by omega)]; exact hz 59 j (by decide) (by decide) (by decide))) sv_X12_327 (hsh 49 _ rfl) rfl hl.1 rfl (Nat.le_of_ble_eq_true rfl) ⟨Nat.le_of_ble_eq_true rfl, Nat.le_of_ble_eq_true rfl⟩ ⟨Nat.le_of_ble_eq_true rfl, Nat.le_of_ble_eq_true rfl⟩ dX12_mend_14 (fun r18 kd14 ig15 rg16 lg17 H locs hw hH hp19 => ?_)
    obtain ⟨rfl, rfl, rfl, rfl, hzz13, z13, rfl, hz13⟩ := hp19
    have hsz := hzz13.trans hsz
    refine lv_goto (tgt := 21) hx hb dX12_mend_17 (by decide) ?_
    exact J21 ls H locs z13 (lv_sub hl [] rfl) hw hsz (by omega)

set_option maxHeartbeats 4000000 in
set_option maxRecDepth 100000 in
theorem t_X12_stretch (l : Launch) (B : Nat) (D : va_G) (cA : Nat → ClassId) (kd : sK) (ig : sI) (rg : sR) (lg : sG) (sz : Nat) (x y : Int32) (F8 : FM B kd ig rg lg) : MC l B D cA yX12_stretch cX12_stretch 5 (some .int) (rL 6 0 0) [.ref (B + 49), .int x, .int y] kd ig rg lg sz (fun r kd' ig' rg' lg' n => kd = kd' ∧ rg = rg' ∧ ∃ z : Int32, r = some (.int z) ∧ z.toInt = -1) := by
  refine MC.of (own := RX12) (by decide +kernel) rfl (Nat.le_of_ble_eq_true rfl) ?_
  intro p e s m args below meth c ls C hr hlk hnm hw hsz hl
  have hx := C.1.1
  have hb := C.1.2.1
  have hown := C.1.2.2.2.1
  have hts := C.1.2.2.2.2
  have hl : lv_has ls 5 [(0, .ref (B + 49)), (1, .int x), (2, .int y)] := hl
  obtain ⟨hsh, hrm, hz, hf71, hlz⟩ := F8
  refine lv_aload_n hx hb dX12_stretch_0 rfl (lv_at hl 0 rfl) ?_
  refine lv_iconst (v := 0) hx hb dX12_stretch_1 (by decide) (ti_c 0 (by decide) fun z1 hz1 => ?_)
  refine r_puti C hw (hsh 49 _ rfl) fl_X12_1 rfl rfl rfl dX12_stretch_2 (fun H locs hH hw => ?_)
  obtain ⟨ig2, eig2⟩ : ∃ f, f = up2 ig (B + 49) 0 z1 := ⟨_, rfl⟩
  rw [← eig2] at hw
  have hsz := hH.trans hsz
  refine lv_iload_n hx hb dX12_stretch_5 rfl (lv_at hl 1 rfl) ?_
  refine r_callS (As := [.int x]) (rest := []) C hw (t_X12_isPlace l B D cA kd ig2 rg lg _ x) ss_X12_198 rfl hl.1 rfl (Nat.le_of_ble_eq_true rfl) ⟨Nat.le_of_ble_eq_true rfl, Nat.le_of_ble_eq_true rfl⟩ ⟨Nat.le_of_ble_eq_true rfl, Nat.le_of_ble_eq_true rfl⟩ dX12_stretch_6 (fun r8 kd4 ig5 rg6 lg7 H locs hw hH hp9 => ?_)
  obtain ⟨rfl, rfl, rfl, rfl, hzz3, z3, rfl, hz3⟩ := hp9
  have hsz := hzz3.trans hsz
  have J31 : ∀ (ls : Array Slot) (H : Heap) (locs : List Loc) , lv_has ls 5 [] → WD B D cA s.heap kd ig2 rg lg H locs → H.size = sz → W p l e (rL 6 0 0) s m args below meth c H locs 0 0 (MQ below (QcW B D cA (fun r kd' ig' rg' lg' n => kd = kd' ∧ rg = rg' ∧ ∃ z : Int32, r = some (.int z) ∧ z.toInt = -1)) args s 0 0 (fun q => B ≤ q)) (F0 m 31 ls []) := by
    intro ls H locs  hl hw hsz 
    refine lv_iconst (v := (-1)) hx hb dX12_stretch_31 (by decide) (ti_c (-1) (by decide) fun z10 hz10 => ?_)
    refine lv_istore_n (lv' := [(3, .int z10)]) hx hb dX12_stretch_32 rfl hl (by decide) rfl (fun ls hl => ?_)
    refine lv_iload_n hx hb dX12_stretch_33 rfl (lv_at hl 0 rfl) ?_
    refine z_ge (tgt := 39) hx hb dX12_stretch_34 (by decide) (fun c34 => ?_) (fun c34 => ?_)
    · exact absurd c34 (by omega)
    · refine lv_iconst (v := (-1)) hx hb dX12_stretch_37 (by decide) (ti_c (-1) (by decide) fun z11 hz11 => ?_)
      exact r_iret C hw hr hlk rfl (Nat.le_of_ble_eq_true rfl) (Nat.le_of_ble_eq_true rfl) dX12_stretch_38 ⟨rfl, rfl, _, rfl, by omega⟩
  refine z_eq (tgt := 31) hx hb dX12_stretch_9 (by decide) (fun c9 => ?_) (fun c9 => ?_)
  · exact J31 ls H locs  (lv_sub hl [] rfl) hw hsz 
  · refine lv_aload_n hx hb dX12_stretch_12 rfl (lv_at hl 0 rfl) ?_
    refine r_get C hw (hsh 49 _ rfl) fl_X12_80 (oV_r rfl (hrm (49, 15, 59) (by decide))) dX12_stretch_13 ?_
    refine lv_iload_n hx hb dX12_stretch_16 rfl (lv_at hl 1 rfl) ?_
    refine r_iald C hw (hsh 59 _ rfl) (by omega) (by omega) dX12_stretch_17 (ti_c (ig2 (B + 59) x.toInt.toNat).toInt rfl fun z12 hz12 => ?_)
    have k13 : (ig2 (B + 59) (x.toInt.toNat)).toInt = 0 := by rw [eig2, up2_a (by omega)]; exact z0 (hz 59 (x.toInt.toNat) (by decide) (by decide) (by decide))
    refine lv_iconst (v := 2) hx hb dX12_stretch_18 (by decide) (ti_c 2 (by decide) fun z14 hz14 => ?_)
    refine b_ne (tgt := 31) hx hb dX12_stretch_19 (by decide) (fun c19 => ?_) (fun c19 => ?_)
    · exact J31 ls H locs  (lv_sub hl [] rfl) hw hsz 
    · exact absurd c19 (by omega)

set_option maxHeartbeats 4000000 in
set_option maxRecDepth 100000 in
theorem t_X12_undo (l : Launch) (B : Nat) (D : va_G) (cA : Nat → ClassId) (kd : sK) (ig : sI) (rg : sR) (lg : sG) (sz : Nat) (F8 : FM B kd ig rg lg) : MC l B D cA yX12_undo cX12_undo 1 (some .int) (rL 6 0 0) [.ref (B + 49)] kd ig rg lg sz (fun r kd' ig' rg' lg' n => kd = kd' ∧ rg = rg' ∧ ∃ z : Int32, r = some (.int z) ∧ z.toInt = -1) := by
  refine MC.of (own := RX12) (by decide +kernel) rfl (Nat.le_of_ble_eq_true rfl) ?_
  intro p e s m args below meth c ls C hr hlk hnm hw hsz hl
  have hx := C.1.1
  have hb := C.1.2.1
  have hown := C.1.2.2.2.1
  have hts := C.1.2.2.2.2
  have hl : lv_has ls 1 [(0, .ref (B + 49))] := hl
  obtain ⟨hsh, hrm, hz, hf71, hlz⟩ := F8
  refine lv_aload_n hx hb dX12_undo_0 rfl (lv_at hl 0 rfl) ?_
  refine lv_iconst (v := 0) hx hb dX12_undo_1 (by decide) (ti_c 0 (by decide) fun z1 hz1 => ?_)
  refine r_puti C hw (hsh 49 _ rfl) fl_X12_1 rfl rfl rfl dX12_undo_2 (fun H locs hH hw => ?_)
  obtain ⟨ig2, eig2⟩ : ∃ f, f = up2 ig (B + 49) 0 z1 := ⟨_, rfl⟩
  rw [← eig2] at hw
  have hsz := hH.trans hsz
  refine lv_aload_n hx hb dX12_undo_5 rfl (lv_at hl 0 rfl) ?_
  refine r_get C hw (hsh 49 _ rfl) fl_X12_188 (oV_i rfl) dX12_undo_6 (ti_c (ig2 (B + 49) 19).toInt rfl fun z3 hz3 => ?_)
  have k4 : (ig2 (B + 49) (19)).toInt = 0 := by rw [eig2, up2_j (by decide)]; exact z0 (hz 49 (19) (by decide) (by decide) (by decide))
  refine z_ne (tgt := 14) hx hb dX12_undo_9 (by decide) (fun c9 => ?_) (fun c9 => ?_)
  · exact absurd c9 (by omega)
  · refine lv_iconst (v := (-1)) hx hb dX12_undo_12 (by decide) (ti_c (-1) (by decide) fun z5 hz5 => ?_)
    exact r_iret C hw hr hlk rfl (Nat.le_of_ble_eq_true rfl) (Nat.le_of_ble_eq_true rfl) dX12_undo_13 ⟨rfl, rfl, _, rfl, by omega⟩

set_option maxHeartbeats 4000000 in
set_option maxRecDepth 100000 in
theorem t_X12_ways (l : Launch) (B : Nat) (D : va_G) (cA : Nat → ClassId) (kd : sK) (ig : sI) (rg : sR) (lg : sG) (sz : Nat) (x y : Int32) (F8 : FM B kd ig rg lg) : MC l B D cA yX12_ways cX12_ways 4 (some .int) (rL 6 0 0) [.ref (B + 49), .int x, .int y] kd ig rg lg sz (fun r kd' ig' rg' lg' n => kd = kd' ∧ rg = rg' ∧ ∃ z : Int32, r = some (.int z) ∧ z.toInt = -1) := by
  refine MC.of (own := RX12) (by decide +kernel) rfl (Nat.le_of_ble_eq_true rfl) ?_
  intro p e s m args below meth c ls C hr hlk hnm hw hsz hl
  have hx := C.1.1
  have hb := C.1.2.1
  have hown := C.1.2.2.2.1
  have hts := C.1.2.2.2.2
  have hl : lv_has ls 4 [(0, .ref (B + 49)), (1, .int x), (2, .int y)] := hl
  obtain ⟨hsh, hrm, hz, hf71, hlz⟩ := F8
  refine lv_aload_n hx hb dX12_ways_0 rfl (lv_at hl 0 rfl) ?_
  refine lv_iconst (v := 0) hx hb dX12_ways_1 (by decide) (ti_c 0 (by decide) fun z1 hz1 => ?_)
  refine r_puti C hw (hsh 49 _ rfl) fl_X12_1 rfl rfl rfl dX12_ways_2 (fun H locs hH hw => ?_)
  obtain ⟨ig2, eig2⟩ : ∃ f, f = up2 ig (B + 49) 0 z1 := ⟨_, rfl⟩
  rw [← eig2] at hw
  have hsz := hH.trans hsz
  refine lv_iload_n hx hb dX12_ways_5 rfl (lv_at hl 1 rfl) ?_
  refine r_callS (As := [.int x]) (rest := []) C hw (t_X12_isPlace l B D cA kd ig2 rg lg _ x) ss_X12_198 rfl hl.1 rfl (Nat.le_of_ble_eq_true rfl) ⟨Nat.le_of_ble_eq_true rfl, Nat.le_of_ble_eq_true rfl⟩ ⟨Nat.le_of_ble_eq_true rfl, Nat.le_of_ble_eq_true rfl⟩ dX12_ways_6 (fun r8 kd4 ig5 rg6 lg7 H locs hw hH hp9 => ?_)
  obtain ⟨rfl, rfl, rfl, rfl, hzz3, z3, rfl, hz3⟩ := hp9
  have hsz := hzz3.trans hsz
  refine z_eq (tgt := 28) hx hb dX12_ways_9 (by decide) (fun c9 => ?_) (fun c9 => ?_)
  · refine lv_iconst (v := (-1)) hx hb dX12_ways_28 (by decide) (ti_c (-1) (by decide) fun z10 hz10 => ?_)
    exact r_iret C hw hr hlk rfl (Nat.le_of_ble_eq_true rfl) (Nat.le_of_ble_eq_true rfl) dX12_ways_29 ⟨rfl, rfl, _, rfl, by omega⟩
  · refine lv_iload_n hx hb dX12_ways_12 rfl (lv_at hl 2 rfl) ?_
    refine r_callS (As := [.int y]) (rest := []) C hw (t_X12_isPlace l B D cA kd ig2 rg lg _ y) ss_X12_198 rfl hl.1 rfl (Nat.le_of_ble_eq_true rfl) ⟨Nat.le_of_ble_eq_true rfl, Nat.le_of_ble_eq_true rfl⟩ ⟨Nat.le_of_ble_eq_true rfl, Nat.le_of_ble_eq_true rfl⟩ dX12_ways_13 (fun r16 kd12 ig13 rg14 lg15 H locs hw hH hp17 => ?_)
    obtain ⟨rfl, rfl, rfl, rfl, hzz11, z11, rfl, hz11⟩ := hp17
    have hsz := hzz11.trans hsz
    refine z_eq (tgt := 28) hx hb dX12_ways_16 (by decide) (fun c16 => ?_) (fun c16 => ?_)
    · refine lv_iconst (v := (-1)) hx hb dX12_ways_28 (by decide) (ti_c (-1) (by decide) fun z18 hz18 => ?_)
      exact r_iret C hw hr hlk rfl (Nat.le_of_ble_eq_true rfl) (Nat.le_of_ble_eq_true rfl) dX12_ways_29 ⟨rfl, rfl, _, rfl, by omega⟩
    · refine lv_aload_n hx hb dX12_ways_19 rfl (lv_at hl 0 rfl) ?_
      refine r_get C hw (hsh 49 _ rfl) fl_X12_114 (oV_r rfl (hrm (49, 27, 70) (by decide))) dX12_ways_20 ?_
      refine lv_iload_n hx hb dX12_ways_23 rfl (lv_at hl 2 rfl) ?_
      refine r_zald C hw (hsh 70 _ rfl) (by omega) (by omega) dX12_ways_24 (ti_c (ig2 (B + 70) y.toInt.toNat).toInt rfl fun z19 hz19 => ?_)
      have k20 : (ig2 (B + 70) (y.toInt.toNat)).toInt = 0 := by rw [eig2, up2_a (by omega)]; exact z0 (hz 70 (y.toInt.toNat) (by decide) (by decide) (by decide))
      refine z_ne (tgt := 30) hx hb dX12_ways_25 (by decide) (fun c25 => ?_) (fun c25 => ?_)
      · exact absurd c25 (by omega)
      · refine lv_iconst (v := (-1)) hx hb dX12_ways_28 (by decide) (ti_c (-1) (by decide) fun z21 hz21 => ?_)
        exact r_iret C hw hr hlk rfl (Nat.le_of_ble_eq_true rfl) (Nat.le_of_ble_eq_true rfl) dX12_ways_29 ⟨rfl, rfl, _, rfl, by omega⟩

set_option maxHeartbeats 4000000 in
set_option maxRecDepth 100000 in
theorem t_X12_count (l : Launch) (B : Nat) (D : va_G) (cA : Nat → ClassId) (kd : sK) (ig : sI) (rg : sR) (lg : sG) (sz : Nat) (x : Int32) (F8 : FM B kd ig rg lg) : MC l B D cA yX12_count cX12_count 7 (some .int) (rL 6 0 0) [.ref (B + 49), .int x] kd ig rg lg sz (fun r kd' ig' rg' lg' n => kd = kd' ∧ rg = rg' ∧ ∃ z : Int32, r = some (.int z) ∧ (0 ≤ x.toInt ∧ x.toInt ≤ 5 → z.toInt = 0) ∧ (¬ (0 ≤ x.toInt ∧ x.toInt ≤ 5) → z.toInt = -1)) := by
  refine MC.of (own := RX12) (by decide +kernel) rfl (Nat.le_of_ble_eq_true rfl) ?_
  intro p e s m args below meth c ls C hr hlk hnm hw hsz hl
  have hx := C.1.1
  have hb := C.1.2.1
  have hown := C.1.2.2.2.1
  have hts := C.1.2.2.2.2
  have hl : lv_has ls 7 [(0, .ref (B + 49)), (1, .int x)] := hl
  obtain ⟨hsh, hrm, hz, hf71, hlz⟩ := F8
  refine lv_aload_n hx hb dX12_count_0 rfl (lv_at hl 0 rfl) ?_
  refine lv_iconst (v := 0) hx hb dX12_count_1 (by decide) (ti_c 0 (by decide) fun z1 hz1 => ?_)
  refine r_puti C hw (hsh 49 _ rfl) fl_X12_1 rfl rfl rfl dX12_count_2 (fun H locs hH hw => ?_)
  obtain ⟨ig2, eig2⟩ : ∃ f, f = up2 ig (B + 49) 0 z1 := ⟨_, rfl⟩
  rw [← eig2] at hw
  have hsz := hH.trans hsz
  refine lv_iconst (v := 0) hx hb dX12_count_5 (by decide) (ti_c 0 (by decide) fun z3 hz3 => ?_)
  refine lv_istore_n (lv' := [(2, .int z3), (0, .ref (B + 49)), (1, .int x)]) hx hb dX12_count_6 rfl hl (by decide) rfl (fun ls hl => ?_)
  refine lv_iconst (v := 0) hx hb dX12_count_7 (by decide) (ti_c 0 (by decide) fun z4 hz4 => ?_)
  refine lv_istore_n (lv' := [(3, .int z4), (2, .int z3), (0, .ref (B + 49)), (1, .int x)]) hx hb dX12_count_8 rfl hl (by decide) rfl (fun ls hl => ?_)
  refine lv_iconst (v := 0) hx hb dX12_count_9 (by decide) (ti_c 0 (by decide) fun z5 hz5 => ?_)
  refine lv_istore (lv' := [(4, .int z5), (3, .int z4), (2, .int z3), (0, .ref (B + 49)), (1, .int x)]) hx hb dX12_count_10 hl (by decide) rfl (fun ls hl => ?_)
  refine lv_iconst (v := 0) hx hb dX12_count_12 (by decide) (ti_c 0 (by decide) fun z6 hz6 => ?_)
  refine lv_istore (lv' := [(5, .int z6), (4, .int z5), (3, .int z4), (2, .int z3), (0, .ref (B + 49)), (1, .int x)]) hx hb dX12_count_13 hl (by decide) rfl (fun ls hl => ?_)
  refine lv_iconst (v := 0) hx hb dX12_count_15 (by decide) (ti_c 0 (by decide) fun z7 hz7 => ?_)
  refine lv_istore (lv' := [(6, .int z7), (5, .int z6), (4, .int z5), (3, .int z4), (2, .int z3), (0, .ref (B + 49)), (1, .int x)]) hx hb dX12_count_16 hl (by decide) rfl (fun ls hl => ?_)
  have L18 : ∀ (n : Nat) (ls : Array Slot) (H : Heap) (locs : List Loc) (v8 : Int32) (v9 : Int32) (v10 : Int32) (v11 : Int32) (v12 : Int32), lv_has ls 7 [(6, .int v8), (5, .int v9), (4, .int v10), (3, .int v11), (2, .int v12), (0, .ref (B + 49)), (1, .int x)] → WD B D cA s.heap kd ig2 rg lg H locs → H.size = sz → (0 ≤ v8.toInt) → (v8.toInt ≤ 288) → (v12.toInt = 0) → (v11.toInt = 0) → (v10.toInt = 0) → (v9.toInt = 0) → 288 - v8.toInt < (n : Int) → W p l e (rL 6 0 0) s m args below meth c H locs 0 0 (MQ below (QcW B D cA (fun r kd' ig' rg' lg' n => kd = kd' ∧ rg = rg' ∧ ∃ z : Int32, r = some (.int z) ∧ (0 ≤ x.toInt ∧ x.toInt ≤ 5 → z.toInt = 0) ∧ (¬ (0 ≤ x.toInt ∧ x.toInt ≤ 5) → z.toInt = -1))) args s 0 0 (fun q => B ≤ q)) (F0 m 18 ls []) := by
    intro n18
    induction n18 with
    | zero => intro ls H locs v8 v9 v10 v11 v12 hl hw hsz g18_0 g18_1 g18_2 g18_3 g18_4 g18_5 hmu; exact absurd hmu (by omega)
    | succ n18 ih18 =>
      intro ls H locs v8 v9 v10 v11 v12 hl hw hsz g18_0 g18_1 g18_2 g18_3 g18_4 g18_5 hmu
      refine lv_iload hx hb dX12_count_18 (lv_at hl 0 rfl) ?_
      refine lv_sipush (v := 288) hx hb dX12_count_20 (by decide) (ti_c 288 (by decide) fun z13 hz13 => ?_)
      refine b_ge (tgt := 123) hx hb dX12_count_23 (by decide) (fun c23 => ?_) (fun c23 => ?_)
      · refine lv_iload_n hx hb dX12_count_123 rfl (lv_at hl 6 rfl) ?_
        refine z_ne (tgt := 131) hx hb dX12_count_124 (by decide) (fun c124 => ?_) (fun c124 => ?_)
        · refine lv_iload_n hx hb dX12_count_131 rfl (lv_at hl 6 rfl) ?_
          refine lv_iconst (v := 1) hx hb dX12_count_132 (by decide) (ti_c 1 (by decide) fun z14 hz14 => ?_)
          refine b_ne (tgt := 140) hx hb dX12_count_133 (by decide) (fun c133 => ?_) (fun c133 => ?_)
          · refine lv_iload_n hx hb dX12_count_140 rfl (lv_at hl 6 rfl) ?_
            refine lv_iconst (v := 2) hx hb dX12_count_141 (by decide) (ti_c 2 (by decide) fun z15 hz15 => ?_)
            refine b_ne (tgt := 150) hx hb dX12_count_142 (by decide) (fun c142 => ?_) (fun c142 => ?_)
            · refine lv_iload_n hx hb dX12_count_150 rfl (lv_at hl 6 rfl) ?_
              refine lv_iconst (v := 3) hx hb dX12_count_151 (by decide) (ti_c 3 (by decide) fun z16 hz16 => ?_)
              refine b_ne (tgt := 160) hx hb dX12_count_152 (by decide) (fun c152 => ?_) (fun c152 => ?_)
              · refine lv_iload_n hx hb dX12_count_160 rfl (lv_at hl 6 rfl) ?_
                refine lv_iconst (v := 4) hx hb dX12_count_161 (by decide) (ti_c 4 (by decide) fun z17 hz17 => ?_)
                refine b_ne (tgt := 172) hx hb dX12_count_162 (by decide) (fun c162 => ?_) (fun c162 => ?_)
                · refine lv_iload_n hx hb dX12_count_172 rfl (lv_at hl 6 rfl) ?_
                  refine lv_iconst (v := 5) hx hb dX12_count_173 (by decide) (ti_c 5 (by decide) fun z18 hz18 => ?_)
                  refine b_ne (tgt := 184) hx hb dX12_count_174 (by decide) (fun c174 => ?_) (fun c174 => ?_)
                  · refine lv_iconst (v := (-1)) hx hb dX12_count_184 (by decide) (ti_c (-1) (by decide) fun z19 hz19 => ?_)
                    exact r_iret C hw hr hlk rfl (Nat.le_of_ble_eq_true rfl) (Nat.le_of_ble_eq_true rfl) dX12_count_185 ⟨rfl, rfl, _, rfl, by omega⟩
                  · refine lv_aload_n hx hb dX12_count_177 rfl (lv_at hl 5 rfl) ?_
                    refine r_get C hw (hsh 49 _ rfl) fl_X12_188 (oV_i rfl) dX12_count_178 (ti_c (ig2 (B + 49) 19).toInt rfl fun z20 hz20 => ?_)
                    have k21 : (ig2 (B + 49) (19)).toInt = 0 := by rw [eig2, up2_j (by decide)]; exact z0 (hz 49 (19) (by decide) (by decide) (by decide))
                    refine lv_goto (tgt := 185) hx hb dX12_count_181 (by decide) ?_
                    exact r_iret C hw hr hlk rfl (Nat.le_of_ble_eq_true rfl) (Nat.le_of_ble_eq_true rfl) dX12_count_185 ⟨rfl, rfl, _, rfl, by omega⟩
                · refine lv_aload_n hx hb dX12_count_165 rfl (lv_at hl 5 rfl) ?_
                  refine r_get C hw (hsh 49 _ rfl) fl_X12_11 (oV_i rfl) dX12_count_166 (ti_c (ig2 (B + 49) 2).toInt rfl fun z22 hz22 => ?_)
                  have k23 : (ig2 (B + 49) (2)).toInt = 0 := by rw [eig2, up2_j (by decide)]; exact z0 (hz 49 (2) (by decide) (by decide) (by decide))
                  refine lv_goto (tgt := 185) hx hb dX12_count_169 (by decide) ?_
                  exact r_iret C hw hr hlk rfl (Nat.le_of_ble_eq_true rfl) (Nat.le_of_ble_eq_true rfl) dX12_count_185 ⟨rfl, rfl, _, rfl, by omega⟩
              · refine lv_iload hx hb dX12_count_155 (lv_at hl 1 rfl) ?_
                refine lv_goto (tgt := 185) hx hb dX12_count_157 (by decide) ?_
                exact r_iret C hw hr hlk rfl (Nat.le_of_ble_eq_true rfl) (Nat.le_of_ble_eq_true rfl) dX12_count_185 ⟨rfl, rfl, _, rfl, by omega⟩
            · refine lv_iload hx hb dX12_count_145 (lv_at hl 2 rfl) ?_
              refine lv_goto (tgt := 185) hx hb dX12_count_147 (by decide) ?_
              exact r_iret C hw hr hlk rfl (Nat.le_of_ble_eq_true rfl) (Nat.le_of_ble_eq_true rfl) dX12_count_185 ⟨rfl, rfl, _, rfl, by omega⟩
          · refine lv_iload_n hx hb dX12_count_136 rfl (lv_at hl 3 rfl) ?_
            refine lv_goto (tgt := 185) hx hb dX12_count_137 (by decide) ?_
            exact r_iret C hw hr hlk rfl (Nat.le_of_ble_eq_true rfl) (Nat.le_of_ble_eq_true rfl) dX12_count_185 ⟨rfl, rfl, _, rfl, by omega⟩
        · refine lv_iload_n hx hb dX12_count_127 rfl (lv_at hl 4 rfl) ?_
          refine lv_goto (tgt := 185) hx hb dX12_count_128 (by decide) ?_
          exact r_iret C hw hr hlk rfl (Nat.le_of_ble_eq_true rfl) (Nat.le_of_ble_eq_true rfl) dX12_count_185 ⟨rfl, rfl, _, rfl, by omega⟩
      · refine lv_iload_n hx hb dX12_count_26 rfl (lv_at hl 4 rfl) ?_
        refine lv_aload_n hx hb dX12_count_27 rfl (lv_at hl 5 rfl) ?_
        refine r_get C hw (hsh 49 _ rfl) fl_X12_80 (oV_r rfl (hrm (49, 15, 59) (by decide))) dX12_count_28 ?_
        refine lv_iload hx hb dX12_count_31 (lv_at hl 0 rfl) ?_
        refine r_iald C hw (hsh 59 _ rfl) (by omega) (by omega) dX12_count_33 (ti_c (ig2 (B + 59) v8.toInt.toNat).toInt rfl fun z24 hz24 => ?_)
        have k25 : (ig2 (B + 59) (v8.toInt.toNat)).toInt = 0 := by rw [eig2, up2_a (by omega)]; exact z0 (hz 59 (v8.toInt.toNat) (by decide) (by decide) (by decide))
        refine lv_iconst (v := 1) hx hb dX12_count_34 (by decide) (ti_c 1 (by decide) fun z26 hz26 => ?_)
        refine b_ne (tgt := 42) hx hb dX12_count_35 (by decide) (fun c35 => ?_) (fun c35 => ?_)
        · refine lv_iconst (v := 0) hx hb dX12_count_42 (by decide) (ti_c 0 (by decide) fun z27 hz27 => ?_)
          refine lv_iadd hx hb dX12_count_43 (ti_add (by omega) fun z28 hz28 => ?_)
          refine lv_istore_n (lv' := [(2, .int z28), (6, .int v8), (5, .int v9), (4, .int v10), (3, .int v11), (0, .ref (B + 49)), (1, .int x)]) hx hb dX12_count_44 rfl hl (by decide) rfl (fun ls hl => ?_)
          refine lv_iload_n hx hb dX12_count_45 rfl (lv_at hl 4 rfl) ?_
          refine lv_aload_n hx hb dX12_count_46 rfl (lv_at hl 5 rfl) ?_
          refine r_get C hw (hsh 49 _ rfl) fl_X12_80 (oV_r rfl (hrm (49, 15, 59) (by decide))) dX12_count_47 ?_
          refine lv_iload hx hb dX12_count_50 (lv_at hl 1 rfl) ?_
          refine r_iald C hw (hsh 59 _ rfl) (by omega) (by omega) dX12_count_52 (ti_c (ig2 (B + 59) v8.toInt.toNat).toInt rfl fun z29 hz29 => ?_)
          have k30 : (ig2 (B + 59) (v8.toInt.toNat)).toInt = 0 := by rw [eig2, up2_a (by omega)]; exact z0 (hz 59 (v8.toInt.toNat) (by decide) (by decide) (by decide))
          refine lv_iconst (v := 2) hx hb dX12_count_53 (by decide) (ti_c 2 (by decide) fun z31 hz31 => ?_)
          refine b_ne (tgt := 61) hx hb dX12_count_54 (by decide) (fun c54 => ?_) (fun c54 => ?_)
          · refine lv_iconst (v := 0) hx hb dX12_count_61 (by decide) (ti_c 0 (by decide) fun z32 hz32 => ?_)
            refine lv_iadd hx hb dX12_count_62 (ti_add (by omega) fun z33 hz33 => ?_)
            refine lv_istore_n (lv' := [(3, .int z33), (2, .int z28), (6, .int v8), (5, .int v9), (4, .int v10), (0, .ref (B + 49)), (1, .int x)]) hx hb dX12_count_63 rfl hl (by decide) rfl (fun ls hl => ?_)
            refine lv_iload hx hb dX12_count_64 (lv_at hl 4 rfl) ?_
            refine lv_aload_n hx hb dX12_count_66 rfl (lv_at hl 5 rfl) ?_
            refine r_get C hw (hsh 49 _ rfl) fl_X12_80 (oV_r rfl (hrm (49, 15, 59) (by decide))) dX12_count_67 ?_
            refine lv_iload hx hb dX12_count_70 (lv_at hl 2 rfl) ?_
            refine r_iald C hw (hsh 59 _ rfl) (by omega) (by omega) dX12_count_72 (ti_c (ig2 (B + 59) v8.toInt.toNat).toInt rfl fun z34 hz34 => ?_)
            have k35 : (ig2 (B + 59) (v8.toInt.toNat)).toInt = 0 := by rw [eig2, up2_a (by omega)]; exact z0 (hz 59 (v8.toInt.toNat) (by decide) (by decide) (by decide))
            refine lv_iconst (v := 2) hx hb dX12_count_73 (by decide) (ti_c 2 (by decide) fun z36 hz36 => ?_)
            refine b_ne (tgt := 93) hx hb dX12_count_74 (by decide) (fun c74 => ?_) (fun c74 => ?_)
            · refine lv_iconst (v := 0) hx hb dX12_count_93 (by decide) (ti_c 0 (by decide) fun z37 hz37 => ?_)
              refine lv_iadd hx hb dX12_count_94 (ti_add (by omega) fun z38 hz38 => ?_)
              refine lv_istore (lv' := [(4, .int z38), (3, .int z33), (2, .int z28), (6, .int v8), (5, .int v9), (0, .ref (B + 49)), (1, .int x)]) hx hb dX12_count_95 hl (by decide) rfl (fun ls hl => ?_)
              refine lv_iload hx hb dX12_count_97 (lv_at hl 4 rfl) ?_
              refine lv_aload_n hx hb dX12_count_99 rfl (lv_at hl 5 rfl) ?_
              refine r_get C hw (hsh 49 _ rfl) fl_X12_105 (oV_r rfl (hrm (49, 24, 67) (by decide))) dX12_count_100 ?_
              refine lv_iload hx hb dX12_count_103 (lv_at hl 3 rfl) ?_
              refine r_iald C hw (hsh 67 _ rfl) (by omega) (by omega) dX12_count_105 (ti_c (ig2 (B + 67) v8.toInt.toNat).toInt rfl fun z39 hz39 => ?_)
              have k40 : (ig2 (B + 67) (v8.toInt.toNat)).toInt = 0 := by rw [eig2, up2_a (by omega)]; exact z0 (hz 67 (v8.toInt.toNat) (by decide) (by decide) (by decide))
              refine z_le (tgt := 113) hx hb dX12_count_106 (by decide) (fun c106 => ?_) (fun c106 => ?_)
              · refine lv_iconst (v := 0) hx hb dX12_count_113 (by decide) (ti_c 0 (by decide) fun z41 hz41 => ?_)
                refine lv_iadd hx hb dX12_count_114 (ti_add (by omega) fun z42 hz42 => ?_)
                refine lv_istore (lv' := [(5, .int z42), (4, .int z38), (3, .int z33), (2, .int z28), (6, .int v8), (0, .ref (B + 49)), (1, .int x)]) hx hb dX12_count_115 hl (by decide) rfl (fun ls hl => ?_)
                refine ti_inc hx hb dX12_count_117 hl (k := 4) rfl (by decide) (by decide) (by omega) (fun z43 hz43 ls hl => ?_)
                have hl : lv_has ls 7 [(6, .int z43), (5, .int z42), (4, .int z38), (3, .int z33), (2, .int z28), (0, .ref (B + 49)), (1, .int x)] := hl
                refine lv_goto (tgt := 18) hx hb dX12_count_120 (by decide) ?_
                exact ih18 ls H locs z43 z42 z38 z33 z28 (lv_sub hl [0, 1, 2, 3, 4, 5, 6] rfl) hw hsz (by omega) (by omega) (by omega) (by omega) (by omega) (by omega) (by omega)
              · exact absurd c106 (by omega)
            · exact absurd c74 (by omega)
          · exact absurd c54 (by omega)
        · exact absurd c35 (by omega)
  exact L18 ((288 - z7.toInt) + 1).toNat ls H locs z7 z6 z5 z4 z3 (lv_sub hl [0, 1, 2, 3, 4, 5, 6] rfl) hw hsz (by omega) (by omega) (by omega) (by omega) (by omega) (by omega) (by omega)

set_option maxHeartbeats 4000000 in
set_option maxRecDepth 100000 in
theorem t_X12_cell (l : Launch) (B : Nat) (D : va_G) (cA : Nat → ClassId) (kd : sK) (ig : sI) (rg : sR) (lg : sG) (sz : Nat) (x y : Int32) (F8 : FM B kd ig rg lg) : MC l B D cA yX12_cell cX12_cell 3 (some .int) (rL 6 0 0) [.ref (B + 49), .int x, .int y] kd ig rg lg sz (fun r kd' ig' rg' lg' n => kd = kd' ∧ rg = rg' ∧ lg = lg' ∧ (∃ z : Int32, r = some (.int z) ∧ (((0 ≤ x.toInt ∧ x.toInt < 288) ∧ 0 ≤ y.toInt ∧ y.toInt ≤ 10) → (y.toInt = 3 → z.toInt = -1) ∧ (y.toInt ≠ 3 → z.toInt = 0))) ∧ (((0 ≤ x.toInt ∧ x.toInt < 288) ∧ 0 ≤ y.toInt ∧ y.toInt ≤ 10) → (ig' (B + 49) 0).toInt = 0) ∧ (¬ ((0 ≤ x.toInt ∧ x.toInt < 288) ∧ 0 ≤ y.toInt ∧ y.toInt ≤ 10) → (ig' (B + 49) 0).toInt = 1)) := by
  refine MC.of (own := RX12) (by decide +kernel) rfl (Nat.le_of_ble_eq_true rfl) ?_
  intro p e s m args below meth c ls C hr hlk hnm hw hsz hl
  have hx := C.1.1
  have hb := C.1.2.1
  have hown := C.1.2.2.2.1
  have hts := C.1.2.2.2.2
  have hl : lv_has ls 3 [(0, .ref (B + 49)), (1, .int x), (2, .int y)] := hl
  obtain ⟨hsh, hrm, hz, hf71, hlz⟩ := F8
  refine lv_aload_n hx hb dX12_cell_0 rfl (lv_at hl 0 rfl) ?_
  refine lv_iload_n hx hb dX12_cell_1 rfl (lv_at hl 1 rfl) ?_
  refine r_callS (As := [.int x]) (rest := [.ref (B + 49)]) C hw (t_X12_isPlace l B D cA kd ig rg lg _ x) ss_X12_198 rfl hl.1 rfl (Nat.le_of_ble_eq_true rfl) ⟨Nat.le_of_ble_eq_true rfl, Nat.le_of_ble_eq_true rfl⟩ ⟨Nat.le_of_ble_eq_true rfl, Nat.le_of_ble_eq_true rfl⟩ dX12_cell_2 (fun r6 kd2 ig3 rg4 lg5 H locs hw hH hp7 => ?_)
  obtain ⟨rfl, rfl, rfl, rfl, hzz1, z1, rfl, hz1⟩ := hp7
  have hsz := hzz1.trans hsz
  have J23 : ∀ (ls : Array Slot) (H : Heap) (locs : List Loc) (u8 : Int32), lv_has ls 3 [(0, .ref (B + 49)), (1, .int x), (2, .int y)] → WD B D cA s.heap kd ig rg lg H locs → H.size = sz → ((((0 ≤ x.toInt ∧ x.toInt < 288) ∧ 0 ≤ y.toInt ∧ y.toInt ≤ 10) → u8.toInt = 0) ∧ (¬ ((0 ≤ x.toInt ∧ x.toInt < 288) ∧ 0 ≤ y.toInt ∧ y.toInt ≤ 10) → u8.toInt = 1)) → W p l e (rL 6 0 0) s m args below meth c H locs 0 0 (MQ below (QcW B D cA (fun r kd' ig' rg' lg' n => kd = kd' ∧ rg = rg' ∧ lg = lg' ∧ (∃ z : Int32, r = some (.int z) ∧ (((0 ≤ x.toInt ∧ x.toInt < 288) ∧ 0 ≤ y.toInt ∧ y.toInt ≤ 10) → (y.toInt = 3 → z.toInt = -1) ∧ (y.toInt ≠ 3 → z.toInt = 0))) ∧ (((0 ≤ x.toInt ∧ x.toInt < 288) ∧ 0 ≤ y.toInt ∧ y.toInt ≤ 10) → (ig' (B + 49) 0).toInt = 0) ∧ (¬ ((0 ≤ x.toInt ∧ x.toInt < 288) ∧ 0 ≤ y.toInt ∧ y.toInt ≤ 10) → (ig' (B + 49) 0).toInt = 1))) args s 0 0 (fun q => B ≤ q)) (F0 m 23 ls [.int u8, .ref (B + 49)]) := by
    intro ls H locs u8 hl hw hsz g23_0
    refine r_puti C hw (hsh 49 _ rfl) fl_X12_1 rfl rfl rfl dX12_cell_23 (fun H locs hH hw => ?_)
    obtain ⟨ig9, eig9⟩ : ∃ f, f = up2 ig (B + 49) 0 u8 := ⟨_, rfl⟩
    rw [← eig9] at hw
    have hsz := hH.trans hsz
    refine lv_aload_n hx hb dX12_cell_26 rfl (lv_at hl 0 rfl) ?_
    refine r_get C hw (hsh 49 _ rfl) fl_X12_1 (oV_i rfl) dX12_cell_27 (ti_c (ig9 (B + 49) 0).toInt rfl fun z10 hz10 => ?_)
    have k11 : (ig9 (B + 49) (0)).toInt = u8.toInt := by rw [eig9, up2_eq]
    refine z_le (tgt := 35) hx hb dX12_cell_30 (by decide) (fun c30 => ?_) (fun c30 => ?_)
    · refine lv_iload_n hx hb dX12_cell_35 rfl (lv_at hl 2 rfl) ?_
      by_cases s36_0 : y.toInt = 0
      · refine lv_tableIn hx hb dX12_cell_36 (by omega) (by omega) (off := 56) (by rw [s36_0]; rfl) (tgt := 92) (by decide) ?_
        refine lv_aload_n hx hb dX12_cell_92 rfl (lv_at hl 0 rfl) ?_
        refine r_get C hw (hsh 49 _ rfl) fl_X12_80 (oV_r rfl (hrm (49, 15, 59) (by decide))) dX12_cell_93 ?_
        refine lv_iload_n hx hb dX12_cell_96 rfl (lv_at hl 1 rfl) ?_
        refine r_iald C hw (hsh 59 _ rfl) (by omega) (by omega) dX12_cell_97 (ti_c (ig9 (B + 59) x.toInt.toNat).toInt rfl fun z12 hz12 => ?_)
        have k13 : (ig9 (B + 59) (x.toInt.toNat)).toInt = 0 := by rw [eig9, up2_a (by omega)]; exact z0 (hz 59 (x.toInt.toNat) (by decide) (by decide) (by decide))
        exact r_iret C hw hr hlk rfl (Nat.le_of_ble_eq_true rfl) (Nat.le_of_ble_eq_true rfl) dX12_cell_98 ⟨rfl, rfl, rfl, ⟨_, rfl, by omega⟩, fun hc => by rw [eig9, up2_eq]; omega, fun hc => by rw [eig9, up2_eq]; omega⟩
      by_cases s36_1 : y.toInt = 1
      · refine lv_tableIn hx hb dX12_cell_36 (by omega) (by omega) (off := 63) (by rw [s36_1]; rfl) (tgt := 99) (by decide) ?_
        refine lv_aload_n hx hb dX12_cell_99 rfl (lv_at hl 0 rfl) ?_
        refine r_get C hw (hsh 49 _ rfl) fl_X12_102 (oV_r rfl (hrm (49, 23, 66) (by decide))) dX12_cell_100 ?_
        refine lv_iload_n hx hb dX12_cell_103 rfl (lv_at hl 1 rfl) ?_
        refine r_iald C hw (hsh 66 _ rfl) (by omega) (by omega) dX12_cell_104 (ti_c (ig9 (B + 66) x.toInt.toNat).toInt rfl fun z14 hz14 => ?_)
        have k15 : (ig9 (B + 66) (x.toInt.toNat)).toInt = 0 := by rw [eig9, up2_a (by omega)]; exact z0 (hz 66 (x.toInt.toNat) (by decide) (by decide) (by decide))
        exact r_iret C hw hr hlk rfl (Nat.le_of_ble_eq_true rfl) (Nat.le_of_ble_eq_true rfl) dX12_cell_105 ⟨rfl, rfl, rfl, ⟨_, rfl, by omega⟩, fun hc => by rw [eig9, up2_eq]; omega, fun hc => by rw [eig9, up2_eq]; omega⟩
      by_cases s36_2 : y.toInt = 2
      · refine lv_tableIn hx hb dX12_cell_36 (by omega) (by omega) (off := 70) (by rw [s36_2]; rfl) (tgt := 106) (by decide) ?_
        refine lv_aload_n hx hb dX12_cell_106 rfl (lv_at hl 0 rfl) ?_
        refine r_get C hw (hsh 49 _ rfl) fl_X12_105 (oV_r rfl (hrm (49, 24, 67) (by decide))) dX12_cell_107 ?_
        refine lv_iload_n hx hb dX12_cell_110 rfl (lv_at hl 1 rfl) ?_
        refine r_iald C hw (hsh 67 _ rfl) (by omega) (by omega) dX12_cell_111 (ti_c (ig9 (B + 67) x.toInt.toNat).toInt rfl fun z16 hz16 => ?_)
        have k17 : (ig9 (B + 67) (x.toInt.toNat)).toInt = 0 := by rw [eig9, up2_a (by omega)]; exact z0 (hz 67 (x.toInt.toNat) (by decide) (by decide) (by decide))
        exact r_iret C hw hr hlk rfl (Nat.le_of_ble_eq_true rfl) (Nat.le_of_ble_eq_true rfl) dX12_cell_112 ⟨rfl, rfl, rfl, ⟨_, rfl, by omega⟩, fun hc => by rw [eig9, up2_eq]; omega, fun hc => by rw [eig9, up2_eq]; omega⟩
      by_cases s36_3 : y.toInt = 3
      · refine lv_tableIn hx hb dX12_cell_36 (by omega) (by omega) (off := 77) (by rw [s36_3]; rfl) (tgt := 113) (by decide) ?_
        refine lv_aload_n hx hb dX12_cell_113 rfl (lv_at hl 0 rfl) ?_
        refine r_get C hw (hsh 49 _ rfl) fl_X12_117 (oV_r rfl (hrm (49, 28, 71) (by decide))) dX12_cell_114 ?_
        refine lv_iload_n hx hb dX12_cell_117 rfl (lv_at hl 1 rfl) ?_
        refine r_iald C hw (hsh 71 _ rfl) (by omega) (by omega) dX12_cell_118 (ti_c (ig9 (B + 71) x.toInt.toNat).toInt rfl fun z18 hz18 => ?_)
        have k19 : (ig9 (B + 71) (x.toInt.toNat)).toInt = -1 := by rw [eig9, up2_a (by omega)]; exact zm1 (hf71 (x.toInt.toNat) (by omega))
        exact r_iret C hw hr hlk rfl (Nat.le_of_ble_eq_true rfl) (Nat.le_of_ble_eq_true rfl) dX12_cell_119 ⟨rfl, rfl, rfl, ⟨_, rfl, by omega⟩, fun hc => by rw [eig9, up2_eq]; omega, fun hc => by rw [eig9, up2_eq]; omega⟩
      by_cases s36_4 : y.toInt = 4
      · refine lv_tableIn hx hb dX12_cell_36 (by omega) (by omega) (off := 84) (by rw [s36_4]; rfl) (tgt := 120) (by decide) ?_
        refine lv_aload_n hx hb dX12_cell_120 rfl (lv_at hl 0 rfl) ?_
        refine r_get C hw (hsh 49 _ rfl) fl_X12_108 (oV_r rfl (hrm (49, 25, 68) (by decide))) dX12_cell_121 ?_
        refine lv_iconst (v := 3) hx hb dX12_cell_124 (by decide) (ti_c 3 (by decide) fun z20 hz20 => ?_)
        refine lv_iload_n hx hb dX12_cell_125 rfl (lv_at hl 1 rfl) ?_
        refine lv_imul hx hb dX12_cell_126 (ti_mulL 3 hz20 (by omega) fun z21 hz21 => ?_)
        refine lv_iload_n hx hb dX12_cell_127 rfl (lv_at hl 2 rfl) ?_
        refine lv_iadd hx hb dX12_cell_128 (ti_add (by omega) fun z22 hz22 => ?_)
        refine lv_iconst (v := 4) hx hb dX12_cell_129 (by decide) (ti_c 4 (by decide) fun z23 hz23 => ?_)
        refine lv_isub hx hb dX12_cell_130 (ti_sub (by omega) fun z24 hz24 => ?_)
        refine r_iald C hw (hsh 68 _ rfl) (by omega) (by omega) dX12_cell_131 (ti_c (ig9 (B + 68) z24.toInt.toNat).toInt rfl fun z25 hz25 => ?_)
        have k26 : (ig9 (B + 68) (z24.toInt.toNat)).toInt = 0 := by rw [eig9, up2_a (by omega)]; exact z0 (hz 68 (z24.toInt.toNat) (by decide) (by decide) (by decide))
        exact r_iret C hw hr hlk rfl (Nat.le_of_ble_eq_true rfl) (Nat.le_of_ble_eq_true rfl) dX12_cell_132 ⟨rfl, rfl, rfl, ⟨_, rfl, by omega⟩, fun hc => by rw [eig9, up2_eq]; omega, fun hc => by rw [eig9, up2_eq]; omega⟩
      by_cases s36_5 : y.toInt = 5
      · refine lv_tableIn hx hb dX12_cell_36 (by omega) (by omega) (off := 84) (by rw [s36_5]; rfl) (tgt := 120) (by decide) ?_
        refine lv_aload_n hx hb dX12_cell_120 rfl (lv_at hl 0 rfl) ?_
        refine r_get C hw (hsh 49 _ rfl) fl_X12_108 (oV_r rfl (hrm (49, 25, 68) (by decide))) dX12_cell_121 ?_
        refine lv_iconst (v := 3) hx hb dX12_cell_124 (by decide) (ti_c 3 (by decide) fun z27 hz27 => ?_)
        refine lv_iload_n hx hb dX12_cell_125 rfl (lv_at hl 1 rfl) ?_
        refine lv_imul hx hb dX12_cell_126 (ti_mulL 3 hz27 (by omega) fun z28 hz28 => ?_)
        refine lv_iload_n hx hb dX12_cell_127 rfl (lv_at hl 2 rfl) ?_
        refine lv_iadd hx hb dX12_cell_128 (ti_add (by omega) fun z29 hz29 => ?_)
        refine lv_iconst (v := 4) hx hb dX12_cell_129 (by decide) (ti_c 4 (by decide) fun z30 hz30 => ?_)
        refine lv_isub hx hb dX12_cell_130 (ti_sub (by omega) fun z31 hz31 => ?_)
        refine r_iald C hw (hsh 68 _ rfl) (by omega) (by omega) dX12_cell_131 (ti_c (ig9 (B + 68) z31.toInt.toNat).toInt rfl fun z32 hz32 => ?_)
        have k33 : (ig9 (B + 68) (z31.toInt.toNat)).toInt = 0 := by rw [eig9, up2_a (by omega)]; exact z0 (hz 68 (z31.toInt.toNat) (by decide) (by decide) (by decide))
        exact r_iret C hw hr hlk rfl (Nat.le_of_ble_eq_true rfl) (Nat.le_of_ble_eq_true rfl) dX12_cell_132 ⟨rfl, rfl, rfl, ⟨_, rfl, by omega⟩, fun hc => by rw [eig9, up2_eq]; omega, fun hc => by rw [eig9, up2_eq]; omega⟩
      by_cases s36_6 : y.toInt = 6
      · refine lv_tableIn hx hb dX12_cell_36 (by omega) (by omega) (off := 84) (by rw [s36_6]; rfl) (tgt := 120) (by decide) ?_
        refine lv_aload_n hx hb dX12_cell_120 rfl (lv_at hl 0 rfl) ?_
        refine r_get C hw (hsh 49 _ rfl) fl_X12_108 (oV_r rfl (hrm (49, 25, 68) (by decide))) dX12_cell_121 ?_
        refine lv_iconst (v := 3) hx hb dX12_cell_124 (by decide) (ti_c 3 (by decide) fun z34 hz34 => ?_)
        refine lv_iload_n hx hb dX12_cell_125 rfl (lv_at hl 1 rfl) ?_
        refine lv_imul hx hb dX12_cell_126 (ti_mulL 3 hz34 (by omega) fun z35 hz35 => ?_)
        refine lv_iload_n hx hb dX12_cell_127 rfl (lv_at hl 2 rfl) ?_
        refine lv_iadd hx hb dX12_cell_128 (ti_add (by omega) fun z36 hz36 => ?_)
        refine lv_iconst (v := 4) hx hb dX12_cell_129 (by decide) (ti_c 4 (by decide) fun z37 hz37 => ?_)
        refine lv_isub hx hb dX12_cell_130 (ti_sub (by omega) fun z38 hz38 => ?_)
        refine r_iald C hw (hsh 68 _ rfl) (by omega) (by omega) dX12_cell_131 (ti_c (ig9 (B + 68) z38.toInt.toNat).toInt rfl fun z39 hz39 => ?_)
        have k40 : (ig9 (B + 68) (z38.toInt.toNat)).toInt = 0 := by rw [eig9, up2_a (by omega)]; exact z0 (hz 68 (z38.toInt.toNat) (by decide) (by decide) (by decide))
        exact r_iret C hw hr hlk rfl (Nat.le_of_ble_eq_true rfl) (Nat.le_of_ble_eq_true rfl) dX12_cell_132 ⟨rfl, rfl, rfl, ⟨_, rfl, by omega⟩, fun hc => by rw [eig9, up2_eq]; omega, fun hc => by rw [eig9, up2_eq]; omega⟩
      by_cases s36_7 : y.toInt = 7
      · refine lv_tableIn hx hb dX12_cell_36 (by omega) (by omega) (off := 97) (by rw [s36_7]; rfl) (tgt := 133) (by decide) ?_
        refine lv_aload_n hx hb dX12_cell_133 rfl (lv_at hl 0 rfl) ?_
        refine r_get C hw (hsh 49 _ rfl) fl_X12_114 (oV_r rfl (hrm (49, 27, 70) (by decide))) dX12_cell_134 ?_
        refine lv_iload_n hx hb dX12_cell_137 rfl (lv_at hl 1 rfl) ?_
        refine r_zald C hw (hsh 70 _ rfl) (by omega) (by omega) dX12_cell_138 (ti_c (ig9 (B + 70) x.toInt.toNat).toInt rfl fun z41 hz41 => ?_)
        have k42 : (ig9 (B + 70) (x.toInt.toNat)).toInt = 0 := by rw [eig9, up2_a (by omega)]; exact z0 (hz 70 (x.toInt.toNat) (by decide) (by decide) (by decide))
        refine z_eq (tgt := 146) hx hb dX12_cell_139 (by decide) (fun c139 => ?_) (fun c139 => ?_)
        · refine lv_iconst (v := 0) hx hb dX12_cell_146 (by decide) (ti_c 0 (by decide) fun z43 hz43 => ?_)
          exact r_iret C hw hr hlk rfl (Nat.le_of_ble_eq_true rfl) (Nat.le_of_ble_eq_true rfl) dX12_cell_147 ⟨rfl, rfl, rfl, ⟨_, rfl, by omega⟩, fun hc => by rw [eig9, up2_eq]; omega, fun hc => by rw [eig9, up2_eq]; omega⟩
        · refine lv_iconst (v := 1) hx hb dX12_cell_142 (by decide) (ti_c 1 (by decide) fun z44 hz44 => ?_)
          refine lv_goto (tgt := 147) hx hb dX12_cell_143 (by decide) ?_
          exact r_iret C hw hr hlk rfl (Nat.le_of_ble_eq_true rfl) (Nat.le_of_ble_eq_true rfl) dX12_cell_147 ⟨rfl, rfl, rfl, ⟨_, rfl, by omega⟩, fun hc => by rw [eig9, up2_eq]; omega, fun hc => by rw [eig9, up2_eq]; omega⟩
      by_cases s36_8 : y.toInt = 8
      · refine lv_tableIn hx hb dX12_cell_36 (by omega) (by omega) (off := 112) (by rw [s36_8]; rfl) (tgt := 148) (by decide) ?_
        refine lv_aload_n hx hb dX12_cell_148 rfl (lv_at hl 0 rfl) ?_
        refine lv_iload_n hx hb dX12_cell_149 rfl (lv_at hl 1 rfl) ?_
        refine r_callV (As := [.int x]) (rest := []) C hw (t_X12_readMany l B D cA kd ig9 rg lg _ x (by omega) hsh hrm (fun j => hlz 64 j (by decide) (by decide))) sv_X12_351 (hsh 49 _ rfl) rfl hl.1 rfl (Nat.le_of_ble_eq_true rfl) ⟨Nat.le_of_ble_eq_true rfl, Nat.le_of_ble_eq_true rfl⟩ ⟨Nat.le_of_ble_eq_true rfl, Nat.le_of_ble_eq_true rfl⟩ dX12_cell_150 (fun r50 kd46 ig47 rg48 lg49 H locs hw hH hp51 => ?_)
        obtain ⟨rfl, rfl, rfl, rfl, hzz45, z45, rfl, hz45⟩ := hp51
        have hsz := hzz45.trans hsz
        exact r_iret C hw hr hlk rfl (Nat.le_of_ble_eq_true rfl) (Nat.le_of_ble_eq_true rfl) dX12_cell_153 ⟨rfl, rfl, rfl, ⟨_, rfl, by omega⟩, fun hc => by rw [eig9, up2_eq]; omega, fun hc => by rw [eig9, up2_eq]; omega⟩
      by_cases s36_9 : y.toInt = 9
      · refine lv_tableIn hx hb dX12_cell_36 (by omega) (by omega) (off := 118) (by rw [s36_9]; rfl) (tgt := 154) (by decide) ?_
        refine lv_aload_n hx hb dX12_cell_154 rfl (lv_at hl 0 rfl) ?_
        refine lv_iload_n hx hb dX12_cell_155 rfl (lv_at hl 1 rfl) ?_
        refine r_callV (As := [.int x]) (rest := []) C hw (t_X12_readers l B D cA kd ig9 rg lg _ x (by omega) hsh hrm (fun j => hlz 64 j (by decide) (by decide))) sv_X12_336 (hsh 49 _ rfl) rfl hl.1 rfl (Nat.le_of_ble_eq_true rfl) ⟨Nat.le_of_ble_eq_true rfl, Nat.le_of_ble_eq_true rfl⟩ ⟨Nat.le_of_ble_eq_true rfl, Nat.le_of_ble_eq_true rfl⟩ dX12_cell_156 (fun r57 kd53 ig54 rg55 lg56 H locs hw hH hp58 => ?_)
        obtain ⟨rfl, rfl, rfl, rfl, hzz52, z52, rfl, hz52⟩ := hp58
        have hsz := hzz52.trans hsz
        exact r_iret C hw hr hlk rfl (Nat.le_of_ble_eq_true rfl) (Nat.le_of_ble_eq_true rfl) dX12_cell_159 ⟨rfl, rfl, rfl, ⟨_, rfl, by omega⟩, fun hc => by rw [eig9, up2_eq]; omega, fun hc => by rw [eig9, up2_eq]; omega⟩
      refine lv_tableOut hx hb dX12_cell_36 (by omega) (tgt := 160) (by decide) ?_
      refine lv_aload_n hx hb dX12_cell_160 rfl (lv_at hl 0 rfl) ?_
      refine r_get C hw (hsh 49 _ rfl) fl_X12_89 (oV_r rfl (hrm (49, 18, 62) (by decide))) dX12_cell_161 ?_
      refine lv_iload_n hx hb dX12_cell_164 rfl (lv_at hl 1 rfl) ?_
      refine r_zald C hw (hsh 62 _ rfl) (by omega) (by omega) dX12_cell_165 (ti_c (ig9 (B + 62) x.toInt.toNat).toInt rfl fun z59 hz59 => ?_)
      have k60 : (ig9 (B + 62) (x.toInt.toNat)).toInt = 0 := by rw [eig9, up2_a (by omega)]; exact z0 (hz 62 (x.toInt.toNat) (by decide) (by decide) (by decide))
      refine z_eq (tgt := 173) hx hb dX12_cell_166 (by decide) (fun c166 => ?_) (fun c166 => ?_)
      · refine lv_iconst (v := 0) hx hb dX12_cell_173 (by decide) (ti_c 0 (by decide) fun z61 hz61 => ?_)
        exact r_iret C hw hr hlk rfl (Nat.le_of_ble_eq_true rfl) (Nat.le_of_ble_eq_true rfl) dX12_cell_174 ⟨rfl, rfl, rfl, ⟨_, rfl, by omega⟩, fun hc => by rw [eig9, up2_eq]; omega, fun hc => by rw [eig9, up2_eq]; omega⟩
      · refine lv_iconst (v := 1) hx hb dX12_cell_169 (by decide) (ti_c 1 (by decide) fun z62 hz62 => ?_)
        refine lv_goto (tgt := 174) hx hb dX12_cell_170 (by decide) ?_
        exact r_iret C hw hr hlk rfl (Nat.le_of_ble_eq_true rfl) (Nat.le_of_ble_eq_true rfl) dX12_cell_174 ⟨rfl, rfl, rfl, ⟨_, rfl, by omega⟩, fun hc => by rw [eig9, up2_eq]; omega, fun hc => by rw [eig9, up2_eq]; omega⟩
    · refine lv_iconst (v := 0) hx hb dX12_cell_33 (by decide) (ti_c 0 (by decide) fun z63 hz63 => ?_)
      exact r_iret C hw hr hlk rfl (Nat.le_of_ble_eq_true rfl) (Nat.le_of_ble_eq_true rfl) dX12_cell_34 ⟨rfl, rfl, rfl, ⟨_, rfl, by omega⟩, fun hc => by rw [eig9, up2_eq]; omega, fun hc => by rw [eig9, up2_eq]; omega⟩
  refine z_eq (tgt := 22) hx hb dX12_cell_5 (by decide) (fun c5 => ?_) (fun c5 => ?_)
  · refine lv_iconst (v := 1) hx hb dX12_cell_22 (by decide) (ti_c 1 (by decide) fun z64 hz64 => ?_)
    exact J23 ls H locs z64 (lv_sub hl [0, 1, 2] rfl) hw hsz (by omega)
  · refine lv_iload_n hx hb dX12_cell_8 rfl (lv_at hl 2 rfl) ?_
    refine z_lt (tgt := 22) hx hb dX12_cell_9 (by decide) (fun c9 => ?_) (fun c9 => ?_)
    · refine lv_iconst (v := 1) hx hb dX12_cell_22 (by decide) (ti_c 1 (by decide) fun z65 hz65 => ?_)
      exact J23 ls H locs z65 (lv_sub hl [0, 1, 2] rfl) hw hsz (by omega)
    · refine lv_iload_n hx hb dX12_cell_12 rfl (lv_at hl 2 rfl) ?_
      refine lv_bipush (v := 10) hx hb dX12_cell_13 (by decide) (ti_c 10 (by decide) fun z66 hz66 => ?_)
      refine b_gt (tgt := 22) hx hb dX12_cell_15 (by decide) (fun c15 => ?_) (fun c15 => ?_)
      · refine lv_iconst (v := 1) hx hb dX12_cell_22 (by decide) (ti_c 1 (by decide) fun z67 hz67 => ?_)
        exact J23 ls H locs z67 (lv_sub hl [0, 1, 2] rfl) hw hsz (by omega)
      · refine lv_iconst (v := 0) hx hb dX12_cell_18 (by decide) (ti_c 0 (by decide) fun z68 hz68 => ?_)
        refine lv_goto (tgt := 23) hx hb dX12_cell_19 (by decide) ?_
        exact J23 ls H locs z68 (lv_sub hl [0, 1, 2] rfl) hw hsz (by omega)
