theorem FS.of3 {B : Nat} {kd : sK} {ig ig' : sI} {rg : sR} (h : FS B kd ig rg) (e1 : ∀ j, ig' (B + 10) j = ig (B + 10) j) (e2 : ∀ j, ig' (B + 9) j = ig (B + 9) j) (e3 : ∀ j, ig' (B + 12) j = ig (B + 12) j) : FS B kd ig' rg := by
  obtain ⟨h1, h2, h3, h4, h5, h6, h7⟩ := h
  exact ⟨h1, h2, h3, h4, fun j => (e1 j).trans (h5 j), fun j => (e2 j).trans (h6 j), fun j => (e3 j).trans (h7 j)⟩
theorem Rs.up {B c j : Nat} {rg : sR} {v : Option Nat} (h : Rs B rg) (hc : ∀ x ∈ rfp, x.1 ≠ c) : Rs B (up2 rg (B + c) j v) := by
  intro x hx
  have h1 := hc x hx
  rw [up2_a (by omega)]
  exact h x hx
theorem l_ush0 (k : UInt64) : ((0 : Int64).toUInt64 >>> k).toInt64 = 0 := by
  apply Int64.toBitVec_inj.mp
  simp

set_option maxHeartbeats 4000000 in
set_option maxRecDepth 100000 in
theorem t_X0_init (l : Launch) (B : Nat) (D : va_G) (cA : Nat → ClassId) (kd : sK) (ig : sI) (rg : sR) (lg : sG) (sz : Nat) (q : Nat) (x y : Int32) (hq : kd q = some (0, 0)) : MC l B D cA yX0_init cX0_init 4 none (rL 1 0 0) [.ref q, .int x, .int y, .null] kd ig rg lg sz (fun r kd' ig' rg' lg' n => kd = kd' ∧ lg = lg' ∧ n = sz ∧ r = none ∧ (∀ a j, a ≠ q → ig' a j = ig a j) ∧ (∀ a j, a ≠ q → rg' a j = rg a j)) := by
  refine MC.of (own := RX0) (by decide +kernel) rfl (Nat.le_of_ble_eq_true rfl) ?_
  intro p e s m args below meth c ls C hr hlk hnm hw hsz hl
  have hx := C.1.1
  have hb := C.1.2.1
  have hown := C.1.2.2.2.1
  have hts := C.1.2.2.2.2
  have hl : lv_has ls 4 [(0, .ref q), (1, .int x), (2, .int y), (3, .null)] := hl
  refine lv_aload_n hx hb dX0_init_0 rfl (lv_at hl 0 rfl) ?_
  refine r_obj C ol_X0_3 oi_i oi_c hl.1 (by decide) (by decide) dX0_init_1 ?_
  refine lv_aload_n hx hb dX0_init_4 rfl (lv_at hl 0 rfl) ?_
  refine lv_iload_n hx hb dX0_init_5 rfl (lv_at hl 1 rfl) ?_
  refine r_putiF C hw hnm rfl hq fl_X0_9 rfl rfl rfl dX0_init_6 (fun H locs hH hw => ?_)
  obtain ⟨ig1, eig1⟩ : ∃ f, f = up2 ig q 0 x := ⟨_, rfl⟩
  rw [← eig1] at hw
  have hsz := hH.trans hsz
  refine lv_aload_n hx hb dX0_init_9 rfl (lv_at hl 0 rfl) ?_
  refine lv_iload_n hx hb dX0_init_10 rfl (lv_at hl 2 rfl) ?_
  refine r_putiF C hw hnm rfl hq fl_X0_15 rfl rfl rfl dX0_init_11 (fun H locs hH hw => ?_)
  obtain ⟨ig2, eig2⟩ : ∃ f, f = up2 ig1 q 1 y := ⟨_, rfl⟩
  rw [← eig2] at hw
  have hsz := hH.trans hsz
  refine lv_aload_n hx hb dX0_init_14 rfl (lv_at hl 0 rfl) ?_
  refine lv_aload_nN hx hb dX0_init_15 rfl (lv_at hl 3 rfl) ?_
  refine r_putrF C hw none rfl hnm rfl hq fl_X0_18 rfl rfl rfl dX0_init_16 (fun H locs hH hw => ?_)
  obtain ⟨rg3, erg3⟩ : ∃ f, f = up2 rg q 2 none := ⟨_, rfl⟩
  rw [← erg3] at hw
  have hsz := hH.trans hsz
  refine lv_aload_n hx hb dX0_init_19 rfl (lv_at hl 0 rfl) ?_
  refine lv_iconst (v := 0) hx hb dX0_init_20 (by decide) (ti_c 0 (by decide) fun z4 hz4 => ?_)
  refine r_putiF C hw hnm rfl hq fl_X0_22 rfl rfl rfl dX0_init_21 (fun H locs hH hw => ?_)
  obtain ⟨ig5, eig5⟩ : ∃ f, f = up2 ig2 q 3 z4 := ⟨_, rfl⟩
  rw [← eig5] at hw
  have hsz := hH.trans hsz
  refine lv_aload_n hx hb dX0_init_24 rfl (lv_at hl 0 rfl) ?_
  refine lv_iconst (v := 0) hx hb dX0_init_25 (by decide) (ti_c 0 (by decide) fun z6 hz6 => ?_)
  refine r_putiF C hw hnm rfl hq fl_X0_25 rfl rfl rfl dX0_init_26 (fun H locs hH hw => ?_)
  obtain ⟨ig7, eig7⟩ : ∃ f, f = up2 ig5 q 4 z6 := ⟨_, rfl⟩
  rw [← eig7] at hw
  have hsz := hH.trans hsz
  refine lv_aload_n hx hb dX0_init_29 rfl (lv_at hl 0 rfl) ?_
  refine lv_iconst (v := 0) hx hb dX0_init_30 (by decide) (ti_c 0 (by decide) fun z8 hz8 => ?_)
  refine r_putiF C hw hnm rfl hq fl_X0_28 rfl rfl rfl dX0_init_31 (fun H locs hH hw => ?_)
  obtain ⟨ig9, eig9⟩ : ∃ f, f = up2 ig7 q 5 z8 := ⟨_, rfl⟩
  rw [← eig9] at hw
  have hsz := hH.trans hsz
  exact r_vret C hw hr hlk (Nat.le_of_ble_eq_true rfl) (Nat.le_of_ble_eq_true rfl) dX0_init_34 ⟨rfl, rfl, hsz, rfl, fun a j h => by rw [eig9, up2_a h, eig7, up2_a h, eig5, up2_a h, eig2, up2_a h, eig1, up2_a h], fun a j h => by rw [erg3, up2_a h]⟩

set_option maxHeartbeats 4000000 in
set_option maxRecDepth 100000 in
theorem t_X0_fits (l : Launch) (B : Nat) (D : va_G) (cA : Nat → ClassId) (kd : sK) (ig : sI) (rg : sR) (lg : sG) (sz : Nat) (x : Int32) (F : FS B kd ig rg) : MC l B D cA yX0_fits cX0_fits 2 (some .boolean) (rL 0 0 0) [.ref (B + 10), .int x] kd ig rg lg sz (Pu kd ig rg lg sz (fun r => ∃ z : Int32, r = some (.int z) ∧ z.toInt = 1)) := by
  refine MC.of (own := RX0) (by decide +kernel) rfl (Nat.le_of_ble_eq_true rfl) ?_
  intro p e s m args below meth c ls C hr hlk hnm hw hsz hl
  have hx := C.1.1
  have hb := C.1.2.1
  have hown := C.1.2.2.2.1
  have hts := C.1.2.2.2.2
  have hl : lv_has ls 2 [(0, .ref (B + 10)), (1, .int x)] := hl
  have Fs := F
  obtain ⟨hsh, hrs, hce, hbf, hbi, hsi, hke⟩ := F
  refine lv_aload_n hx hb dX0_fits_0 rfl (lv_at hl 0 rfl) ?_
  refine r_get C hw (hsh 10 _ rfl) fl_X0_18 (oV_n rfl hbf) dX0_fits_1 ?_
  refine lv_ifnullN (tgt := 18) hx hb dX0_fits_4 (by decide) ?_
  refine lv_iconst (v := 1) hx hb dX0_fits_18 (by decide) (ti_c 1 (by decide) fun z1 hz1 => ?_)
  refine lv_goto (tgt := 23) hx hb dX0_fits_19 (by decide) ?_
  exact r_iret C hw hr hlk (nar_b (by omega)) (Nat.le_of_ble_eq_true rfl) (Nat.le_of_ble_eq_true rfl) dX0_fits_23 ⟨rfl, rfl, rfl, rfl, hsz, _, rfl, by omega⟩

set_option maxHeartbeats 4000000 in
set_option maxRecDepth 100000 in
theorem t_X0_withoutUnit (l : Launch) (B : Nat) (D : va_G) (cA : Nat → ClassId) (kd : sK) (ig : sI) (rg : sR) (lg : sG) (sz : Nat) (F : FS B kd ig rg) : MC l B D cA yX0_withoutUnit cX0_withoutUnit 1 (some (.object "SheetDoctor$Cell")) (rL 0 0 0) [.ref (B + 10)] kd ig rg lg sz (Pu kd ig rg lg sz (fun r => r = some (.ref (B + 10)))) := by
  refine MC.of (own := RX0) (by decide +kernel) rfl (Nat.le_of_ble_eq_true rfl) ?_
  intro p e s m args below meth c ls C hr hlk hnm hw hsz hl
  have hx := C.1.1
  have hb := C.1.2.1
  have hown := C.1.2.2.2.1
  have hts := C.1.2.2.2.2
  have hl : lv_has ls 1 [(0, .ref (B + 10))] := hl
  have Fs := F
  obtain ⟨hsh, hrs, hce, hbf, hbi, hsi, hke⟩ := F
  refine lv_aload_n hx hb dX0_withoutUnit_0 rfl (lv_at hl 0 rfl) ?_
  refine r_get C hw (hsh 10 _ rfl) fl_X0_9 (oV_i rfl) dX0_withoutUnit_1 (ti_c (ig (B + 10) 0).toInt rfl fun z1 hz1 => ?_)
  have k2 : (ig (B + 10) (0)).toInt = 0 := z0 (Fs.bi (0))
  refine lv_iconst (v := 1) hx hb dX0_withoutUnit_4 (by decide) (ti_c 1 (by decide) fun z3 hz3 => ?_)
  refine b_ne (tgt := 24) hx hb dX0_withoutUnit_5 (by decide) (fun c5 => ?_) (fun c5 => ?_)
  · refine lv_aload_n hx hb dX0_withoutUnit_24 rfl (lv_at hl 0 rfl) ?_
    exact r_aret C hw hr hlk (Or.inr ⟨_, rfl⟩) (Nat.le_of_ble_eq_true rfl) (Nat.le_of_ble_eq_true rfl) dX0_withoutUnit_25 ⟨rfl, rfl, rfl, rfl, hsz, rfl⟩
  · exact absurd c5 (by omega)

set_option maxHeartbeats 4000000 in
set_option maxRecDepth 100000 in
theorem t_X6_copyFor (l : Launch) (B : Nat) (D : va_G) (cA : Nat → ClassId) (kd : sK) (ig : sI) (rg : sR) (lg : sG) (sz : Nat) (x y : Int32) (F : FS B kd ig rg) : MC l B D cA yX6_copyFor cX6_copyFor 4 (some (.object "SheetDoctor$Cell")) (rL 2 0 0) [.ref (B + 9), .int x, .int y] kd ig rg lg sz (Pu kd ig rg lg sz (fun r => r = some (.ref (B + 10)))) := by
  refine MC.of (own := RX6) (by decide +kernel) rfl (Nat.le_of_ble_eq_true rfl) ?_
  intro p e s m args below meth c ls C hr hlk hnm hw hsz hl
  have hx := C.1.1
  have hb := C.1.2.1
  have hown := C.1.2.2.2.1
  have hts := C.1.2.2.2.2
  have hl : lv_has ls 4 [(0, .ref (B + 9)), (1, .int x), (2, .int y)] := hl
  have Fs := F
  obtain ⟨hsh, hrs, hce, hbf, hbi, hsi, hke⟩ := F
  refine lv_aload_n hx hb dX6_copyFor_0 rfl (lv_at hl 0 rfl) ?_
  refine lv_iload_n hx hb dX6_copyFor_1 rfl (lv_at hl 1 rfl) ?_
  refine r_callV (As := [.int x]) (rest := []) C hw (t_X6_at l B D cA kd ig rg lg _ x Fs) sv_X6_53 (hsh 9 _ rfl) rfl hl.1 rfl (Nat.le_of_ble_eq_true rfl) ⟨Nat.le_of_ble_eq_true rfl, Nat.le_of_ble_eq_true rfl⟩ ⟨Nat.le_of_ble_eq_true rfl, Nat.le_of_ble_eq_true rfl⟩ dX6_copyFor_2 (fun r5 kd1 ig2 rg3 lg4 H locs hw hH hp6 => ?_)
  obtain ⟨rfl, rfl, rfl, rfl, hzhp6, rfl⟩ := hp6
  have hsz := hzhp6.trans hsz
  refine lv_astore_n (lv' := [(3, .ref (B + 10)), (0, .ref (B + 9)), (1, .int x), (2, .int y)]) hx hb dX6_copyFor_5 rfl hl (by decide) rfl (fun ls hl => ?_)
  refine lv_aload_n hx hb dX6_copyFor_6 rfl (lv_at hl 0 rfl) ?_
  refine lv_iload_n hx hb dX6_copyFor_7 rfl (lv_at hl 3 rfl) ?_
  refine r_callV (As := [.int y]) (rest := []) C hw (t_X0_fits l B D cA kd ig rg lg _ y Fs) sv_X6_57 (hsh 10 _ rfl) rfl hl.1 rfl (Nat.le_of_ble_eq_true rfl) ⟨Nat.le_of_ble_eq_true rfl, Nat.le_of_ble_eq_true rfl⟩ ⟨Nat.le_of_ble_eq_true rfl, Nat.le_of_ble_eq_true rfl⟩ dX6_copyFor_8 (fun r12 kd8 ig9 rg10 lg11 H locs hw hH hp13 => ?_)
  obtain ⟨rfl, rfl, rfl, rfl, hzz7, z7, rfl, hz7⟩ := hp13
  have hsz := hzz7.trans hsz
  refine z_eq (tgt := 21) hx hb dX6_copyFor_11 (by decide) (fun c11 => ?_) (fun c11 => ?_)
  · exact absurd c11 (by omega)
  · refine lv_aload_n hx hb dX6_copyFor_14 rfl (lv_at hl 0 rfl) ?_
    refine r_callV (As := []) (rest := []) C hw (t_X0_withoutUnit l B D cA kd ig rg lg _ Fs) sv_X6_60 (hsh 10 _ rfl) rfl hl.1 rfl (Nat.le_of_ble_eq_true rfl) ⟨Nat.le_of_ble_eq_true rfl, Nat.le_of_ble_eq_true rfl⟩ ⟨Nat.le_of_ble_eq_true rfl, Nat.le_of_ble_eq_true rfl⟩ dX6_copyFor_15 (fun r18 kd14 ig15 rg16 lg17 H locs hw hH hp19 => ?_)
    obtain ⟨rfl, rfl, rfl, rfl, hzhp19, rfl⟩ := hp19
    have hsz := hzhp19.trans hsz
    refine lv_goto (tgt := 22) hx hb dX6_copyFor_18 (by decide) ?_
    exact r_aret C hw hr hlk (Or.inr ⟨_, rfl⟩) (Nat.le_of_ble_eq_true rfl) (Nat.le_of_ble_eq_true rfl) dX6_copyFor_22 ⟨rfl, rfl, rfl, rfl, hsz, rfl⟩

set_option maxHeartbeats 4000000 in
set_option maxRecDepth 100000 in
theorem t_X6_isKept (l : Launch) (B : Nat) (D : va_G) (cA : Nat → ClassId) (kd : sK) (ig : sI) (rg : sR) (lg : sG) (sz : Nat) (x : Int32) (F : FS B kd ig rg) : MC l B D cA yX6_isKept cX6_isKept 2 (some .boolean) (rL 1 0 0) [.ref (B + 9), .int x] kd ig rg lg sz (Pu kd ig rg lg sz (fun r => ∃ z : Int32, r = some (.int z) ∧ z.toInt = 0)) := by
  refine MC.of (own := RX6) (by decide +kernel) rfl (Nat.le_of_ble_eq_true rfl) ?_
  intro p e s m args below meth c ls C hr hlk hnm hw hsz hl
  have hx := C.1.1
  have hb := C.1.2.1
  have hown := C.1.2.2.2.1
  have hts := C.1.2.2.2.2
  have hl : lv_has ls 2 [(0, .ref (B + 9)), (1, .int x)] := hl
  have Fs := F
  obtain ⟨hsh, hrs, hce, hbf, hbi, hsi, hke⟩ := F
  refine lv_iload_n hx hb dX6_isKept_0 rfl (lv_at hl 1 rfl) ?_
  refine r_callN (As := [.int x]) (rest := []) C hw (t_X11_onSheet l B D cA kd ig rg lg _ x) sn_X6_42 rfl hl.1 rfl (Nat.le_of_ble_eq_true rfl) ⟨Nat.le_of_ble_eq_true rfl, Nat.le_of_ble_eq_true rfl⟩ ⟨Nat.le_of_ble_eq_true rfl, Nat.le_of_ble_eq_true rfl⟩ dX6_isKept_1 (fun r6 kd2 ig3 rg4 lg5 H locs hw hH hp7 => ?_)
  obtain ⟨rfl, rfl, rfl, rfl, hzz1, z1, rfl, hz1⟩ := hp7
  have hsz := hzz1.trans hsz
  refine z_eq (tgt := 20) hx hb dX6_isKept_4 (by decide) (fun c4 => ?_) (fun c4 => ?_)
  · refine lv_iconst (v := 0) hx hb dX6_isKept_20 (by decide) (ti_c 0 (by decide) fun z8 hz8 => ?_)
    exact r_iret C hw hr hlk (nar_b (by omega)) (Nat.le_of_ble_eq_true rfl) (Nat.le_of_ble_eq_true rfl) dX6_isKept_21 ⟨rfl, rfl, rfl, rfl, hsz, _, rfl, by omega⟩
  · refine lv_aload_n hx hb dX6_isKept_7 rfl (lv_at hl 0 rfl) ?_
    refine r_get C hw (hsh 9 _ rfl) fl_X6_24 (oV_r rfl (hrs (9, 2, 12) (by decide))) dX6_isKept_8 ?_
    refine lv_iload_n hx hb dX6_isKept_11 rfl (lv_at hl 1 rfl) ?_
    refine r_zald C hw (hsh 12 _ rfl) (by omega) (by omega) dX6_isKept_12 (ti_c (ig (B + 12) x.toInt.toNat).toInt rfl fun z9 hz9 => ?_)
    have k10 : (ig (B + 12) (x.toInt.toNat)).toInt = 0 := z0 (Fs.ke (x.toInt.toNat))
    refine z_eq (tgt := 20) hx hb dX6_isKept_13 (by decide) (fun c13 => ?_) (fun c13 => ?_)
    · refine lv_iconst (v := 0) hx hb dX6_isKept_20 (by decide) (ti_c 0 (by decide) fun z11 hz11 => ?_)
      exact r_iret C hw hr hlk (nar_b (by omega)) (Nat.le_of_ble_eq_true rfl) (Nat.le_of_ble_eq_true rfl) dX6_isKept_21 ⟨rfl, rfl, rfl, rfl, hsz, _, rfl, by omega⟩
    · exact absurd c13 (by omega)

set_option maxHeartbeats 4000000 in
set_option maxRecDepth 100000 in
theorem t_X6_setKept (l : Launch) (B : Nat) (D : va_G) (cA : Nat → ClassId) (kd : sK) (ig : sI) (rg : sR) (lg : sG) (sz : Nat) (x y : Int32) (hy : y.toInt = 0 ∨ y.toInt = 1) (hsh : Sh B kd) (hrs : Rs B rg) : MC l B D cA yX6_setKept cX6_setKept 3 (some .boolean) (rL 1 0 0) [.ref (B + 9), .int x, .int y] kd ig rg lg sz (fun r kd' ig' rg' lg' n => kd = kd' ∧ rg = rg' ∧ lg = lg' ∧ n = sz ∧ (∃ z : Int32, r = some (.int z) ∧ ((0 ≤ x.toInt ∧ x.toInt < 288) → z.toInt = 1) ∧ (¬ (0 ≤ x.toInt ∧ x.toInt < 288) → z.toInt = 0)) ∧ Off B 9 15 ig' ig) := by
  refine MC.of (own := RX6) (by decide +kernel) rfl (Nat.le_of_ble_eq_true rfl) ?_
  intro p e s m args below meth c ls C hr hlk hnm hw hsz hl
  have hx := C.1.1
  have hb := C.1.2.1
  have hown := C.1.2.2.2.1
  have hts := C.1.2.2.2.2
  have hl : lv_has ls 3 [(0, .ref (B + 9)), (1, .int x), (2, .int y)] := hl
  have oig : Off B 9 15 ig ig := Off.rf
  refine lv_iload_n hx hb dX6_setKept_0 rfl (lv_at hl 1 rfl) ?_
  refine r_callN (As := [.int x]) (rest := []) C hw (t_X11_onSheet l B D cA kd ig rg lg _ x) sn_X6_42 rfl hl.1 rfl (Nat.le_of_ble_eq_true rfl) ⟨Nat.le_of_ble_eq_true rfl, Nat.le_of_ble_eq_true rfl⟩ ⟨Nat.le_of_ble_eq_true rfl, Nat.le_of_ble_eq_true rfl⟩ dX6_setKept_1 (fun r6 kd2 ig3 rg4 lg5 H locs hw hH hp7 => ?_)
  obtain ⟨rfl, rfl, rfl, rfl, hzz1, z1, rfl, hz1⟩ := hp7
  have hsz := hzz1.trans hsz
  refine z_ne (tgt := 9) hx hb dX6_setKept_4 (by decide) (fun c4 => ?_) (fun c4 => ?_)
  · refine lv_aload_n hx hb dX6_setKept_9 rfl (lv_at hl 0 rfl) ?_
    refine r_get C hw (hsh 9 _ rfl) fl_X6_24 (oV_r rfl (hrs (9, 2, 12) (by decide))) dX6_setKept_10 ?_
    refine lv_iload_n hx hb dX6_setKept_13 rfl (lv_at hl 1 rfl) ?_
    refine lv_iload_n hx hb dX6_setKept_14 rfl (lv_at hl 2 rfl) ?_
    refine r_zast C hw (hsh 12 _ rfl) (by omega) (by omega) (nar_b (by omega)) dX6_setKept_15 (fun H locs hH hw => ?_)
    obtain ⟨ig8, eig8⟩ : ∃ f, f = up2 ig (B + 12) x.toInt.toNat y := ⟨_, rfl⟩
    rw [← eig8] at hw
    have hsz := hH.trans hsz
    have oig : Off B 9 15 ig8 ig := fun a j h => by rw [eig8]; exact (up2_a (by omega)).trans (oig a j h)
    refine lv_iconst (v := 1) hx hb dX6_setKept_16 (by decide) (ti_c 1 (by decide) fun z9 hz9 => ?_)
    exact r_iret C hw hr hlk (nar_b (by omega)) (Nat.le_of_ble_eq_true rfl) (Nat.le_of_ble_eq_true rfl) dX6_setKept_17 ⟨rfl, rfl, rfl, hsz, ⟨_, rfl, by omega⟩, oig⟩
  · refine lv_iconst (v := 0) hx hb dX6_setKept_7 (by decide) (ti_c 0 (by decide) fun z10 hz10 => ?_)
    exact r_iret C hw hr hlk (nar_b (by omega)) (Nat.le_of_ble_eq_true rfl) (Nat.le_of_ble_eq_true rfl) dX6_setKept_8 ⟨rfl, rfl, rfl, hsz, ⟨_, rfl, by omega⟩, oig⟩

set_option maxHeartbeats 4000000 in
set_option maxRecDepth 100000 in
theorem t_X6_cellsOfKind (l : Launch) (B : Nat) (D : va_G) (cA : Nat → ClassId) (kd : sK) (ig : sI) (rg : sR) (lg : sG) (sz : Nat) (x : Int32) (hx0 : x.toInt = 1 ∨ x.toInt = 2) (F : FS B kd ig rg) : MC l B D cA yX6_cellsOfKind cX6_cellsOfKind 4 (some .int) (rL 0 0 0) [.ref (B + 9), .int x] kd ig rg lg sz (Pu kd ig rg lg sz (fun r => ∃ z : Int32, r = some (.int z) ∧ z.toInt = 0)) := by
  refine MC.of (own := RX6) (by decide +kernel) rfl (Nat.le_of_ble_eq_true rfl) ?_
  intro p e s m args below meth c ls C hr hlk hnm hw hsz hl
  have hx := C.1.1
  have hb := C.1.2.1
  have hown := C.1.2.2.2.1
  have hts := C.1.2.2.2.2
  have hl : lv_has ls 4 [(0, .ref (B + 9)), (1, .int x)] := hl
  have Fs := F
  obtain ⟨hsh, hrs, hce, hbf, hbi, hsi, hke⟩ := F
  refine lv_iconst (v := 0) hx hb dX6_cellsOfKind_0 (by decide) (ti_c 0 (by decide) fun z1 hz1 => ?_)
  refine lv_istore_n (lv' := [(2, .int z1), (0, .ref (B + 9)), (1, .int x)]) hx hb dX6_cellsOfKind_1 rfl hl (by decide) rfl (fun ls hl => ?_)
  refine lv_iconst (v := 0) hx hb dX6_cellsOfKind_2 (by decide) (ti_c 0 (by decide) fun z2 hz2 => ?_)
  refine lv_istore_n (lv' := [(3, .int z2), (2, .int z1), (0, .ref (B + 9)), (1, .int x)]) hx hb dX6_cellsOfKind_3 rfl hl (by decide) rfl (fun ls hl => ?_)
  have L4 : ∀ (n : Nat) (ls : Array Slot) (H : Heap) (locs : List Loc) (v3 : Int32), lv_has ls 4 [(3, .int v3), (2, .int z1), (0, .ref (B + 9)), (1, .int x)] → WD B D cA s.heap kd ig rg lg H locs → H.size = sz → (0 ≤ v3.toInt) → (v3.toInt ≤ 288) → 288 - v3.toInt < (n : Int) → W p l e (rL 0 0 0) s m args below meth c H locs 0 0 (MQ below (QcW B D cA (Pu kd ig rg lg sz (fun r => ∃ z : Int32, r = some (.int z) ∧ z.toInt = 0))) args s 0 0 (fun q => B ≤ q)) (F0 m 4 ls []) := by
    intro n
    induction n with
    | zero => intro ls H locs v3 hl hw hsz g4_0 g4_1 hmu; exact absurd hmu (by omega)
    | succ n ih =>
      intro ls H locs v3 hl hw hsz g4_0 g4_1 hmu
      refine lv_iload_n hx hb dX6_cellsOfKind_4 rfl (lv_at hl 0 rfl) ?_
      refine lv_sipush (v := 288) hx hb dX6_cellsOfKind_5 (by decide) (ti_c 288 (by decide) fun z4 hz4 => ?_)
      refine b_ge (tgt := 33) hx hb dX6_cellsOfKind_8 (by decide) (fun c8 => ?_) (fun c8 => ?_)
      · refine lv_iload_n hx hb dX6_cellsOfKind_33 rfl (lv_at hl 1 rfl) ?_
        exact r_iret C hw hr hlk rfl (Nat.le_of_ble_eq_true rfl) (Nat.le_of_ble_eq_true rfl) dX6_cellsOfKind_34 ⟨rfl, rfl, rfl, rfl, hsz, _, rfl, by omega⟩
      · refine lv_aload_n hx hb dX6_cellsOfKind_11 rfl (lv_at hl 2 rfl) ?_
        refine r_get C hw (hsh 9 _ rfl) fl_X6_20 (oV_r rfl (hrs (9, 1, 11) (by decide))) dX6_cellsOfKind_12 ?_
        refine lv_iload_n hx hb dX6_cellsOfKind_15 rfl (lv_at hl 0 rfl) ?_
        refine r_aald C hw (hsh 11 _ rfl) (by omega) (by omega) (by rw [hce _ (by omega)]) dX6_cellsOfKind_16 ?_
        refine r_get C hw (hsh 10 _ rfl) fl_X6_46 (oV_i rfl) dX6_cellsOfKind_17 (ti_c (ig (B + 10) 0).toInt rfl fun z5 hz5 => ?_)
        have k6 : (ig (B + 10) (0)).toInt = 0 := z0 (Fs.bi (0))
        refine lv_iload_n hx hb dX6_cellsOfKind_20 rfl (lv_at hl 3 rfl) ?_
        refine b_ne (tgt := 27) hx hb dX6_cellsOfKind_21 (by decide) (fun c21 => ?_) (fun c21 => ?_)
        · refine ti_inc hx hb dX6_cellsOfKind_27 hl (k := 0) rfl (by decide) (by decide) (by omega) (fun z7 hz7 ls hl => ?_)
          have hl : lv_has ls 4 [(3, .int z7), (2, .int z1), (0, .ref (B + 9)), (1, .int x)] := hl
          refine lv_goto (tgt := 4) hx hb dX6_cellsOfKind_30 (by decide) ?_
          exact ih ls H locs z7 (lv_sub hl [0, 1, 2, 3] rfl) hw hsz (by omega) (by omega) (by omega)
        · exact absurd c21 (by omega)
  exact L4 ((288 - z2.toInt) + 1).toNat ls s.heap [] z2 (lv_sub hl [0, 1, 2, 3] rfl) hw hsz (by omega) (by omega) (by omega)

set_option maxHeartbeats 4000000 in
set_option maxRecDepth 100000 in
theorem t_X6_replace (l : Launch) (B : Nat) (D : va_G) (cA : Nat → ClassId) (kd : sK) (ig : sI) (rg : sR) (lg : sG) (sz : Nat) (q nq : Nat) (x : Int32) (hq : kd q = some (0, nq)) (hv6 : (ig (B + 9) 6).toInt = 0) (hsh : Sh B kd) (hrs : Rs B rg) : MC l B D cA yX6_replace cX6_replace 3 none (rL 1 0 0) [.ref (B + 9), .int x, .ref q] kd ig rg lg sz (fun r kd' ig' rg' lg' n => kd = kd' ∧ Off B 9 15 rg' rg ∧ lg = lg' ∧ n = sz ∧ (r = none) ∧ Off B 9 15 ig' ig) := by
  refine MC.of (own := RX6) (by decide +kernel) rfl (Nat.le_of_ble_eq_true rfl) ?_
  intro p e s m args below meth c ls C hr hlk hnm hw hsz hl
  have hx := C.1.1
  have hb := C.1.2.1
  have hown := C.1.2.2.2.1
  have hts := C.1.2.2.2.2
  have hl : lv_has ls 3 [(0, .ref (B + 9)), (1, .int x), (2, .ref q)] := hl
  have oig : Off B 9 15 ig ig := Off.rf
  have org : Off B 9 15 rg rg := Off.rf
  refine lv_iload_n hx hb dX6_replace_0 rfl (lv_at hl 1 rfl) ?_
  refine r_callN (As := [.int x]) (rest := []) C hw (t_X11_onSheet l B D cA kd ig rg lg _ x) sn_X6_42 rfl hl.1 rfl (Nat.le_of_ble_eq_true rfl) ⟨Nat.le_of_ble_eq_true rfl, Nat.le_of_ble_eq_true rfl⟩ ⟨Nat.le_of_ble_eq_true rfl, Nat.le_of_ble_eq_true rfl⟩ dX6_replace_1 (fun r6 kd2 ig3 rg4 lg5 H locs hw hH hp7 => ?_)
  obtain ⟨rfl, rfl, rfl, rfl, hzz1, z1, rfl, hz1⟩ := hp7
  have hsz := hzz1.trans hsz
  refine z_eq (tgt := 24) hx hb dX6_replace_4 (by decide) (fun c4 => ?_) (fun c4 => ?_)
  · exact r_vret C hw hr hlk (Nat.le_of_ble_eq_true rfl) (Nat.le_of_ble_eq_true rfl) dX6_replace_24 ⟨rfl, org, rfl, hsz, rfl, oig⟩
  · refine lv_aload_n hx hb dX6_replace_7 rfl (lv_at hl 0 rfl) ?_
    refine r_get C hw (hsh 9 _ rfl) fl_X6_20 (oV_r rfl (hrs (9, 1, 11) (by decide))) dX6_replace_8 ?_
    refine lv_iload_n hx hb dX6_replace_11 rfl (lv_at hl 1 rfl) ?_
    refine lv_aload_n hx hb dX6_replace_12 rfl (lv_at hl 2 rfl) ?_
    refine r_aast C hw (hsh 11 _ rfl) hq (by omega) (by omega) dX6_replace_13 (fun H locs hH hw => ?_)
    obtain ⟨rg8, erg8⟩ : ∃ f, f = up2 rg (B + 11) x.toInt.toNat (some q) := ⟨_, rfl⟩
    rw [← erg8] at hw
    have hsz := hH.trans hsz
    have org : Off B 9 15 rg8 rg := fun a j h => by rw [erg8]; exact (up2_a (by omega)).trans (org a j h)
    refine lv_aload_n hx hb dX6_replace_14 rfl (lv_at hl 0 rfl) ?_
    refine lv_dup hx hb dX6_replace_15 rfl ?_
    refine r_get C hw (hsh 9 _ rfl) fl_X6_39 (oV_i rfl) dX6_replace_16 (ti_c (ig (B + 9) 6).toInt rfl fun z9 hz9 => ?_)
    refine lv_iconst (v := 1) hx hb dX6_replace_19 (by decide) (ti_c 1 (by decide) fun z10 hz10 => ?_)
    refine lv_iadd hx hb dX6_replace_20 (ti_add (by omega) fun z11 hz11 => ?_)
    refine r_puti C hw (hsh 9 _ rfl) fl_X6_39 rfl rfl rfl dX6_replace_21 (fun H locs hH hw => ?_)
    obtain ⟨ig12, eig12⟩ : ∃ f, f = up2 ig (B + 9) 6 z11 := ⟨_, rfl⟩
    rw [← eig12] at hw
    have hsz := hH.trans hsz
    have oig : Off B 9 15 ig12 ig := fun a j h => by rw [eig12]; exact (up2_a (by omega)).trans (oig a j h)
    exact r_vret C hw hr hlk (Nat.le_of_ble_eq_true rfl) (Nat.le_of_ble_eq_true rfl) dX6_replace_24 ⟨rfl, org, rfl, hsz, rfl, oig⟩

set_option maxHeartbeats 4000000 in
set_option maxRecDepth 100000 in
theorem t_X6_put (l : Launch) (B : Nat) (D : va_G) (cA : Nat → ClassId) (kd : sK) (ig : sI) (rg : sR) (lg : sG) (sz : Nat) (q nq : Nat) (x : Int32) (hq : kd q = some (0, nq)) (F : FS B kd ig rg) : MC l B D cA yX6_put cX6_put 3 none (rL 2 0 0) [.ref (B + 9), .int x, .ref q] kd ig rg lg sz (fun r kd' ig' rg' lg' n => kd = kd' ∧ Off B 9 15 rg' rg ∧ lg = lg' ∧ n = sz ∧ (r = none) ∧ Off B 9 15 ig' ig) := by
  refine MC.of (own := RX6) (by decide +kernel) rfl (Nat.le_of_ble_eq_true rfl) ?_
  intro p e s m args below meth c ls C hr hlk hnm hw hsz hl
  have hx := C.1.1
  have hb := C.1.2.1
  have hown := C.1.2.2.2.1
  have hts := C.1.2.2.2.2
  have hl : lv_has ls 3 [(0, .ref (B + 9)), (1, .int x), (2, .ref q)] := hl
  have Fs := F
  obtain ⟨hsh, hrs, hce, hbf, hbi, hsi, hke⟩ := F
  have oig : Off B 9 15 ig ig := Off.rf
  have org : Off B 9 15 rg rg := Off.rf
  refine lv_aload_n hx hb dX6_put_0 rfl (lv_at hl 0 rfl) ?_
  refine r_get C hw (hsh 9 _ rfl) fl_X6_35 (oV_i rfl) dX6_put_1 (ti_c (ig (B + 9) 5).toInt rfl fun z1 hz1 => ?_)
  have k2 : (ig (B + 9) 5).toInt = 0 := by exact z0 (Fs.si 5)
  refine lv_bipush (v := 20) hx hb dX6_put_4 (by decide) (ti_c 20 (by decide) fun z3 hz3 => ?_)
  refine b_lt (tgt := 13) hx hb dX6_put_6 (by decide) (fun c6 => ?_) (fun c6 => ?_)
  · refine lv_aload_n hx hb dX6_put_13 rfl (lv_at hl 0 rfl) ?_
    refine r_get C hw (hsh 9 _ rfl) fl_X6_28 (oV_r rfl (hrs (9, 3, 13) (by decide))) dX6_put_14 ?_
    refine lv_aload_n hx hb dX6_put_17 rfl (lv_at hl 0 rfl) ?_
    refine r_get C hw (hsh 9 _ rfl) fl_X6_35 (oV_i rfl) dX6_put_18 (ti_c (ig (B + 9) 5).toInt rfl fun z4 hz4 => ?_)
    have k5 : (ig (B + 9) 5).toInt = 0 := by exact z0 (Fs.si 5)
    refine lv_iload_n hx hb dX6_put_21 rfl (lv_at hl 1 rfl) ?_
    refine r_iast C hw (hsh 13 _ rfl) (by omega) (by omega) dX6_put_22 (fun H locs hH hw => ?_)
    obtain ⟨ig6, eig6⟩ : ∃ f, f = up2 ig (B + 13) z4.toInt.toNat x := ⟨_, rfl⟩
    rw [← eig6] at hw
    have hsz := hH.trans hsz
    have oig : Off B 9 15 ig6 ig := fun a j h => by rw [eig6]; exact (up2_a (by omega)).trans (oig a j h)
    refine lv_aload_n hx hb dX6_put_23 rfl (lv_at hl 0 rfl) ?_
    refine r_get C hw (hsh 9 _ rfl) fl_X6_32 (oV_r rfl (hrs (9, 4, 14) (by decide))) dX6_put_24 ?_
    refine lv_aload_n hx hb dX6_put_27 rfl (lv_at hl 0 rfl) ?_
    refine r_get C hw (hsh 9 _ rfl) fl_X6_35 (oV_i rfl) dX6_put_28 (ti_c (ig6 (B + 9) 5).toInt rfl fun z7 hz7 => ?_)
    have k8 : (ig6 (B + 9) 5).toInt = 0 := by rw [eig6, up2_a (by omega)]; exact z0 (Fs.si 5)
    refine lv_aload_n hx hb dX6_put_31 rfl (lv_at hl 0 rfl) ?_
    refine lv_iload_n hx hb dX6_put_32 rfl (lv_at hl 1 rfl) ?_
    refine r_callV (As := [.int x]) (rest := [.int z7, .ref (B + 14)]) C hw (t_X6_at l B D cA kd ig6 rg lg _ x (FS.of3 Fs (fun j => by rw [eig6, up2_a (by omega)]) (fun j => by rw [eig6, up2_a (by omega)]) (fun j => by rw [eig6, up2_a (by omega)]))) sv_X6_53 (hsh 9 _ rfl) rfl hl.1 rfl (Nat.le_of_ble_eq_true rfl) ⟨Nat.le_of_ble_eq_true rfl, Nat.le_of_ble_eq_true rfl⟩ ⟨Nat.le_of_ble_eq_true rfl, Nat.le_of_ble_eq_true rfl⟩ dX6_put_33 (fun r13 kd9 ig10 rg11 lg12 H locs hw hH hp14 => ?_)
    obtain ⟨rfl, rfl, rfl, rfl, hzhp14, rfl⟩ := hp14
    have hsz := hzhp14.trans hsz
    refine r_aast C hw (hsh 14 _ rfl) (hsh 10 _ rfl) (by omega) (by omega) dX6_put_36 (fun H locs hH hw => ?_)
    obtain ⟨rg15, erg15⟩ : ∃ f, f = up2 rg (B + 14) z7.toInt.toNat (some (B + 10)) := ⟨_, rfl⟩
    rw [← erg15] at hw
    have hsz := hH.trans hsz
    have org : Off B 9 15 rg15 rg := fun a j h => by rw [erg15]; exact (up2_a (by omega)).trans (org a j h)
    refine lv_aload_n hx hb dX6_put_37 rfl (lv_at hl 0 rfl) ?_
    refine lv_dup hx hb dX6_put_38 rfl ?_
    refine r_get C hw (hsh 9 _ rfl) fl_X6_35 (oV_i rfl) dX6_put_39 (ti_c (ig6 (B + 9) 5).toInt rfl fun z16 hz16 => ?_)
    have k17 : (ig6 (B + 9) 5).toInt = 0 := by rw [eig6, up2_a (by omega)]; exact z0 (Fs.si 5)
    refine lv_iconst (v := 1) hx hb dX6_put_42 (by decide) (ti_c 1 (by decide) fun z18 hz18 => ?_)
    refine lv_iadd hx hb dX6_put_43 (ti_add (by omega) fun z19 hz19 => ?_)
    refine r_puti C hw (hsh 9 _ rfl) fl_X6_35 rfl rfl rfl dX6_put_44 (fun H locs hH hw => ?_)
    obtain ⟨ig20, eig20⟩ : ∃ f, f = up2 ig6 (B + 9) 5 z19 := ⟨_, rfl⟩
    rw [← eig20] at hw
    have hsz := hH.trans hsz
    have oig : Off B 9 15 ig20 ig := fun a j h => by rw [eig20]; exact (up2_a (by omega)).trans (oig a j h)
    refine lv_aload_n hx hb dX6_put_47 rfl (lv_at hl 0 rfl) ?_
    refine lv_iload_n hx hb dX6_put_48 rfl (lv_at hl 1 rfl) ?_
    refine lv_aload_n hx hb dX6_put_49 rfl (lv_at hl 2 rfl) ?_
    refine r_callV (As := [.int x, .ref q]) (rest := []) C hw (t_X6_replace l B D cA kd ig20 rg15 lg _ q _ x hq (by rw [eig20, up2_j (by decide), eig6, up2_a (by omega)]; exact z0 (Fs.si 6)) hsh (by rw [erg15]; exact Rs.up hrs (by decide))) sv_X6_67 (hsh 9 _ rfl) rfl hl.1 rfl (Nat.le_of_ble_eq_true rfl) ⟨Nat.le_of_ble_eq_true rfl, Nat.le_of_ble_eq_true rfl⟩ ⟨Nat.le_of_ble_eq_true rfl, Nat.le_of_ble_eq_true rfl⟩ dX6_put_50 (fun r26 kd22 ig23 rg24 lg25 H locs hw hH hp27 => ?_)
    obtain ⟨rfl, ra21, rfl, hq21, rfl, oa21⟩ := hp27
    have hsz := hq21.trans hsz
    have oig := Off.tr (lo := 9) (hi := 15) oa21 oig (by decide) (by decide)
    have org := Off.tr (lo := 9) (hi := 15) ra21 org (by decide) (by decide)
    exact r_vret C hw hr hlk (Nat.le_of_ble_eq_true rfl) (Nat.le_of_ble_eq_true rfl) dX6_put_53 ⟨rfl, org, rfl, hsz, rfl, oig⟩
  · exact absurd c6 (by omega)

set_option maxHeartbeats 4000000 in
set_option maxRecDepth 100000 in
theorem t_J13_bitCount_95d88 (l : Launch) (B : Nat) (D : va_G) (cA : Nat → ClassId) (kd : sK) (ig : sI) (rg : sR) (lg : sG) (sz : Nat) (x : Int64) (hx0 : x = 0) : MC l B D cA yJ13_bitCount_95d88 cJ13_bitCount_95d88 2 (some .int) (rL 0 0 0) [.long x] kd ig rg lg sz (Pu kd ig rg lg sz (fun r => ∃ z : Int32, r = some (.int z) ∧ z.toInt = 0)) := by
  refine MC.of (own := RJ13) (by decide +kernel) rfl (Nat.le_of_ble_eq_true rfl) ?_
  intro p e s m args below meth c ls C hr hlk hnm hw hsz hl
  have hx := C.1.1
  have hb := C.1.2.1
  have hown := C.1.2.2.2.1
  have hts := C.1.2.2.2.2
  have hl : lv_has ls 2 [(0, .long x)] := hl
  refine lv_lload_n hx hb dJ13_bitCount_95d88_0 rfl (lv_at hl 0 rfl) ?_
  refine lv_lload_n hx hb dJ13_bitCount_95d88_1 rfl (lv_at hl 0 rfl) ?_
  refine lv_iconst (v := 1) hx hb dJ13_bitCount_95d88_2 (by decide) (ti_c 1 (by decide) fun z1 hz1 => ?_)
  refine lv_lushr hx hb dJ13_bitCount_95d88_3 rfl (lv_topl fun x2 hx2 => ?_)
  refine lv_ldc2 (v := 6148914691236517205) hx hb hown (hts _ kl_J13_314) dJ13_bitCount_95d88_4 (lv_topl fun x3 hx3 => ?_)
  refine lv_land hx hb dJ13_bitCount_95d88_7 (lv_topl fun x4 hx4 => ?_)
  refine lv_lsub hx hb dJ13_bitCount_95d88_8 (lv_topl fun x5 hx5 => ?_)
  refine lv_lstore_n (lv' := [(0, .long x5)]) hx hb dJ13_bitCount_95d88_9 rfl hl (by decide) rfl (fun ls hl => ?_)
  refine lv_lload_n hx hb dJ13_bitCount_95d88_10 rfl (lv_at hl 0 rfl) ?_
  refine lv_ldc2 (v := 3689348814741910323) hx hb hown (hts _ kl_J13_316) dJ13_bitCount_95d88_11 (lv_topl fun x6 hx6 => ?_)
  refine lv_land hx hb dJ13_bitCount_95d88_14 (lv_topl fun x7 hx7 => ?_)
  refine lv_lload_n hx hb dJ13_bitCount_95d88_15 rfl (lv_at hl 0 rfl) ?_
  refine lv_iconst (v := 2) hx hb dJ13_bitCount_95d88_16 (by decide) (ti_c 2 (by decide) fun z8 hz8 => ?_)
  refine lv_lushr hx hb dJ13_bitCount_95d88_17 rfl (lv_topl fun x9 hx9 => ?_)
  refine lv_ldc2 (v := 3689348814741910323) hx hb hown (hts _ kl_J13_316) dJ13_bitCount_95d88_18 (lv_topl fun x10 hx10 => ?_)
  refine lv_land hx hb dJ13_bitCount_95d88_21 (lv_topl fun x11 hx11 => ?_)
  refine lv_ladd hx hb dJ13_bitCount_95d88_22 (lv_topl fun x12 hx12 => ?_)
  refine lv_lstore_n (lv' := [(0, .long x12)]) hx hb dJ13_bitCount_95d88_23 rfl hl (by decide) rfl (fun ls hl => ?_)
  refine lv_lload_n hx hb dJ13_bitCount_95d88_24 rfl (lv_at hl 0 rfl) ?_
  refine lv_lload_n hx hb dJ13_bitCount_95d88_25 rfl (lv_at hl 0 rfl) ?_
  refine lv_iconst (v := 4) hx hb dJ13_bitCount_95d88_26 (by decide) (ti_c 4 (by decide) fun z13 hz13 => ?_)
  refine lv_lushr hx hb dJ13_bitCount_95d88_27 rfl (lv_topl fun x14 hx14 => ?_)
  refine lv_ladd hx hb dJ13_bitCount_95d88_28 (lv_topl fun x15 hx15 => ?_)
  refine lv_ldc2 (v := 1085102592571150095) hx hb hown (hts _ kl_J13_318) dJ13_bitCount_95d88_29 (lv_topl fun x16 hx16 => ?_)
  refine lv_land hx hb dJ13_bitCount_95d88_32 (lv_topl fun x17 hx17 => ?_)
  refine lv_lstore_n (lv' := [(0, .long x17)]) hx hb dJ13_bitCount_95d88_33 rfl hl (by decide) rfl (fun ls hl => ?_)
  refine lv_lload_n hx hb dJ13_bitCount_95d88_34 rfl (lv_at hl 0 rfl) ?_
  refine lv_lload_n hx hb dJ13_bitCount_95d88_35 rfl (lv_at hl 0 rfl) ?_
  refine lv_bipush (v := 8) hx hb dJ13_bitCount_95d88_36 (by decide) (ti_c 8 (by decide) fun z18 hz18 => ?_)
  refine lv_lushr hx hb dJ13_bitCount_95d88_38 rfl (lv_topl fun x19 hx19 => ?_)
  refine lv_ladd hx hb dJ13_bitCount_95d88_39 (lv_topl fun x20 hx20 => ?_)
  refine lv_lstore_n (lv' := [(0, .long x20)]) hx hb dJ13_bitCount_95d88_40 rfl hl (by decide) rfl (fun ls hl => ?_)
  refine lv_lload_n hx hb dJ13_bitCount_95d88_41 rfl (lv_at hl 0 rfl) ?_
  refine lv_lload_n hx hb dJ13_bitCount_95d88_42 rfl (lv_at hl 0 rfl) ?_
  refine lv_bipush (v := 16) hx hb dJ13_bitCount_95d88_43 (by decide) (ti_c 16 (by decide) fun z21 hz21 => ?_)
  refine lv_lushr hx hb dJ13_bitCount_95d88_45 rfl (lv_topl fun x22 hx22 => ?_)
  refine lv_ladd hx hb dJ13_bitCount_95d88_46 (lv_topl fun x23 hx23 => ?_)
  refine lv_lstore_n (lv' := [(0, .long x23)]) hx hb dJ13_bitCount_95d88_47 rfl hl (by decide) rfl (fun ls hl => ?_)
  refine lv_lload_n hx hb dJ13_bitCount_95d88_48 rfl (lv_at hl 0 rfl) ?_
  refine lv_lload_n hx hb dJ13_bitCount_95d88_49 rfl (lv_at hl 0 rfl) ?_
  refine lv_bipush (v := 32) hx hb dJ13_bitCount_95d88_50 (by decide) (ti_c 32 (by decide) fun z24 hz24 => ?_)
  refine lv_lushr hx hb dJ13_bitCount_95d88_52 rfl (lv_topl fun x25 hx25 => ?_)
  refine lv_ladd hx hb dJ13_bitCount_95d88_53 (lv_topl fun x26 hx26 => ?_)
  refine lv_lstore_n (lv' := [(0, .long x26)]) hx hb dJ13_bitCount_95d88_54 rfl hl (by decide) rfl (fun ls hl => ?_)
  refine lv_lload_n hx hb dJ13_bitCount_95d88_55 rfl (lv_at hl 0 rfl) ?_
  refine lv_l2i hx hb dJ13_bitCount_95d88_56 rfl (lv_topi fun z27 hz27 => ?_)
  refine lv_bipush (v := 127) hx hb dJ13_bitCount_95d88_57 (by decide) (ti_c 127 (by decide) fun z28 hz28 => ?_)
  refine lv_iand hx hb dJ13_bitCount_95d88_59 (lv_topi fun z29 hz29 => ?_)
  have a2 : x2 = 0 := by rw [hx2, hx0]; exact l_ush0 _
  have a4 : x4 = 0 := by simp [hx4, a2]
  have a5 : x5 = 0 := by simp [hx5, hx0, a4]
  have a7 : x7 = 0 := by simp [hx7, a5]
  have a9 : x9 = 0 := by rw [hx9, a5]; exact l_ush0 _
  have a11 : x11 = 0 := by simp [hx11, a9]
  have a12 : x12 = 0 := by simp [hx12, a7, a11]
  have a14 : x14 = 0 := by rw [hx14, a12]; exact l_ush0 _
  have a15 : x15 = 0 := by simp [hx15, a12, a14]
  have a17 : x17 = 0 := by simp [hx17, a15]
  have a19 : x19 = 0 := by rw [hx19, a17]; exact l_ush0 _
  have a20 : x20 = 0 := by simp [hx20, a17, a19]
  have a22 : x22 = 0 := by rw [hx22, a20]; exact l_ush0 _
  have a23 : x23 = 0 := by simp [hx23, a20, a22]
  have a25 : x25 = 0 := by rw [hx25, a23]; exact l_ush0 _
  have a26 : x26 = 0 := by simp [hx26, a23, a25]
  have a27 : z27 = 0 := by rw [hz27, a26]; rfl
  have a29 : z29 = 0 := by simp [hz29, a27]
  exact r_iret C hw hr hlk rfl (Nat.le_of_ble_eq_true rfl) (Nat.le_of_ble_eq_true rfl) dJ13_bitCount_95d88_60 ⟨rfl, rfl, rfl, rfl, hsz, _, rfl, z0 a29⟩

set_option maxHeartbeats 4000000 in
set_option maxRecDepth 100000 in
theorem t_X5_cellsReadBy (l : Launch) (B : Nat) (D : va_G) (cA : Nat → ClassId) (kd : sK) (ig : sI) (rg : sR) (lg : sG) (sz : Nat) (x : Int32) (hsh : Sh B kd) (hrs : Rs B rg) (hrd : ∀ j, lg (B + 18) j = 0) : MC l B D cA yX5_cellsReadBy cX5_cellsReadBy 4 (some .int) (rL 1 0 0) [.ref (B + 15), .int x] kd ig rg lg sz (Pu kd ig rg lg sz (fun r => ∃ z : Int32, r = some (.int z) ∧ z.toInt = 0)) := by
  refine MC.of (own := RX5) (by decide +kernel) rfl (Nat.le_of_ble_eq_true rfl) ?_
  intro p e s m args below meth c ls C hr hlk hnm hw hsz hl
  have hx := C.1.1
  have hb := C.1.2.1
  have hown := C.1.2.2.2.1
  have hts := C.1.2.2.2.2
  have hl : lv_has ls 4 [(0, .ref (B + 15)), (1, .int x)] := hl
  refine lv_iconst (v := 0) hx hb dX5_cellsReadBy_0 (by decide) (ti_c 0 (by decide) fun z1 hz1 => ?_)
  refine lv_istore_n (lv' := [(2, .int z1), (0, .ref (B + 15)), (1, .int x)]) hx hb dX5_cellsReadBy_1 rfl hl (by decide) rfl (fun ls hl => ?_)
  refine lv_iload_n hx hb dX5_cellsReadBy_2 rfl (lv_at hl 2 rfl) ?_
  refine r_callN (As := [.int x]) (rest := []) C hw (t_X11_onSheet l B D cA kd ig rg lg _ x) sn_X5_75 rfl hl.1 rfl (Nat.le_of_ble_eq_true rfl) ⟨Nat.le_of_ble_eq_true rfl, Nat.le_of_ble_eq_true rfl⟩ ⟨Nat.le_of_ble_eq_true rfl, Nat.le_of_ble_eq_true rfl⟩ dX5_cellsReadBy_3 (fun r7 kd3 ig4 rg5 lg6 H locs hw hH hp8 => ?_)
  obtain ⟨rfl, rfl, rfl, rfl, hzz2, z2, rfl, hz2⟩ := hp8
  have hsz := hzz2.trans hsz
  have J38 : ∀ (ls : Array Slot) (H : Heap) (locs : List Loc) (v9 : Int32), lv_has ls 4 [(2, .int v9)] → WD B D cA s.heap kd ig rg lg H locs → H.size = sz → (v9.toInt = 0) → W p l e (rL 1 0 0) s m args below meth c H locs 0 0 (MQ below (QcW B D cA (Pu kd ig rg lg sz (fun r => ∃ z : Int32, r = some (.int z) ∧ z.toInt = 0))) args s 0 0 (fun q => B ≤ q)) (F0 m 38 ls []) := by
    intro ls H locs v9 hl hw hsz g38_0
    refine lv_iload_n hx hb dX5_cellsReadBy_38 rfl (lv_at hl 0 rfl) ?_
    exact r_iret C hw hr hlk rfl (Nat.le_of_ble_eq_true rfl) (Nat.le_of_ble_eq_true rfl) dX5_cellsReadBy_39 ⟨rfl, rfl, rfl, rfl, hsz, _, rfl, by omega⟩
  refine z_eq (tgt := 38) hx hb dX5_cellsReadBy_6 (by decide) (fun c6 => ?_) (fun c6 => ?_)
  · exact J38 ls H locs z1 (lv_sub hl [0] rfl) hw hsz (by omega)
  · refine lv_iconst (v := 0) hx hb dX5_cellsReadBy_9 (by decide) (ti_c 0 (by decide) fun z10 hz10 => ?_)
    refine lv_istore_n (lv' := [(3, .int z10), (2, .int z1), (0, .ref (B + 15)), (1, .int x)]) hx hb dX5_cellsReadBy_10 rfl hl (by decide) rfl (fun ls hl => ?_)
    have L11 : ∀ (n : Nat) (ls : Array Slot) (H : Heap) (locs : List Loc) (v11 : Int32) (v12 : Int32), lv_has ls 4 [(3, .int v11), (2, .int v12), (0, .ref (B + 15)), (1, .int x)] → WD B D cA s.heap kd ig rg lg H locs → H.size = sz → (0 ≤ v11.toInt) → (v11.toInt ≤ 5) → (v12.toInt = 0) → 5 - v11.toInt < (n : Int) → W p l e (rL 1 0 0) s m args below meth c H locs 0 0 (MQ below (QcW B D cA (Pu kd ig rg lg sz (fun r => ∃ z : Int32, r = some (.int z) ∧ z.toInt = 0))) args s 0 0 (fun q => B ≤ q)) (F0 m 11 ls []) := by
      intro n
      induction n with
      | zero => intro ls H locs v11 v12 hl hw hsz g11_0 g11_1 g11_2 hmu; exact absurd hmu (by omega)
      | succ n ih =>
        intro ls H locs v11 v12 hl hw hsz g11_0 g11_1 g11_2 hmu
        refine lv_iload_n hx hb dX5_cellsReadBy_11 rfl (lv_at hl 0 rfl) ?_
        refine lv_iconst (v := 5) hx hb dX5_cellsReadBy_12 (by decide) (ti_c 5 (by decide) fun z13 hz13 => ?_)
        refine b_ge (tgt := 38) hx hb dX5_cellsReadBy_13 (by decide) (fun c13 => ?_) (fun c13 => ?_)
        · exact J38 ls H locs v12 (lv_sub hl [1] rfl) hw hsz (by omega)
        · refine lv_iload_n hx hb dX5_cellsReadBy_16 rfl (lv_at hl 1 rfl) ?_
          refine lv_aload_n hx hb dX5_cellsReadBy_17 rfl (lv_at hl 2 rfl) ?_
          refine r_get C hw (hsh 15 _ rfl) fl_X5_23 (oV_r rfl (hrs (15, 4, 18) (by decide))) dX5_cellsReadBy_18 ?_
          refine lv_iload_n hx hb dX5_cellsReadBy_21 rfl (lv_at hl 3 rfl) ?_
          refine lv_iconst (v := 5) hx hb dX5_cellsReadBy_22 (by decide) (ti_c 5 (by decide) fun z14 hz14 => ?_)
          refine lv_imul hx hb dX5_cellsReadBy_23 (ti_mulR 5 hz14 (by omega) fun z15 hz15 => ?_)
          refine lv_iload_n hx hb dX5_cellsReadBy_24 rfl (lv_at hl 0 rfl) ?_
          refine lv_iadd hx hb dX5_cellsReadBy_25 (ti_add (by omega) fun z16 hz16 => ?_)
          refine r_lald C hw (hsh 18 _ rfl) (by omega) (by omega) dX5_cellsReadBy_26 (lv_topl fun x17 hx17 => ?_)
          have klast := hrd (z16.toInt.toNat)
          refine r_callS (As := [.long x17]) (rest := [.int v12]) C hw (t_J13_bitCount_95d88 l B D cA kd ig rg lg _ x17 (hx17.trans klast)) ss_X5_79 rfl hl.1 rfl (Nat.le_of_ble_eq_true rfl) ⟨Nat.le_of_ble_eq_true rfl, Nat.le_of_ble_eq_true rfl⟩ ⟨Nat.le_of_ble_eq_true rfl, Nat.le_of_ble_eq_true rfl⟩ dX5_cellsReadBy_27 (fun r23 kd19 ig20 rg21 lg22 H locs hw hH hp24 => ?_)
          obtain ⟨rfl, rfl, rfl, rfl, hzz18, z18, rfl, hz18⟩ := hp24
          have hsz := hzz18.trans hsz
          refine lv_iadd hx hb dX5_cellsReadBy_30 (ti_add (by omega) fun z25 hz25 => ?_)
          refine lv_istore_n (lv' := [(2, .int z25), (3, .int v11), (0, .ref (B + 15)), (1, .int x)]) hx hb dX5_cellsReadBy_31 rfl hl (by decide) rfl (fun ls hl => ?_)
          refine ti_inc hx hb dX5_cellsReadBy_32 hl (k := 1) rfl (by decide) (by decide) (by omega) (fun z26 hz26 ls hl => ?_)
          have hl : lv_has ls 4 [(3, .int z26), (2, .int z25), (0, .ref (B + 15)), (1, .int x)] := hl
          refine lv_goto (tgt := 11) hx hb dX5_cellsReadBy_35 (by decide) ?_
          exact ih ls H locs z26 z25 (lv_sub hl [0, 1, 2, 3] rfl) hw hsz (by omega) (by omega) (by omega) (by omega)
    exact L11 ((5 - z10.toInt) + 1).toNat ls H locs z10 z1 (lv_sub hl [0, 1, 2, 3] rfl) hw hsz (by omega) (by omega) (by omega) (by omega)

set_option maxHeartbeats 4000000 in
set_option maxRecDepth 100000 in
theorem t_X5_readersOf (l : Launch) (B : Nat) (D : va_G) (cA : Nat → ClassId) (kd : sK) (ig : sI) (rg : sR) (lg : sG) (sz : Nat) (x : Int32) (hsh : Sh B kd) (hrs : Rs B rg) (hfc : ig (B + 15) 2 = 0) : MC l B D cA yX5_readersOf cX5_readersOf 4 (some .int) (rL 0 0 0) [.ref (B + 15), .int x] kd ig rg lg sz (Pu kd ig rg lg sz (fun r => ∃ z : Int32, r = some (.int z) ∧ z.toInt = 0)) := by
  refine MC.of (own := RX5) (by decide +kernel) rfl (Nat.le_of_ble_eq_true rfl) ?_
  intro p e s m args below meth c ls C hr hlk hnm hw hsz hl
  have hx := C.1.1
  have hb := C.1.2.1
  have hown := C.1.2.2.2.1
  have hts := C.1.2.2.2.2
  have hl : lv_has ls 4 [(0, .ref (B + 15)), (1, .int x)] := hl
  refine lv_iconst (v := 0) hx hb dX5_readersOf_0 (by decide) (ti_c 0 (by decide) fun z1 hz1 => ?_)
  refine lv_istore_n (lv' := [(2, .int z1), (0, .ref (B + 15)), (1, .int x)]) hx hb dX5_readersOf_1 rfl hl (by decide) rfl (fun ls hl => ?_)
  refine lv_iconst (v := 0) hx hb dX5_readersOf_2 (by decide) (ti_c 0 (by decide) fun z2 hz2 => ?_)
  refine lv_istore_n (lv' := [(3, .int z2), (2, .int z1), (0, .ref (B + 15)), (1, .int x)]) hx hb dX5_readersOf_3 rfl hl (by decide) rfl (fun ls hl => ?_)
  refine lv_iload_n hx hb dX5_readersOf_4 rfl (lv_at hl 0 rfl) ?_
  refine lv_aload_n hx hb dX5_readersOf_5 rfl (lv_at hl 2 rfl) ?_
  refine r_get C hw (hsh 15 _ rfl) fl_X5_58 (oV_i rfl) dX5_readersOf_6 (ti_c (ig (B + 15) 2).toInt rfl fun z3 hz3 => ?_)
  have k4 : (ig (B + 15) (2)).toInt = 0 := by exact z0 (hfc)
  refine b_ge (tgt := 38) hx hb dX5_readersOf_9 (by decide) (fun c9 => ?_) (fun c9 => ?_)
  · refine lv_iload_n hx hb dX5_readersOf_38 rfl (lv_at hl 1 rfl) ?_
    exact r_iret C hw hr hlk rfl (Nat.le_of_ble_eq_true rfl) (Nat.le_of_ble_eq_true rfl) dX5_readersOf_39 ⟨rfl, rfl, rfl, rfl, hsz, _, rfl, by omega⟩
  · exact absurd c9 (by omega)
