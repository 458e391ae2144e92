/-- the fresh sheet: all cells are the blank one; nothing is kept -/
def FS (B : Nat) (kd : sK) (ig : sI) (rg : sR) : Prop := Sh B kd ∧ Rs B rg ∧ (∀ j, j < 288 → rg (B + 11) j = some (B + 10)) ∧ rg (B + 10) 2 = none ∧ (∀ j, ig (B + 10) j = 0) ∧ (∀ j, ig (B + 9) j = 0) ∧ (∀ j, ig (B + 12) j = 0)
theorem z0 {x : Int32} (h : x = 0) : x.toInt = 0 := by rw [h]; rfl
theorem zm1 {x : Int32} (h : x = -1) : x.toInt = -1 := by rw [h]; rfl
theorem FS.off {B : Nat} {kd : sK} {ig ig' : sI} {rg : sR} {lo hi : Nat} (h : FS B kd ig rg) (ho : Off B lo hi ig' ig) (hl : 15 ≤ lo) : FS B kd ig' rg := by
  obtain ⟨h1, h2, h3, h4, h5, h6, h7⟩ := h
  exact ⟨h1, h2, h3, h4, fun j => (ho _ j (by omega)).trans (h5 j), fun j => (ho _ j (by omega)).trans (h6 j), fun j => (ho _ j (by omega)).trans (h7 j)⟩
theorem FS.bi {B : Nat} {kd : sK} {ig : sI} {rg : sR} (h : FS B kd ig rg) : ∀ j, ig (B + 10) j = 0 := h.2.2.2.2.1
theorem FS.si {B : Nat} {kd : sK} {ig : sI} {rg : sR} (h : FS B kd ig rg) : ∀ j, ig (B + 9) j = 0 := h.2.2.2.2.2.1
theorem FS.ke {B : Nat} {kd : sK} {ig : sI} {rg : sR} (h : FS B kd ig rg) : ∀ j, ig (B + 12) j = 0 := h.2.2.2.2.2.2

set_option maxHeartbeats 4000000 in
set_option maxRecDepth 100000 in
theorem t_X11_onSheet (l : Launch) (B : Nat) (D : va_G) (cA : Nat → ClassId) (kd : sK) (ig : sI) (rg : sR) (lg : sG) (sz : Nat) (x : Int32) : MC l B D cA yX11_onSheet cX11_onSheet 1 (some .boolean) (rL 0 0 0) [.int x] kd ig rg lg sz (Pu kd ig rg lg sz (fun r => ∃ z : Int32, r = some (.int z) ∧ ((0 ≤ x.toInt ∧ x.toInt < 288) → z.toInt = 1) ∧ (¬ (0 ≤ x.toInt ∧ x.toInt < 288) → z.toInt = 0))) := by
  refine MC.of (own := RX11) (by decide +kernel) rfl (Nat.le_of_ble_eq_true rfl) ?_
  intro p e s m args below meth c ls C hr hlk hnm hw hsz hl
  have hx := C.1.1
  have hb := C.1.2.1
  have hown := C.1.2.2.2.1
  have hts := C.1.2.2.2.2
  have hl : lv_has ls 1 [(0, .int x)] := hl
  refine lv_iload_n hx hb dX11_onSheet_0 rfl (lv_at hl 0 rfl) ?_
  refine z_lt (tgt := 15) hx hb dX11_onSheet_1 (by decide) (fun c1 => ?_) (fun c1 => ?_)
  · refine lv_iconst (v := 0) hx hb dX11_onSheet_15 (by decide) (ti_c 0 (by decide) fun z1 hz1 => ?_)
    exact r_iret C hw hr hlk (nar_b (by omega)) (Nat.le_of_ble_eq_true rfl) (Nat.le_of_ble_eq_true rfl) dX11_onSheet_16 ⟨rfl, rfl, rfl, rfl, hsz, _, rfl, by omega⟩
  · refine lv_iload_n hx hb dX11_onSheet_4 rfl (lv_at hl 0 rfl) ?_
    refine lv_sipush (v := 288) hx hb dX11_onSheet_5 (by decide) (ti_c 288 (by decide) fun z2 hz2 => ?_)
    refine b_ge (tgt := 15) hx hb dX11_onSheet_8 (by decide) (fun c8 => ?_) (fun c8 => ?_)
    · refine lv_iconst (v := 0) hx hb dX11_onSheet_15 (by decide) (ti_c 0 (by decide) fun z3 hz3 => ?_)
      exact r_iret C hw hr hlk (nar_b (by omega)) (Nat.le_of_ble_eq_true rfl) (Nat.le_of_ble_eq_true rfl) dX11_onSheet_16 ⟨rfl, rfl, rfl, rfl, hsz, _, rfl, by omega⟩
    · refine lv_iconst (v := 1) hx hb dX11_onSheet_11 (by decide) (ti_c 1 (by decide) fun z4 hz4 => ?_)
      refine lv_goto (tgt := 16) hx hb dX11_onSheet_12 (by decide) ?_
      exact r_iret C hw hr hlk (nar_b (by omega)) (Nat.le_of_ble_eq_true rfl) (Nat.le_of_ble_eq_true rfl) dX11_onSheet_16 ⟨rfl, rfl, rfl, rfl, hsz, _, rfl, by omega⟩

set_option maxHeartbeats 4000000 in
set_option maxRecDepth 100000 in
theorem t_X6_at (l : Launch) (B : Nat) (D : va_G) (cA : Nat → ClassId) (kd : sK) (ig : sI) (rg : sR) (lg : sG) (sz : Nat) (x : Int32) (F : FS B kd ig rg) : MC l B D cA yX6_at cX6_at 2 (some (.object "SheetDoctor$Cell")) (rL 1 0 0) [.ref (B + 9), .int x] kd ig rg lg sz (Pu kd ig rg lg sz (fun r => r = some (.ref (B + 10)))) := by
  refine MC.of (own := RX6) (by decide +kernel) rfl (Nat.le_of_ble_eq_true rfl) ?_
  intro p e s m args below meth c ls C hr hlk hnm hw hsz hl
  have hx := C.1.1
  have hb := C.1.2.1
  have hown := C.1.2.2.2.1
  have hts := C.1.2.2.2.2
  have hl : lv_has ls 2 [(0, .ref (B + 9)), (1, .int x)] := hl
  have Fs := F
  obtain ⟨hsh, hrs, hce, hbf, hbi, hsi, hke⟩ := F
  refine lv_iload_n hx hb dX6_at_0 rfl (lv_at hl 1 rfl) ?_
  refine r_callN (As := [.int x]) (rest := []) C hw (t_X11_onSheet l B D cA kd ig rg lg _ x) sn_X6_42 rfl hl.1 rfl (Nat.le_of_ble_eq_true rfl) ⟨Nat.le_of_ble_eq_true rfl, Nat.le_of_ble_eq_true rfl⟩ ⟨Nat.le_of_ble_eq_true rfl, Nat.le_of_ble_eq_true rfl⟩ dX6_at_1 (fun r6 kd2 ig3 rg4 lg5 H locs hw hH hp7 => ?_)
  obtain ⟨rfl, rfl, rfl, rfl, hzz1, z1, rfl, hz1⟩ := hp7
  have hsz := hzz1.trans hsz
  refine z_eq (tgt := 16) hx hb dX6_at_4 (by decide) (fun c4 => ?_) (fun c4 => ?_)
  · refine lv_aload_n hx hb dX6_at_16 rfl (lv_at hl 0 rfl) ?_
    refine r_get C hw (hsh 9 _ rfl) fl_X6_14 (oV_r rfl (hrs (9, 0, 10) (by decide))) dX6_at_17 ?_
    exact r_aret C hw hr hlk (Or.inr ⟨_, rfl⟩) (Nat.le_of_ble_eq_true rfl) (Nat.le_of_ble_eq_true rfl) dX6_at_20 ⟨rfl, rfl, rfl, rfl, hsz, rfl⟩
  · refine lv_aload_n hx hb dX6_at_7 rfl (lv_at hl 0 rfl) ?_
    refine r_get C hw (hsh 9 _ rfl) fl_X6_20 (oV_r rfl (hrs (9, 1, 11) (by decide))) dX6_at_8 ?_
    refine lv_iload_n hx hb dX6_at_11 rfl (lv_at hl 1 rfl) ?_
    refine r_aald C hw (hsh 11 _ rfl) (by omega) (by omega) (by rw [hce _ (by omega)]) dX6_at_12 ?_
    refine lv_goto (tgt := 20) hx hb dX6_at_13 (by decide) ?_
    exact r_aret C hw hr hlk (Or.inr ⟨_, rfl⟩) (Nat.le_of_ble_eq_true rfl) (Nat.le_of_ble_eq_true rfl) dX6_at_20 ⟨rfl, rfl, rfl, rfl, hsz, rfl⟩

set_option maxHeartbeats 4000000 in
set_option maxRecDepth 100000 in
theorem t_X6_kindAt (l : Launch) (B : Nat) (D : va_G) (cA : Nat → ClassId) (kd : sK) (ig : sI) (rg : sR) (lg : sG) (sz : Nat) (x : Int32) (F : FS B kd ig rg) : MC l B D cA yX6_kindAt cX6_kindAt 2 (some .int) (rL 1 0 0) [.ref (B + 9), .int x] kd ig rg lg sz (Pu kd ig rg lg sz (fun r => ∃ z : Int32, r = some (.int z) ∧ z.toInt = 0)) := by
  refine MC.of (own := RX6) (by decide +kernel) rfl (Nat.le_of_ble_eq_true rfl) ?_
  intro p e s m args below meth c ls C hr hlk hnm hw hsz hl
  have hx := C.1.1
  have hb := C.1.2.1
  have hown := C.1.2.2.2.1
  have hts := C.1.2.2.2.2
  have hl : lv_has ls 2 [(0, .ref (B + 9)), (1, .int x)] := hl
  have Fs := F
  obtain ⟨hsh, hrs, hce, hbf, hbi, hsi, hke⟩ := F
  refine lv_iload_n hx hb dX6_kindAt_0 rfl (lv_at hl 1 rfl) ?_
  refine r_callN (As := [.int x]) (rest := []) C hw (t_X11_onSheet l B D cA kd ig rg lg _ x) sn_X6_42 rfl hl.1 rfl (Nat.le_of_ble_eq_true rfl) ⟨Nat.le_of_ble_eq_true rfl, Nat.le_of_ble_eq_true rfl⟩ ⟨Nat.le_of_ble_eq_true rfl, Nat.le_of_ble_eq_true rfl⟩ dX6_kindAt_1 (fun r6 kd2 ig3 rg4 lg5 H locs hw hH hp7 => ?_)
  obtain ⟨rfl, rfl, rfl, rfl, hzz1, z1, rfl, hz1⟩ := hp7
  have hsz := hzz1.trans hsz
  refine z_eq (tgt := 19) hx hb dX6_kindAt_4 (by decide) (fun c4 => ?_) (fun c4 => ?_)
  · refine lv_iconst (v := 0) hx hb dX6_kindAt_19 (by decide) (ti_c 0 (by decide) fun z8 hz8 => ?_)
    exact r_iret C hw hr hlk rfl (Nat.le_of_ble_eq_true rfl) (Nat.le_of_ble_eq_true rfl) dX6_kindAt_20 ⟨rfl, rfl, rfl, rfl, hsz, _, rfl, by omega⟩
  · refine lv_aload_n hx hb dX6_kindAt_7 rfl (lv_at hl 0 rfl) ?_
    refine r_get C hw (hsh 9 _ rfl) fl_X6_20 (oV_r rfl (hrs (9, 1, 11) (by decide))) dX6_kindAt_8 ?_
    refine lv_iload_n hx hb dX6_kindAt_11 rfl (lv_at hl 1 rfl) ?_
    refine r_aald C hw (hsh 11 _ rfl) (by omega) (by omega) (by rw [hce _ (by omega)]) dX6_kindAt_12 ?_
    refine r_get C hw (hsh 10 _ rfl) fl_X6_46 (oV_i rfl) dX6_kindAt_13 (ti_c (ig (B + 10) 0).toInt rfl fun z9 hz9 => ?_)
    have k10 : (ig (B + 10) (0)).toInt = 0 := z0 (Fs.bi (0))
    refine lv_goto (tgt := 20) hx hb dX6_kindAt_16 (by decide) ?_
    exact r_iret C hw hr hlk rfl (Nat.le_of_ble_eq_true rfl) (Nat.le_of_ble_eq_true rfl) dX6_kindAt_20 ⟨rfl, rfl, rfl, rfl, hsz, _, rfl, by omega⟩

set_option maxHeartbeats 4000000 in
set_option maxRecDepth 100000 in
theorem t_X6_formulaAt (l : Launch) (B : Nat) (D : va_G) (cA : Nat → ClassId) (kd : sK) (ig : sI) (rg : sR) (lg : sG) (sz : Nat) (x : Int32) (F : FS B kd ig rg) : MC l B D cA yX6_formulaAt cX6_formulaAt 2 (some (.object "SheetDoctor$Formula")) (rL 1 0 0) [.ref (B + 9), .int x] kd ig rg lg sz (Pu kd ig rg lg sz (fun r => r = some .null)) := by
  refine MC.of (own := RX6) (by decide +kernel) rfl (Nat.le_of_ble_eq_true rfl) ?_
  intro p e s m args below meth c ls C hr hlk hnm hw hsz hl
  have hx := C.1.1
  have hb := C.1.2.1
  have hown := C.1.2.2.2.1
  have hts := C.1.2.2.2.2
  have hl : lv_has ls 2 [(0, .ref (B + 9)), (1, .int x)] := hl
  have Fs := F
  obtain ⟨hsh, hrs, hce, hbf, hbi, hsi, hke⟩ := F
  refine lv_iload_n hx hb dX6_formulaAt_0 rfl (lv_at hl 1 rfl) ?_
  refine r_callN (As := [.int x]) (rest := []) C hw (t_X11_onSheet l B D cA kd ig rg lg _ x) sn_X6_42 rfl hl.1 rfl (Nat.le_of_ble_eq_true rfl) ⟨Nat.le_of_ble_eq_true rfl, Nat.le_of_ble_eq_true rfl⟩ ⟨Nat.le_of_ble_eq_true rfl, Nat.le_of_ble_eq_true rfl⟩ dX6_formulaAt_1 (fun r6 kd2 ig3 rg4 lg5 H locs hw hH hp7 => ?_)
  obtain ⟨rfl, rfl, rfl, rfl, hzz1, z1, rfl, hz1⟩ := hp7
  have hsz := hzz1.trans hsz
  refine z_eq (tgt := 19) hx hb dX6_formulaAt_4 (by decide) (fun c4 => ?_) (fun c4 => ?_)
  · refine lv_null hx hb dX6_formulaAt_19 ?_
    exact r_aret C hw hr hlk (Or.inl rfl) (Nat.le_of_ble_eq_true rfl) (Nat.le_of_ble_eq_true rfl) dX6_formulaAt_20 ⟨rfl, rfl, rfl, rfl, hsz, rfl⟩
  · refine lv_aload_n hx hb dX6_formulaAt_7 rfl (lv_at hl 0 rfl) ?_
    refine r_get C hw (hsh 9 _ rfl) fl_X6_20 (oV_r rfl (hrs (9, 1, 11) (by decide))) dX6_formulaAt_8 ?_
    refine lv_iload_n hx hb dX6_formulaAt_11 rfl (lv_at hl 1 rfl) ?_
    refine r_aald C hw (hsh 11 _ rfl) (by omega) (by omega) (by rw [hce _ (by omega)]) dX6_formulaAt_12 ?_
    refine r_get C hw (hsh 10 _ rfl) fl_X6_49 (oV_n rfl hbf) dX6_formulaAt_13 ?_
    refine lv_goto (tgt := 20) hx hb dX6_formulaAt_16 (by decide) ?_
    exact r_aret C hw hr hlk (Or.inl rfl) (Nat.le_of_ble_eq_true rfl) (Nat.le_of_ble_eq_true rfl) dX6_formulaAt_20 ⟨rfl, rfl, rfl, rfl, hsz, rfl⟩
