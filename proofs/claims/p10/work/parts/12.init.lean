def kx (B n : Nat) : sK := fun a => if B ≤ a ∧ a < B + n then shp[a - B]? else none
theorem kx_up {B n m k c : Nat} (hm : m = n + 1) (h : shp[n]? = some (k, c)) : upK (kx B n) (B + n) k c = kx B m := by
  funext a
  subst hm
  unfold upK kx
  by_cases e1 : a = B + n
  · subst e1
    rw [if_pos rfl, if_pos (by omega), show B + n - B = n by omega, h]
  · rw [if_neg e1]
    by_cases e2 : B ≤ a ∧ a < B + n
    · rw [if_pos e2, if_pos (by omega)]
    · rw [if_neg e2, if_neg (by omega)]
theorem kxs {B n : Nat} (c : Nat) (h : c < n) {q : Nat × Nat} (hq : shp[c]? = some q) : kx B n (B + c) = some q := by
  unfold kx
  rw [if_pos (by omega), show B + c - B = c by omega, hq]
theorem upR_same {α : Type} {f : Nat → Nat → α} {a : Nat} {v : α} (h : ∀ j, f a j = v) : upR f a v = f := by
  funext b j
  unfold upR
  by_cases e1 : b = a
  · subst e1; rw [if_pos rfl, h]
  · rw [if_neg e1]
def vsl : List (Nat × Nat) := [(15, 11), (24, 8), (29, 4), (32, 8), (37, 7)]
def iv (c j : Nat) : Int32 := if (c, j) ∈ vsl then -1 else 0
/-- the class's cells 1 .. n - 1 as they are made; behind them nothing -/
def CI (B n : Nat) (ig : sI) (rg : sR) (lg : sG) : Prop := (∀ x ∈ rfp, 1 ≤ x.1 → x.1 < n → rg (B + x.1) x.2.1 = some (B + x.2.2)) ∧ (∀ c j, 1 ≤ c → c < n → ig (B + c) j = iv c j) ∧ (14 < n → (∀ j, j < 288 → rg (B + 11) j = some (B + 10)) ∧ rg (B + 10) 2 = none ∧ ∀ j, j < 20 → rg (B + 14) j = some (B + 10)) ∧ (∀ a j, B + n ≤ a → ig a j = 0 ∧ rg a j = none) ∧ ∀ a j, lg a j = 0
theorem CI.up0 {B n j : Nat} {ig : sI} {rg : sR} {lg : sG} {v : Option Nat} (h : CI B n ig rg lg) (hn : 1 ≤ n) : CI B n ig (up2 rg (B + 0) j v) lg := by
  obtain ⟨h1, h2, h3, h4, h5⟩ := h
  refine ⟨fun x hx ha hb => by rw [up2_a (by omega)]; exact h1 x hx ha hb, h2, fun h => ⟨fun j hj => by rw [up2_a (by omega)]; exact (h3 h).1 j hj, by rw [up2_a (by omega)]; exact (h3 h).2.1, fun j hj => by rw [up2_a (by omega)]; exact (h3 h).2.2 j hj⟩, fun a j ha => ⟨(h4 a j ha).1, by rw [up2_a (by omega)]; exact (h4 a j ha).2⟩, h5⟩
theorem CI.next {B c0 c1 : Nat} {ig ig' : sI} {rg rg' : sR} {lg : sG} (h : CI B c0 ig rg lg) (hc : 1 ≤ c0 ∧ c0 < c1) (h15 : c1 ≤ 9 ∨ 15 ≤ c0) (ha1 : ∀ x ∈ rfp, ¬ (c0 < x.1 ∧ x.1 < c1)) (ha2 : ∀ x ∈ vsl, ¬ (c0 < x.1 ∧ x.1 < c1))
    (si : ∀ a j, a ≠ B + c0 → ig' a j = ig a j) (sr : ∀ a j, a ≠ B + c0 → rg' a j = rg a j) (hi : ∀ j, ig' (B + c0) j = iv c0 j) (hr : ∀ x ∈ rfp, x.1 = c0 → rg' (B + c0) x.2.1 = some (B + x.2.2)) : CI B c1 ig' rg' lg := by
  obtain ⟨h1, h2, h3, h4, h5⟩ := h
  refine ⟨fun x hx ha hb => ?_, fun c j ha hb => ?_, fun h => ?_, fun a j ha => ?_, h5⟩
  · by_cases e1 : x.1 = c0
    · rw [e1]; exact hr x hx e1
    · have q := ha1 x hx
      rw [sr _ _ (by omega)]
      exact h1 x hx ha (by omega)
  · by_cases e1 : c = c0
    · rw [e1]; exact hi j
    · rw [si _ _ (by omega)]
      by_cases e2 : c < c0
      · exact h2 c j ha e2
      · rw [(h4 _ j (by omega)).1]
        unfold iv
        rw [if_neg (fun q => ha2 _ q ⟨by show c0 < c; omega, hb⟩)]
  · have q : 14 < c0 := by omega
    exact ⟨fun j hj => by rw [sr _ _ (by omega)]; exact (h3 q).1 j hj, by rw [sr _ _ (by omega)]; exact (h3 q).2.1, fun j hj => by rw [sr _ _ (by omega)]; exact (h3 q).2.2 j hj⟩
  · rw [si _ _ (by omega), sr _ _ (by omega)]
    exact h4 a j (by omega)
theorem iv_m {c v : Nat} {f : Nat → Int32} {z : Int32} (hz : z = -1) (hv : ∀ j, (c, j) ∈ vsl ↔ j = v) (h0 : ∀ j, f j = 0) : ∀ j, (if j = v then z else f j) = iv c j := by
  intro j
  unfold iv
  by_cases e1 : j = v
  · rw [if_pos e1, if_pos ((hv j).mpr e1), hz]
  · rw [if_neg e1, if_neg (fun q => e1 ((hv j).mp q)), h0]
theorem iv_z {c : Nat} (hv : ∀ x ∈ vsl, x.1 ≠ c) (j : Nat) : iv c j = 0 := by
  unfold iv
  rw [if_neg (fun q => hv _ q rfl)]
theorem up2_z {f : sI} {a v : Nat} {z : Int32} (h : ∀ j, f a j = 0) (hz : z = 0) : ∀ j, up2 f a v z a j = 0 := by
  intro j
  by_cases e1 : j = v
  · subst e1; rw [up2_eq, hz]
  · rw [up2_j e1, h]

theorem dfX1 : ∀ j, j < 5 → defaultValue (tyX1 j) = if isRf 1 j = true then .null else .int 0 := by decide +kernel
theorem dfX2 : ∀ j, j < 5 → defaultValue (tyX2 j) = if isRf 2 j = true then .null else .int 0 := by decide +kernel
theorem dfX3 : ∀ j, j < 7 → defaultValue (tyX3 j) = if isRf 3 j = true then .null else .int 0 := by decide +kernel
theorem dfX5 : ∀ j, j < 12 → defaultValue (tyX5 j) = if isRf 5 j = true then .null else .int 0 := by decide +kernel
theorem dfX6 : ∀ j, j < 7 → defaultValue (tyX6 j) = if isRf 6 j = true then .null else .int 0 := by decide +kernel
theorem dfX7 : ∀ j, j < 13 → defaultValue (tyX7 j) = if isRf 7 j = true then .null else .int 0 := by decide +kernel
theorem dfX8 : ∀ j, j < 8 → defaultValue (tyX8 j) = if isRf 8 j = true then .null else .int 0 := by decide +kernel
theorem dfX9 : ∀ j, j < 9 → defaultValue (tyX9 j) = if isRf 9 j = true then .null else .int 0 := by decide +kernel
theorem dfX10 : ∀ j, j < 9 → defaultValue (tyX10 j) = if isRf 10 j = true then .null else .int 0 := by decide +kernel
theorem dfX11 : ∀ j, j < 9 → defaultValue (tyX11 j) = if isRf 11 j = true then .null else .int 0 := by decide +kernel
theorem dfX12 : ∀ j, j < 43 → defaultValue (tyX12 j) = if isRf 12 j = true then .null else .int 0 := by decide +kernel
set_option maxHeartbeats 4000000 in
set_option maxRecDepth 100000 in
theorem t_X7_init (l : Launch) (B : Nat) (D : va_G) (cA : Nat → ClassId) (kd : sK) (ig : sI) (rg : sR) (lg : sG) (sz : Nat) (hs0 : sz = B + 2) (hk0 : kd = kx B 2) (hci : CI B 1 ig rg lg) : MC l B D cA yX7_init cX7_init 1 none (rL 1 7 843) [.ref (B + 1)] kd ig rg lg sz (fun r kd' ig' rg' lg' n => kd' = kx B 9 ∧ n = B + 9 ∧ lg = lg' ∧ r = none ∧ CI B 9 ig' rg' lg' ∧ (∀ j, ig' (B + 0) j = ig (B + 0) j) ∧ (∀ j, rg' (B + 0) j = rg (B + 0) j)) := by
  refine MC.of (own := RX7) (by decide +kernel) rfl (Nat.le_of_ble_eq_true rfl) ?_
  intro p e s m args below meth c ls C hr hlk hnm hw hsz hl
  have hx := C.1.1
  have hb := C.1.2.1
  have hown := C.1.2.2.2.1
  have hts := C.1.2.2.2.2
  have hl : lv_has ls 1 [(0, .ref (B + 1))] := hl
  subst hs0
  subst hk0
  have zn := hci.2.2.2.1
  have zl := hci.2.2.2.2
  refine lv_aload_n hx hb dX7_init_0 rfl (lv_at hl 0 rfl) ?_
  refine r_obj C ol_X7_3 oi_i oi_c hl.1 (by decide) (by decide) dX7_init_1 ?_
  refine lv_aload_n hx hb dX7_init_4 rfl (lv_at hl 0 rfl) ?_
  refine lv_bipush (v := 120) hx hb dX7_init_5 (by decide) (ti_c 120 (by decide) fun z1 hz1 => ?_)
  refine r_newa (k := 21) (n := 120) (ty := .char) (atype := .char) C hw rfl rfl (by omega) ac_char hz1 rfl (by decide) (Nat.le_of_ble_eq_true rfl) (Nat.le_of_ble_eq_true rfl) dX7_init_7 hsz (fun H hsz hw => ?_)
  rw [kx_up (m := 3) rfl rfl] at hw
  rw [upR_same (fun j => (zn _ j (by omega)).1)] at hw
  have hsz : H.size = B + 3 := hsz
  refine r_putrF C hw (some (B + 2)) rfl hnm rfl (kxs 1 (by decide) rfl) fl_X7_9 rfl rfl rfl dX7_init_9 (fun H locs hH hw => ?_)
  obtain ⟨rg2, erg2⟩ : ∃ f, f = up2 rg (B + 1) 0 (some (B + 2)) := ⟨_, rfl⟩
  rw [← erg2] at hw
  have hsz := hH.trans hsz
  refine lv_aload_n hx hb dX7_init_12 rfl (lv_at hl 0 rfl) ?_
  refine lv_iconst (v := 0) hx hb dX7_init_13 (by decide) (ti_c 0 (by decide) fun z3 hz3 => ?_)
  refine r_puti C hw (kxs 1 (by decide) rfl) fl_X7_15 rfl rfl rfl dX7_init_14 (fun H locs hH hw => ?_)
  obtain ⟨ig4, eig4⟩ : ∃ f, f = up2 ig (B + 1) 1 z3 := ⟨_, rfl⟩
  rw [← eig4] at hw
  have hsz := hH.trans hsz
  refine lv_aload_n hx hb dX7_init_17 rfl (lv_at hl 0 rfl) ?_
  refine lv_bipush (v := 121) hx hb dX7_init_18 (by decide) (ti_c 121 (by decide) fun z5 hz5 => ?_)
  refine r_newa (k := 20) (n := 121) (ty := .int) (atype := .int) C hw rfl rfl (by omega) ac_int hz5 rfl (by decide) (Nat.le_of_ble_eq_true rfl) (Nat.le_of_ble_eq_true rfl) dX7_init_20 hsz (fun H hsz hw => ?_)
  rw [kx_up (m := 4) rfl rfl] at hw
  rw [upR_same (fun j => by rw [eig4, up2_a (by omega)]; exact (zn _ j (by omega)).1)] at hw
  have hsz : H.size = B + 4 := hsz
  refine r_putrF C hw (some (B + 3)) rfl hnm rfl (kxs 1 (by decide) rfl) fl_X7_19 rfl rfl rfl dX7_init_22 (fun H locs hH hw => ?_)
  obtain ⟨rg6, erg6⟩ : ∃ f, f = up2 rg2 (B + 1) 3 (some (B + 3)) := ⟨_, rfl⟩
  rw [← erg6] at hw
  have hsz := hH.trans hsz
  refine lv_aload_n hx hb dX7_init_25 rfl (lv_at hl 0 rfl) ?_
  refine lv_bipush (v := 121) hx hb dX7_init_26 (by decide) (ti_c 121 (by decide) fun z7 hz7 => ?_)
  refine r_newa (k := 20) (n := 121) (ty := .int) (atype := .int) C hw rfl rfl (by omega) ac_int hz7 rfl (by decide) (Nat.le_of_ble_eq_true rfl) (Nat.le_of_ble_eq_true rfl) dX7_init_28 hsz (fun H hsz hw => ?_)
  rw [kx_up (m := 5) rfl rfl] at hw
  rw [upR_same (fun j => by rw [eig4, up2_a (by omega)]; exact (zn _ j (by omega)).1)] at hw
  have hsz : H.size = B + 5 := hsz
  refine r_putrF C hw (some (B + 4)) rfl hnm rfl (kxs 1 (by decide) rfl) fl_X7_23 rfl rfl rfl dX7_init_30 (fun H locs hH hw => ?_)
  obtain ⟨rg8, erg8⟩ : ∃ f, f = up2 rg6 (B + 1) 4 (some (B + 4)) := ⟨_, rfl⟩
  rw [← erg8] at hw
  have hsz := hH.trans hsz
  refine lv_aload_n hx hb dX7_init_33 rfl (lv_at hl 0 rfl) ?_
  refine lv_bipush (v := 121) hx hb dX7_init_34 (by decide) (ti_c 121 (by decide) fun z9 hz9 => ?_)
  refine r_newa (k := 20) (n := 121) (ty := .int) (atype := .int) C hw rfl rfl (by omega) ac_int hz9 rfl (by decide) (Nat.le_of_ble_eq_true rfl) (Nat.le_of_ble_eq_true rfl) dX7_init_36 hsz (fun H hsz hw => ?_)
  rw [kx_up (m := 6) rfl rfl] at hw
  rw [upR_same (fun j => by rw [eig4, up2_a (by omega)]; exact (zn _ j (by omega)).1)] at hw
  have hsz : H.size = B + 6 := hsz
  refine r_putrF C hw (some (B + 5)) rfl hnm rfl (kxs 1 (by decide) rfl) fl_X7_26 rfl rfl rfl dX7_init_38 (fun H locs hH hw => ?_)
  obtain ⟨rg10, erg10⟩ : ∃ f, f = up2 rg8 (B + 1) 5 (some (B + 5)) := ⟨_, rfl⟩
  rw [← erg10] at hw
  have hsz := hH.trans hsz
  refine lv_aload_n hx hb dX7_init_41 rfl (lv_at hl 0 rfl) ?_
  refine lv_bipush (v := 120) hx hb dX7_init_42 (by decide) (ti_c 120 (by decide) fun z11 hz11 => ?_)
  refine r_newa (k := 20) (n := 120) (ty := .int) (atype := .int) C hw rfl rfl (by omega) ac_int hz11 rfl (by decide) (Nat.le_of_ble_eq_true rfl) (Nat.le_of_ble_eq_true rfl) dX7_init_44 hsz (fun H hsz hw => ?_)
  rw [kx_up (m := 7) rfl rfl] at hw
  rw [upR_same (fun j => by rw [eig4, up2_a (by omega)]; exact (zn _ j (by omega)).1)] at hw
  have hsz : H.size = B + 7 := hsz
  refine r_putrF C hw (some (B + 6)) rfl hnm rfl (kxs 1 (by decide) rfl) fl_X7_29 rfl rfl rfl dX7_init_46 (fun H locs hH hw => ?_)
  obtain ⟨rg12, erg12⟩ : ∃ f, f = up2 rg10 (B + 1) 9 (some (B + 6)) := ⟨_, rfl⟩
  rw [← erg12] at hw
  have hsz := hH.trans hsz
  refine lv_aload_n hx hb dX7_init_49 rfl (lv_at hl 0 rfl) ?_
  refine lv_bipush (v := 120) hx hb dX7_init_50 (by decide) (ti_c 120 (by decide) fun z13 hz13 => ?_)
  refine r_newa (k := 20) (n := 120) (ty := .int) (atype := .int) C hw rfl rfl (by omega) ac_int hz13 rfl (by decide) (Nat.le_of_ble_eq_true rfl) (Nat.le_of_ble_eq_true rfl) dX7_init_52 hsz (fun H hsz hw => ?_)
  rw [kx_up (m := 8) rfl rfl] at hw
  rw [upR_same (fun j => by rw [eig4, up2_a (by omega)]; exact (zn _ j (by omega)).1)] at hw
  have hsz : H.size = B + 8 := hsz
  refine r_putrF C hw (some (B + 7)) rfl hnm rfl (kxs 1 (by decide) rfl) fl_X7_32 rfl rfl rfl dX7_init_54 (fun H locs hH hw => ?_)
  obtain ⟨rg14, erg14⟩ : ∃ f, f = up2 rg12 (B + 1) 10 (some (B + 7)) := ⟨_, rfl⟩
  rw [← erg14] at hw
  have hsz := hH.trans hsz
  refine lv_aload_n hx hb dX7_init_57 rfl (lv_at hl 0 rfl) ?_
  refine lv_bipush (v := 120) hx hb dX7_init_58 (by decide) (ti_c 120 (by decide) fun z15 hz15 => ?_)
  refine r_newa (k := 20) (n := 120) (ty := .int) (atype := .int) C hw rfl rfl (by omega) ac_int hz15 rfl (by decide) (Nat.le_of_ble_eq_true rfl) (Nat.le_of_ble_eq_true rfl) dX7_init_60 hsz (fun H hsz hw => ?_)
  rw [kx_up (m := 9) rfl rfl] at hw
  rw [upR_same (fun j => by rw [eig4, up2_a (by omega)]; exact (zn _ j (by omega)).1)] at hw
  have hsz : H.size = B + 9 := hsz
  refine r_putrF C hw (some (B + 8)) rfl hnm rfl (kxs 1 (by decide) rfl) fl_X7_35 rfl rfl rfl dX7_init_62 (fun H locs hH hw => ?_)
  obtain ⟨rg16, erg16⟩ : ∃ f, f = up2 rg14 (B + 1) 11 (some (B + 8)) := ⟨_, rfl⟩
  rw [← erg16] at hw
  have hsz := hH.trans hsz
  have hrr : ∀ x ∈ rfp, x.1 = 1 → rg16 (B + 1) x.2.1 = some (B + x.2.2) := by
    intro x hx h0
    have q := (by decide : ∀ x ∈ rfp, x.1 = 1 → x ∈ ([(1, 0, 2), (1, 3, 3), (1, 4, 4), (1, 5, 5), (1, 9, 6), (1, 10, 7), (1, 11, 8)] : List (Nat × Nat × Nat))) x hx h0
    simp only [List.mem_cons, List.not_mem_nil, or_false] at q
    rcases q with rfl | rfl | rfl | rfl | rfl | rfl | rfl
    · exact (by rw [erg16, up2_j (by decide), erg14, up2_j (by decide), erg12, up2_j (by decide), erg10, up2_j (by decide), erg8, up2_j (by decide), erg6, up2_j (by decide), erg2, up2_eq] : rg16 (B + 1) 0 = some (B + 2))
    · exact (by rw [erg16, up2_j (by decide), erg14, up2_j (by decide), erg12, up2_j (by decide), erg10, up2_j (by decide), erg8, up2_j (by decide), erg6, up2_eq] : rg16 (B + 1) 3 = some (B + 3))
    · exact (by rw [erg16, up2_j (by decide), erg14, up2_j (by decide), erg12, up2_j (by decide), erg10, up2_j (by decide), erg8, up2_eq] : rg16 (B + 1) 4 = some (B + 4))
    · exact (by rw [erg16, up2_j (by decide), erg14, up2_j (by decide), erg12, up2_j (by decide), erg10, up2_eq] : rg16 (B + 1) 5 = some (B + 5))
    · exact (by rw [erg16, up2_j (by decide), erg14, up2_j (by decide), erg12, up2_eq] : rg16 (B + 1) 9 = some (B + 6))
    · exact (by rw [erg16, up2_j (by decide), erg14, up2_eq] : rg16 (B + 1) 10 = some (B + 7))
    · exact (by rw [erg16, up2_eq] : rg16 (B + 1) 11 = some (B + 8))
  exact r_vret C hw hr hlk (Nat.le_of_ble_eq_true rfl) (Nat.le_of_ble_eq_true rfl) dX7_init_65 ⟨rfl, hsz, rfl, rfl, CI.next hci (by decide) (by decide) (by decide) (by decide) (fun a j h => by rw [eig4, up2_a h]) (fun a j h => by rw [erg16, up2_a h, erg14, up2_a h, erg12, up2_a h, erg10, up2_a h, erg8, up2_a h, erg6, up2_a h, erg2, up2_a h]) (by intro j; rw [eig4, iv_z (by decide)]; exact (up2_z (fun j => (zn _ j (by omega)).1) (eq0 (by omega))) j) hrr, fun j => by rw [eig4, up2_a (by omega)], fun j => by rw [erg16, up2_a (by omega), erg14, up2_a (by omega), erg12, up2_a (by omega), erg10, up2_a (by omega), erg8, up2_a (by omega), erg6, up2_a (by omega), erg2, up2_a (by omega)]⟩

set_option maxHeartbeats 4000000 in
set_option maxRecDepth 100000 in
theorem t_X5_init (l : Launch) (B : Nat) (D : va_G) (cA : Nat → ClassId) (kd : sK) (ig : sI) (rg : sR) (lg : sG) (sz : Nat) (hs0 : sz = B + 16) (hk0 : kd = kx B 16) (hci : CI B 15 ig rg lg) : MC l B D cA yX5_init cX5_init 2 none (rL 1 8 4325) [.ref (B + 15), .ref (B + 9)] kd ig rg lg sz (fun r kd' ig' rg' lg' n => kd' = kx B 24 ∧ n = B + 24 ∧ lg = lg' ∧ r = none ∧ CI B 24 ig' rg' lg' ∧ (∀ j, ig' (B + 0) j = ig (B + 0) j) ∧ (∀ j, rg' (B + 0) j = rg (B + 0) j)) := by
  refine MC.of (own := RX5) (by decide +kernel) rfl (Nat.le_of_ble_eq_true rfl) ?_
  intro p e s m args below meth c ls C hr hlk hnm hw hsz hl
  have hx := C.1.1
  have hb := C.1.2.1
  have hown := C.1.2.2.2.1
  have hts := C.1.2.2.2.2
  have hl : lv_has ls 2 [(0, .ref (B + 15)), (1, .ref (B + 9))] := hl
  subst hs0
  subst hk0
  have zn := hci.2.2.2.1
  have zl := hci.2.2.2.2
  refine lv_aload_n hx hb dX5_init_0 rfl (lv_at hl 0 rfl) ?_
  refine r_obj C ol_X5_3 oi_i oi_c hl.1 (by decide) (by decide) dX5_init_1 ?_
  refine lv_aload_n hx hb dX5_init_4 rfl (lv_at hl 0 rfl) ?_
  refine lv_aload_n hx hb dX5_init_5 rfl (lv_at hl 1 rfl) ?_
  refine r_putrF C hw (some (B + 9)) rfl hnm rfl (kxs 15 (by decide) rfl) fl_X5_9 rfl rfl rfl dX5_init_6 (fun H locs hH hw => ?_)
  obtain ⟨rg1, erg1⟩ : ∃ f, f = up2 rg (B + 15) 0 (some (B + 9)) := ⟨_, rfl⟩
  rw [← erg1] at hw
  have hsz := hH.trans hsz
  refine lv_aload_n hx hb dX5_init_9 rfl (lv_at hl 0 rfl) ?_
  refine lv_sipush (v := 288) hx hb dX5_init_10 (by decide) (ti_c 288 (by decide) fun z2 hz2 => ?_)
  refine r_newa (k := 20) (n := 288) (ty := .int) (atype := .int) C hw rfl rfl (by omega) ac_int hz2 rfl (by decide) (Nat.le_of_ble_eq_true rfl) (Nat.le_of_ble_eq_true rfl) dX5_init_13 hsz (fun H hsz hw => ?_)
  rw [kx_up (m := 17) rfl rfl] at hw
  rw [upR_same (fun j => (zn _ j (by omega)).1)] at hw
  have hsz : H.size = B + 17 := hsz
  refine r_putrF C hw (some (B + 16)) rfl hnm rfl (kxs 15 (by decide) rfl) fl_X5_15 rfl rfl rfl dX5_init_15 (fun H locs hH hw => ?_)
  obtain ⟨rg3, erg3⟩ : ∃ f, f = up2 rg1 (B + 15) 1 (some (B + 16)) := ⟨_, rfl⟩
  rw [← erg3] at hw
  have hsz := hH.trans hsz
  refine lv_aload_n hx hb dX5_init_18 rfl (lv_at hl 0 rfl) ?_
  refine lv_iconst (v := 5) hx hb dX5_init_19 (by decide) (ti_c 5 (by decide) fun z4 hz4 => ?_)
  refine r_newl (n := 5) C hw ac_long hz4 (by decide) (Nat.le_of_ble_eq_true rfl) (Nat.le_of_ble_eq_true rfl) dX5_init_20 hsz (fun H hsz hw => ?_)
  rw [kx_up (m := 18) rfl rfl] at hw
  rw [upR_same (fun j => zl _ j)] at hw
  have hsz : H.size = B + 18 := hsz
  refine r_putrF C hw (some (B + 17)) rfl hnm rfl (kxs 15 (by decide) rfl) fl_X5_19 rfl rfl rfl dX5_init_22 (fun H locs hH hw => ?_)
  obtain ⟨rg5, erg5⟩ : ∃ f, f = up2 rg3 (B + 15) 3 (some (B + 17)) := ⟨_, rfl⟩
  rw [← erg5] at hw
  have hsz := hH.trans hsz
  refine lv_aload_n hx hb dX5_init_25 rfl (lv_at hl 0 rfl) ?_
  refine lv_sipush (v := 1440) hx hb dX5_init_26 (by decide) (ti_c 1440 (by decide) fun z6 hz6 => ?_)
  refine r_newl (n := 1440) C hw ac_long hz6 (by decide) (Nat.le_of_ble_eq_true rfl) (Nat.le_of_ble_eq_true rfl) dX5_init_29 hsz (fun H hsz hw => ?_)
  rw [kx_up (m := 19) rfl rfl] at hw
  rw [upR_same (fun j => zl _ j)] at hw
  have hsz : H.size = B + 19 := hsz
  refine r_putrF C hw (some (B + 18)) rfl hnm rfl (kxs 15 (by decide) rfl) fl_X5_23 rfl rfl rfl dX5_init_31 (fun H locs hH hw => ?_)
  obtain ⟨rg7, erg7⟩ : ∃ f, f = up2 rg5 (B + 15) 4 (some (B + 18)) := ⟨_, rfl⟩
  rw [← erg7] at hw
  have hsz := hH.trans hsz
  refine lv_aload_n hx hb dX5_init_34 rfl (lv_at hl 0 rfl) ?_
  refine lv_sipush (v := 1440) hx hb dX5_init_35 (by decide) (ti_c 1440 (by decide) fun z8 hz8 => ?_)
  refine r_newl (n := 1440) C hw ac_long hz8 (by decide) (Nat.le_of_ble_eq_true rfl) (Nat.le_of_ble_eq_true rfl) dX5_init_38 hsz (fun H hsz hw => ?_)
  rw [kx_up (m := 20) rfl rfl] at hw
  rw [upR_same (fun j => zl _ j)] at hw
  have hsz : H.size = B + 20 := hsz
  refine r_putrF C hw (some (B + 19)) rfl hnm rfl (kxs 15 (by decide) rfl) fl_X5_26 rfl rfl rfl dX5_init_40 (fun H locs hH hw => ?_)
  obtain ⟨rg9, erg9⟩ : ∃ f, f = up2 rg7 (B + 15) 5 (some (B + 19)) := ⟨_, rfl⟩
  rw [← erg9] at hw
  have hsz := hH.trans hsz
  refine lv_aload_n hx hb dX5_init_43 rfl (lv_at hl 0 rfl) ?_
  refine lv_sipush (v := 288) hx hb dX5_init_44 (by decide) (ti_c 288 (by decide) fun z10 hz10 => ?_)
  refine r_newa (k := 22) (n := 288) (ty := .boolean) (atype := .boolean) C hw rfl rfl (by omega) ac_boolean hz10 rfl (by decide) (Nat.le_of_ble_eq_true rfl) (Nat.le_of_ble_eq_true rfl) dX5_init_47 hsz (fun H hsz hw => ?_)
  rw [kx_up (m := 21) rfl rfl] at hw
  rw [upR_same (fun j => (zn _ j (by omega)).1)] at hw
  have hsz : H.size = B + 21 := hsz
  refine r_putrF C hw (some (B + 20)) rfl hnm rfl (kxs 15 (by decide) rfl) fl_X5_29 rfl rfl rfl dX5_init_49 (fun H locs hH hw => ?_)
  obtain ⟨rg11, erg11⟩ : ∃ f, f = up2 rg9 (B + 15) 6 (some (B + 20)) := ⟨_, rfl⟩
  rw [← erg11] at hw
  have hsz := hH.trans hsz
  refine lv_aload_n hx hb dX5_init_52 rfl (lv_at hl 0 rfl) ?_
  refine lv_sipush (v := 288) hx hb dX5_init_53 (by decide) (ti_c 288 (by decide) fun z12 hz12 => ?_)
  refine r_newa (k := 20) (n := 288) (ty := .int) (atype := .int) C hw rfl rfl (by omega) ac_int hz12 rfl (by decide) (Nat.le_of_ble_eq_true rfl) (Nat.le_of_ble_eq_true rfl) dX5_init_56 hsz (fun H hsz hw => ?_)
  rw [kx_up (m := 22) rfl rfl] at hw
  rw [upR_same (fun j => (zn _ j (by omega)).1)] at hw
  have hsz : H.size = B + 22 := hsz
  refine r_putrF C hw (some (B + 21)) rfl hnm rfl (kxs 15 (by decide) rfl) fl_X5_33 rfl rfl rfl dX5_init_58 (fun H locs hH hw => ?_)
  obtain ⟨rg13, erg13⟩ : ∃ f, f = up2 rg11 (B + 15) 7 (some (B + 21)) := ⟨_, rfl⟩
  rw [← erg13] at hw
  have hsz := hH.trans hsz
  refine lv_aload_n hx hb dX5_init_61 rfl (lv_at hl 0 rfl) ?_
  refine lv_sipush (v := 288) hx hb dX5_init_62 (by decide) (ti_c 288 (by decide) fun z14 hz14 => ?_)
  refine r_newa (k := 20) (n := 288) (ty := .int) (atype := .int) C hw rfl rfl (by omega) ac_int hz14 rfl (by decide) (Nat.le_of_ble_eq_true rfl) (Nat.le_of_ble_eq_true rfl) dX5_init_65 hsz (fun H hsz hw => ?_)
  rw [kx_up (m := 23) rfl rfl] at hw
  rw [upR_same (fun j => (zn _ j (by omega)).1)] at hw
  have hsz : H.size = B + 23 := hsz
  refine r_putrF C hw (some (B + 22)) rfl hnm rfl (kxs 15 (by decide) rfl) fl_X5_36 rfl rfl rfl dX5_init_67 (fun H locs hH hw => ?_)
  obtain ⟨rg15, erg15⟩ : ∃ f, f = up2 rg13 (B + 15) 8 (some (B + 22)) := ⟨_, rfl⟩
  rw [← erg15] at hw
  have hsz := hH.trans hsz
  refine lv_aload_n hx hb dX5_init_70 rfl (lv_at hl 0 rfl) ?_
  refine lv_sipush (v := 288) hx hb dX5_init_71 (by decide) (ti_c 288 (by decide) fun z16 hz16 => ?_)
  refine r_newa (k := 20) (n := 288) (ty := .int) (atype := .int) C hw rfl rfl (by omega) ac_int hz16 rfl (by decide) (Nat.le_of_ble_eq_true rfl) (Nat.le_of_ble_eq_true rfl) dX5_init_74 hsz (fun H hsz hw => ?_)
  rw [kx_up (m := 24) rfl rfl] at hw
  rw [upR_same (fun j => (zn _ j (by omega)).1)] at hw
  have hsz : H.size = B + 24 := hsz
  refine r_putrF C hw (some (B + 23)) rfl hnm rfl (kxs 15 (by decide) rfl) fl_X5_39 rfl rfl rfl dX5_init_76 (fun H locs hH hw => ?_)
  obtain ⟨rg17, erg17⟩ : ∃ f, f = up2 rg15 (B + 15) 10 (some (B + 23)) := ⟨_, rfl⟩
  rw [← erg17] at hw
  have hsz := hH.trans hsz
  refine lv_aload_n hx hb dX5_init_79 rfl (lv_at hl 0 rfl) ?_
  refine lv_iconst (v := (-1)) hx hb dX5_init_80 (by decide) (ti_c (-1) (by decide) fun z18 hz18 => ?_)
  refine r_puti C hw (kxs 15 (by decide) rfl) fl_X5_42 rfl rfl rfl dX5_init_81 (fun H locs hH hw => ?_)
  obtain ⟨ig19, eig19⟩ : ∃ f, f = up2 ig (B + 15) 11 z18 := ⟨_, rfl⟩
  rw [← eig19] at hw
  have hsz := hH.trans hsz
  have hrr : ∀ x ∈ rfp, x.1 = 15 → rg17 (B + 15) x.2.1 = some (B + x.2.2) := by
    intro x hx h0
    have q := (by decide : ∀ x ∈ rfp, x.1 = 15 → x ∈ ([(15, 0, 9), (15, 1, 16), (15, 3, 17), (15, 4, 18), (15, 5, 19), (15, 6, 20), (15, 7, 21), (15, 8, 22), (15, 10, 23)] : List (Nat × Nat × Nat))) x hx h0
    simp only [List.mem_cons, List.not_mem_nil, or_false] at q
    rcases q with rfl | rfl | rfl | rfl | rfl | rfl | rfl | rfl | rfl
    · exact (by rw [erg17, up2_j (by decide), erg15, up2_j (by decide), erg13, up2_j (by decide), erg11, up2_j (by decide), erg9, up2_j (by decide), erg7, up2_j (by decide), erg5, up2_j (by decide), erg3, up2_j (by decide), erg1, up2_eq] : rg17 (B + 15) 0 = some (B + 9))
    · exact (by rw [erg17, up2_j (by decide), erg15, up2_j (by decide), erg13, up2_j (by decide), erg11, up2_j (by decide), erg9, up2_j (by decide), erg7, up2_j (by decide), erg5, up2_j (by decide), erg3, up2_eq] : rg17 (B + 15) 1 = some (B + 16))
    · exact (by rw [erg17, up2_j (by decide), erg15, up2_j (by decide), erg13, up2_j (by decide), erg11, up2_j (by decide), erg9, up2_j (by decide), erg7, up2_j (by decide), erg5, up2_eq] : rg17 (B + 15) 3 = some (B + 17))
    · exact (by rw [erg17, up2_j (by decide), erg15, up2_j (by decide), erg13, up2_j (by decide), erg11, up2_j (by decide), erg9, up2_j (by decide), erg7, up2_eq] : rg17 (B + 15) 4 = some (B + 18))
    · exact (by rw [erg17, up2_j (by decide), erg15, up2_j (by decide), erg13, up2_j (by decide), erg11, up2_j (by decide), erg9, up2_eq] : rg17 (B + 15) 5 = some (B + 19))
    · exact (by rw [erg17, up2_j (by decide), erg15, up2_j (by decide), erg13, up2_j (by decide), erg11, up2_eq] : rg17 (B + 15) 6 = some (B + 20))
    · exact (by rw [erg17, up2_j (by decide), erg15, up2_j (by decide), erg13, up2_eq] : rg17 (B + 15) 7 = some (B + 21))
    · exact (by rw [erg17, up2_j (by decide), erg15, up2_eq] : rg17 (B + 15) 8 = some (B + 22))
    · exact (by rw [erg17, up2_eq] : rg17 (B + 15) 10 = some (B + 23))
  exact r_vret C hw hr hlk (Nat.le_of_ble_eq_true rfl) (Nat.le_of_ble_eq_true rfl) dX5_init_84 ⟨rfl, hsz, rfl, rfl, CI.next hci (by decide) (by decide) (by decide) (by decide) (fun a j h => by rw [eig19, up2_a h]) (fun a j h => by rw [erg17, up2_a h, erg15, up2_a h, erg13, up2_a h, erg11, up2_a h, erg9, up2_a h, erg7, up2_a h, erg5, up2_a h, erg3, up2_a h, erg1, up2_a h]) (by rw [eig19]; intro j; unfold up2; simp only [true_and]; exact iv_m (f := fun j => ig (B + 15) j) (eqm1 (by omega)) (by intro j; simp [vsl]) (fun j => (zn _ j (by omega)).1) j) hrr, fun j => by rw [eig19, up2_a (by omega)], fun j => by rw [erg17, up2_a (by omega), erg15, up2_a (by omega), erg13, up2_a (by omega), erg11, up2_a (by omega), erg9, up2_a (by omega), erg7, up2_a (by omega), erg5, up2_a (by omega), erg3, up2_a (by omega), erg1, up2_a (by omega)]⟩

set_option maxHeartbeats 4000000 in
set_option maxRecDepth 100000 in
theorem t_X10_init (l : Launch) (B : Nat) (D : va_G) (cA : Nat → ClassId) (kd : sK) (ig : sI) (rg : sR) (lg : sG) (sz : Nat) (hs0 : sz = B + 25) (hk0 : kd = kx B 25) (hci : CI B 24 ig rg lg) : MC l B D cA yX10_init cX10_init 3 none (rL 1 4 896) [.ref (B + 24), .ref (B + 9), .ref (B + 15)] kd ig rg lg sz (fun r kd' ig' rg' lg' n => kd' = kx B 29 ∧ n = B + 29 ∧ lg = lg' ∧ r = none ∧ CI B 29 ig' rg' lg' ∧ (∀ j, ig' (B + 0) j = ig (B + 0) j) ∧ (∀ j, rg' (B + 0) j = rg (B + 0) j)) := by
  refine MC.of (own := RX10) (by decide +kernel) rfl (Nat.le_of_ble_eq_true rfl) ?_
  intro p e s m args below meth c ls C hr hlk hnm hw hsz hl
  have hx := C.1.1
  have hb := C.1.2.1
  have hown := C.1.2.2.2.1
  have hts := C.1.2.2.2.2
  have hl : lv_has ls 3 [(0, .ref (B + 24)), (1, .ref (B + 9)), (2, .ref (B + 15))] := hl
  subst hs0
  subst hk0
  have zn := hci.2.2.2.1
  have zl := hci.2.2.2.2
  refine lv_aload_n hx hb dX10_init_0 rfl (lv_at hl 0 rfl) ?_
  refine r_obj C ol_X10_3 oi_i oi_c hl.1 (by decide) (by decide) dX10_init_1 ?_
  refine lv_aload_n hx hb dX10_init_4 rfl (lv_at hl 0 rfl) ?_
  refine lv_aload_n hx hb dX10_init_5 rfl (lv_at hl 1 rfl) ?_
  refine r_putrF C hw (some (B + 9)) rfl hnm rfl (kxs 24 (by decide) rfl) fl_X10_9 rfl rfl rfl dX10_init_6 (fun H locs hH hw => ?_)
  obtain ⟨rg1, erg1⟩ : ∃ f, f = up2 rg (B + 24) 0 (some (B + 9)) := ⟨_, rfl⟩
  rw [← erg1] at hw
  have hsz := hH.trans hsz
  refine lv_aload_n hx hb dX10_init_9 rfl (lv_at hl 0 rfl) ?_
  refine lv_aload_n hx hb dX10_init_10 rfl (lv_at hl 2 rfl) ?_
  refine r_putrF C hw (some (B + 15)) rfl hnm rfl (kxs 24 (by decide) rfl) fl_X10_15 rfl rfl rfl dX10_init_11 (fun H locs hH hw => ?_)
  obtain ⟨rg2, erg2⟩ : ∃ f, f = up2 rg1 (B + 24) 1 (some (B + 15)) := ⟨_, rfl⟩
  rw [← erg2] at hw
  have hsz := hH.trans hsz
  refine lv_aload_n hx hb dX10_init_14 rfl (lv_at hl 0 rfl) ?_
  refine lv_sipush (v := 288) hx hb dX10_init_15 (by decide) (ti_c 288 (by decide) fun z3 hz3 => ?_)
  refine r_newa (k := 20) (n := 288) (ty := .int) (atype := .int) C hw rfl rfl (by omega) ac_int hz3 rfl (by decide) (Nat.le_of_ble_eq_true rfl) (Nat.le_of_ble_eq_true rfl) dX10_init_18 hsz (fun H hsz hw => ?_)
  rw [kx_up (m := 26) rfl rfl] at hw
  rw [upR_same (fun j => (zn _ j (by omega)).1)] at hw
  have hsz : H.size = B + 26 := hsz
  refine r_putrF C hw (some (B + 25)) rfl hnm rfl (kxs 24 (by decide) rfl) fl_X10_19 rfl rfl rfl dX10_init_20 (fun H locs hH hw => ?_)
  obtain ⟨rg4, erg4⟩ : ∃ f, f = up2 rg2 (B + 24) 2 (some (B + 25)) := ⟨_, rfl⟩
  rw [← erg4] at hw
  have hsz := hH.trans hsz
  refine lv_aload_n hx hb dX10_init_23 rfl (lv_at hl 0 rfl) ?_
  refine lv_sipush (v := 288) hx hb dX10_init_24 (by decide) (ti_c 288 (by decide) fun z5 hz5 => ?_)
  refine r_newa (k := 20) (n := 288) (ty := .int) (atype := .int) C hw rfl rfl (by omega) ac_int hz5 rfl (by decide) (Nat.le_of_ble_eq_true rfl) (Nat.le_of_ble_eq_true rfl) dX10_init_27 hsz (fun H hsz hw => ?_)
  rw [kx_up (m := 27) rfl rfl] at hw
  rw [upR_same (fun j => (zn _ j (by omega)).1)] at hw
  have hsz : H.size = B + 27 := hsz
  refine r_putrF C hw (some (B + 26)) rfl hnm rfl (kxs 24 (by decide) rfl) fl_X10_23 rfl rfl rfl dX10_init_29 (fun H locs hH hw => ?_)
  obtain ⟨rg6, erg6⟩ : ∃ f, f = up2 rg4 (B + 24) 3 (some (B + 26)) := ⟨_, rfl⟩
  rw [← erg6] at hw
  have hsz := hH.trans hsz
  refine lv_aload_n hx hb dX10_init_32 rfl (lv_at hl 0 rfl) ?_
  refine lv_sipush (v := 288) hx hb dX10_init_33 (by decide) (ti_c 288 (by decide) fun z7 hz7 => ?_)
  refine r_newa (k := 20) (n := 288) (ty := .int) (atype := .int) C hw rfl rfl (by omega) ac_int hz7 rfl (by decide) (Nat.le_of_ble_eq_true rfl) (Nat.le_of_ble_eq_true rfl) dX10_init_36 hsz (fun H hsz hw => ?_)
  rw [kx_up (m := 28) rfl rfl] at hw
  rw [upR_same (fun j => (zn _ j (by omega)).1)] at hw
  have hsz : H.size = B + 28 := hsz
  refine r_putrF C hw (some (B + 27)) rfl hnm rfl (kxs 24 (by decide) rfl) fl_X10_26 rfl rfl rfl dX10_init_38 (fun H locs hH hw => ?_)
  obtain ⟨rg8, erg8⟩ : ∃ f, f = up2 rg6 (B + 24) 4 (some (B + 27)) := ⟨_, rfl⟩
  rw [← erg8] at hw
  have hsz := hH.trans hsz
  refine lv_aload_n hx hb dX10_init_41 rfl (lv_at hl 0 rfl) ?_
  refine lv_bipush (v := 32) hx hb dX10_init_42 (by decide) (ti_c 32 (by decide) fun z9 hz9 => ?_)
  refine r_newa (k := 20) (n := 32) (ty := .int) (atype := .int) C hw rfl rfl (by omega) ac_int hz9 rfl (by decide) (Nat.le_of_ble_eq_true rfl) (Nat.le_of_ble_eq_true rfl) dX10_init_44 hsz (fun H hsz hw => ?_)
  rw [kx_up (m := 29) rfl rfl] at hw
  rw [upR_same (fun j => (zn _ j (by omega)).1)] at hw
  have hsz : H.size = B + 29 := hsz
  refine r_putrF C hw (some (B + 28)) rfl hnm rfl (kxs 24 (by decide) rfl) fl_X10_29 rfl rfl rfl dX10_init_46 (fun H locs hH hw => ?_)
  obtain ⟨rg10, erg10⟩ : ∃ f, f = up2 rg8 (B + 24) 5 (some (B + 28)) := ⟨_, rfl⟩
  rw [← erg10] at hw
  have hsz := hH.trans hsz
  refine lv_aload_n hx hb dX10_init_49 rfl (lv_at hl 0 rfl) ?_
  refine lv_iconst (v := (-1)) hx hb dX10_init_50 (by decide) (ti_c (-1) (by decide) fun z11 hz11 => ?_)
  refine r_puti C hw (kxs 24 (by decide) rfl) fl_X10_32 rfl rfl rfl dX10_init_51 (fun H locs hH hw => ?_)
  obtain ⟨ig12, eig12⟩ : ∃ f, f = up2 ig (B + 24) 8 z11 := ⟨_, rfl⟩
  rw [← eig12] at hw
  have hsz := hH.trans hsz
  have hrr : ∀ x ∈ rfp, x.1 = 24 → rg10 (B + 24) x.2.1 = some (B + x.2.2) := by
    intro x hx h0
    have q := (by decide : ∀ x ∈ rfp, x.1 = 24 → x ∈ ([(24, 0, 9), (24, 1, 15), (24, 2, 25), (24, 3, 26), (24, 4, 27), (24, 5, 28)] : List (Nat × Nat × Nat))) x hx h0
    simp only [List.mem_cons, List.not_mem_nil, or_false] at q
    rcases q with rfl | rfl | rfl | rfl | rfl | rfl
    · exact (by rw [erg10, up2_j (by decide), erg8, up2_j (by decide), erg6, up2_j (by decide), erg4, up2_j (by decide), erg2, up2_j (by decide), erg1, up2_eq] : rg10 (B + 24) 0 = some (B + 9))
    · exact (by rw [erg10, up2_j (by decide), erg8, up2_j (by decide), erg6, up2_j (by decide), erg4, up2_j (by decide), erg2, up2_eq] : rg10 (B + 24) 1 = some (B + 15))
    · exact (by rw [erg10, up2_j (by decide), erg8, up2_j (by decide), erg6, up2_j (by decide), erg4, up2_eq] : rg10 (B + 24) 2 = some (B + 25))
    · exact (by rw [erg10, up2_j (by decide), erg8, up2_j (by decide), erg6, up2_eq] : rg10 (B + 24) 3 = some (B + 26))
    · exact (by rw [erg10, up2_j (by decide), erg8, up2_eq] : rg10 (B + 24) 4 = some (B + 27))
    · exact (by rw [erg10, up2_eq] : rg10 (B + 24) 5 = some (B + 28))
  exact r_vret C hw hr hlk (Nat.le_of_ble_eq_true rfl) (Nat.le_of_ble_eq_true rfl) dX10_init_54 ⟨rfl, hsz, rfl, rfl, CI.next hci (by decide) (by decide) (by decide) (by decide) (fun a j h => by rw [eig12, up2_a h]) (fun a j h => by rw [erg10, up2_a h, erg8, up2_a h, erg6, up2_a h, erg4, up2_a h, erg2, up2_a h, erg1, up2_a h]) (by rw [eig12]; intro j; unfold up2; simp only [true_and]; exact iv_m (f := fun j => ig (B + 24) j) (eqm1 (by omega)) (by intro j; simp [vsl]) (fun j => (zn _ j (by omega)).1) j) hrr, fun j => by rw [eig12, up2_a (by omega)], fun j => by rw [erg10, up2_a (by omega), erg8, up2_a (by omega), erg6, up2_a (by omega), erg4, up2_a (by omega), erg2, up2_a (by omega), erg1, up2_a (by omega)]⟩

set_option maxHeartbeats 4000000 in
set_option maxRecDepth 100000 in
theorem t_X2_init (l : Launch) (B : Nat) (D : va_G) (cA : Nat → ClassId) (kd : sK) (ig : sI) (rg : sR) (lg : sG) (sz : Nat) (hs0 : sz = B + 30) (hk0 : kd = kx B 30) (hci : CI B 29 ig rg lg) : MC l B D cA yX2_init cX2_init 2 none (rL 1 2 576) [.ref (B + 29), .ref (B + 9)] kd ig rg lg sz (fun r kd' ig' rg' lg' n => kd' = kx B 32 ∧ n = B + 32 ∧ lg = lg' ∧ r = none ∧ CI B 32 ig' rg' lg' ∧ (∀ j, ig' (B + 0) j = ig (B + 0) j) ∧ (∀ j, rg' (B + 0) j = rg (B + 0) j)) := by
  refine MC.of (own := RX2) (by decide +kernel) rfl (Nat.le_of_ble_eq_true rfl) ?_
  intro p e s m args below meth c ls C hr hlk hnm hw hsz hl
  have hx := C.1.1
  have hb := C.1.2.1
  have hown := C.1.2.2.2.1
  have hts := C.1.2.2.2.2
  have hl : lv_has ls 2 [(0, .ref (B + 29)), (1, .ref (B + 9))] := hl
  subst hs0
  subst hk0
  have zn := hci.2.2.2.1
  have zl := hci.2.2.2.2
  refine lv_aload_n hx hb dX2_init_0 rfl (lv_at hl 0 rfl) ?_
  refine r_obj C ol_X2_3 oi_i oi_c hl.1 (by decide) (by decide) dX2_init_1 ?_
  refine lv_aload_n hx hb dX2_init_4 rfl (lv_at hl 0 rfl) ?_
  refine lv_aload_n hx hb dX2_init_5 rfl (lv_at hl 1 rfl) ?_
  refine r_putrF C hw (some (B + 9)) rfl hnm rfl (kxs 29 (by decide) rfl) fl_X2_9 rfl rfl rfl dX2_init_6 (fun H locs hH hw => ?_)
  obtain ⟨rg1, erg1⟩ : ∃ f, f = up2 rg (B + 29) 0 (some (B + 9)) := ⟨_, rfl⟩
  rw [← erg1] at hw
  have hsz := hH.trans hsz
  refine lv_aload_n hx hb dX2_init_9 rfl (lv_at hl 0 rfl) ?_
  refine lv_sipush (v := 288) hx hb dX2_init_10 (by decide) (ti_c 288 (by decide) fun z2 hz2 => ?_)
  refine r_newa (k := 20) (n := 288) (ty := .int) (atype := .int) C hw rfl rfl (by omega) ac_int hz2 rfl (by decide) (Nat.le_of_ble_eq_true rfl) (Nat.le_of_ble_eq_true rfl) dX2_init_13 hsz (fun H hsz hw => ?_)
  rw [kx_up (m := 31) rfl rfl] at hw
  rw [upR_same (fun j => (zn _ j (by omega)).1)] at hw
  have hsz : H.size = B + 31 := hsz
  refine r_putrF C hw (some (B + 30)) rfl hnm rfl (kxs 29 (by decide) rfl) fl_X2_15 rfl rfl rfl dX2_init_15 (fun H locs hH hw => ?_)
  obtain ⟨rg3, erg3⟩ : ∃ f, f = up2 rg1 (B + 29) 1 (some (B + 30)) := ⟨_, rfl⟩
  rw [← erg3] at hw
  have hsz := hH.trans hsz
  refine lv_aload_n hx hb dX2_init_18 rfl (lv_at hl 0 rfl) ?_
  refine lv_sipush (v := 288) hx hb dX2_init_19 (by decide) (ti_c 288 (by decide) fun z4 hz4 => ?_)
  refine r_newa (k := 20) (n := 288) (ty := .int) (atype := .int) C hw rfl rfl (by omega) ac_int hz4 rfl (by decide) (Nat.le_of_ble_eq_true rfl) (Nat.le_of_ble_eq_true rfl) dX2_init_22 hsz (fun H hsz hw => ?_)
  rw [kx_up (m := 32) rfl rfl] at hw
  rw [upR_same (fun j => (zn _ j (by omega)).1)] at hw
  have hsz : H.size = B + 32 := hsz
  refine r_putrF C hw (some (B + 31)) rfl hnm rfl (kxs 29 (by decide) rfl) fl_X2_19 rfl rfl rfl dX2_init_24 (fun H locs hH hw => ?_)
  obtain ⟨rg5, erg5⟩ : ∃ f, f = up2 rg3 (B + 29) 2 (some (B + 31)) := ⟨_, rfl⟩
  rw [← erg5] at hw
  have hsz := hH.trans hsz
  refine lv_aload_n hx hb dX2_init_27 rfl (lv_at hl 0 rfl) ?_
  refine lv_iconst (v := (-1)) hx hb dX2_init_28 (by decide) (ti_c (-1) (by decide) fun z6 hz6 => ?_)
  refine r_puti C hw (kxs 29 (by decide) rfl) fl_X2_22 rfl rfl rfl dX2_init_29 (fun H locs hH hw => ?_)
  obtain ⟨ig7, eig7⟩ : ∃ f, f = up2 ig (B + 29) 4 z6 := ⟨_, rfl⟩
  rw [← eig7] at hw
  have hsz := hH.trans hsz
  have hrr : ∀ x ∈ rfp, x.1 = 29 → rg5 (B + 29) x.2.1 = some (B + x.2.2) := by
    intro x hx h0
    have q := (by decide : ∀ x ∈ rfp, x.1 = 29 → x ∈ ([(29, 0, 9), (29, 1, 30), (29, 2, 31)] : List (Nat × Nat × Nat))) x hx h0
    simp only [List.mem_cons, List.not_mem_nil, or_false] at q
    rcases q with rfl | rfl | rfl
    · exact (by rw [erg5, up2_j (by decide), erg3, up2_j (by decide), erg1, up2_eq] : rg5 (B + 29) 0 = some (B + 9))
    · exact (by rw [erg5, up2_j (by decide), erg3, up2_eq] : rg5 (B + 29) 1 = some (B + 30))
    · exact (by rw [erg5, up2_eq] : rg5 (B + 29) 2 = some (B + 31))
  exact r_vret C hw hr hlk (Nat.le_of_ble_eq_true rfl) (Nat.le_of_ble_eq_true rfl) dX2_init_32 ⟨rfl, hsz, rfl, rfl, CI.next hci (by decide) (by decide) (by decide) (by decide) (fun a j h => by rw [eig7, up2_a h]) (fun a j h => by rw [erg5, up2_a h, erg3, up2_a h, erg1, up2_a h]) (by rw [eig7]; intro j; unfold up2; simp only [true_and]; exact iv_m (f := fun j => ig (B + 29) j) (eqm1 (by omega)) (by intro j; simp [vsl]) (fun j => (zn _ j (by omega)).1) j) hrr, fun j => by rw [eig7, up2_a (by omega)], fun j => by rw [erg5, up2_a (by omega), erg3, up2_a (by omega), erg1, up2_a (by omega)]⟩

set_option maxHeartbeats 4000000 in
set_option maxRecDepth 100000 in
theorem t_X9_init (l : Launch) (B : Nat) (D : va_G) (cA : Nat → ClassId) (kd : sK) (ig : sI) (rg : sR) (lg : sG) (sz : Nat) (hs0 : sz = B + 33) (hk0 : kd = kx B 33) (hci : CI B 32 ig rg lg) : MC l B D cA yX9_init cX9_init 3 none (rL 1 4 1536) [.ref (B + 32), .ref (B + 9), .ref (B + 15)] kd ig rg lg sz (fun r kd' ig' rg' lg' n => kd' = kx B 37 ∧ n = B + 37 ∧ lg = lg' ∧ r = none ∧ CI B 37 ig' rg' lg' ∧ (∀ j, ig' (B + 0) j = ig (B + 0) j) ∧ (∀ j, rg' (B + 0) j = rg (B + 0) j)) := by
  refine MC.of (own := RX9) (by decide +kernel) rfl (Nat.le_of_ble_eq_true rfl) ?_
  intro p e s m args below meth c ls C hr hlk hnm hw hsz hl
  have hx := C.1.1
  have hb := C.1.2.1
  have hown := C.1.2.2.2.1
  have hts := C.1.2.2.2.2
  have hl : lv_has ls 3 [(0, .ref (B + 32)), (1, .ref (B + 9)), (2, .ref (B + 15))] := hl
  subst hs0
  subst hk0
  have zn := hci.2.2.2.1
  have zl := hci.2.2.2.2
  refine lv_aload_n hx hb dX9_init_0 rfl (lv_at hl 0 rfl) ?_
  refine r_obj C ol_X9_3 oi_i oi_c hl.1 (by decide) (by decide) dX9_init_1 ?_
  refine lv_aload_n hx hb dX9_init_4 rfl (lv_at hl 0 rfl) ?_
  refine lv_aload_n hx hb dX9_init_5 rfl (lv_at hl 1 rfl) ?_
  refine r_putrF C hw (some (B + 9)) rfl hnm rfl (kxs 32 (by decide) rfl) fl_X9_9 rfl rfl rfl dX9_init_6 (fun H locs hH hw => ?_)
  obtain ⟨rg1, erg1⟩ : ∃ f, f = up2 rg (B + 32) 0 (some (B + 9)) := ⟨_, rfl⟩
  rw [← erg1] at hw
  have hsz := hH.trans hsz
  refine lv_aload_n hx hb dX9_init_9 rfl (lv_at hl 0 rfl) ?_
  refine lv_aload_n hx hb dX9_init_10 rfl (lv_at hl 2 rfl) ?_
  refine r_putrF C hw (some (B + 15)) rfl hnm rfl (kxs 32 (by decide) rfl) fl_X9_15 rfl rfl rfl dX9_init_11 (fun H locs hH hw => ?_)
  obtain ⟨rg2, erg2⟩ : ∃ f, f = up2 rg1 (B + 32) 1 (some (B + 15)) := ⟨_, rfl⟩
  rw [← erg2] at hw
  have hsz := hH.trans hsz
  refine lv_aload_n hx hb dX9_init_14 rfl (lv_at hl 0 rfl) ?_
  refine lv_sipush (v := 864) hx hb dX9_init_15 (by decide) (ti_c 864 (by decide) fun z3 hz3 => ?_)
  refine r_newa (k := 20) (n := 864) (ty := .int) (atype := .int) C hw rfl rfl (by omega) ac_int hz3 rfl (by decide) (Nat.le_of_ble_eq_true rfl) (Nat.le_of_ble_eq_true rfl) dX9_init_18 hsz (fun H hsz hw => ?_)
  rw [kx_up (m := 34) rfl rfl] at hw
  rw [upR_same (fun j => (zn _ j (by omega)).1)] at hw
  have hsz : H.size = B + 34 := hsz
  refine r_putrF C hw (some (B + 33)) rfl hnm rfl (kxs 32 (by decide) rfl) fl_X9_19 rfl rfl rfl dX9_init_20 (fun H locs hH hw => ?_)
  obtain ⟨rg4, erg4⟩ : ∃ f, f = up2 rg2 (B + 32) 2 (some (B + 33)) := ⟨_, rfl⟩
  rw [← erg4] at hw
  have hsz := hH.trans hsz
  refine lv_aload_n hx hb dX9_init_23 rfl (lv_at hl 0 rfl) ?_
  refine lv_sipush (v := 288) hx hb dX9_init_24 (by decide) (ti_c 288 (by decide) fun z5 hz5 => ?_)
  refine r_newa (k := 22) (n := 288) (ty := .boolean) (atype := .boolean) C hw rfl rfl (by omega) ac_boolean hz5 rfl (by decide) (Nat.le_of_ble_eq_true rfl) (Nat.le_of_ble_eq_true rfl) dX9_init_27 hsz (fun H hsz hw => ?_)
  rw [kx_up (m := 35) rfl rfl] at hw
  rw [upR_same (fun j => (zn _ j (by omega)).1)] at hw
  have hsz : H.size = B + 35 := hsz
  refine r_putrF C hw (some (B + 34)) rfl hnm rfl (kxs 32 (by decide) rfl) fl_X9_23 rfl rfl rfl dX9_init_29 (fun H locs hH hw => ?_)
  obtain ⟨rg6, erg6⟩ : ∃ f, f = up2 rg4 (B + 32) 3 (some (B + 34)) := ⟨_, rfl⟩
  rw [← erg6] at hw
  have hsz := hH.trans hsz
  refine lv_aload_n hx hb dX9_init_32 rfl (lv_at hl 0 rfl) ?_
  refine lv_sipush (v := 288) hx hb dX9_init_33 (by decide) (ti_c 288 (by decide) fun z7 hz7 => ?_)
  refine r_newa (k := 20) (n := 288) (ty := .int) (atype := .int) C hw rfl rfl (by omega) ac_int hz7 rfl (by decide) (Nat.le_of_ble_eq_true rfl) (Nat.le_of_ble_eq_true rfl) dX9_init_36 hsz (fun H hsz hw => ?_)
  rw [kx_up (m := 36) rfl rfl] at hw
  rw [upR_same (fun j => (zn _ j (by omega)).1)] at hw
  have hsz : H.size = B + 36 := hsz
  refine r_putrF C hw (some (B + 35)) rfl hnm rfl (kxs 32 (by decide) rfl) fl_X9_27 rfl rfl rfl dX9_init_38 (fun H locs hH hw => ?_)
  obtain ⟨rg8, erg8⟩ : ∃ f, f = up2 rg6 (B + 32) 4 (some (B + 35)) := ⟨_, rfl⟩
  rw [← erg8] at hw
  have hsz := hH.trans hsz
  refine lv_aload_n hx hb dX9_init_41 rfl (lv_at hl 0 rfl) ?_
  refine lv_bipush (v := 96) hx hb dX9_init_42 (by decide) (ti_c 96 (by decide) fun z9 hz9 => ?_)
  refine r_newa (k := 20) (n := 96) (ty := .int) (atype := .int) C hw rfl rfl (by omega) ac_int hz9 rfl (by decide) (Nat.le_of_ble_eq_true rfl) (Nat.le_of_ble_eq_true rfl) dX9_init_44 hsz (fun H hsz hw => ?_)
  rw [kx_up (m := 37) rfl rfl] at hw
  rw [upR_same (fun j => (zn _ j (by omega)).1)] at hw
  have hsz : H.size = B + 37 := hsz
  refine r_putrF C hw (some (B + 36)) rfl hnm rfl (kxs 32 (by decide) rfl) fl_X9_30 rfl rfl rfl dX9_init_46 (fun H locs hH hw => ?_)
  obtain ⟨rg10, erg10⟩ : ∃ f, f = up2 rg8 (B + 32) 5 (some (B + 36)) := ⟨_, rfl⟩
  rw [← erg10] at hw
  have hsz := hH.trans hsz
  refine lv_aload_n hx hb dX9_init_49 rfl (lv_at hl 0 rfl) ?_
  refine lv_iconst (v := (-1)) hx hb dX9_init_50 (by decide) (ti_c (-1) (by decide) fun z11 hz11 => ?_)
  refine r_puti C hw (kxs 32 (by decide) rfl) fl_X9_33 rfl rfl rfl dX9_init_51 (fun H locs hH hw => ?_)
  obtain ⟨ig12, eig12⟩ : ∃ f, f = up2 ig (B + 32) 8 z11 := ⟨_, rfl⟩
  rw [← eig12] at hw
  have hsz := hH.trans hsz
  have hrr : ∀ x ∈ rfp, x.1 = 32 → rg10 (B + 32) x.2.1 = some (B + x.2.2) := by
    intro x hx h0
    have q := (by decide : ∀ x ∈ rfp, x.1 = 32 → x ∈ ([(32, 0, 9), (32, 1, 15), (32, 2, 33), (32, 3, 34), (32, 4, 35), (32, 5, 36)] : List (Nat × Nat × Nat))) x hx h0
    simp only [List.mem_cons, List.not_mem_nil, or_false] at q
    rcases q with rfl | rfl | rfl | rfl | rfl | rfl
    · exact (by rw [erg10, up2_j (by decide), erg8, up2_j (by decide), erg6, up2_j (by decide), erg4, up2_j (by decide), erg2, up2_j (by decide), erg1, up2_eq] : rg10 (B + 32) 0 = some (B + 9))
    · exact (by rw [erg10, up2_j (by decide), erg8, up2_j (by decide), erg6, up2_j (by decide), erg4, up2_j (by decide), erg2, up2_eq] : rg10 (B + 32) 1 = some (B + 15))
    · exact (by rw [erg10, up2_j (by decide), erg8, up2_j (by decide), erg6, up2_j (by decide), erg4, up2_eq] : rg10 (B + 32) 2 = some (B + 33))
    · exact (by rw [erg10, up2_j (by decide), erg8, up2_j (by decide), erg6, up2_eq] : rg10 (B + 32) 3 = some (B + 34))
    · exact (by rw [erg10, up2_j (by decide), erg8, up2_eq] : rg10 (B + 32) 4 = some (B + 35))
    · exact (by rw [erg10, up2_eq] : rg10 (B + 32) 5 = some (B + 36))
  exact r_vret C hw hr hlk (Nat.le_of_ble_eq_true rfl) (Nat.le_of_ble_eq_true rfl) dX9_init_54 ⟨rfl, hsz, rfl, rfl, CI.next hci (by decide) (by decide) (by decide) (by decide) (fun a j h => by rw [eig12, up2_a h]) (fun a j h => by rw [erg10, up2_a h, erg8, up2_a h, erg6, up2_a h, erg4, up2_a h, erg2, up2_a h, erg1, up2_a h]) (by rw [eig12]; intro j; unfold up2; simp only [true_and]; exact iv_m (f := fun j => ig (B + 32) j) (eqm1 (by omega)) (by intro j; simp [vsl]) (fun j => (zn _ j (by omega)).1) j) hrr, fun j => by rw [eig12, up2_a (by omega)], fun j => by rw [erg10, up2_a (by omega), erg8, up2_a (by omega), erg6, up2_a (by omega), erg4, up2_a (by omega), erg2, up2_a (by omega), erg1, up2_a (by omega)]⟩

set_option maxHeartbeats 4000000 in
set_option maxRecDepth 100000 in
theorem t_X8_init (l : Launch) (B : Nat) (D : va_G) (cA : Nat → ClassId) (kd : sK) (ig : sI) (rg : sR) (lg : sG) (sz : Nat) (hs0 : sz = B + 38) (hk0 : kd = kx B 38) (hci : CI B 37 ig rg lg) : MC l B D cA yX8_init cX8_init 3 none (rL 1 5 3744) [.ref (B + 37), .ref (B + 9), .ref (B + 15)] kd ig rg lg sz (fun r kd' ig' rg' lg' n => kd' = kx B 43 ∧ n = B + 43 ∧ lg = lg' ∧ r = none ∧ CI B 43 ig' rg' lg' ∧ (∀ j, ig' (B + 0) j = ig (B + 0) j) ∧ (∀ j, rg' (B + 0) j = rg (B + 0) j)) := by
  refine MC.of (own := RX8) (by decide +kernel) rfl (Nat.le_of_ble_eq_true rfl) ?_
  intro p e s m args below meth c ls C hr hlk hnm hw hsz hl
  have hx := C.1.1
  have hb := C.1.2.1
  have hown := C.1.2.2.2.1
  have hts := C.1.2.2.2.2
  have hl : lv_has ls 3 [(0, .ref (B + 37)), (1, .ref (B + 9)), (2, .ref (B + 15))] := hl
  subst hs0
  subst hk0
  have zn := hci.2.2.2.1
  have zl := hci.2.2.2.2
  refine lv_aload_n hx hb dX8_init_0 rfl (lv_at hl 0 rfl) ?_
  refine r_obj C ol_X8_3 oi_i oi_c hl.1 (by decide) (by decide) dX8_init_1 ?_
  refine lv_aload_n hx hb dX8_init_4 rfl (lv_at hl 0 rfl) ?_
  refine lv_aload_n hx hb dX8_init_5 rfl (lv_at hl 1 rfl) ?_
  refine r_putrF C hw (some (B + 9)) rfl hnm rfl (kxs 37 (by decide) rfl) fl_X8_9 rfl rfl rfl dX8_init_6 (fun H locs hH hw => ?_)
  obtain ⟨rg1, erg1⟩ : ∃ f, f = up2 rg (B + 37) 0 (some (B + 9)) := ⟨_, rfl⟩
  rw [← erg1] at hw
  have hsz := hH.trans hsz
  refine lv_aload_n hx hb dX8_init_9 rfl (lv_at hl 0 rfl) ?_
  refine lv_aload_n hx hb dX8_init_10 rfl (lv_at hl 2 rfl) ?_
  refine r_putrF C hw (some (B + 15)) rfl hnm rfl (kxs 37 (by decide) rfl) fl_X8_15 rfl rfl rfl dX8_init_11 (fun H locs hH hw => ?_)
  obtain ⟨rg2, erg2⟩ : ∃ f, f = up2 rg1 (B + 37) 1 (some (B + 15)) := ⟨_, rfl⟩
  rw [← erg2] at hw
  have hsz := hH.trans hsz
  refine lv_aload_n hx hb dX8_init_14 rfl (lv_at hl 0 rfl) ?_
  refine lv_sipush (v := 288) hx hb dX8_init_15 (by decide) (ti_c 288 (by decide) fun z3 hz3 => ?_)
  refine r_newa (k := 22) (n := 288) (ty := .boolean) (atype := .boolean) C hw rfl rfl (by omega) ac_boolean hz3 rfl (by decide) (Nat.le_of_ble_eq_true rfl) (Nat.le_of_ble_eq_true rfl) dX8_init_18 hsz (fun H hsz hw => ?_)
  rw [kx_up (m := 39) rfl rfl] at hw
  rw [upR_same (fun j => (zn _ j (by omega)).1)] at hw
  have hsz : H.size = B + 39 := hsz
  refine r_putrF C hw (some (B + 38)) rfl hnm rfl (kxs 37 (by decide) rfl) fl_X8_19 rfl rfl rfl dX8_init_20 (fun H locs hH hw => ?_)
  obtain ⟨rg4, erg4⟩ : ∃ f, f = up2 rg2 (B + 37) 2 (some (B + 38)) := ⟨_, rfl⟩
  rw [← erg4] at hw
  have hsz := hH.trans hsz
  refine lv_aload_n hx hb dX8_init_23 rfl (lv_at hl 0 rfl) ?_
  refine lv_sipush (v := 288) hx hb dX8_init_24 (by decide) (ti_c 288 (by decide) fun z5 hz5 => ?_)
  refine r_newa (k := 20) (n := 288) (ty := .int) (atype := .int) C hw rfl rfl (by omega) ac_int hz5 rfl (by decide) (Nat.le_of_ble_eq_true rfl) (Nat.le_of_ble_eq_true rfl) dX8_init_27 hsz (fun H hsz hw => ?_)
  rw [kx_up (m := 40) rfl rfl] at hw
  rw [upR_same (fun j => (zn _ j (by omega)).1)] at hw
  have hsz : H.size = B + 40 := hsz
  refine r_putrF C hw (some (B + 39)) rfl hnm rfl (kxs 37 (by decide) rfl) fl_X8_23 rfl rfl rfl dX8_init_29 (fun H locs hH hw => ?_)
  obtain ⟨rg6, erg6⟩ : ∃ f, f = up2 rg4 (B + 37) 3 (some (B + 39)) := ⟨_, rfl⟩
  rw [← erg6] at hw
  have hsz := hH.trans hsz
  refine lv_aload_n hx hb dX8_init_32 rfl (lv_at hl 0 rfl) ?_
  refine lv_sipush (v := 288) hx hb dX8_init_33 (by decide) (ti_c 288 (by decide) fun z7 hz7 => ?_)
  refine r_newa (k := 20) (n := 288) (ty := .int) (atype := .int) C hw rfl rfl (by omega) ac_int hz7 rfl (by decide) (Nat.le_of_ble_eq_true rfl) (Nat.le_of_ble_eq_true rfl) dX8_init_36 hsz (fun H hsz hw => ?_)
  rw [kx_up (m := 41) rfl rfl] at hw
  rw [upR_same (fun j => (zn _ j (by omega)).1)] at hw
  have hsz : H.size = B + 41 := hsz
  refine r_putrF C hw (some (B + 40)) rfl hnm rfl (kxs 37 (by decide) rfl) fl_X8_27 rfl rfl rfl dX8_init_38 (fun H locs hH hw => ?_)
  obtain ⟨rg8, erg8⟩ : ∃ f, f = up2 rg6 (B + 37) 4 (some (B + 40)) := ⟨_, rfl⟩
  rw [← erg8] at hw
  have hsz := hH.trans hsz
  refine lv_aload_n hx hb dX8_init_41 rfl (lv_at hl 0 rfl) ?_
  refine lv_sipush (v := 1440) hx hb dX8_init_42 (by decide) (ti_c 1440 (by decide) fun z9 hz9 => ?_)
  refine r_newl (n := 1440) C hw ac_long hz9 (by decide) (Nat.le_of_ble_eq_true rfl) (Nat.le_of_ble_eq_true rfl) dX8_init_45 hsz (fun H hsz hw => ?_)
  rw [kx_up (m := 42) rfl rfl] at hw
  rw [upR_same (fun j => zl _ j)] at hw
  have hsz : H.size = B + 42 := hsz
  refine r_putrF C hw (some (B + 41)) rfl hnm rfl (kxs 37 (by decide) rfl) fl_X8_30 rfl rfl rfl dX8_init_47 (fun H locs hH hw => ?_)
  obtain ⟨rg10, erg10⟩ : ∃ f, f = up2 rg8 (B + 37) 5 (some (B + 41)) := ⟨_, rfl⟩
  rw [← erg10] at hw
  have hsz := hH.trans hsz
  refine lv_aload_n hx hb dX8_init_50 rfl (lv_at hl 0 rfl) ?_
  refine lv_sipush (v := 1440) hx hb dX8_init_51 (by decide) (ti_c 1440 (by decide) fun z11 hz11 => ?_)
  refine r_newl (n := 1440) C hw ac_long hz11 (by decide) (Nat.le_of_ble_eq_true rfl) (Nat.le_of_ble_eq_true rfl) dX8_init_54 hsz (fun H hsz hw => ?_)
  rw [kx_up (m := 43) rfl rfl] at hw
  rw [upR_same (fun j => zl _ j)] at hw
  have hsz : H.size = B + 43 := hsz
  refine r_putrF C hw (some (B + 42)) rfl hnm rfl (kxs 37 (by decide) rfl) fl_X8_34 rfl rfl rfl dX8_init_56 (fun H locs hH hw => ?_)
  obtain ⟨rg12, erg12⟩ : ∃ f, f = up2 rg10 (B + 37) 6 (some (B + 42)) := ⟨_, rfl⟩
  rw [← erg12] at hw
  have hsz := hH.trans hsz
  refine lv_aload_n hx hb dX8_init_59 rfl (lv_at hl 0 rfl) ?_
  refine lv_iconst (v := (-1)) hx hb dX8_init_60 (by decide) (ti_c (-1) (by decide) fun z13 hz13 => ?_)
  refine r_puti C hw (kxs 37 (by decide) rfl) fl_X8_37 rfl rfl rfl dX8_init_61 (fun H locs hH hw => ?_)
  obtain ⟨ig14, eig14⟩ : ∃ f, f = up2 ig (B + 37) 7 z13 := ⟨_, rfl⟩
  rw [← eig14] at hw
  have hsz := hH.trans hsz
  have hrr : ∀ x ∈ rfp, x.1 = 37 → rg12 (B + 37) x.2.1 = some (B + x.2.2) := by
    intro x hx h0
    have q := (by decide : ∀ x ∈ rfp, x.1 = 37 → x ∈ ([(37, 0, 9), (37, 1, 15), (37, 2, 38), (37, 3, 39), (37, 4, 40), (37, 5, 41), (37, 6, 42)] : List (Nat × Nat × Nat))) x hx h0
    simp only [List.mem_cons, List.not_mem_nil, or_false] at q
    rcases q with rfl | rfl | rfl | rfl | rfl | rfl | rfl
    · exact (by rw [erg12, up2_j (by decide), erg10, up2_j (by decide), erg8, up2_j (by decide), erg6, up2_j (by decide), erg4, up2_j (by decide), erg2, up2_j (by decide), erg1, up2_eq] : rg12 (B + 37) 0 = some (B + 9))
    · exact (by rw [erg12, up2_j (by decide), erg10, up2_j (by decide), erg8, up2_j (by decide), erg6, up2_j (by decide), erg4, up2_j (by decide), erg2, up2_eq] : rg12 (B + 37) 1 = some (B + 15))
    · exact (by rw [erg12, up2_j (by decide), erg10, up2_j (by decide), erg8, up2_j (by decide), erg6, up2_j (by decide), erg4, up2_eq] : rg12 (B + 37) 2 = some (B + 38))
    · exact (by rw [erg12, up2_j (by decide), erg10, up2_j (by decide), erg8, up2_j (by decide), erg6, up2_eq] : rg12 (B + 37) 3 = some (B + 39))
    · exact (by rw [erg12, up2_j (by decide), erg10, up2_j (by decide), erg8, up2_eq] : rg12 (B + 37) 4 = some (B + 40))
    · exact (by rw [erg12, up2_j (by decide), erg10, up2_eq] : rg12 (B + 37) 5 = some (B + 41))
    · exact (by rw [erg12, up2_eq] : rg12 (B + 37) 6 = some (B + 42))
  exact r_vret C hw hr hlk (Nat.le_of_ble_eq_true rfl) (Nat.le_of_ble_eq_true rfl) dX8_init_64 ⟨rfl, hsz, rfl, rfl, CI.next hci (by decide) (by decide) (by decide) (by decide) (fun a j h => by rw [eig14, up2_a h]) (fun a j h => by rw [erg12, up2_a h, erg10, up2_a h, erg8, up2_a h, erg6, up2_a h, erg4, up2_a h, erg2, up2_a h, erg1, up2_a h]) (by rw [eig14]; intro j; unfold up2; simp only [true_and]; exact iv_m (f := fun j => ig (B + 37) j) (eqm1 (by omega)) (by intro j; simp [vsl]) (fun j => (zn _ j (by omega)).1) j) hrr, fun j => by rw [eig14, up2_a (by omega)], fun j => by rw [erg12, up2_a (by omega), erg10, up2_a (by omega), erg8, up2_a (by omega), erg6, up2_a (by omega), erg4, up2_a (by omega), erg2, up2_a (by omega), erg1, up2_a (by omega)]⟩

set_option maxHeartbeats 4000000 in
set_option maxRecDepth 100000 in
theorem t_X3_init (l : Launch) (B : Nat) (D : va_G) (cA : Nat → ClassId) (kd : sK) (ig : sI) (rg : sR) (lg : sG) (sz : Nat) (hs0 : sz = B + 44) (hk0 : kd = kx B 44) (hci : CI B 43 ig rg lg) : MC l B D cA yX3_init cX3_init 6 none (rL 1 1 900) [.ref (B + 43), .ref (B + 9), .ref (B + 15), .ref (B + 29), .ref (B + 32), .ref (B + 37)] kd ig rg lg sz (fun r kd' ig' rg' lg' n => kd' = kx B 45 ∧ n = B + 45 ∧ lg = lg' ∧ r = none ∧ CI B 45 ig' rg' lg' ∧ (∀ j, ig' (B + 0) j = ig (B + 0) j) ∧ (∀ j, rg' (B + 0) j = rg (B + 0) j)) := by
  refine MC.of (own := RX3) (by decide +kernel) rfl (Nat.le_of_ble_eq_true rfl) ?_
  intro p e s m args below meth c ls C hr hlk hnm hw hsz hl
  have hx := C.1.1
  have hb := C.1.2.1
  have hown := C.1.2.2.2.1
  have hts := C.1.2.2.2.2
  have hl : lv_has ls 6 [(0, .ref (B + 43)), (1, .ref (B + 9)), (2, .ref (B + 15)), (3, .ref (B + 29)), (4, .ref (B + 32)), (5, .ref (B + 37))] := hl
  subst hs0
  subst hk0
  have zn := hci.2.2.2.1
  have zl := hci.2.2.2.2
  refine lv_aload_n hx hb dX3_init_0 rfl (lv_at hl 0 rfl) ?_
  refine r_obj C ol_X3_3 oi_i oi_c hl.1 (by decide) (by decide) dX3_init_1 ?_
  refine lv_aload_n hx hb dX3_init_4 rfl (lv_at hl 0 rfl) ?_
  refine lv_aload_n hx hb dX3_init_5 rfl (lv_at hl 1 rfl) ?_
  refine r_putrF C hw (some (B + 9)) rfl hnm rfl (kxs 43 (by decide) rfl) fl_X3_9 rfl rfl rfl dX3_init_6 (fun H locs hH hw => ?_)
  obtain ⟨rg1, erg1⟩ : ∃ f, f = up2 rg (B + 43) 0 (some (B + 9)) := ⟨_, rfl⟩
  rw [← erg1] at hw
  have hsz := hH.trans hsz
  refine lv_aload_n hx hb dX3_init_9 rfl (lv_at hl 0 rfl) ?_
  refine lv_aload_n hx hb dX3_init_10 rfl (lv_at hl 2 rfl) ?_
  refine r_putrF C hw (some (B + 15)) rfl hnm rfl (kxs 43 (by decide) rfl) fl_X3_15 rfl rfl rfl dX3_init_11 (fun H locs hH hw => ?_)
  obtain ⟨rg2, erg2⟩ : ∃ f, f = up2 rg1 (B + 43) 1 (some (B + 15)) := ⟨_, rfl⟩
  rw [← erg2] at hw
  have hsz := hH.trans hsz
  refine lv_aload_n hx hb dX3_init_14 rfl (lv_at hl 0 rfl) ?_
  refine lv_aload_n hx hb dX3_init_15 rfl (lv_at hl 3 rfl) ?_
  refine r_putrF C hw (some (B + 29)) rfl hnm rfl (kxs 43 (by decide) rfl) fl_X3_19 rfl rfl rfl dX3_init_16 (fun H locs hH hw => ?_)
  obtain ⟨rg3, erg3⟩ : ∃ f, f = up2 rg2 (B + 43) 2 (some (B + 29)) := ⟨_, rfl⟩
  rw [← erg3] at hw
  have hsz := hH.trans hsz
  refine lv_aload_n hx hb dX3_init_19 rfl (lv_at hl 0 rfl) ?_
  refine lv_aload hx hb dX3_init_20 (lv_at hl 4 rfl) ?_
  refine r_putrF C hw (some (B + 32)) rfl hnm rfl (kxs 43 (by decide) rfl) fl_X3_23 rfl rfl rfl dX3_init_22 (fun H locs hH hw => ?_)
  obtain ⟨rg4, erg4⟩ : ∃ f, f = up2 rg3 (B + 43) 3 (some (B + 32)) := ⟨_, rfl⟩
  rw [← erg4] at hw
  have hsz := hH.trans hsz
  refine lv_aload_n hx hb dX3_init_25 rfl (lv_at hl 0 rfl) ?_
  refine lv_aload hx hb dX3_init_26 (lv_at hl 5 rfl) ?_
  refine r_putrF C hw (some (B + 37)) rfl hnm rfl (kxs 43 (by decide) rfl) fl_X3_27 rfl rfl rfl dX3_init_28 (fun H locs hH hw => ?_)
  obtain ⟨rg5, erg5⟩ : ∃ f, f = up2 rg4 (B + 43) 4 (some (B + 37)) := ⟨_, rfl⟩
  rw [← erg5] at hw
  have hsz := hH.trans hsz
  refine lv_aload_n hx hb dX3_init_31 rfl (lv_at hl 0 rfl) ?_
  refine lv_sipush (v := 900) hx hb dX3_init_32 (by decide) (ti_c 900 (by decide) fun z6 hz6 => ?_)
  refine r_newa (k := 20) (n := 900) (ty := .int) (atype := .int) C hw rfl rfl (by omega) ac_int hz6 rfl (by decide) (Nat.le_of_ble_eq_true rfl) (Nat.le_of_ble_eq_true rfl) dX3_init_35 hsz (fun H hsz hw => ?_)
  rw [kx_up (m := 45) rfl rfl] at hw
  rw [upR_same (fun j => (zn _ j (by omega)).1)] at hw
  have hsz : H.size = B + 45 := hsz
  refine r_putrF C hw (some (B + 44)) rfl hnm rfl (kxs 43 (by decide) rfl) fl_X3_31 rfl rfl rfl dX3_init_37 (fun H locs hH hw => ?_)
  obtain ⟨rg7, erg7⟩ : ∃ f, f = up2 rg5 (B + 43) 5 (some (B + 44)) := ⟨_, rfl⟩
  rw [← erg7] at hw
  have hsz := hH.trans hsz
  refine lv_aload_n hx hb dX3_init_40 rfl (lv_at hl 0 rfl) ?_
  refine lv_iconst (v := 0) hx hb dX3_init_41 (by decide) (ti_c 0 (by decide) fun z8 hz8 => ?_)
  refine r_puti C hw (kxs 43 (by decide) rfl) fl_X3_35 rfl rfl rfl dX3_init_42 (fun H locs hH hw => ?_)
  obtain ⟨ig9, eig9⟩ : ∃ f, f = up2 ig (B + 43) 6 z8 := ⟨_, rfl⟩
  rw [← eig9] at hw
  have hsz := hH.trans hsz
  have hrr : ∀ x ∈ rfp, x.1 = 43 → rg7 (B + 43) x.2.1 = some (B + x.2.2) := by
    intro x hx h0
    have q := (by decide : ∀ x ∈ rfp, x.1 = 43 → x ∈ ([(43, 0, 9), (43, 1, 15), (43, 2, 29), (43, 3, 32), (43, 4, 37), (43, 5, 44)] : List (Nat × Nat × Nat))) x hx h0
    simp only [List.mem_cons, List.not_mem_nil, or_false] at q
    rcases q with rfl | rfl | rfl | rfl | rfl | rfl
    · exact (by rw [erg7, up2_j (by decide), erg5, up2_j (by decide), erg4, up2_j (by decide), erg3, up2_j (by decide), erg2, up2_j (by decide), erg1, up2_eq] : rg7 (B + 43) 0 = some (B + 9))
    · exact (by rw [erg7, up2_j (by decide), erg5, up2_j (by decide), erg4, up2_j (by decide), erg3, up2_j (by decide), erg2, up2_eq] : rg7 (B + 43) 1 = some (B + 15))
    · exact (by rw [erg7, up2_j (by decide), erg5, up2_j (by decide), erg4, up2_j (by decide), erg3, up2_eq] : rg7 (B + 43) 2 = some (B + 29))
    · exact (by rw [erg7, up2_j (by decide), erg5, up2_j (by decide), erg4, up2_eq] : rg7 (B + 43) 3 = some (B + 32))
    · exact (by rw [erg7, up2_j (by decide), erg5, up2_eq] : rg7 (B + 43) 4 = some (B + 37))
    · exact (by rw [erg7, up2_eq] : rg7 (B + 43) 5 = some (B + 44))
  exact r_vret C hw hr hlk (Nat.le_of_ble_eq_true rfl) (Nat.le_of_ble_eq_true rfl) dX3_init_45 ⟨rfl, hsz, rfl, rfl, CI.next hci (by decide) (by decide) (by decide) (by decide) (fun a j h => by rw [eig9, up2_a h]) (fun a j h => by rw [erg7, up2_a h, erg5, up2_a h, erg4, up2_a h, erg3, up2_a h, erg2, up2_a h, erg1, up2_a h]) (by intro j; rw [eig9, iv_z (by decide)]; exact (up2_z (fun j => (zn _ j (by omega)).1) (eq0 (by omega))) j) hrr, fun j => by rw [eig9, up2_a (by omega)], fun j => by rw [erg7, up2_a (by omega), erg5, up2_a (by omega), erg4, up2_a (by omega), erg3, up2_a (by omega), erg2, up2_a (by omega), erg1, up2_a (by omega)]⟩

set_option maxHeartbeats 4000000 in
set_option maxRecDepth 100000 in
theorem t_X1_init (l : Launch) (B : Nat) (D : va_G) (cA : Nat → ClassId) (kd : sK) (ig : sI) (rg : sR) (lg : sG) (sz : Nat) (hs0 : sz = B + 46) (hk0 : kd = kx B 46) (hci : CI B 45 ig rg lg) : MC l B D cA yX1_init cX1_init 2 none (rL 1 3 2016) [.ref (B + 45), .ref (B + 24)] kd ig rg lg sz (fun r kd' ig' rg' lg' n => kd' = kx B 49 ∧ n = B + 49 ∧ lg = lg' ∧ r = none ∧ CI B 49 ig' rg' lg' ∧ (∀ j, ig' (B + 0) j = ig (B + 0) j) ∧ (∀ j, rg' (B + 0) j = rg (B + 0) j)) := by
  refine MC.of (own := RX1) (by decide +kernel) rfl (Nat.le_of_ble_eq_true rfl) ?_
  intro p e s m args below meth c ls C hr hlk hnm hw hsz hl
  have hx := C.1.1
  have hb := C.1.2.1
  have hown := C.1.2.2.2.1
  have hts := C.1.2.2.2.2
  have hl : lv_has ls 2 [(0, .ref (B + 45)), (1, .ref (B + 24))] := hl
  subst hs0
  subst hk0
  have zn := hci.2.2.2.1
  have zl := hci.2.2.2.2
  refine lv_aload_n hx hb dX1_init_0 rfl (lv_at hl 0 rfl) ?_
  refine r_obj C ol_X1_3 oi_i oi_c hl.1 (by decide) (by decide) dX1_init_1 ?_
  refine lv_aload_n hx hb dX1_init_4 rfl (lv_at hl 0 rfl) ?_
  refine lv_aload_n hx hb dX1_init_5 rfl (lv_at hl 1 rfl) ?_
  refine r_putrF C hw (some (B + 24)) rfl hnm rfl (kxs 45 (by decide) rfl) fl_X1_9 rfl rfl rfl dX1_init_6 (fun H locs hH hw => ?_)
  obtain ⟨rg1, erg1⟩ : ∃ f, f = up2 rg (B + 45) 0 (some (B + 24)) := ⟨_, rfl⟩
  rw [← erg1] at hw
  have hsz := hH.trans hsz
  refine lv_aload_n hx hb dX1_init_9 rfl (lv_at hl 0 rfl) ?_
  refine lv_sipush (v := 288) hx hb dX1_init_10 (by decide) (ti_c 288 (by decide) fun z2 hz2 => ?_)
  refine r_newa (k := 20) (n := 288) (ty := .int) (atype := .int) C hw rfl rfl (by omega) ac_int hz2 rfl (by decide) (Nat.le_of_ble_eq_true rfl) (Nat.le_of_ble_eq_true rfl) dX1_init_13 hsz (fun H hsz hw => ?_)
  rw [kx_up (m := 47) rfl rfl] at hw
  rw [upR_same (fun j => (zn _ j (by omega)).1)] at hw
  have hsz : H.size = B + 47 := hsz
  refine r_putrF C hw (some (B + 46)) rfl hnm rfl (kxs 45 (by decide) rfl) fl_X1_15 rfl rfl rfl dX1_init_15 (fun H locs hH hw => ?_)
  obtain ⟨rg3, erg3⟩ : ∃ f, f = up2 rg1 (B + 45) 1 (some (B + 46)) := ⟨_, rfl⟩
  rw [← erg3] at hw
  have hsz := hH.trans hsz
  refine lv_aload_n hx hb dX1_init_18 rfl (lv_at hl 0 rfl) ?_
  refine lv_sipush (v := 288) hx hb dX1_init_19 (by decide) (ti_c 288 (by decide) fun z4 hz4 => ?_)
  refine r_newa (k := 20) (n := 288) (ty := .int) (atype := .int) C hw rfl rfl (by omega) ac_int hz4 rfl (by decide) (Nat.le_of_ble_eq_true rfl) (Nat.le_of_ble_eq_true rfl) dX1_init_22 hsz (fun H hsz hw => ?_)
  rw [kx_up (m := 48) rfl rfl] at hw
  rw [upR_same (fun j => (zn _ j (by omega)).1)] at hw
  have hsz : H.size = B + 48 := hsz
  refine r_putrF C hw (some (B + 47)) rfl hnm rfl (kxs 45 (by decide) rfl) fl_X1_19 rfl rfl rfl dX1_init_24 (fun H locs hH hw => ?_)
  obtain ⟨rg5, erg5⟩ : ∃ f, f = up2 rg3 (B + 45) 2 (some (B + 47)) := ⟨_, rfl⟩
  rw [← erg5] at hw
  have hsz := hH.trans hsz
  refine lv_aload_n hx hb dX1_init_27 rfl (lv_at hl 0 rfl) ?_
  refine lv_sipush (v := 1440) hx hb dX1_init_28 (by decide) (ti_c 1440 (by decide) fun z6 hz6 => ?_)
  refine r_newa (k := 20) (n := 1440) (ty := .int) (atype := .int) C hw rfl rfl (by omega) ac_int hz6 rfl (by decide) (Nat.le_of_ble_eq_true rfl) (Nat.le_of_ble_eq_true rfl) dX1_init_31 hsz (fun H hsz hw => ?_)
  rw [kx_up (m := 49) rfl rfl] at hw
  rw [upR_same (fun j => (zn _ j (by omega)).1)] at hw
  have hsz : H.size = B + 49 := hsz
  refine r_putrF C hw (some (B + 48)) rfl hnm rfl (kxs 45 (by decide) rfl) fl_X1_22 rfl rfl rfl dX1_init_33 (fun H locs hH hw => ?_)
  obtain ⟨rg7, erg7⟩ : ∃ f, f = up2 rg5 (B + 45) 3 (some (B + 48)) := ⟨_, rfl⟩
  rw [← erg7] at hw
  have hsz := hH.trans hsz
  refine lv_aload_n hx hb dX1_init_36 rfl (lv_at hl 0 rfl) ?_
  refine lv_iconst (v := 0) hx hb dX1_init_37 (by decide) (ti_c 0 (by decide) fun z8 hz8 => ?_)
  refine r_puti C hw (kxs 45 (by decide) rfl) fl_X1_25 rfl rfl rfl dX1_init_38 (fun H locs hH hw => ?_)
  obtain ⟨ig9, eig9⟩ : ∃ f, f = up2 ig (B + 45) 4 z8 := ⟨_, rfl⟩
  rw [← eig9] at hw
  have hsz := hH.trans hsz
  have hrr : ∀ x ∈ rfp, x.1 = 45 → rg7 (B + 45) x.2.1 = some (B + x.2.2) := by
    intro x hx h0
    have q := (by decide : ∀ x ∈ rfp, x.1 = 45 → x ∈ ([(45, 0, 24), (45, 1, 46), (45, 2, 47), (45, 3, 48)] : List (Nat × Nat × Nat))) x hx h0
    simp only [List.mem_cons, List.not_mem_nil, or_false] at q
    rcases q with rfl | rfl | rfl | rfl
    · exact (by rw [erg7, up2_j (by decide), erg5, up2_j (by decide), erg3, up2_j (by decide), erg1, up2_eq] : rg7 (B + 45) 0 = some (B + 24))
    · exact (by rw [erg7, up2_j (by decide), erg5, up2_j (by decide), erg3, up2_eq] : rg7 (B + 45) 1 = some (B + 46))
    · exact (by rw [erg7, up2_j (by decide), erg5, up2_eq] : rg7 (B + 45) 2 = some (B + 47))
    · exact (by rw [erg7, up2_eq] : rg7 (B + 45) 3 = some (B + 48))
  exact r_vret C hw hr hlk (Nat.le_of_ble_eq_true rfl) (Nat.le_of_ble_eq_true rfl) dX1_init_41 ⟨rfl, hsz, rfl, rfl, CI.next hci (by decide) (by decide) (by decide) (by decide) (fun a j h => by rw [eig9, up2_a h]) (fun a j h => by rw [erg7, up2_a h, erg5, up2_a h, erg3, up2_a h, erg1, up2_a h]) (by intro j; rw [eig9, iv_z (by decide)]; exact (up2_z (fun j => (zn _ j (by omega)).1) (eq0 (by omega))) j) hrr, fun j => by rw [eig9, up2_a (by omega)], fun j => by rw [erg7, up2_a (by omega), erg5, up2_a (by omega), erg3, up2_a (by omega), erg1, up2_a (by omega)]⟩
