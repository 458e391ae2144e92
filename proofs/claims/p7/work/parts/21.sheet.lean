set_option maxHeartbeats 4000000 in
set_option maxRecDepth 100000 in
theorem t_X0_initN {τ : Tp} (l : Launch) (B : Nat) (D : va_G) (cA : Nat → ClassId) (kd : sK) (ig : sI) (rg : sR) (lg : sG) (sz : Nat) (a : Nat) (kt : kd a = some (0, 0)) (ha : B + 80 ≤ a) (x : Int32) (y : Int32) (hI : IC τ B kd ig rg) : MC l B D cA yX0_init cX0_init 4 none (rL 1 0 0) [.ref a, .int x, .int y, .null] kd ig rg lg sz (PI 2 τ B (some a) kd ig rg lg (fun r kd' ig' rg' lg' => r = none)) := by
  refine MC.of (own := RX0) (by decide +kernel) rfl (Nat.le_of_ble_eq_true rfl) ?_
  intro p e s m args below meth c ls C hr hlk hnm hw hsz hl
  have hx := C.1.1
  have hb := C.1.2.1
  have hown := C.1.2.2.2.1
  have hts := C.1.2.2.2.2
  have hl : lv_has ls 4 [(0, .ref a), (1, .int x), (2, .int y), (3, .null)] := hl
  have hN : Nx 2 B (some a) kd ig rg lg kd ig rg lg := Nx.rf
  have hsh := hI.sh
  have hrs := hI.rs
  refine lv_aload_n hx hb dX0_init_0 rfl (lv_at hl 0 rfl) ?_
  refine r_obj C ol_X0_3 oi_i oi_c hl.1 (by decide) (by decide) dX0_init_1 ?_
  refine lv_aload_n hx hb dX0_init_4 rfl (lv_at hl 0 rfl) ?_
  refine lv_iload_n hx hb dX0_init_5 rfl (lv_at hl 1 rfl) ?_
  refine r_putiF C hw hnm rfl kt fl_X0_9 rfl rfl rfl dX0_init_6 (fun H locs hH hw => ?_)
  obtain ⟨ig1, eig1⟩ : ∃ f, f = up2 ig a 0 x := ⟨_, rfl⟩
  rw [← eig1] at hw
  have hN : Nx 2 B (some a) kd ig rg lg kd ig1 rg lg := by rw [eig1]; exact hN.pi (by have := ha; omega)
  have hI : IC τ B kd ig1 rg := by rw [eig1]; exact hI.pd (by have := ha; omega)
  refine lv_aload_n hx hb dX0_init_9 rfl (lv_at hl 0 rfl) ?_
  refine lv_iload_n hx hb dX0_init_10 rfl (lv_at hl 2 rfl) ?_
  refine r_putiF C hw hnm rfl kt fl_X0_15 rfl rfl rfl dX0_init_11 (fun H locs hH hw => ?_)
  obtain ⟨ig2, eig2⟩ : ∃ f, f = up2 ig1 a 1 y := ⟨_, rfl⟩
  rw [← eig2] at hw
  have hN : Nx 2 B (some a) kd ig rg lg kd ig2 rg lg := by rw [eig2]; exact hN.pi (by have := ha; omega)
  have hI : IC τ B kd ig2 rg := by rw [eig2]; exact hI.pd (by have := ha; omega)
  refine lv_aload_n hx hb dX0_init_14 rfl (lv_at hl 0 rfl) ?_
  refine lv_aload_nN hx hb dX0_init_15 rfl (lv_at hl 3 rfl) ?_
  refine r_putrF C hw none rfl hnm rfl kt fl_X0_18 rfl rfl rfl dX0_init_16 (fun H locs hH hw => ?_)
  obtain ⟨rg3, erg3⟩ : ∃ f, f = up2 rg a 2 none := ⟨_, rfl⟩
  rw [← erg3] at hw
  have hN : Nx 2 B (some a) kd ig rg lg kd ig2 rg3 lg := by rw [erg3]; exact hN.pr (by omega) (Or.inl rfl)
  have hI : IC τ B kd ig2 rg3 := by rw [erg3]; exact hI.pf (by omega) (IC.nr hI kt) (fun n h1 h2 => Or.inl rfl)
  have hrs := hI.rs
  refine lv_aload_n hx hb dX0_init_19 rfl (lv_at hl 0 rfl) ?_
  refine lv_iconst (v := 0) hx hb dX0_init_20 (by decide) (ti_c 0 (by decide) fun z4 hz4 => ?_)
  refine r_putiF C hw hnm rfl kt fl_X0_22 rfl rfl rfl dX0_init_21 (fun H locs hH hw => ?_)
  obtain ⟨ig5, eig5⟩ : ∃ f, f = up2 ig2 a 3 z4 := ⟨_, rfl⟩
  rw [← eig5] at hw
  have hN : Nx 2 B (some a) kd ig rg lg kd ig5 rg3 lg := by rw [eig5]; exact hN.pi (by have := ha; omega)
  have hI : IC τ B kd ig5 rg3 := by rw [eig5]; exact hI.pd (by have := ha; omega)
  refine lv_aload_n hx hb dX0_init_24 rfl (lv_at hl 0 rfl) ?_
  refine lv_iconst (v := 0) hx hb dX0_init_25 (by decide) (ti_c 0 (by decide) fun z6 hz6 => ?_)
  refine r_putiF C hw hnm rfl kt fl_X0_25 rfl rfl rfl dX0_init_26 (fun H locs hH hw => ?_)
  obtain ⟨ig7, eig7⟩ : ∃ f, f = up2 ig5 a 4 z6 := ⟨_, rfl⟩
  rw [← eig7] at hw
  have hN : Nx 2 B (some a) kd ig rg lg kd ig7 rg3 lg := by rw [eig7]; exact hN.pi (by have := ha; omega)
  have hI : IC τ B kd ig7 rg3 := by rw [eig7]; exact hI.pd (by have := ha; omega)
  refine lv_aload_n hx hb dX0_init_29 rfl (lv_at hl 0 rfl) ?_
  refine lv_iconst (v := 0) hx hb dX0_init_30 (by decide) (ti_c 0 (by decide) fun z8 hz8 => ?_)
  refine r_putiF C hw hnm rfl kt fl_X0_28 rfl rfl rfl dX0_init_31 (fun H locs hH hw => ?_)
  obtain ⟨ig9, eig9⟩ : ∃ f, f = up2 ig7 a 5 z8 := ⟨_, rfl⟩
  rw [← eig9] at hw
  have hN : Nx 2 B (some a) kd ig rg lg kd ig9 rg3 lg := by rw [eig9]; exact hN.pi (by have := ha; omega)
  have hI : IC τ B kd ig9 rg3 := by rw [eig9]; exact hI.pd (by have := ha; omega)
  exact r_vret C hw hr hlk (Nat.le_of_ble_eq_true rfl) (Nat.le_of_ble_eq_true rfl) dX0_init_34 ⟨hI, hN, rfl⟩

set_option maxHeartbeats 4000000 in
set_option maxRecDepth 100000 in
theorem t_X0_initF {τ : Tp} (l : Launch) (B : Nat) (D : va_G) (cA : Nat → ClassId) (kd : sK) (ig : sI) (rg : sR) (lg : sG) (sz : Nat) (a : Nat) (kt : kd a = some (0, 0)) (ha : B + 80 ≤ a) (x : Int32) (y : Int32) (g ng : Nat) (Fg : isFn B kd rg g ng) (hI : IC τ B kd ig rg) : MC l B D cA yX0_init cX0_init 4 none (rL 1 0 0) [.ref a, .int x, .int y, .ref g] kd ig rg lg sz (PI 2 τ B (some a) kd ig rg lg (fun r kd' ig' rg' lg' => r = none)) := by
  refine MC.of (own := RX0) (by decide +kernel) rfl (Nat.le_of_ble_eq_true rfl) ?_
  intro p e s m args below meth c ls C hr hlk hnm hw hsz hl
  have hx := C.1.1
  have hb := C.1.2.1
  have hown := C.1.2.2.2.1
  have hts := C.1.2.2.2.2
  have hl : lv_has ls 4 [(0, .ref a), (1, .int x), (2, .int y), (3, .ref g)] := hl
  have hN : Nx 2 B (some a) kd ig rg lg kd ig rg lg := Nx.rf
  have hsh := hI.sh
  have hrs := hI.rs
  refine lv_aload_n hx hb dX0_init_0 rfl (lv_at hl 0 rfl) ?_
  refine r_obj C ol_X0_3 oi_i oi_c hl.1 (by decide) (by decide) dX0_init_1 ?_
  refine lv_aload_n hx hb dX0_init_4 rfl (lv_at hl 0 rfl) ?_
  refine lv_iload_n hx hb dX0_init_5 rfl (lv_at hl 1 rfl) ?_
  refine r_putiF C hw hnm rfl kt fl_X0_9 rfl rfl rfl dX0_init_6 (fun H locs hH hw => ?_)
  obtain ⟨ig1, eig1⟩ : ∃ f, f = up2 ig a 0 x := ⟨_, rfl⟩
  rw [← eig1] at hw
  have hN : Nx 2 B (some a) kd ig rg lg kd ig1 rg lg := by rw [eig1]; exact hN.pi (by have := ha; omega)
  have hI : IC τ B kd ig1 rg := by rw [eig1]; exact hI.pd (by have := ha; omega)
  refine lv_aload_n hx hb dX0_init_9 rfl (lv_at hl 0 rfl) ?_
  refine lv_iload_n hx hb dX0_init_10 rfl (lv_at hl 2 rfl) ?_
  refine r_putiF C hw hnm rfl kt fl_X0_15 rfl rfl rfl dX0_init_11 (fun H locs hH hw => ?_)
  obtain ⟨ig2, eig2⟩ : ∃ f, f = up2 ig1 a 1 y := ⟨_, rfl⟩
  rw [← eig2] at hw
  have hN : Nx 2 B (some a) kd ig rg lg kd ig2 rg lg := by rw [eig2]; exact hN.pi (by have := ha; omega)
  have hI : IC τ B kd ig2 rg := by rw [eig2]; exact hI.pd (by have := ha; omega)
  refine lv_aload_n hx hb dX0_init_14 rfl (lv_at hl 0 rfl) ?_
  refine lv_aload_n hx hb dX0_init_15 rfl (lv_at hl 3 rfl) ?_
  refine r_putrF C hw (some g) rfl hnm rfl kt fl_X0_18 rfl rfl rfl dX0_init_16 (fun H locs hH hw => ?_)
  obtain ⟨rg3, erg3⟩ : ∃ f, f = up2 rg a 2 (some g) := ⟨_, rfl⟩
  rw [← erg3] at hw
  have hN : Nx 2 B (some a) kd ig rg lg kd ig2 rg3 lg := by rw [erg3]; exact hN.pr (by omega) (Or.inl rfl)
  have hI : IC τ B kd ig2 rg3 := by rw [erg3]; exact hI.pf (by omega) (IC.nr hI kt) (fun n h1 h2 => Or.inr ⟨_, _, rfl, (by rintro rfl; have h9 := (isFn.k Fg).symm.trans kt; cases h9), Fg⟩)
  have hrs := hI.rs
  refine lv_aload_n hx hb dX0_init_19 rfl (lv_at hl 0 rfl) ?_
  refine lv_iconst (v := 0) hx hb dX0_init_20 (by decide) (ti_c 0 (by decide) fun z4 hz4 => ?_)
  refine r_putiF C hw hnm rfl kt fl_X0_22 rfl rfl rfl dX0_init_21 (fun H locs hH hw => ?_)
  obtain ⟨ig5, eig5⟩ : ∃ f, f = up2 ig2 a 3 z4 := ⟨_, rfl⟩
  rw [← eig5] at hw
  have hN : Nx 2 B (some a) kd ig rg lg kd ig5 rg3 lg := by rw [eig5]; exact hN.pi (by have := ha; omega)
  have hI : IC τ B kd ig5 rg3 := by rw [eig5]; exact hI.pd (by have := ha; omega)
  refine lv_aload_n hx hb dX0_init_24 rfl (lv_at hl 0 rfl) ?_
  refine lv_iconst (v := 0) hx hb dX0_init_25 (by decide) (ti_c 0 (by decide) fun z6 hz6 => ?_)
  refine r_putiF C hw hnm rfl kt fl_X0_25 rfl rfl rfl dX0_init_26 (fun H locs hH hw => ?_)
  obtain ⟨ig7, eig7⟩ : ∃ f, f = up2 ig5 a 4 z6 := ⟨_, rfl⟩
  rw [← eig7] at hw
  have hN : Nx 2 B (some a) kd ig rg lg kd ig7 rg3 lg := by rw [eig7]; exact hN.pi (by have := ha; omega)
  have hI : IC τ B kd ig7 rg3 := by rw [eig7]; exact hI.pd (by have := ha; omega)
  refine lv_aload_n hx hb dX0_init_29 rfl (lv_at hl 0 rfl) ?_
  refine lv_iconst (v := 0) hx hb dX0_init_30 (by decide) (ti_c 0 (by decide) fun z8 hz8 => ?_)
  refine r_putiF C hw hnm rfl kt fl_X0_28 rfl rfl rfl dX0_init_31 (fun H locs hH hw => ?_)
  obtain ⟨ig9, eig9⟩ : ∃ f, f = up2 ig7 a 5 z8 := ⟨_, rfl⟩
  rw [← eig9] at hw
  have hN : Nx 2 B (some a) kd ig rg lg kd ig9 rg3 lg := by rw [eig9]; exact hN.pi (by have := ha; omega)
  have hI : IC τ B kd ig9 rg3 := by rw [eig9]; exact hI.pd (by have := ha; omega)
  exact r_vret C hw hr hlk (Nat.le_of_ble_eq_true rfl) (Nat.le_of_ble_eq_true rfl) dX0_init_34 ⟨hI, hN, rfl⟩

set_option maxHeartbeats 4000000 in
set_option maxRecDepth 100000 in
theorem t_X0_init_ {τ : Tp} (l : Launch) (B : Nat) (D : va_G) (cA : Nat → ClassId) (kd : sK) (ig : sI) (rg : sR) (lg : sG) (sz : Nat) (a : Nat) (kt : kd a = some (0, 0)) (ha : B + 80 ≤ a) (x : Int32) (y : Int32) (u : Int32) (w : Int32) (hI : IC τ B kd ig rg) : MC l B D cA yX0_init_ cX0_init_ 5 none (rL 1 0 0) [.ref a, .int x, .int y, .int u, .int w] kd ig rg lg sz (PI 2 τ B (some a) kd ig rg lg (fun r kd' ig' rg' lg' => r = none)) := by
  refine MC.of (own := RX0) (by decide +kernel) rfl (Nat.le_of_ble_eq_true rfl) ?_
  intro p e s m args below meth c ls C hr hlk hnm hw hsz hl
  have hx := C.1.1
  have hb := C.1.2.1
  have hown := C.1.2.2.2.1
  have hts := C.1.2.2.2.2
  have hl : lv_has ls 5 [(0, .ref a), (1, .int x), (2, .int y), (3, .int u), (4, .int w)] := hl
  have hN : Nx 2 B (some a) kd ig rg lg kd ig rg lg := Nx.rf
  have hsh := hI.sh
  have hrs := hI.rs
  refine lv_aload_n hx hb dX0_init__0 rfl (lv_at hl 0 rfl) ?_
  refine r_obj C ol_X0_3 oi_i oi_c hl.1 (by decide) (by decide) dX0_init__1 ?_
  refine lv_aload_n hx hb dX0_init__4 rfl (lv_at hl 0 rfl) ?_
  refine lv_iconst (v := 1) hx hb dX0_init__5 (by decide) (ti_c 1 (by decide) fun z1 hz1 => ?_)
  refine r_putiF C hw hnm rfl kt fl_X0_9 rfl rfl rfl dX0_init__6 (fun H locs hH hw => ?_)
  obtain ⟨ig2, eig2⟩ : ∃ f, f = up2 ig a 0 z1 := ⟨_, rfl⟩
  rw [← eig2] at hw
  have hN : Nx 2 B (some a) kd ig rg lg kd ig2 rg lg := by rw [eig2]; exact hN.pi (by have := ha; omega)
  have hI : IC τ B kd ig2 rg := by rw [eig2]; exact hI.pd (by have := ha; omega)
  refine lv_aload_n hx hb dX0_init__9 rfl (lv_at hl 0 rfl) ?_
  refine lv_iload_n hx hb dX0_init__10 rfl (lv_at hl 1 rfl) ?_
  refine r_putiF C hw hnm rfl kt fl_X0_15 rfl rfl rfl dX0_init__11 (fun H locs hH hw => ?_)
  obtain ⟨ig3, eig3⟩ : ∃ f, f = up2 ig2 a 1 x := ⟨_, rfl⟩
  rw [← eig3] at hw
  have hN : Nx 2 B (some a) kd ig rg lg kd ig3 rg lg := by rw [eig3]; exact hN.pi (by have := ha; omega)
  have hI : IC τ B kd ig3 rg := by rw [eig3]; exact hI.pd (by have := ha; omega)
  refine lv_aload_n hx hb dX0_init__14 rfl (lv_at hl 0 rfl) ?_
  refine lv_null hx hb dX0_init__15 ?_
  refine r_putrF C hw none rfl hnm rfl kt fl_X0_18 rfl rfl rfl dX0_init__16 (fun H locs hH hw => ?_)
  obtain ⟨rg4, erg4⟩ : ∃ f, f = up2 rg a 2 none := ⟨_, rfl⟩
  rw [← erg4] at hw
  have hN : Nx 2 B (some a) kd ig rg lg kd ig3 rg4 lg := by rw [erg4]; exact hN.pr (by omega) (Or.inl rfl)
  have hI : IC τ B kd ig3 rg4 := by rw [erg4]; exact hI.pf (by omega) (IC.nr hI kt) (fun n h1 h2 => Or.inl rfl)
  have hrs := hI.rs
  refine lv_aload_n hx hb dX0_init__19 rfl (lv_at hl 0 rfl) ?_
  refine lv_iload_n hx hb dX0_init__20 rfl (lv_at hl 2 rfl) ?_
  refine r_putiF C hw hnm rfl kt fl_X0_22 rfl rfl rfl dX0_init__21 (fun H locs hH hw => ?_)
  obtain ⟨ig5, eig5⟩ : ∃ f, f = up2 ig3 a 3 y := ⟨_, rfl⟩
  rw [← eig5] at hw
  have hN : Nx 2 B (some a) kd ig rg lg kd ig5 rg4 lg := by rw [eig5]; exact hN.pi (by have := ha; omega)
  have hI : IC τ B kd ig5 rg4 := by rw [eig5]; exact hI.pd (by have := ha; omega)
  refine lv_aload_n hx hb dX0_init__24 rfl (lv_at hl 0 rfl) ?_
  refine lv_iload_n hx hb dX0_init__25 rfl (lv_at hl 3 rfl) ?_
  refine r_putiF C hw hnm rfl kt fl_X0_25 rfl rfl rfl dX0_init__26 (fun H locs hH hw => ?_)
  obtain ⟨ig6, eig6⟩ : ∃ f, f = up2 ig5 a 4 u := ⟨_, rfl⟩
  rw [← eig6] at hw
  have hN : Nx 2 B (some a) kd ig rg lg kd ig6 rg4 lg := by rw [eig6]; exact hN.pi (by have := ha; omega)
  have hI : IC τ B kd ig6 rg4 := by rw [eig6]; exact hI.pd (by have := ha; omega)
  refine lv_aload_n hx hb dX0_init__29 rfl (lv_at hl 0 rfl) ?_
  refine lv_iload hx hb dX0_init__30 (lv_at hl 4 rfl) ?_
  refine r_putiF C hw hnm rfl kt fl_X0_28 rfl rfl rfl dX0_init__32 (fun H locs hH hw => ?_)
  obtain ⟨ig7, eig7⟩ : ∃ f, f = up2 ig6 a 5 w := ⟨_, rfl⟩
  rw [← eig7] at hw
  have hN : Nx 2 B (some a) kd ig rg lg kd ig7 rg4 lg := by rw [eig7]; exact hN.pi (by have := ha; omega)
  have hI : IC τ B kd ig7 rg4 := by rw [eig7]; exact hI.pd (by have := ha; omega)
  exact r_vret C hw hr hlk (Nat.le_of_ble_eq_true rfl) (Nat.le_of_ble_eq_true rfl) dX0_init__35 ⟨hI, hN, rfl⟩

set_option maxHeartbeats 4000000 in
set_option maxRecDepth 100000 in
theorem t_X0_withoutUnit {τ : Tp} (l : Launch) (B : Nat) (D : va_G) (cA : Nat → ClassId) (kd : sK) (ig : sI) (rg : sR) (lg : sG) (sz : Nat) (q nq : Nat) (kq : kd q = some (0, nq)) (hI : IC τ B kd ig rg) : MC l B D cA yX0_withoutUnit cX0_withoutUnit 1 (some (.object "SheetDoctor$Cell")) (rL 2 1 6) [.ref q] kd ig rg lg sz (PI 2 τ B none kd ig rg lg (fun r kd' ig' rg' lg' => ∃ q n, r = some (.ref q) ∧ kd' q = some (0, n))) := by
  refine MC.of (own := RX0) (by decide +kernel) rfl (Nat.le_of_ble_eq_true rfl) ?_
  intro p e s m args below meth c ls C hr hlk hnm hw hsz hl
  have hx := C.1.1
  have hb := C.1.2.1
  have hown := C.1.2.2.2.1
  have hts := C.1.2.2.2.2
  have hl : lv_has ls 1 [(0, .ref q)] := hl
  have hN : Nx 2 B none kd ig rg lg kd ig rg lg := Nx.rf
  have hsh := hI.sh
  have hrs := hI.rs
  refine lv_aload_n hx hb dX0_withoutUnit_0 rfl (lv_at hl 0 rfl) ?_
  refine r_get C hw kq fl_X0_9 (oV_i rfl) dX0_withoutUnit_1 (ti_c (ig q 0).toInt rfl fun z1 hz1 => ?_)
  refine lv_iconst (v := 1) hx hb dX0_withoutUnit_4 (by decide) (ti_c 1 (by decide) fun z2 hz2 => ?_)
  refine b_ne (tgt := 24) hx hb dX0_withoutUnit_5 (by decide) (fun c5 => ?_) (fun c5 => ?_)
  · refine lv_aload_n hx hb dX0_withoutUnit_24 rfl (lv_at hl 0 rfl) ?_
    exact r_aret C hw hr hlk (Or.inr ⟨_, rfl⟩) (Nat.le_of_ble_eq_true rfl) (Nat.le_of_ble_eq_true rfl) dX0_withoutUnit_25 ⟨hI, hN, ⟨_, _, rfl, kq⟩⟩
  · obtain ⟨h3, sh3⟩ : ∃ h, s.heap.size = h := ⟨_, rfl⟩
    have oh3 : kd h3 = none := by have h9 := hw.fresh; rw [sh3] at h9; exact h9
    have bh3 : B + 80 ≤ h3 := by have h9 := hw.lt (hsh 79 _ rfl); omega
    have noh3 := hN.no oh3
    have kq : upK kd h3 0 0 q = _ := (upK_ne (by rintro rfl; rw [oh3] at kq; cases kq)).trans kq
    have hI := IC.new (k := 0) (n := 0) hI oh3 bh3
    have hN := Nx.new (k := 0) (n := 0) hN oh3 bh3
    refine r_new (k := 0) (t0 := tyX0) C hw rfl (by decide) rfl inT0 tyX0_ok dfX0 cl_X0_10 it_0 id_0 (Nat.le_of_ble_eq_true rfl) (Nat.le_of_ble_eq_true rfl) dX0_withoutUnit_8 sh3 (fun H hsz hw => ?_)
    obtain ⟨kd4, ekd4⟩ : ∃ f, f = upK kd h3 0 0 := ⟨_, rfl⟩
    obtain ⟨ig5, eig5⟩ : ∃ f, f = upR ig h3 0 := ⟨_, rfl⟩
    obtain ⟨rg6, erg6⟩ : ∃ f, f = upR rg h3 none := ⟨_, rfl⟩
    have kh3 : kd4 h3 = some (0, 0) := by rw [ekd4, upK_eq]
    have rnh3 : ∀ j, rg6 h3 j = none := fun j => by rw [erg6, upR_eq]
    rw [← ekd4, ← eig5, ← erg6] at hw hI hN
    rw [← ekd4] at kq
    have hsh := hI.sh
    have hrs := hI.rs
    refine lv_dup hx hb dX0_withoutUnit_11 rfl ?_
    refine lv_iconst (v := 1) hx hb dX0_withoutUnit_12 (by decide) (ti_c 1 (by decide) fun z7 hz7 => ?_)
    refine lv_aload_n hx hb dX0_withoutUnit_13 rfl (lv_at hl 0 rfl) ?_
    refine r_get C hw kq fl_X0_15 (oV_i rfl) dX0_withoutUnit_14 (ti_c (ig5 q 1).toInt rfl fun z8 hz8 => ?_)
    refine lv_null hx hb dX0_withoutUnit_17 ?_
    refine r_callI (As := [.int z7, .int z8, .null]) (rest := [.ref h3]) C hw (t_X0_initN l B D cA kd4 ig5 rg6 lg _ h3 kh3 bh3 z7 z8  hI) sc_X0_37 rfl hl.1 rfl (Nat.le_of_ble_eq_true rfl) ⟨Nat.le_of_ble_eq_true rfl, Nat.le_of_ble_eq_true rfl⟩ ⟨Nat.le_of_ble_eq_true rfl, Nat.le_of_ble_eq_true rfl⟩ dX0_withoutUnit_18 (fun r13 kd9 ig10 rg11 lg12 H locs hw hH hp14 => ?_)
    obtain ⟨hI, hchp14, hrhp14⟩ := hp14
    have kh3 := Nx.k hchp14 kh3
    have hN := hN.trx hchp14 noh3
    have hsh := hI.sh
    have hrs := hI.rs
    obtain rfl := hrhp14
    refine lv_goto (tgt := 25) hx hb dX0_withoutUnit_21 (by decide) ?_
    exact r_aret C hw hr hlk (Or.inr ⟨_, rfl⟩) (Nat.le_of_ble_eq_true rfl) (Nat.le_of_ble_eq_true rfl) dX0_withoutUnit_25 ⟨hI, hN, ⟨_, _, rfl, kh3⟩⟩

set_option maxHeartbeats 4000000 in
set_option maxRecDepth 100000 in
theorem t_X4_init {τ : Tp} (l : Launch) (B : Nat) (D : va_G) (cA : Nat → ClassId) (kd : sK) (ig : sI) (rg : sR) (lg : sG) (sz : Nat) (fa : Nat) (kt : kd fa = some (4, 0)) (ha : B + 80 ≤ fa) (hr2 : rg fa 2 = none) (a1 n1 : Nat) (k1 : kd a1 = some (20, n1)) (a2 n2 : Nat) (k2 : kd a2 = some (20, n2)) (a3 n3 : Nat) (k3 : kd a3 = some (20, n3)) (x : Int32) (hnn : n1 ≤ 120 ∧ n2 ≤ 120 ∧ n3 ≤ 120) (hxs : x.toInt ≤ 120) (hI : IC τ B kd ig rg) : MC l B D cA yX4_init cX4_init 6 none (rL 2 3 360) [.ref fa, .ref a1, .ref a2, .ref a3, .int x] kd ig rg lg sz (PI 2 τ B (some fa) kd ig rg lg (fun r kd' ig' rg' lg' => (r = none ∧ ∃ n, isFn B kd' rg' fa n))) := by
  refine MC.of (own := RX4) (by decide +kernel) rfl (Nat.le_of_ble_eq_true rfl) ?_
  intro p e s m args below meth c ls C hr hlk hnm hw hsz hl
  have hx := C.1.1
  have hb := C.1.2.1
  have hown := C.1.2.2.2.1
  have hts := C.1.2.2.2.2
  have hl : lv_has ls 6 [(0, .ref fa), (1, .ref a1), (2, .ref a2), (3, .ref a3), (4, .int x)] := hl
  have hN : Nx 2 B (some fa) kd ig rg lg kd ig rg lg := Nx.rf
  have hsh := hI.sh
  have hrs := hI.rs
  refine lv_aload_n hx hb dX4_init_0 rfl (lv_at hl 0 rfl) ?_
  refine r_obj C ol_X4_5 oi_i oi_c hl.1 (by decide) (by decide) dX4_init_1 ?_
  refine lv_iload hx hb dX4_init_4 (lv_at hl 4 rfl) ?_
  refine z_ge (tgt := 13) hx hb dX4_init_6 (by decide) (fun c6 => ?_) (fun c6 => ?_)
  · refine lv_iload hx hb dX4_init_13 (lv_at hl 4 rfl) ?_
    refine lv_istore (lv' := [(5, .int x), (0, .ref fa), (1, .ref a1), (2, .ref a2), (3, .ref a3), (4, .int x)]) hx hb dX4_init_15 hl (by decide) rfl (fun ls hl => ?_)
    refine lv_aload_n hx hb dX4_init_17 rfl (lv_at hl 1 rfl) ?_
    refine lv_aload_n hx hb dX4_init_18 rfl (lv_at hl 2 rfl) ?_
    refine lv_iload hx hb dX4_init_19 (lv_at hl 0 rfl) ?_
    refine r_callS (As := [.ref a1, .int x]) (rest := [.ref fa]) C hw (t_J7_copyOf l B D cA kd ig rg lg _ a1 n1 k1 x (by omega) (by omega) hI) ss_X4_11 rfl hl.1 rfl (Nat.le_of_ble_eq_true rfl) ⟨Nat.le_of_ble_eq_true rfl, Nat.le_of_ble_eq_true rfl⟩ ⟨Nat.le_of_ble_eq_true rfl, Nat.le_of_ble_eq_true rfl⟩ dX4_init_21 (fun r5 kd1 ig2 rg3 lg4 H locs hw hH hp6 => ?_)
    obtain ⟨hI, hchp6, hrhp6⟩ := hp6
    have k2 := Nx.k hchp6 k2
    have k3 := Nx.k hchp6 k3
    have hN := hN.tr hchp6
    have hsh := hI.sh
    have hrs := hI.rs
    have hr2 := (hchp6.1.2.1 fa 2 (by simp) ⟨0, Or.inr kt⟩).trans hr2
    have kt := Nx.k hchp6 kt
    obtain ⟨a7, rfl, ka7, ga7⟩ := hrhp6
    refine r_putrF C hw (some a7) rfl hnm rfl kt fl_X4_17 rfl rfl rfl dX4_init_24 (fun H locs hH hw => ?_)
    obtain ⟨rg8, erg8⟩ : ∃ f, f = up2 rg3 fa 0 (some a7) := ⟨_, rfl⟩
    rw [← erg8] at hw
    have hN : Nx 2 B (some fa) kd ig rg lg kd1 ig2 rg8 lg4 := by rw [erg8]; exact hN.pr (by omega) (Or.inl rfl)
    have hI : IC τ B kd1 ig2 rg8 := by rw [erg8]; exact hI.pf (by omega) (IC.nrj hI (by decide) hr2) (fun n h1 h2 => by rw [kt] at h1; cases h1)
    have hrs := hI.rs
    have hr2 : rg8 fa 2 = none := by rw [erg8, up2_j (by decide)]; exact hr2
    have rj0 : rg8 fa 0 = some a7 := by rw [erg8, up2_eq]
    refine lv_aload_n hx hb dX4_init_27 rfl (lv_at hl 1 rfl) ?_
    refine lv_aload_n hx hb dX4_init_28 rfl (lv_at hl 3 rfl) ?_
    refine lv_iload hx hb dX4_init_29 (lv_at hl 0 rfl) ?_
    refine r_callS (As := [.ref a2, .int x]) (rest := [.ref fa]) C hw (t_J7_copyOf l B D cA kd1 ig2 rg8 lg4 _ a2 n2 k2 x (by omega) (by omega) hI) ss_X4_11 rfl hl.1 rfl (Nat.le_of_ble_eq_true rfl) ⟨Nat.le_of_ble_eq_true rfl, Nat.le_of_ble_eq_true rfl⟩ ⟨Nat.le_of_ble_eq_true rfl, Nat.le_of_ble_eq_true rfl⟩ dX4_init_31 (fun r13 kd9 ig10 rg11 lg12 H locs hw hH hp14 => ?_)
    obtain ⟨hI, hchp14, hrhp14⟩ := hp14
    have k3 := Nx.k hchp14 k3
    have hN := hN.tr hchp14
    have hsh := hI.sh
    have hrs := hI.rs
    have hr2 := (hchp14.1.2.1 fa 2 (by simp) ⟨0, Or.inr kt⟩).trans hr2
    have rj0 := (hchp14.1.2.1 fa 0 (by simp) ⟨0, Or.inr kt⟩).trans rj0
    have ka7 := Nx.k hchp14 ka7
    have kt := Nx.k hchp14 kt
    obtain ⟨a15, rfl, ka15, ga15⟩ := hrhp14
    refine r_putrF C hw (some a15) rfl hnm rfl kt fl_X4_21 rfl rfl rfl dX4_init_34 (fun H locs hH hw => ?_)
    obtain ⟨rg16, erg16⟩ : ∃ f, f = up2 rg11 fa 1 (some a15) := ⟨_, rfl⟩
    rw [← erg16] at hw
    have hN : Nx 2 B (some fa) kd ig rg lg kd9 ig10 rg16 lg12 := by rw [erg16]; exact hN.pr (by omega) (Or.inl rfl)
    have hI : IC τ B kd9 ig10 rg16 := by rw [erg16]; exact hI.pf (by omega) (IC.nrj hI (by decide) hr2) (fun n h1 h2 => by rw [kt] at h1; cases h1)
    have hrs := hI.rs
    have hr2 : rg16 fa 2 = none := by rw [erg16, up2_j (by decide)]; exact hr2
    have rj0 : rg16 fa 0 = some a7 := by rw [erg16, up2_j (by decide)]; exact rj0
    have rj1 : rg16 fa 1 = some a15 := by rw [erg16, up2_eq]
    refine lv_aload_n hx hb dX4_init_37 rfl (lv_at hl 1 rfl) ?_
    refine lv_aload_n hx hb dX4_init_38 rfl (lv_at hl 4 rfl) ?_
    refine lv_iload hx hb dX4_init_39 (lv_at hl 0 rfl) ?_
    refine r_callS (As := [.ref a3, .int x]) (rest := [.ref fa]) C hw (t_J7_copyOf l B D cA kd9 ig10 rg16 lg12 _ a3 n3 k3 x (by omega) (by omega) hI) ss_X4_11 rfl hl.1 rfl (Nat.le_of_ble_eq_true rfl) ⟨Nat.le_of_ble_eq_true rfl, Nat.le_of_ble_eq_true rfl⟩ ⟨Nat.le_of_ble_eq_true rfl, Nat.le_of_ble_eq_true rfl⟩ dX4_init_41 (fun r21 kd17 ig18 rg19 lg20 H locs hw hH hp22 => ?_)
    obtain ⟨hI, hchp22, hrhp22⟩ := hp22
    have hN := hN.tr hchp22
    have hsh := hI.sh
    have hrs := hI.rs
    have hr2 := (hchp22.1.2.1 fa 2 (by simp) ⟨0, Or.inr kt⟩).trans hr2
    have rj0 := (hchp22.1.2.1 fa 0 (by simp) ⟨0, Or.inr kt⟩).trans rj0
    have ka7 := Nx.k hchp22 ka7
    have rj1 := (hchp22.1.2.1 fa 1 (by simp) ⟨0, Or.inr kt⟩).trans rj1
    have ka15 := Nx.k hchp22 ka15
    have kt := Nx.k hchp22 kt
    obtain ⟨a23, rfl, ka23, ga23⟩ := hrhp22
    refine r_putrF C hw (some a23) rfl hnm rfl kt fl_X4_24 rfl rfl rfl dX4_init_44 (fun H locs hH hw => ?_)
    obtain ⟨rg24, erg24⟩ : ∃ f, f = up2 rg19 fa 2 (some a23) := ⟨_, rfl⟩
    rw [← erg24] at hw
    have hN : Nx 2 B (some fa) kd ig rg lg kd17 ig18 rg24 lg20 := by rw [erg24]; exact hN.pr (by omega) (Or.inl rfl)
    have hI : IC τ B kd17 ig18 rg24 := by rw [erg24]; exact hI.pf (by omega) (IC.nrj hI (by decide) hr2) (fun n h1 h2 => by rw [kt] at h1; cases h1)
    have hrs := hI.rs
    have rj0 : rg24 fa 0 = some a7 := by rw [erg24, up2_j (by decide)]; exact rj0
    have rj1 : rg24 fa 1 = some a15 := by rw [erg24, up2_j (by decide)]; exact rj1
    have rj2 : rg24 fa 2 = some a23 := by rw [erg24, up2_eq]
    exact r_vret C hw hr hlk (Nat.le_of_ble_eq_true rfl) (Nat.le_of_ble_eq_true rfl) dX4_init_47 ⟨hI, hN, ⟨rfl, x.toInt.toNat, kt, (by omega), fun j hj => (by rcases (show j = 0 ∨ j = 1 ∨ j = 2 by omega) with rfl | rfl | rfl; exact ⟨_, rj0, ka7, ga7⟩; exact ⟨_, rj1, ka15, ga15⟩; exact ⟨_, rj2, ka23, ga23⟩)⟩⟩
  · refine lv_iconst (v := 0) hx hb dX4_init_9 (by decide) (ti_c 0 (by decide) fun z25 hz25 => ?_)
    refine lv_goto (tgt := 15) hx hb dX4_init_10 (by decide) ?_
    refine lv_istore (lv' := [(5, .int z25), (0, .ref fa), (1, .ref a1), (2, .ref a2), (3, .ref a3), (4, .int x)]) hx hb dX4_init_15 hl (by decide) rfl (fun ls hl => ?_)
    refine lv_aload_n hx hb dX4_init_17 rfl (lv_at hl 1 rfl) ?_
    refine lv_aload_n hx hb dX4_init_18 rfl (lv_at hl 2 rfl) ?_
    refine lv_iload hx hb dX4_init_19 (lv_at hl 0 rfl) ?_
    refine r_callS (As := [.ref a1, .int z25]) (rest := [.ref fa]) C hw (t_J7_copyOf l B D cA kd ig rg lg _ a1 n1 k1 z25 (by omega) (by omega) hI) ss_X4_11 rfl hl.1 rfl (Nat.le_of_ble_eq_true rfl) ⟨Nat.le_of_ble_eq_true rfl, Nat.le_of_ble_eq_true rfl⟩ ⟨Nat.le_of_ble_eq_true rfl, Nat.le_of_ble_eq_true rfl⟩ dX4_init_21 (fun r30 kd26 ig27 rg28 lg29 H locs hw hH hp31 => ?_)
    obtain ⟨hI, hchp31, hrhp31⟩ := hp31
    have k2 := Nx.k hchp31 k2
    have k3 := Nx.k hchp31 k3
    have hN := hN.tr hchp31
    have hsh := hI.sh
    have hrs := hI.rs
    have hr2 := (hchp31.1.2.1 fa 2 (by simp) ⟨0, Or.inr kt⟩).trans hr2
    have kt := Nx.k hchp31 kt
    obtain ⟨a32, rfl, ka32, ga32⟩ := hrhp31
    refine r_putrF C hw (some a32) rfl hnm rfl kt fl_X4_17 rfl rfl rfl dX4_init_24 (fun H locs hH hw => ?_)
    obtain ⟨rg33, erg33⟩ : ∃ f, f = up2 rg28 fa 0 (some a32) := ⟨_, rfl⟩
    rw [← erg33] at hw
    have hN : Nx 2 B (some fa) kd ig rg lg kd26 ig27 rg33 lg29 := by rw [erg33]; exact hN.pr (by omega) (Or.inl rfl)
    have hI : IC τ B kd26 ig27 rg33 := by rw [erg33]; exact hI.pf (by omega) (IC.nrj hI (by decide) hr2) (fun n h1 h2 => by rw [kt] at h1; cases h1)
    have hrs := hI.rs
    have hr2 : rg33 fa 2 = none := by rw [erg33, up2_j (by decide)]; exact hr2
    have rj0 : rg33 fa 0 = some a32 := by rw [erg33, up2_eq]
    refine lv_aload_n hx hb dX4_init_27 rfl (lv_at hl 1 rfl) ?_
    refine lv_aload_n hx hb dX4_init_28 rfl (lv_at hl 3 rfl) ?_
    refine lv_iload hx hb dX4_init_29 (lv_at hl 0 rfl) ?_
    refine r_callS (As := [.ref a2, .int z25]) (rest := [.ref fa]) C hw (t_J7_copyOf l B D cA kd26 ig27 rg33 lg29 _ a2 n2 k2 z25 (by omega) (by omega) hI) ss_X4_11 rfl hl.1 rfl (Nat.le_of_ble_eq_true rfl) ⟨Nat.le_of_ble_eq_true rfl, Nat.le_of_ble_eq_true rfl⟩ ⟨Nat.le_of_ble_eq_true rfl, Nat.le_of_ble_eq_true rfl⟩ dX4_init_31 (fun r38 kd34 ig35 rg36 lg37 H locs hw hH hp39 => ?_)
    obtain ⟨hI, hchp39, hrhp39⟩ := hp39
    have k3 := Nx.k hchp39 k3
    have hN := hN.tr hchp39
    have hsh := hI.sh
    have hrs := hI.rs
    have hr2 := (hchp39.1.2.1 fa 2 (by simp) ⟨0, Or.inr kt⟩).trans hr2
    have rj0 := (hchp39.1.2.1 fa 0 (by simp) ⟨0, Or.inr kt⟩).trans rj0
    have ka32 := Nx.k hchp39 ka32
    have kt := Nx.k hchp39 kt
    obtain ⟨a40, rfl, ka40, ga40⟩ := hrhp39
    refine r_putrF C hw (some a40) rfl hnm rfl kt fl_X4_21 rfl rfl rfl dX4_init_34 (fun H locs hH hw => ?_)
    obtain ⟨rg41, erg41⟩ : ∃ f, f = up2 rg36 fa 1 (some a40) := ⟨_, rfl⟩
    rw [← erg41] at hw
    have hN : Nx 2 B (some fa) kd ig rg lg kd34 ig35 rg41 lg37 := by rw [erg41]; exact hN.pr (by omega) (Or.inl rfl)
    have hI : IC τ B kd34 ig35 rg41 := by rw [erg41]; exact hI.pf (by omega) (IC.nrj hI (by decide) hr2) (fun n h1 h2 => by rw [kt] at h1; cases h1)
    have hrs := hI.rs
    have hr2 : rg41 fa 2 = none := by rw [erg41, up2_j (by decide)]; exact hr2
    have rj0 : rg41 fa 0 = some a32 := by rw [erg41, up2_j (by decide)]; exact rj0
    have rj1 : rg41 fa 1 = some a40 := by rw [erg41, up2_eq]
    refine lv_aload_n hx hb dX4_init_37 rfl (lv_at hl 1 rfl) ?_
    refine lv_aload_n hx hb dX4_init_38 rfl (lv_at hl 4 rfl) ?_
    refine lv_iload hx hb dX4_init_39 (lv_at hl 0 rfl) ?_
    refine r_callS (As := [.ref a3, .int z25]) (rest := [.ref fa]) C hw (t_J7_copyOf l B D cA kd34 ig35 rg41 lg37 _ a3 n3 k3 z25 (by omega) (by omega) hI) ss_X4_11 rfl hl.1 rfl (Nat.le_of_ble_eq_true rfl) ⟨Nat.le_of_ble_eq_true rfl, Nat.le_of_ble_eq_true rfl⟩ ⟨Nat.le_of_ble_eq_true rfl, Nat.le_of_ble_eq_true rfl⟩ dX4_init_41 (fun r46 kd42 ig43 rg44 lg45 H locs hw hH hp47 => ?_)
    obtain ⟨hI, hchp47, hrhp47⟩ := hp47
    have hN := hN.tr hchp47
    have hsh := hI.sh
    have hrs := hI.rs
    have hr2 := (hchp47.1.2.1 fa 2 (by simp) ⟨0, Or.inr kt⟩).trans hr2
    have rj0 := (hchp47.1.2.1 fa 0 (by simp) ⟨0, Or.inr kt⟩).trans rj0
    have ka32 := Nx.k hchp47 ka32
    have rj1 := (hchp47.1.2.1 fa 1 (by simp) ⟨0, Or.inr kt⟩).trans rj1
    have ka40 := Nx.k hchp47 ka40
    have kt := Nx.k hchp47 kt
    obtain ⟨a48, rfl, ka48, ga48⟩ := hrhp47
    refine r_putrF C hw (some a48) rfl hnm rfl kt fl_X4_24 rfl rfl rfl dX4_init_44 (fun H locs hH hw => ?_)
    obtain ⟨rg49, erg49⟩ : ∃ f, f = up2 rg44 fa 2 (some a48) := ⟨_, rfl⟩
    rw [← erg49] at hw
    have hN : Nx 2 B (some fa) kd ig rg lg kd42 ig43 rg49 lg45 := by rw [erg49]; exact hN.pr (by omega) (Or.inl rfl)
    have hI : IC τ B kd42 ig43 rg49 := by rw [erg49]; exact hI.pf (by omega) (IC.nrj hI (by decide) hr2) (fun n h1 h2 => by rw [kt] at h1; cases h1)
    have hrs := hI.rs
    have rj0 : rg49 fa 0 = some a32 := by rw [erg49, up2_j (by decide)]; exact rj0
    have rj1 : rg49 fa 1 = some a40 := by rw [erg49, up2_j (by decide)]; exact rj1
    have rj2 : rg49 fa 2 = some a48 := by rw [erg49, up2_eq]
    exact r_vret C hw hr hlk (Nat.le_of_ble_eq_true rfl) (Nat.le_of_ble_eq_true rfl) dX4_init_47 ⟨hI, hN, ⟨rfl, z25.toInt.toNat, kt, (by omega), fun j hj => (by rcases (show j = 0 ∨ j = 1 ∨ j = 2 by omega) with rfl | rfl | rfl; exact ⟨_, rj0, ka32, ga32⟩; exact ⟨_, rj1, ka40, ga40⟩; exact ⟨_, rj2, ka48, ga48⟩)⟩⟩

set_option maxHeartbeats 4000000 in
set_option maxRecDepth 100000 in
theorem t_X4_stretched {τ : Tp} (l : Launch) (B : Nat) (D : va_G) (cA : Nat → ClassId) (kd : sK) (ig : sI) (rg : sR) (lg : sG) (sz : Nat) (f nf : Nat) (Ff : isFn B kd rg f nf) (x : Int32) (y : Int32) (u : Int32) (hI : IC τ B kd ig rg) : MC l B D cA yX4_stretched cX4_stretched 5 (some (.object "SheetDoctor$Formula")) (rL 3 4 363) [.ref f, .int x, .int y, .int u] kd ig rg lg sz (PI 2 τ B none kd ig rg lg (fun r kd' ig' rg' lg' => (r = some .null ∨ ∃ f n, r = some (.ref f) ∧ isFn B kd' rg' f n))) := by
  refine MC.of (own := RX4) (by decide +kernel) rfl (Nat.le_of_ble_eq_true rfl) ?_
  intro p e s m args below meth c ls C hr hlk hnm hw hsz hl
  have hx := C.1.1
  have hb := C.1.2.1
  have hown := C.1.2.2.2.1
  have hts := C.1.2.2.2.2
  have hl : lv_has ls 5 [(0, .ref f), (1, .int x), (2, .int y), (3, .int u)] := hl
  have hN : Nx 2 B none kd ig rg lg kd ig rg lg := Nx.rf
  have hsh := hI.sh
  have hrs := hI.rs
  have lnf := Ff.le
  obtain ⟨h1, sh1⟩ : ∃ h, s.heap.size = h := ⟨_, rfl⟩
  have oh1 : kd h1 = none := by have h9 := hw.fresh; rw [sh1] at h9; exact h9
  have bh1 : B + 80 ≤ h1 := by have h9 := hw.lt (hsh 79 _ rfl); omega
  have noh1 := hN.no oh1
  have Ff := isFn.new (k := 4) (n := 0) Ff oh1
  have hI := IC.new (k := 4) (n := 0) hI oh1 bh1
  have hN := Nx.new (k := 4) (n := 0) hN oh1 bh1
  refine r_new (k := 4) (t0 := tyX4) C hw rfl (by decide) rfl inT4 tyX4_ok dfX4 cl_X4_1 it_4 id_4 (Nat.le_of_ble_eq_true rfl) (Nat.le_of_ble_eq_true rfl) dX4_stretched_0 sh1 (fun H hsz hw => ?_)
  obtain ⟨kd2, ekd2⟩ : ∃ f, f = upK kd h1 4 0 := ⟨_, rfl⟩
  obtain ⟨ig3, eig3⟩ : ∃ f, f = upR ig h1 0 := ⟨_, rfl⟩
  obtain ⟨rg4, erg4⟩ : ∃ f, f = upR rg h1 none := ⟨_, rfl⟩
  have kh1 : kd2 h1 = some (4, 0) := by rw [ekd2, upK_eq]
  have rnh1 : ∀ j, rg4 h1 j = none := fun j => by rw [erg4, upR_eq]
  rw [← ekd2, ← eig3, ← erg4] at hw hI hN
  rw [← ekd2, ← erg4] at Ff
  have hsh := hI.sh
  have hrs := hI.rs
  refine lv_dup hx hb dX4_stretched_3 rfl ?_
  refine lv_aload_n hx hb dX4_stretched_4 rfl (lv_at hl 0 rfl) ?_
  obtain ⟨a5, ra5, ka5, ga5⟩ := isFn.arr Ff 0 (by decide)
  refine r_get C hw (isFn.k Ff) fl_X4_17 (oV_r rfl ra5) dX4_stretched_5 ?_
  refine lv_aload_n hx hb dX4_stretched_8 rfl (lv_at hl 0 rfl) ?_
  obtain ⟨a6, ra6, ka6, ga6⟩ := isFn.arr Ff 1 (by decide)
  refine r_get C hw (isFn.k Ff) fl_X4_21 (oV_r rfl ra6) dX4_stretched_9 ?_
  refine lv_aload_n hx hb dX4_stretched_12 rfl (lv_at hl 0 rfl) ?_
  obtain ⟨a7, ra7, ka7, ga7⟩ := isFn.arr Ff 2 (by decide)
  refine r_get C hw (isFn.k Ff) fl_X4_24 (oV_r rfl ra7) dX4_stretched_13 ?_
  refine lv_aload_n hx hb dX4_stretched_16 rfl (lv_at hl 0 rfl) ?_
  obtain ⟨a8, ra8, ka8, ga8⟩ := isFn.arr Ff 0 (by decide)
  refine r_get C hw (isFn.k Ff) fl_X4_17 (oV_r rfl ra8) dX4_stretched_17 ?_
  refine r_alen C hw ka8 (by omega) (by omega) dX4_stretched_20 (fun z9 hz9 => ?_)
  refine r_callI (As := [.ref a5, .ref a6, .ref a7, .int z9]) (rest := [.ref h1]) C hw (t_X4_init l B D cA kd2 ig3 rg4 lg _ h1 kh1 bh1 (rnh1 2) a5 nf ka5 a6 nf ka6 a7 nf ka7 z9 (by omega) (by omega) hI) sc_X4_58 rfl hl.1 rfl (Nat.le_of_ble_eq_true rfl) ⟨Nat.le_of_ble_eq_true rfl, Nat.le_of_ble_eq_true rfl⟩ ⟨Nat.le_of_ble_eq_true rfl, Nat.le_of_ble_eq_true rfl⟩ dX4_stretched_21 (fun r14 kd10 ig11 rg12 lg13 H locs hw hH hp15 => ?_)
  obtain ⟨hI, hchp15, hrhp15⟩ := hp15
  have kh1 := Nx.k hchp15 kh1
  have hN := hN.trx hchp15 noh1
  have hsh := hI.sh
  have hrs := hI.rs
  obtain ⟨rfl, nn16, Fnn16⟩ := hrhp15
  have lnn16 := isFn.le Fnn16
  refine lv_astore (lv' := [(4, .ref h1), (0, .ref f), (1, .int x), (2, .int y), (3, .int u)]) hx hb dX4_stretched_24 hl (by decide) rfl (fun ls hl => ?_)
  refine lv_iload_n hx hb dX4_stretched_26 rfl (lv_at hl 2 rfl) ?_
  refine z_lt (tgt := 57) hx hb dX4_stretched_27 (by decide) (fun c27 => ?_) (fun c27 => ?_)
  · refine lv_aload hx hb dX4_stretched_57 (lv_at hl 0 rfl) ?_
    exact r_aret C hw hr hlk (Or.inr ⟨_, rfl⟩) (Nat.le_of_ble_eq_true rfl) (Nat.le_of_ble_eq_true rfl) dX4_stretched_59 ⟨hI, hN, Or.inr ⟨_, _, rfl, Fnn16⟩⟩
  · refine lv_iload_n hx hb dX4_stretched_30 rfl (lv_at hl 2 rfl) ?_
    refine lv_aload hx hb dX4_stretched_31 (lv_at hl 0 rfl) ?_
    obtain ⟨a17, ra17, ka17, ga17⟩ := isFn.arr Fnn16 2 (by decide)
    refine r_get C hw (isFn.k Fnn16) fl_X4_24 (oV_r rfl ra17) dX4_stretched_33 ?_
    refine r_alen C hw ka17 (by omega) (by omega) dX4_stretched_36 (fun z18 hz18 => ?_)
    refine b_ge (tgt := 57) hx hb dX4_stretched_37 (by decide) (fun c37 => ?_) (fun c37 => ?_)
    · refine lv_aload hx hb dX4_stretched_57 (lv_at hl 0 rfl) ?_
      exact r_aret C hw hr hlk (Or.inr ⟨_, rfl⟩) (Nat.le_of_ble_eq_true rfl) (Nat.le_of_ble_eq_true rfl) dX4_stretched_59 ⟨hI, hN, Or.inr ⟨_, _, rfl, Fnn16⟩⟩
    · refine lv_aload hx hb dX4_stretched_40 (lv_at hl 0 rfl) ?_
      obtain ⟨a19, ra19, ka19, ga19⟩ := isFn.arr Fnn16 2 (by decide)
      refine r_get C hw (isFn.k Fnn16) fl_X4_24 (oV_r rfl ra19) dX4_stretched_42 ?_
      refine lv_iload_n hx hb dX4_stretched_45 rfl (lv_at hl 2 rfl) ?_
      refine lv_dup2_11 hx hb dX4_stretched_46 rfl rfl ?_
      refine r_iald C hw ka19 (by omega) (by omega) dX4_stretched_47 (ti_c (ig11 a19 x.toInt.toNat).toInt rfl fun z20 hz20 => ?_)
      refine lv_iload_n hx hb dX4_stretched_48 rfl (lv_at hl 3 rfl) ?_
      refine lv_iload_n hx hb dX4_stretched_49 rfl (lv_at hl 4 rfl) ?_
      refine lv_sipush (v := 128) hx hb dX4_stretched_50 (by decide) (ti_c 128 (by decide) fun z21 hz21 => ?_)
      refine lv_imul hx hb dX4_stretched_53 (tc_mulR 128 hz21 fun z22 hz22 => ?_)
      first | replace hz22 := hz22 (by omega) | clear hz22
      refine lv_iadd hx hb dX4_stretched_54 (tc_add fun z23 hz23 => ?_)
      first | replace hz23 := hz23 (by omega) | clear hz23
      refine lv_iadd hx hb dX4_stretched_55 (tc_add fun z24 hz24 => ?_)
      first | replace hz24 := hz24 (by omega) | clear hz24
      refine r_iast C hw ka19 (by omega) (by omega) dX4_stretched_56 (fun H locs hH hw => ?_)
      obtain ⟨ig25, eig25⟩ : ∃ f, f = up2 ig11 a19 x.toInt.toNat z24 := ⟨_, rfl⟩
      rw [← eig25] at hw
      have hN : Nx 2 B none kd ig rg lg kd10 ig25 rg12 lg13 := by rw [eig25]; exact hN.pi (by have := ga19; omega)
      have hI : IC τ B kd10 ig25 rg12 := by rw [eig25]; exact hI.pd (by have := ga19; omega)
      refine lv_aload hx hb dX4_stretched_57 (lv_at hl 0 rfl) ?_
      exact r_aret C hw hr hlk (Or.inr ⟨_, rfl⟩) (Nat.le_of_ble_eq_true rfl) (Nat.le_of_ble_eq_true rfl) dX4_stretched_59 ⟨hI, hN, Or.inr ⟨_, _, rfl, Fnn16⟩⟩

set_option maxHeartbeats 4000000 in
set_option maxRecDepth 100000 in
theorem t_X6_at {τ : Tp} (l : Launch) (B : Nat) (D : va_G) (cA : Nat → ClassId) (kd : sK) (ig : sI) (rg : sR) (lg : sG) (sz : Nat) (x : Int32) (hI : IC τ B kd ig rg) : MC l B D cA yX6_at cX6_at 2 (some (.object "SheetDoctor$Cell")) (rL 1 0 0) [.ref (B + 9), .int x] kd ig rg lg sz (Pu kd ig rg lg sz (fun r => ∃ q n, r = some (.ref q) ∧ kd q = some (0, n))) := by
  refine MC.of (own := RX6) (by decide +kernel) rfl (Nat.le_of_ble_eq_true rfl) ?_
  intro p e s m args below meth c ls C hr hlk hnm hw hsz hl
  have hx := C.1.1
  have hb := C.1.2.1
  have hown := C.1.2.2.2.1
  have hts := C.1.2.2.2.2
  have hl : lv_has ls 2 [(0, .ref (B + 9)), (1, .int x)] := hl
  have hsh := hI.sh
  have hrs := hI.rs
  refine lv_iload_n hx hb dX6_at_0 rfl (lv_at hl 1 rfl) ?_
  refine r_callN (As := [.int x]) (rest := []) C hw (t_X11_onSheet l B D cA kd ig rg lg _ x  hI) sn_X6_42 rfl hl.1 rfl (Nat.le_of_ble_eq_true rfl) ⟨Nat.le_of_ble_eq_true rfl, Nat.le_of_ble_eq_true rfl⟩ ⟨Nat.le_of_ble_eq_true rfl, Nat.le_of_ble_eq_true rfl⟩ dX6_at_1 (fun r5 kd1 ig2 rg3 lg4 H locs hw hH hp6 => ?_)
  obtain ⟨rfl, rfl, rfl, rfl, hzhp6, hrhp6⟩ := hp6
  have hsz := hzhp6.trans hsz
  obtain ⟨z7, rfl, hz7⟩ := hrhp6
  refine z_eq (tgt := 16) hx hb dX6_at_4 (by decide) (fun c4 => ?_) (fun c4 => ?_)
  · refine lv_aload_n hx hb dX6_at_16 rfl (lv_at hl 0 rfl) ?_
    refine r_get C hw (hsh 9 _ rfl) fl_X6_14 (oV_r rfl (hrs (9, 0, 10) (by decide))) dX6_at_17 ?_
    exact r_aret C hw hr hlk (Or.inr ⟨_, rfl⟩) (Nat.le_of_ble_eq_true rfl) (Nat.le_of_ble_eq_true rfl) dX6_at_20 ⟨rfl, rfl, rfl, rfl, hsz, ⟨_, _, rfl, (hsh 10 _ rfl)⟩⟩
  · refine lv_aload_n hx hb dX6_at_7 rfl (lv_at hl 0 rfl) ?_
    refine r_get C hw (hsh 9 _ rfl) fl_X6_20 (oV_r rfl (hrs (9, 1, 11) (by decide))) dX6_at_8 ?_
    refine lv_iload_n hx hb dX6_at_11 rfl (lv_at hl 1 rfl) ?_
    obtain ⟨q8, nq8, rq8, kq8⟩ := hI.cell (j := x.toInt.toNat) (by omega)
    refine r_aald C hw (hsh 11 _ rfl) (by omega) (by omega) (by rw [rq8]) dX6_at_12 ?_
    refine lv_goto (tgt := 20) hx hb dX6_at_13 (by decide) ?_
    exact r_aret C hw hr hlk (Or.inr ⟨_, rfl⟩) (Nat.le_of_ble_eq_true rfl) (Nat.le_of_ble_eq_true rfl) dX6_at_20 ⟨rfl, rfl, rfl, rfl, hsz, ⟨_, _, rfl, kq8⟩⟩

set_option maxHeartbeats 4000000 in
set_option maxRecDepth 100000 in
theorem t_X6_kindAt {τ : Tp} (l : Launch) (B : Nat) (D : va_G) (cA : Nat → ClassId) (kd : sK) (ig : sI) (rg : sR) (lg : sG) (sz : Nat) (x : Int32) (hI : IC τ B kd ig rg) : MC l B D cA yX6_kindAt cX6_kindAt 2 (some .int) (rL 1 0 0) [.ref (B + 9), .int x] kd ig rg lg sz (Pu kd ig rg lg sz (fun r => ∃ z : Int32, r = some (.int z) ∧ True)) := by
  refine MC.of (own := RX6) (by decide +kernel) rfl (Nat.le_of_ble_eq_true rfl) ?_
  intro p e s m args below meth c ls C hr hlk hnm hw hsz hl
  have hx := C.1.1
  have hb := C.1.2.1
  have hown := C.1.2.2.2.1
  have hts := C.1.2.2.2.2
  have hl : lv_has ls 2 [(0, .ref (B + 9)), (1, .int x)] := hl
  have hsh := hI.sh
  have hrs := hI.rs
  refine lv_iload_n hx hb dX6_kindAt_0 rfl (lv_at hl 1 rfl) ?_
  refine r_callN (As := [.int x]) (rest := []) C hw (t_X11_onSheet l B D cA kd ig rg lg _ x  hI) sn_X6_42 rfl hl.1 rfl (Nat.le_of_ble_eq_true rfl) ⟨Nat.le_of_ble_eq_true rfl, Nat.le_of_ble_eq_true rfl⟩ ⟨Nat.le_of_ble_eq_true rfl, Nat.le_of_ble_eq_true rfl⟩ dX6_kindAt_1 (fun r5 kd1 ig2 rg3 lg4 H locs hw hH hp6 => ?_)
  obtain ⟨rfl, rfl, rfl, rfl, hzhp6, hrhp6⟩ := hp6
  have hsz := hzhp6.trans hsz
  obtain ⟨z7, rfl, hz7⟩ := hrhp6
  refine z_eq (tgt := 19) hx hb dX6_kindAt_4 (by decide) (fun c4 => ?_) (fun c4 => ?_)
  · refine lv_iconst (v := 0) hx hb dX6_kindAt_19 (by decide) (ti_c 0 (by decide) fun z8 hz8 => ?_)
    exact r_iret C hw hr hlk rfl (Nat.le_of_ble_eq_true rfl) (Nat.le_of_ble_eq_true rfl) dX6_kindAt_20 ⟨rfl, rfl, rfl, rfl, hsz, ⟨_, rfl, trivial⟩⟩
  · refine lv_aload_n hx hb dX6_kindAt_7 rfl (lv_at hl 0 rfl) ?_
    refine r_get C hw (hsh 9 _ rfl) fl_X6_20 (oV_r rfl (hrs (9, 1, 11) (by decide))) dX6_kindAt_8 ?_
    refine lv_iload_n hx hb dX6_kindAt_11 rfl (lv_at hl 1 rfl) ?_
    obtain ⟨q9, nq9, rq9, kq9⟩ := hI.cell (j := x.toInt.toNat) (by omega)
    refine r_aald C hw (hsh 11 _ rfl) (by omega) (by omega) (by rw [rq9]) dX6_kindAt_12 ?_
    refine r_get C hw kq9 fl_X6_46 (oV_i rfl) dX6_kindAt_13 (ti_c (ig q9 0).toInt rfl fun z10 hz10 => ?_)
    refine lv_goto (tgt := 20) hx hb dX6_kindAt_16 (by decide) ?_
    exact r_iret C hw hr hlk rfl (Nat.le_of_ble_eq_true rfl) (Nat.le_of_ble_eq_true rfl) dX6_kindAt_20 ⟨rfl, rfl, rfl, rfl, hsz, ⟨_, rfl, trivial⟩⟩

set_option maxHeartbeats 4000000 in
set_option maxRecDepth 100000 in
theorem t_X6_formulaAt {τ : Tp} (l : Launch) (B : Nat) (D : va_G) (cA : Nat → ClassId) (kd : sK) (ig : sI) (rg : sR) (lg : sG) (sz : Nat) (x : Int32) (hI : IC τ B kd ig rg) : MC l B D cA yX6_formulaAt cX6_formulaAt 2 (some (.object "SheetDoctor$Formula")) (rL 1 0 0) [.ref (B + 9), .int x] kd ig rg lg sz (Pu kd ig rg lg sz (fun r => (r = some .null ∨ ∃ f n, r = some (.ref f) ∧ isFn B kd rg f n))) := by
  refine MC.of (own := RX6) (by decide +kernel) rfl (Nat.le_of_ble_eq_true rfl) ?_
  intro p e s m args below meth c ls C hr hlk hnm hw hsz hl
  have hx := C.1.1
  have hb := C.1.2.1
  have hown := C.1.2.2.2.1
  have hts := C.1.2.2.2.2
  have hl : lv_has ls 2 [(0, .ref (B + 9)), (1, .int x)] := hl
  have hsh := hI.sh
  have hrs := hI.rs
  refine lv_iload_n hx hb dX6_formulaAt_0 rfl (lv_at hl 1 rfl) ?_
  refine r_callN (As := [.int x]) (rest := []) C hw (t_X11_onSheet l B D cA kd ig rg lg _ x  hI) sn_X6_42 rfl hl.1 rfl (Nat.le_of_ble_eq_true rfl) ⟨Nat.le_of_ble_eq_true rfl, Nat.le_of_ble_eq_true rfl⟩ ⟨Nat.le_of_ble_eq_true rfl, Nat.le_of_ble_eq_true rfl⟩ dX6_formulaAt_1 (fun r5 kd1 ig2 rg3 lg4 H locs hw hH hp6 => ?_)
  obtain ⟨rfl, rfl, rfl, rfl, hzhp6, hrhp6⟩ := hp6
  have hsz := hzhp6.trans hsz
  obtain ⟨z7, rfl, hz7⟩ := hrhp6
  refine z_eq (tgt := 19) hx hb dX6_formulaAt_4 (by decide) (fun c4 => ?_) (fun c4 => ?_)
  · refine lv_null hx hb dX6_formulaAt_19 ?_
    exact r_aret C hw hr hlk (Or.inl rfl) (Nat.le_of_ble_eq_true rfl) (Nat.le_of_ble_eq_true rfl) dX6_formulaAt_20 ⟨rfl, rfl, rfl, rfl, hsz, Or.inl rfl⟩
  · refine lv_aload_n hx hb dX6_formulaAt_7 rfl (lv_at hl 0 rfl) ?_
    refine r_get C hw (hsh 9 _ rfl) fl_X6_20 (oV_r rfl (hrs (9, 1, 11) (by decide))) dX6_formulaAt_8 ?_
    refine lv_iload_n hx hb dX6_formulaAt_11 rfl (lv_at hl 1 rfl) ?_
    obtain ⟨q8, nq8, rq8, kq8⟩ := hI.cell (j := x.toInt.toNat) (by omega)
    refine r_aald C hw (hsh 11 _ rfl) (by omega) (by omega) (by rw [rq8]) dX6_formulaAt_12 ?_
    rcases hI.fo kq8 with ef9 | ⟨f9, nf9, ef9, Ff9⟩
    · refine r_get C hw kq8 fl_X6_49 (oV_n rfl ef9) dX6_formulaAt_13 ?_
      refine lv_goto (tgt := 20) hx hb dX6_formulaAt_16 (by decide) ?_
      exact r_aret C hw hr hlk (Or.inl rfl) (Nat.le_of_ble_eq_true rfl) (Nat.le_of_ble_eq_true rfl) dX6_formulaAt_20 ⟨rfl, rfl, rfl, rfl, hsz, Or.inl rfl⟩
    · have lf9 := isFn.le Ff9
      refine r_get C hw kq8 fl_X6_49 (oV_r rfl ef9) dX6_formulaAt_13 ?_
      refine lv_goto (tgt := 20) hx hb dX6_formulaAt_16 (by decide) ?_
      exact r_aret C hw hr hlk (Or.inr ⟨_, rfl⟩) (Nat.le_of_ble_eq_true rfl) (Nat.le_of_ble_eq_true rfl) dX6_formulaAt_20 ⟨rfl, rfl, rfl, rfl, hsz, Or.inr ⟨_, _, rfl, Ff9⟩⟩

set_option maxHeartbeats 4000000 in
set_option maxRecDepth 100000 in
theorem t_X6_isKept {τ : Tp} (l : Launch) (B : Nat) (D : va_G) (cA : Nat → ClassId) (kd : sK) (ig : sI) (rg : sR) (lg : sG) (sz : Nat) (x : Int32) (hI : IC τ B kd ig rg) : MC l B D cA yX6_isKept cX6_isKept 2 (some .boolean) (rL 1 0 0) [.ref (B + 9), .int x] kd ig rg lg sz (Pu kd ig rg lg sz (fun r => ∃ z : Int32, r = some (.int z) ∧ (z.toInt = 0 ∨ z.toInt = 1))) := by
  refine MC.of (own := RX6) (by decide +kernel) rfl (Nat.le_of_ble_eq_true rfl) ?_
  intro p e s m args below meth c ls C hr hlk hnm hw hsz hl
  have hx := C.1.1
  have hb := C.1.2.1
  have hown := C.1.2.2.2.1
  have hts := C.1.2.2.2.2
  have hl : lv_has ls 2 [(0, .ref (B + 9)), (1, .int x)] := hl
  have hsh := hI.sh
  have hrs := hI.rs
  refine lv_iload_n hx hb dX6_isKept_0 rfl (lv_at hl 1 rfl) ?_
  refine r_callN (As := [.int x]) (rest := []) C hw (t_X11_onSheet l B D cA kd ig rg lg _ x  hI) sn_X6_42 rfl hl.1 rfl (Nat.le_of_ble_eq_true rfl) ⟨Nat.le_of_ble_eq_true rfl, Nat.le_of_ble_eq_true rfl⟩ ⟨Nat.le_of_ble_eq_true rfl, Nat.le_of_ble_eq_true rfl⟩ dX6_isKept_1 (fun r5 kd1 ig2 rg3 lg4 H locs hw hH hp6 => ?_)
  obtain ⟨rfl, rfl, rfl, rfl, hzhp6, hrhp6⟩ := hp6
  have hsz := hzhp6.trans hsz
  obtain ⟨z7, rfl, hz7⟩ := hrhp6
  refine z_eq (tgt := 20) hx hb dX6_isKept_4 (by decide) (fun c4 => ?_) (fun c4 => ?_)
  · refine lv_iconst (v := 0) hx hb dX6_isKept_20 (by decide) (ti_c 0 (by decide) fun z8 hz8 => ?_)
    exact r_iret C hw hr hlk (nar_b (by omega)) (Nat.le_of_ble_eq_true rfl) (Nat.le_of_ble_eq_true rfl) dX6_isKept_21 ⟨rfl, rfl, rfl, rfl, hsz, ⟨_, rfl, by omega⟩⟩
  · refine lv_aload_n hx hb dX6_isKept_7 rfl (lv_at hl 0 rfl) ?_
    refine r_get C hw (hsh 9 _ rfl) fl_X6_24 (oV_r rfl (hrs (9, 2, 12) (by decide))) dX6_isKept_8 ?_
    refine lv_iload_n hx hb dX6_isKept_11 rfl (lv_at hl 1 rfl) ?_
    refine r_zald C hw (hsh 12 _ rfl) (by omega) (by omega) dX6_isKept_12 (ti_c (ig (B + 12) x.toInt.toNat).toInt rfl fun z9 hz9 => ?_)
    refine z_eq (tgt := 20) hx hb dX6_isKept_13 (by decide) (fun c13 => ?_) (fun c13 => ?_)
    · refine lv_iconst (v := 0) hx hb dX6_isKept_20 (by decide) (ti_c 0 (by decide) fun z10 hz10 => ?_)
      exact r_iret C hw hr hlk (nar_b (by omega)) (Nat.le_of_ble_eq_true rfl) (Nat.le_of_ble_eq_true rfl) dX6_isKept_21 ⟨rfl, rfl, rfl, rfl, hsz, ⟨_, rfl, by omega⟩⟩
    · refine lv_iconst (v := 1) hx hb dX6_isKept_16 (by decide) (ti_c 1 (by decide) fun z11 hz11 => ?_)
      refine lv_goto (tgt := 21) hx hb dX6_isKept_17 (by decide) ?_
      exact r_iret C hw hr hlk (nar_b (by omega)) (Nat.le_of_ble_eq_true rfl) (Nat.le_of_ble_eq_true rfl) dX6_isKept_21 ⟨rfl, rfl, rfl, rfl, hsz, ⟨_, rfl, by omega⟩⟩

set_option maxHeartbeats 4000000 in
set_option maxRecDepth 100000 in
theorem t_X6_setKept {τ : Tp} (l : Launch) (B : Nat) (D : va_G) (cA : Nat → ClassId) (kd : sK) (ig : sI) (rg : sR) (lg : sG) (sz : Nat) (x : Int32) (y : Int32) (hy : y.toInt = 0 ∨ y.toInt = 1) (hI : IC τ B kd ig rg) : MC l B D cA yX6_setKept cX6_setKept 3 (some .boolean) (rL 1 0 0) [.ref (B + 9), .int x, .int y] kd ig rg lg sz (PI 2 τ B none kd ig rg lg (fun r kd' ig' rg' lg' => ∃ z : Int32, r = some (.int z) ∧ ((0 ≤ x.toInt ∧ x.toInt < 288) → z.toInt = 1) ∧ (¬ (0 ≤ x.toInt ∧ x.toInt < 288) → z.toInt = 0))) := by
  refine MC.of (own := RX6) (by decide +kernel) rfl (Nat.le_of_ble_eq_true rfl) ?_
  intro p e s m args below meth c ls C hr hlk hnm hw hsz hl
  have hx := C.1.1
  have hb := C.1.2.1
  have hown := C.1.2.2.2.1
  have hts := C.1.2.2.2.2
  have hl : lv_has ls 3 [(0, .ref (B + 9)), (1, .int x), (2, .int y)] := hl
  have hN : Nx 2 B none kd ig rg lg kd ig rg lg := Nx.rf
  have hsh := hI.sh
  have hrs := hI.rs
  refine lv_iload_n hx hb dX6_setKept_0 rfl (lv_at hl 1 rfl) ?_
  refine r_callN (As := [.int x]) (rest := []) C hw (t_X11_onSheet l B D cA kd ig rg lg _ x  hI) sn_X6_42 rfl hl.1 rfl (Nat.le_of_ble_eq_true rfl) ⟨Nat.le_of_ble_eq_true rfl, Nat.le_of_ble_eq_true rfl⟩ ⟨Nat.le_of_ble_eq_true rfl, Nat.le_of_ble_eq_true rfl⟩ dX6_setKept_1 (fun r5 kd1 ig2 rg3 lg4 H locs hw hH hp6 => ?_)
  obtain ⟨rfl, rfl, rfl, rfl, hzhp6, hrhp6⟩ := hp6
  obtain ⟨z7, rfl, hz7⟩ := hrhp6
  refine z_ne (tgt := 9) hx hb dX6_setKept_4 (by decide) (fun c4 => ?_) (fun c4 => ?_)
  · refine lv_aload_n hx hb dX6_setKept_9 rfl (lv_at hl 0 rfl) ?_
    refine r_get C hw (hsh 9 _ rfl) fl_X6_24 (oV_r rfl (hrs (9, 2, 12) (by decide))) dX6_setKept_10 ?_
    refine lv_iload_n hx hb dX6_setKept_13 rfl (lv_at hl 1 rfl) ?_
    refine lv_iload_n hx hb dX6_setKept_14 rfl (lv_at hl 2 rfl) ?_
    refine r_zast C hw (hsh 12 _ rfl) (by omega) (by omega) (nar_b (by omega)) dX6_setKept_15 (fun H locs hH hw => ?_)
    obtain ⟨ig8, eig8⟩ : ∃ f, f = up2 ig (B + 12) x.toInt.toNat y := ⟨_, rfl⟩
    rw [← eig8] at hw
    have hN : Nx 2 B none kd ig rg lg kd ig8 rg lg := by rw [eig8]; exact hN.pi (by omega)
    have hI : IC τ B kd ig8 rg := by rw [eig8]; exact hI.pi (show okR none _ from trivial)
    refine lv_iconst (v := 1) hx hb dX6_setKept_16 (by decide) (ti_c 1 (by decide) fun z9 hz9 => ?_)
    exact r_iret C hw hr hlk (nar_b (by omega)) (Nat.le_of_ble_eq_true rfl) (Nat.le_of_ble_eq_true rfl) dX6_setKept_17 ⟨hI, hN, ⟨_, rfl, by omega⟩⟩
  · refine lv_iconst (v := 0) hx hb dX6_setKept_7 (by decide) (ti_c 0 (by decide) fun z10 hz10 => ?_)
    exact r_iret C hw hr hlk (nar_b (by omega)) (Nat.le_of_ble_eq_true rfl) (Nat.le_of_ble_eq_true rfl) dX6_setKept_8 ⟨hI, hN, ⟨_, rfl, by omega⟩⟩

set_option maxHeartbeats 4000000 in
set_option maxRecDepth 100000 in
theorem t_X6_cellsOfKind {τ : Tp} (l : Launch) (B : Nat) (D : va_G) (cA : Nat → ClassId) (kd : sK) (ig : sI) (rg : sR) (lg : sG) (sz : Nat) (x : Int32) (hI : IC τ B kd ig rg) : MC l B D cA yX6_cellsOfKind cX6_cellsOfKind 4 (some .int) (rL 0 0 0) [.ref (B + 9), .int x] kd ig rg lg sz (Pu kd ig rg lg sz (fun r => ∃ z : Int32, r = some (.int z) ∧ True)) := by
  refine MC.of (own := RX6) (by decide +kernel) rfl (Nat.le_of_ble_eq_true rfl) ?_
  intro p e s m args below meth c ls C hr hlk hnm hw hsz hl
  have hx := C.1.1
  have hb := C.1.2.1
  have hown := C.1.2.2.2.1
  have hts := C.1.2.2.2.2
  have hl : lv_has ls 4 [(0, .ref (B + 9)), (1, .int x)] := hl
  have hsh := hI.sh
  have hrs := hI.rs
  refine lv_iconst (v := 0) hx hb dX6_cellsOfKind_0 (by decide) (ti_c 0 (by decide) fun z1 hz1 => ?_)
  refine lv_istore_n (lv' := [(2, .int z1), (0, .ref (B + 9)), (1, .int x)]) hx hb dX6_cellsOfKind_1 rfl hl (by decide) rfl (fun ls hl => ?_)
  refine lv_iconst (v := 0) hx hb dX6_cellsOfKind_2 (by decide) (ti_c 0 (by decide) fun z2 hz2 => ?_)
  refine lv_istore_n (lv' := [(3, .int z2), (2, .int z1), (0, .ref (B + 9)), (1, .int x)]) hx hb dX6_cellsOfKind_3 rfl hl (by decide) rfl (fun ls hl => ?_)
  have L4 : ∀ (n : Nat) (ls : Array Slot) (H : Heap) (locs : List Loc) (v3 : Int32) (v4 : Int32), lv_has ls 4 [(3, .int v3), (2, .int v4), (0, .ref (B + 9)), (1, .int x)] → WD B D cA s.heap kd ig rg lg H locs → H.size = sz → (0 ≤ v3.toInt) → (v3.toInt ≤ 288) → 288 - v3.toInt < (n : Int) → W p l e (rL 0 0 0) s m args below meth c H locs 0 0 (MQ below (QcW B D cA (Pu kd ig rg lg sz (fun r => ∃ z : Int32, r = some (.int z) ∧ True))) args s 0 0 (fun q => B ≤ q)) (F0 m 4 ls []) := by
    intro n4
    induction n4 with
    | zero => intro ls H locs v3 v4 hl hw hsz g4_0 g4_1 hmu; exact absurd hmu (by omega)
    | succ n4 ih4 =>
      intro ls H locs v3 v4 hl hw hsz g4_0 g4_1 hmu
      refine lv_iload_n hx hb dX6_cellsOfKind_4 rfl (lv_at hl 0 rfl) ?_
      refine lv_sipush (v := 288) hx hb dX6_cellsOfKind_5 (by decide) (ti_c 288 (by decide) fun z5 hz5 => ?_)
      refine b_ge (tgt := 33) hx hb dX6_cellsOfKind_8 (by decide) (fun c8 => ?_) (fun c8 => ?_)
      · refine lv_iload_n hx hb dX6_cellsOfKind_33 rfl (lv_at hl 1 rfl) ?_
        exact r_iret C hw hr hlk rfl (Nat.le_of_ble_eq_true rfl) (Nat.le_of_ble_eq_true rfl) dX6_cellsOfKind_34 ⟨rfl, rfl, rfl, rfl, hsz, ⟨_, rfl, trivial⟩⟩
      · refine lv_aload_n hx hb dX6_cellsOfKind_11 rfl (lv_at hl 2 rfl) ?_
        refine r_get C hw (hsh 9 _ rfl) fl_X6_20 (oV_r rfl (hrs (9, 1, 11) (by decide))) dX6_cellsOfKind_12 ?_
        refine lv_iload_n hx hb dX6_cellsOfKind_15 rfl (lv_at hl 0 rfl) ?_
        obtain ⟨q6, nq6, rq6, kq6⟩ := hI.cell (j := v3.toInt.toNat) (by omega)
        refine r_aald C hw (hsh 11 _ rfl) (by omega) (by omega) (by rw [rq6]) dX6_cellsOfKind_16 ?_
        refine r_get C hw kq6 fl_X6_46 (oV_i rfl) dX6_cellsOfKind_17 (ti_c (ig q6 0).toInt rfl fun z7 hz7 => ?_)
        refine lv_iload_n hx hb dX6_cellsOfKind_20 rfl (lv_at hl 3 rfl) ?_
        refine b_ne (tgt := 27) hx hb dX6_cellsOfKind_21 (by decide) (fun c21 => ?_) (fun c21 => ?_)
        · refine tc_inc hx hb dX6_cellsOfKind_27 hl (k := 0) rfl (by decide) (by decide) (fun z8 hz8 ls hl => ?_)
          first | replace hz8 := hz8 (by omega) | clear hz8
          have hl : lv_has ls 4 [(3, .int z8), (2, .int v4), (0, .ref (B + 9)), (1, .int x)] := hl
          refine lv_goto (tgt := 4) hx hb dX6_cellsOfKind_30 (by decide) ?_
          exact ih4 ls H locs z8 v4 (lv_sub hl [0, 1, 2, 3] rfl) hw hsz (by omega) (by omega) (by omega)
        · refine tc_inc hx hb dX6_cellsOfKind_24 hl (k := 1) rfl (by decide) (by decide) (fun z9 hz9 ls hl => ?_)
          first | replace hz9 := hz9 (by omega) | clear hz9
          have hl : lv_has ls 4 [(2, .int z9), (3, .int v3), (0, .ref (B + 9)), (1, .int x)] := hl
          refine tc_inc hx hb dX6_cellsOfKind_27 hl (k := 1) rfl (by decide) (by decide) (fun z10 hz10 ls hl => ?_)
          first | replace hz10 := hz10 (by omega) | clear hz10
          have hl : lv_has ls 4 [(3, .int z10), (2, .int z9), (0, .ref (B + 9)), (1, .int x)] := hl
          refine lv_goto (tgt := 4) hx hb dX6_cellsOfKind_30 (by decide) ?_
          exact ih4 ls H locs z10 z9 (lv_sub hl [0, 1, 2, 3] rfl) hw hsz (by omega) (by omega) (by omega)
  exact L4 ((288 - z2.toInt) + 1).toNat ls s.heap [] z2 z1 (lv_sub hl [0, 1, 2, 3] rfl) hw hsz (by omega) (by omega) (by omega)

set_option maxHeartbeats 4000000 in
set_option maxRecDepth 100000 in
theorem t_X6_copyFor {τ : Tp} (l : Launch) (B : Nat) (D : va_G) (cA : Nat → ClassId) (kd : sK) (ig : sI) (rg : sR) (lg : sG) (sz : Nat) (x : Int32) (y : Int32) (hI : IC τ B kd ig rg) : MC l B D cA yX6_copyFor cX6_copyFor 4 (some (.object "SheetDoctor$Cell")) (rL 5 1 6) [.ref (B + 9), .int x, .int y] kd ig rg lg sz (PI 2 τ B none kd ig rg lg (fun r kd' ig' rg' lg' => (r = some .null ∨ ∃ q n, r = some (.ref q) ∧ kd' q = some (0, n)))) := by
  refine MC.of (own := RX6) (by decide +kernel) rfl (Nat.le_of_ble_eq_true rfl) ?_
  intro p e s m args below meth c ls C hr hlk hnm hw hsz hl
  have hx := C.1.1
  have hb := C.1.2.1
  have hown := C.1.2.2.2.1
  have hts := C.1.2.2.2.2
  have hl : lv_has ls 4 [(0, .ref (B + 9)), (1, .int x), (2, .int y)] := hl
  have hN : Nx 2 B none kd ig rg lg kd ig rg lg := Nx.rf
  have hsh := hI.sh
  have hrs := hI.rs
  refine lv_aload_n hx hb dX6_copyFor_0 rfl (lv_at hl 0 rfl) ?_
  refine lv_iload_n hx hb dX6_copyFor_1 rfl (lv_at hl 1 rfl) ?_
  refine r_callV (As := [.int x]) (rest := []) C hw (t_X6_at l B D cA kd ig rg lg _ x  hI) sv_X6_53 (hsh 9 _ rfl) rfl hl.1 rfl (Nat.le_of_ble_eq_true rfl) ⟨Nat.le_of_ble_eq_true rfl, Nat.le_of_ble_eq_true rfl⟩ ⟨Nat.le_of_ble_eq_true rfl, Nat.le_of_ble_eq_true rfl⟩ dX6_copyFor_2 (fun r5 kd1 ig2 rg3 lg4 H locs hw hH hp6 => ?_)
  obtain ⟨rfl, rfl, rfl, rfl, hzhp6, hrhp6⟩ := hp6
  obtain ⟨q7, nq7, rfl, kq7⟩ := hrhp6
  refine lv_astore_n (lv' := [(3, .ref q7), (0, .ref (B + 9)), (1, .int x), (2, .int y)]) hx hb dX6_copyFor_5 rfl hl (by decide) rfl (fun ls hl => ?_)
  refine lv_aload_n hx hb dX6_copyFor_6 rfl (lv_at hl 0 rfl) ?_
  refine lv_iload_n hx hb dX6_copyFor_7 rfl (lv_at hl 3 rfl) ?_
  refine r_callV (As := [.int y]) (rest := []) C hw (t_X0_fits l B D cA kd ig rg lg _ q7 nq7 kq7 y  hI) sv_X6_57 kq7 rfl hl.1 rfl (Nat.le_of_ble_eq_true rfl) ⟨Nat.le_of_ble_eq_true rfl, Nat.le_of_ble_eq_true rfl⟩ ⟨Nat.le_of_ble_eq_true rfl, Nat.le_of_ble_eq_true rfl⟩ dX6_copyFor_8 (fun r12 kd8 ig9 rg10 lg11 H locs hw hH hp13 => ?_)
  obtain ⟨rfl, rfl, rfl, rfl, hzhp13, hrhp13⟩ := hp13
  obtain ⟨z14, rfl, hz14⟩ := hrhp13
  refine z_eq (tgt := 21) hx hb dX6_copyFor_11 (by decide) (fun c11 => ?_) (fun c11 => ?_)
  · refine lv_null hx hb dX6_copyFor_21 ?_
    exact r_aret C hw hr hlk (Or.inl rfl) (Nat.le_of_ble_eq_true rfl) (Nat.le_of_ble_eq_true rfl) dX6_copyFor_22 ⟨hI, hN, Or.inl rfl⟩
  · refine lv_aload_n hx hb dX6_copyFor_14 rfl (lv_at hl 0 rfl) ?_
    refine r_callV (As := []) (rest := []) C hw (t_X0_withoutUnit l B D cA kd ig rg lg _ q7 nq7 kq7  hI) sv_X6_60 kq7 rfl hl.1 rfl (Nat.le_of_ble_eq_true rfl) ⟨Nat.le_of_ble_eq_true rfl, Nat.le_of_ble_eq_true rfl⟩ ⟨Nat.le_of_ble_eq_true rfl, Nat.le_of_ble_eq_true rfl⟩ dX6_copyFor_15 (fun r19 kd15 ig16 rg17 lg18 H locs hw hH hp20 => ?_)
    obtain ⟨hI, hchp20, hrhp20⟩ := hp20
    have hN := hN.tr hchp20
    have hsh := hI.sh
    have hrs := hI.rs
    obtain ⟨q21, nq21, rfl, kq21⟩ := hrhp20
    refine lv_goto (tgt := 22) hx hb dX6_copyFor_18 (by decide) ?_
    exact r_aret C hw hr hlk (Or.inr ⟨_, rfl⟩) (Nat.le_of_ble_eq_true rfl) (Nat.le_of_ble_eq_true rfl) dX6_copyFor_22 ⟨hI, hN, Or.inr ⟨_, _, rfl, kq21⟩⟩

set_option maxHeartbeats 4000000 in
set_option maxRecDepth 100000 in
theorem t_X6_replace {τ : Tp} (l : Launch) (B : Nat) (D : va_G) (cA : Nat → ClassId) (kd : sK) (ig : sI) (rg : sR) (lg : sG) (sz : Nat) (x : Int32) (q nq : Nat) (kq : kd q = some (0, nq)) (hI : IC τ B kd ig rg) : MC l B D cA yX6_replace cX6_replace 3 none (rL 1 0 0) [.ref (B + 9), .int x, .ref q] kd ig rg lg sz (PI 0 τ B none kd ig rg lg (fun r kd' ig' rg' lg' => r = none)) := by
  refine MC.of (own := RX6) (by decide +kernel) rfl (Nat.le_of_ble_eq_true rfl) ?_
  intro p e s m args below meth c ls C hr hlk hnm hw hsz hl
  have hx := C.1.1
  have hb := C.1.2.1
  have hown := C.1.2.2.2.1
  have hts := C.1.2.2.2.2
  have hl : lv_has ls 3 [(0, .ref (B + 9)), (1, .int x), (2, .ref q)] := hl
  have hN : Nx 0 B none kd ig rg lg kd ig rg lg := Nx.rf
  have hsh := hI.sh
  have hrs := hI.rs
  refine lv_iload_n hx hb dX6_replace_0 rfl (lv_at hl 1 rfl) ?_
  refine r_callN (As := [.int x]) (rest := []) C hw (t_X11_onSheet l B D cA kd ig rg lg _ x  hI) sn_X6_42 rfl hl.1 rfl (Nat.le_of_ble_eq_true rfl) ⟨Nat.le_of_ble_eq_true rfl, Nat.le_of_ble_eq_true rfl⟩ ⟨Nat.le_of_ble_eq_true rfl, Nat.le_of_ble_eq_true rfl⟩ dX6_replace_1 (fun r5 kd1 ig2 rg3 lg4 H locs hw hH hp6 => ?_)
  obtain ⟨rfl, rfl, rfl, rfl, hzhp6, hrhp6⟩ := hp6
  obtain ⟨z7, rfl, hz7⟩ := hrhp6
  refine z_eq (tgt := 24) hx hb dX6_replace_4 (by decide) (fun c4 => ?_) (fun c4 => ?_)
  · exact r_vret C hw hr hlk (Nat.le_of_ble_eq_true rfl) (Nat.le_of_ble_eq_true rfl) dX6_replace_24 ⟨hI, hN, rfl⟩
  · refine lv_aload_n hx hb dX6_replace_7 rfl (lv_at hl 0 rfl) ?_
    refine r_get C hw (hsh 9 _ rfl) fl_X6_20 (oV_r rfl (hrs (9, 1, 11) (by decide))) dX6_replace_8 ?_
    refine lv_iload_n hx hb dX6_replace_11 rfl (lv_at hl 1 rfl) ?_
    refine lv_aload_n hx hb dX6_replace_12 rfl (lv_at hl 2 rfl) ?_
    refine r_aast C hw (hsh 11 _ rfl) kq (by omega) (by omega) dX6_replace_13 (fun H locs hH hw => ?_)
    obtain ⟨rg8, erg8⟩ : ∃ f, f = up2 rg (B + 11) x.toInt.toNat (some q) := ⟨_, rfl⟩
    rw [← erg8] at hw
    have hN : Nx 0 B none kd ig rg lg kd ig rg8 lg := by rw [erg8]; exact hN.pr (by omega) (Or.inr (by rintro ⟨n, h | h⟩ <;> (have h9 := (hN.k h).symm.trans (hsh 11 _ rfl); cases h9)))
    have hI : IC τ B kd ig rg8 := by rw [erg8]; exact hI.pc (by omega) kq
    have hrs := hI.rs
    refine lv_aload_n hx hb dX6_replace_14 rfl (lv_at hl 0 rfl) ?_
    refine lv_dup hx hb dX6_replace_15 rfl ?_
    refine r_get C hw (hsh 9 _ rfl) fl_X6_39 (oV_i rfl) dX6_replace_16 (ti_c (ig (B + 9) 6).toInt rfl fun z9 hz9 => ?_)
    refine lv_iconst (v := 1) hx hb dX6_replace_19 (by decide) (ti_c 1 (by decide) fun z10 hz10 => ?_)
    refine lv_iadd hx hb dX6_replace_20 (tc_add fun z11 hz11 => ?_)
    first | replace hz11 := hz11 (by omega) | clear hz11
    refine r_puti C hw (hsh 9 _ rfl) fl_X6_39 rfl rfl rfl dX6_replace_21 (fun H locs hH hw => ?_)
    obtain ⟨ig12, eig12⟩ : ∃ f, f = up2 ig (B + 9) 6 z11 := ⟨_, rfl⟩
    rw [← eig12] at hw
    have hN : Nx 0 B none kd ig rg lg kd ig12 rg8 lg := by rw [eig12]; exact hN.pi (by omega)
    have hI : IC τ B kd ig12 rg8 := by rw [eig12]; exact hI.pi (show okR none _ from trivial)
    exact r_vret C hw hr hlk (Nat.le_of_ble_eq_true rfl) (Nat.le_of_ble_eq_true rfl) dX6_replace_24 ⟨hI, hN, rfl⟩

set_option maxHeartbeats 4000000 in
set_option maxRecDepth 100000 in
theorem t_X6_forgetOldest {τ : Tp} (l : Launch) (B : Nat) (D : va_G) (cA : Nat → ClassId) (kd : sK) (ig : sI) (rg : sR) (lg : sG) (sz : Nat)  (hI : IC τ B kd ig rg) : MC l B D cA yX6_forgetOldest cX6_forgetOldest 2 none (rL 0 0 0) [.ref (B + 9)] kd ig rg lg sz (PI 0 τ B none kd ig rg lg (fun r kd' ig' rg' lg' => (r = none ∧ (ig' (B + 9) 5).toInt = 19))) := by
  refine MC.of (own := RX6) (by decide +kernel) rfl (Nat.le_of_ble_eq_true rfl) ?_
  intro p e s m args below meth c ls C hr hlk hnm hw hsz hl
  have hx := C.1.1
  have hb := C.1.2.1
  have hown := C.1.2.2.2.1
  have hts := C.1.2.2.2.2
  have hl : lv_has ls 2 [(0, .ref (B + 9))] := hl
  have hN : Nx 0 B none kd ig rg lg kd ig rg lg := Nx.rf
  have hsh := hI.sh
  have hrs := hI.rs
  refine lv_iconst (v := 1) hx hb dX6_forgetOldest_0 (by decide) (ti_c 1 (by decide) fun z1 hz1 => ?_)
  refine lv_istore_n (lv' := [(1, .int z1), (0, .ref (B + 9))]) hx hb dX6_forgetOldest_1 rfl hl (by decide) rfl (fun ls hl => ?_)
  have L2 : ∀ (n : Nat) (ls : Array Slot) (H : Heap) (locs : List Loc) (kd3 : sK) (ig4 : sI) (rg5 : sR) (lg6 : sG) (v2 : Int32), lv_has ls 2 [(1, .int v2), (0, .ref (B + 9))] → WD B D cA s.heap kd3 ig4 rg5 lg6 H locs → IC τ B kd3 ig4 rg5 → Nx 0 B none kd ig rg lg kd3 ig4 rg5 lg6 → (1 ≤ v2.toInt) → (v2.toInt ≤ 20) → 20 - v2.toInt < (n : Int) → W p l e (rL 0 0 0) s m args below meth c H locs 0 0 (MQ below (QcW B D cA (PI 0 τ B none kd ig rg lg (fun r kd' ig' rg' lg' => (r = none ∧ (ig' (B + 9) 5).toInt = 19)))) args s 0 0 (fun q => B ≤ q)) (F0 m 2 ls []) := by
    intro n2
    induction n2 with
    | zero => intro ls H locs kd3 ig4 rg5 lg6 v2 hl hw hI hN g2_0 g2_1 hmu; exact absurd hmu (by omega)
    | succ n2 ih2 =>
      intro ls H locs kd3 ig4 rg5 lg6 v2 hl hw hI hN g2_0 g2_1 hmu
      have hsh := hI.sh
      have hrs := hI.rs
      refine lv_iload_n hx hb dX6_forgetOldest_2 rfl (lv_at hl 0 rfl) ?_
      refine lv_bipush (v := 20) hx hb dX6_forgetOldest_3 (by decide) (ti_c 20 (by decide) fun z7 hz7 => ?_)
      refine b_ge (tgt := 42) hx hb dX6_forgetOldest_5 (by decide) (fun c5 => ?_) (fun c5 => ?_)
      · refine lv_aload_n hx hb dX6_forgetOldest_42 rfl (lv_at hl 1 rfl) ?_
        refine lv_bipush (v := 19) hx hb dX6_forgetOldest_43 (by decide) (ti_c 19 (by decide) fun z8 hz8 => ?_)
        refine r_puti C hw (hsh 9 _ rfl) fl_X6_35 rfl rfl rfl dX6_forgetOldest_45 (fun H locs hH hw => ?_)
        obtain ⟨ig9, eig9⟩ : ∃ f, f = up2 ig4 (B + 9) 5 z8 := ⟨_, rfl⟩
        rw [← eig9] at hw
        have hN : Nx 0 B none kd ig rg lg kd3 ig9 rg5 lg6 := by rw [eig9]; exact hN.pi (by omega)
        have hI : IC τ B kd3 ig9 rg5 := by rw [eig9]; exact hI.pi (show okR (some (0, 20)) _ from ⟨by show (0 : Int) ≤ _; omega, by show _ ≤ (20 : Int); omega⟩)
        have wig9 : (ig9 (B + 9) 5).toInt = z8.toInt := by rw [eig9, up2_eq]
        exact r_vret C hw hr hlk (Nat.le_of_ble_eq_true rfl) (Nat.le_of_ble_eq_true rfl) dX6_forgetOldest_48 ⟨hI, hN, ⟨rfl, by omega⟩⟩
      · refine lv_aload_n hx hb dX6_forgetOldest_8 rfl (lv_at hl 1 rfl) ?_
        refine r_get C hw (hsh 9 _ rfl) fl_X6_28 (oV_r rfl (hrs (9, 3, 13) (by decide))) dX6_forgetOldest_9 ?_
        refine lv_iload_n hx hb dX6_forgetOldest_12 rfl (lv_at hl 0 rfl) ?_
        refine lv_iconst (v := 1) hx hb dX6_forgetOldest_13 (by decide) (ti_c 1 (by decide) fun z10 hz10 => ?_)
        refine lv_isub hx hb dX6_forgetOldest_14 (tc_sub fun z11 hz11 => ?_)
        first | replace hz11 := hz11 (by omega) | clear hz11
        refine lv_aload_n hx hb dX6_forgetOldest_15 rfl (lv_at hl 1 rfl) ?_
        refine r_get C hw (hsh 9 _ rfl) fl_X6_28 (oV_r rfl (hrs (9, 3, 13) (by decide))) dX6_forgetOldest_16 ?_
        refine lv_iload_n hx hb dX6_forgetOldest_19 rfl (lv_at hl 0 rfl) ?_
        refine r_iald C hw (hsh 13 _ rfl) (by omega) (by omega) dX6_forgetOldest_20 (ti_c (ig4 (B + 13) v2.toInt.toNat).toInt rfl fun z12 hz12 => ?_)
        refine r_iast C hw (hsh 13 _ rfl) (by omega) (by omega) dX6_forgetOldest_21 (fun H locs hH hw => ?_)
        obtain ⟨ig13, eig13⟩ : ∃ f, f = up2 ig4 (B + 13) z11.toInt.toNat z12 := ⟨_, rfl⟩
        rw [← eig13] at hw
        have hN : Nx 0 B none kd ig rg lg kd3 ig13 rg5 lg6 := by rw [eig13]; exact hN.pi (by omega)
        have hI : IC τ B kd3 ig13 rg5 := by rw [eig13]; exact hI.pi (show okR none _ from trivial)
        have wig13_9_5 : (ig13 (B + 9) 5).toInt = (ig4 (B + 9) 5).toInt := by rw [eig13, up2_a (by omega)]
        refine lv_aload_n hx hb dX6_forgetOldest_22 rfl (lv_at hl 1 rfl) ?_
        refine r_get C hw (hsh 9 _ rfl) fl_X6_32 (oV_r rfl (hrs (9, 4, 14) (by decide))) dX6_forgetOldest_23 ?_
        refine lv_iload_n hx hb dX6_forgetOldest_26 rfl (lv_at hl 0 rfl) ?_
        refine lv_iconst (v := 1) hx hb dX6_forgetOldest_27 (by decide) (ti_c 1 (by decide) fun z14 hz14 => ?_)
        refine lv_isub hx hb dX6_forgetOldest_28 (tc_sub fun z15 hz15 => ?_)
        first | replace hz15 := hz15 (by omega) | clear hz15
        refine lv_aload_n hx hb dX6_forgetOldest_29 rfl (lv_at hl 1 rfl) ?_
        refine r_get C hw (hsh 9 _ rfl) fl_X6_32 (oV_r rfl (hrs (9, 4, 14) (by decide))) dX6_forgetOldest_30 ?_
        refine lv_iload_n hx hb dX6_forgetOldest_33 rfl (lv_at hl 0 rfl) ?_
        obtain ⟨q16, nq16, rq16, kq16⟩ := hI.past (j := v2.toInt.toNat) (by omega)
        refine r_aald C hw (hsh 14 _ rfl) (by omega) (by omega) (by rw [rq16]) dX6_forgetOldest_34 ?_
        refine r_aast C hw (hsh 14 _ rfl) kq16 (by omega) (by omega) dX6_forgetOldest_35 (fun H locs hH hw => ?_)
        obtain ⟨rg17, erg17⟩ : ∃ f, f = up2 rg5 (B + 14) z15.toInt.toNat (some q16) := ⟨_, rfl⟩
        rw [← erg17] at hw
        have hN : Nx 0 B none kd ig rg lg kd3 ig13 rg17 lg6 := by rw [erg17]; exact hN.pr (by omega) (Or.inr (by rintro ⟨n, h | h⟩ <;> (have h9 := (hN.k h).symm.trans (hsh 14 _ rfl); cases h9)))
        have hI : IC τ B kd3 ig13 rg17 := by rw [erg17]; exact hI.pc (by omega) kq16
        have hrs := hI.rs
        refine tc_inc hx hb dX6_forgetOldest_36 hl (k := 0) rfl (by decide) (by decide) (fun z18 hz18 ls hl => ?_)
        first | replace hz18 := hz18 (by omega) | clear hz18
        have hl : lv_has ls 2 [(1, .int z18), (0, .ref (B + 9))] := hl
        refine lv_goto (tgt := 2) hx hb dX6_forgetOldest_39 (by decide) ?_
        exact ih2 ls H locs kd3 ig13 rg17 lg6 z18 (lv_sub hl [0, 1] rfl) hw hI hN (by omega) (by omega) (by omega)
  exact L2 ((20 - z1.toInt) + 1).toNat ls s.heap [] kd ig rg lg z1 (lv_sub hl [0, 1] rfl) hw hI hN (by omega) (by omega) (by omega)

set_option maxHeartbeats 4000000 in
set_option maxRecDepth 100000 in
theorem t_X6_put {τ : Tp} (l : Launch) (B : Nat) (D : va_G) (cA : Nat → ClassId) (kd : sK) (ig : sI) (rg : sR) (lg : sG) (sz : Nat) (x : Int32) (q nq : Nat) (kq : kd q = some (0, nq)) (hI : IC τ B kd ig rg) : MC l B D cA yX6_put cX6_put 3 none (rL 2 0 0) [.ref (B + 9), .int x, .ref q] kd ig rg lg sz (PI 0 τ B none kd ig rg lg (fun r kd' ig' rg' lg' => r = none)) := by
  refine MC.of (own := RX6) (by decide +kernel) rfl (Nat.le_of_ble_eq_true rfl) ?_
  intro p e s m args below meth c ls C hr hlk hnm hw hsz hl
  have hx := C.1.1
  have hb := C.1.2.1
  have hown := C.1.2.2.2.1
  have hts := C.1.2.2.2.2
  have hl : lv_has ls 3 [(0, .ref (B + 9)), (1, .int x), (2, .ref q)] := hl
  have hN : Nx 0 B none kd ig rg lg kd ig rg lg := Nx.rf
  have hsh := hI.sh
  have hrs := hI.rs
  refine lv_aload_n hx hb dX6_put_0 rfl (lv_at hl 0 rfl) ?_
  refine r_get C hw (hsh 9 _ rfl) fl_X6_35 (oV_i rfl) dX6_put_1 (ti_c (ig (B + 9) 5).toInt rfl fun z1 hz1 => ?_)
  have k2 : 0 ≤ (ig (B + 9) 5).toInt ∧ (ig (B + 9) 5).toInt ≤ 20 := hI.i 9 5 (by decide)
  refine lv_bipush (v := 20) hx hb dX6_put_4 (by decide) (ti_c 20 (by decide) fun z3 hz3 => ?_)
  have J13 : ∀ (ls : Array Slot) (H : Heap) (locs : List Loc) (kd4 : sK) (ig5 : sI) (rg6 : sR) (lg7 : sG) , lv_has ls 3 [(0, .ref (B + 9)), (1, .int x), (2, .ref q)] → WD B D cA s.heap kd4 ig5 rg6 lg7 H locs → IC τ B kd4 ig5 rg6 → Nx 0 B none kd ig rg lg kd4 ig5 rg6 lg7 → kd4 q = some (0, nq) → ((ig5 (B + 9) 5).toInt ≤ 19) → W p l e (rL 2 0 0) s m args below meth c H locs 0 0 (MQ below (QcW B D cA (PI 0 τ B none kd ig rg lg (fun r kd' ig' rg' lg' => r = none))) args s 0 0 (fun q => B ≤ q)) (F0 m 13 ls []) := by
    intro ls H locs kd4 ig5 rg6 lg7 hl hw hI hN kq g13_0
    have hsh := hI.sh
    have hrs := hI.rs
    refine lv_aload_n hx hb dX6_put_13 rfl (lv_at hl 0 rfl) ?_
    refine r_get C hw (hsh 9 _ rfl) fl_X6_28 (oV_r rfl (hrs (9, 3, 13) (by decide))) dX6_put_14 ?_
    refine lv_aload_n hx hb dX6_put_17 rfl (lv_at hl 0 rfl) ?_
    refine r_get C hw (hsh 9 _ rfl) fl_X6_35 (oV_i rfl) dX6_put_18 (ti_c (ig5 (B + 9) 5).toInt rfl fun z8 hz8 => ?_)
    have k9 : 0 ≤ (ig5 (B + 9) 5).toInt ∧ (ig5 (B + 9) 5).toInt ≤ 20 := hI.i 9 5 (by decide)
    refine lv_iload_n hx hb dX6_put_21 rfl (lv_at hl 1 rfl) ?_
    refine r_iast C hw (hsh 13 _ rfl) (by omega) (by omega) dX6_put_22 (fun H locs hH hw => ?_)
    obtain ⟨ig10, eig10⟩ : ∃ f, f = up2 ig5 (B + 13) z8.toInt.toNat x := ⟨_, rfl⟩
    rw [← eig10] at hw
    have hN : Nx 0 B none kd ig rg lg kd4 ig10 rg6 lg7 := by rw [eig10]; exact hN.pi (by omega)
    have hI : IC τ B kd4 ig10 rg6 := by rw [eig10]; exact hI.pi (show okR none _ from trivial)
    have wig10_9_5 : (ig10 (B + 9) 5).toInt = (ig5 (B + 9) 5).toInt := by rw [eig10, up2_a (by omega)]
    refine lv_aload_n hx hb dX6_put_23 rfl (lv_at hl 0 rfl) ?_
    refine r_get C hw (hsh 9 _ rfl) fl_X6_32 (oV_r rfl (hrs (9, 4, 14) (by decide))) dX6_put_24 ?_
    refine lv_aload_n hx hb dX6_put_27 rfl (lv_at hl 0 rfl) ?_
    refine r_get C hw (hsh 9 _ rfl) fl_X6_35 (oV_i rfl) dX6_put_28 (ti_c (ig10 (B + 9) 5).toInt rfl fun z11 hz11 => ?_)
    have k12 : 0 ≤ (ig10 (B + 9) 5).toInt ∧ (ig10 (B + 9) 5).toInt ≤ 20 := hI.i 9 5 (by decide)
    refine lv_aload_n hx hb dX6_put_31 rfl (lv_at hl 0 rfl) ?_
    refine lv_iload_n hx hb dX6_put_32 rfl (lv_at hl 1 rfl) ?_
    refine r_callV (As := [.int x]) (rest := [.int z11, .ref (B + 14)]) C hw (t_X6_at l B D cA kd4 ig10 rg6 lg7 _ x  hI) sv_X6_53 (hsh 9 _ rfl) rfl hl.1 rfl (Nat.le_of_ble_eq_true rfl) ⟨Nat.le_of_ble_eq_true rfl, Nat.le_of_ble_eq_true rfl⟩ ⟨Nat.le_of_ble_eq_true rfl, Nat.le_of_ble_eq_true rfl⟩ dX6_put_33 (fun r17 kd13 ig14 rg15 lg16 H locs hw hH hp18 => ?_)
    obtain ⟨rfl, rfl, rfl, rfl, hzhp18, hrhp18⟩ := hp18
    obtain ⟨q19, nq19, rfl, kq19⟩ := hrhp18
    refine r_aast C hw (hsh 14 _ rfl) kq19 (by omega) (by omega) dX6_put_36 (fun H locs hH hw => ?_)
    obtain ⟨rg20, erg20⟩ : ∃ f, f = up2 rg6 (B + 14) z11.toInt.toNat (some q19) := ⟨_, rfl⟩
    rw [← erg20] at hw
    have hN : Nx 0 B none kd ig rg lg kd4 ig10 rg20 lg7 := by rw [erg20]; exact hN.pr (by omega) (Or.inr (by rintro ⟨n, h | h⟩ <;> (have h9 := (hN.k h).symm.trans (hsh 14 _ rfl); cases h9)))
    have hI : IC τ B kd4 ig10 rg20 := by rw [erg20]; exact hI.pc (by omega) kq19
    have hrs := hI.rs
    refine lv_aload_n hx hb dX6_put_37 rfl (lv_at hl 0 rfl) ?_
    refine lv_dup hx hb dX6_put_38 rfl ?_
    refine r_get C hw (hsh 9 _ rfl) fl_X6_35 (oV_i rfl) dX6_put_39 (ti_c (ig10 (B + 9) 5).toInt rfl fun z21 hz21 => ?_)
    have k22 : 0 ≤ (ig10 (B + 9) 5).toInt ∧ (ig10 (B + 9) 5).toInt ≤ 20 := hI.i 9 5 (by decide)
    refine lv_iconst (v := 1) hx hb dX6_put_42 (by decide) (ti_c 1 (by decide) fun z23 hz23 => ?_)
    refine lv_iadd hx hb dX6_put_43 (tc_add fun z24 hz24 => ?_)
    first | replace hz24 := hz24 (by omega) | clear hz24
    refine r_puti C hw (hsh 9 _ rfl) fl_X6_35 rfl rfl rfl dX6_put_44 (fun H locs hH hw => ?_)
    obtain ⟨ig25, eig25⟩ : ∃ f, f = up2 ig10 (B + 9) 5 z24 := ⟨_, rfl⟩
    rw [← eig25] at hw
    have hN : Nx 0 B none kd ig rg lg kd4 ig25 rg20 lg7 := by rw [eig25]; exact hN.pi (by omega)
    have hI : IC τ B kd4 ig25 rg20 := by rw [eig25]; exact hI.pi (show okR (some (0, 20)) _ from ⟨by show (0 : Int) ≤ _; omega, by show _ ≤ (20 : Int); omega⟩)
    have wig25 : (ig25 (B + 9) 5).toInt = z24.toInt := by rw [eig25, up2_eq]
    refine lv_aload_n hx hb dX6_put_47 rfl (lv_at hl 0 rfl) ?_
    refine lv_iload_n hx hb dX6_put_48 rfl (lv_at hl 1 rfl) ?_
    refine lv_aload_n hx hb dX6_put_49 rfl (lv_at hl 2 rfl) ?_
    refine r_callV (As := [.int x, .ref q]) (rest := []) C hw (t_X6_replace l B D cA kd4 ig25 rg20 lg7 _ x q nq kq  hI) sv_X6_67 (hsh 9 _ rfl) rfl hl.1 rfl (Nat.le_of_ble_eq_true rfl) ⟨Nat.le_of_ble_eq_true rfl, Nat.le_of_ble_eq_true rfl⟩ ⟨Nat.le_of_ble_eq_true rfl, Nat.le_of_ble_eq_true rfl⟩ dX6_put_50 (fun r30 kd26 ig27 rg28 lg29 H locs hw hH hp31 => ?_)
    obtain ⟨hI, hchp31, hrhp31⟩ := hp31
    have hN := hN.tr hchp31
    have hsh := hI.sh
    have hrs := hI.rs
    obtain rfl := hrhp31
    exact r_vret C hw hr hlk (Nat.le_of_ble_eq_true rfl) (Nat.le_of_ble_eq_true rfl) dX6_put_53 ⟨hI, hN, rfl⟩
  refine b_lt (tgt := 13) hx hb dX6_put_6 (by decide) (fun c6 => ?_) (fun c6 => ?_)
  · exact J13 ls s.heap [] kd ig rg lg (lv_sub hl [0, 1, 2] rfl) hw hI hN kq (by omega)
  · refine lv_aload_n hx hb dX6_put_9 rfl (lv_at hl 0 rfl) ?_
    refine r_callV (As := []) (rest := []) C hw (t_X6_forgetOldest l B D cA kd ig rg lg _   hI) sv_X6_64 (hsh 9 _ rfl) rfl hl.1 rfl (Nat.le_of_ble_eq_true rfl) ⟨Nat.le_of_ble_eq_true rfl, Nat.le_of_ble_eq_true rfl⟩ ⟨Nat.le_of_ble_eq_true rfl, Nat.le_of_ble_eq_true rfl⟩ dX6_put_10 (fun r36 kd32 ig33 rg34 lg35 H locs hw hH hp37 => ?_)
    obtain ⟨hI, hchp37, hrhp37⟩ := hp37
    have kq := Nx.k hchp37 kq
    have hN := hN.tr hchp37
    have hsh := hI.sh
    have hrs := hI.rs
    obtain ⟨rfl, hvhp37⟩ := hrhp37
    exact J13 ls H locs kd32 ig33 rg34 lg35 (lv_sub hl [0, 1, 2] rfl) hw hI hN kq (by omega)

set_option maxHeartbeats 4000000 in
set_option maxRecDepth 100000 in
theorem t_X6_takeBack {τ : Tp} (l : Launch) (B : Nat) (D : va_G) (cA : Nat → ClassId) (kd : sK) (ig : sI) (rg : sR) (lg : sG) (sz : Nat)  (hI : IC τ B kd ig rg) : MC l B D cA yX6_takeBack cX6_takeBack 1 none (rL 2 0 0) [.ref (B + 9)] kd ig rg lg sz (PI 0 τ B none kd ig rg lg (fun r kd' ig' rg' lg' => r = none)) := by
  refine MC.of (own := RX6) (by decide +kernel) rfl (Nat.le_of_ble_eq_true rfl) ?_
  intro p e s m args below meth c ls C hr hlk hnm hw hsz hl
  have hx := C.1.1
  have hb := C.1.2.1
  have hown := C.1.2.2.2.1
  have hts := C.1.2.2.2.2
  have hl : lv_has ls 1 [(0, .ref (B + 9))] := hl
  have hN : Nx 0 B none kd ig rg lg kd ig rg lg := Nx.rf
  have hsh := hI.sh
  have hrs := hI.rs
  refine lv_aload_n hx hb dX6_takeBack_0 rfl (lv_at hl 0 rfl) ?_
  refine r_get C hw (hsh 9 _ rfl) fl_X6_35 (oV_i rfl) dX6_takeBack_1 (ti_c (ig (B + 9) 5).toInt rfl fun z1 hz1 => ?_)
  have k2 : 0 ≤ (ig (B + 9) 5).toInt ∧ (ig (B + 9) 5).toInt ≤ 20 := hI.i 9 5 (by decide)
  refine z_le (tgt := 48) hx hb dX6_takeBack_4 (by decide) (fun c4 => ?_) (fun c4 => ?_)
  · exact r_vret C hw hr hlk (Nat.le_of_ble_eq_true rfl) (Nat.le_of_ble_eq_true rfl) dX6_takeBack_48 ⟨hI, hN, rfl⟩
  · refine lv_aload_n hx hb dX6_takeBack_7 rfl (lv_at hl 0 rfl) ?_
    refine r_get C hw (hsh 9 _ rfl) fl_X6_35 (oV_i rfl) dX6_takeBack_8 (ti_c (ig (B + 9) 5).toInt rfl fun z3 hz3 => ?_)
    have k4 : 0 ≤ (ig (B + 9) 5).toInt ∧ (ig (B + 9) 5).toInt ≤ 20 := hI.i 9 5 (by decide)
    refine lv_bipush (v := 20) hx hb dX6_takeBack_11 (by decide) (ti_c 20 (by decide) fun z5 hz5 => ?_)
    refine b_gt (tgt := 48) hx hb dX6_takeBack_13 (by decide) (fun c13 => ?_) (fun c13 => ?_)
    · exact r_vret C hw hr hlk (Nat.le_of_ble_eq_true rfl) (Nat.le_of_ble_eq_true rfl) dX6_takeBack_48 ⟨hI, hN, rfl⟩
    · refine lv_aload_n hx hb dX6_takeBack_16 rfl (lv_at hl 0 rfl) ?_
      refine lv_dup hx hb dX6_takeBack_17 rfl ?_
      refine r_get C hw (hsh 9 _ rfl) fl_X6_35 (oV_i rfl) dX6_takeBack_18 (ti_c (ig (B + 9) 5).toInt rfl fun z6 hz6 => ?_)
      have k7 : 0 ≤ (ig (B + 9) 5).toInt ∧ (ig (B + 9) 5).toInt ≤ 20 := hI.i 9 5 (by decide)
      refine lv_iconst (v := 1) hx hb dX6_takeBack_21 (by decide) (ti_c 1 (by decide) fun z8 hz8 => ?_)
      refine lv_isub hx hb dX6_takeBack_22 (tc_sub fun z9 hz9 => ?_)
      first | replace hz9 := hz9 (by omega) | clear hz9
      refine r_puti C hw (hsh 9 _ rfl) fl_X6_35 rfl rfl rfl dX6_takeBack_23 (fun H locs hH hw => ?_)
      obtain ⟨ig10, eig10⟩ : ∃ f, f = up2 ig (B + 9) 5 z9 := ⟨_, rfl⟩
      rw [← eig10] at hw
      have hN : Nx 0 B none kd ig rg lg kd ig10 rg lg := by rw [eig10]; exact hN.pi (by omega)
      have hI : IC τ B kd ig10 rg := by rw [eig10]; exact hI.pi (show okR (some (0, 20)) _ from ⟨by show (0 : Int) ≤ _; omega, by show _ ≤ (20 : Int); omega⟩)
      have wig10 : (ig10 (B + 9) 5).toInt = z9.toInt := by rw [eig10, up2_eq]
      refine lv_aload_n hx hb dX6_takeBack_26 rfl (lv_at hl 0 rfl) ?_
      refine lv_aload_n hx hb dX6_takeBack_27 rfl (lv_at hl 0 rfl) ?_
      refine r_get C hw (hsh 9 _ rfl) fl_X6_28 (oV_r rfl (hrs (9, 3, 13) (by decide))) dX6_takeBack_28 ?_
      refine lv_aload_n hx hb dX6_takeBack_31 rfl (lv_at hl 0 rfl) ?_
      refine r_get C hw (hsh 9 _ rfl) fl_X6_35 (oV_i rfl) dX6_takeBack_32 (ti_c (ig10 (B + 9) 5).toInt rfl fun z11 hz11 => ?_)
      have k12 : 0 ≤ (ig10 (B + 9) 5).toInt ∧ (ig10 (B + 9) 5).toInt ≤ 20 := hI.i 9 5 (by decide)
      refine r_iald C hw (hsh 13 _ rfl) (by omega) (by omega) dX6_takeBack_35 (ti_c (ig10 (B + 13) z11.toInt.toNat).toInt rfl fun z13 hz13 => ?_)
      refine lv_aload_n hx hb dX6_takeBack_36 rfl (lv_at hl 0 rfl) ?_
      refine r_get C hw (hsh 9 _ rfl) fl_X6_32 (oV_r rfl (hrs (9, 4, 14) (by decide))) dX6_takeBack_37 ?_
      refine lv_aload_n hx hb dX6_takeBack_40 rfl (lv_at hl 0 rfl) ?_
      refine r_get C hw (hsh 9 _ rfl) fl_X6_35 (oV_i rfl) dX6_takeBack_41 (ti_c (ig10 (B + 9) 5).toInt rfl fun z14 hz14 => ?_)
      have k15 : 0 ≤ (ig10 (B + 9) 5).toInt ∧ (ig10 (B + 9) 5).toInt ≤ 20 := hI.i 9 5 (by decide)
      obtain ⟨q16, nq16, rq16, kq16⟩ := hI.past (j := z14.toInt.toNat) (by omega)
      refine r_aald C hw (hsh 14 _ rfl) (by omega) (by omega) (by rw [rq16]) dX6_takeBack_44 ?_
      refine r_callV (As := [.int z13, .ref q16]) (rest := []) C hw (t_X6_replace l B D cA kd ig10 rg lg _ z13 q16 nq16 kq16  hI) sv_X6_67 (hsh 9 _ rfl) rfl hl.1 rfl (Nat.le_of_ble_eq_true rfl) ⟨Nat.le_of_ble_eq_true rfl, Nat.le_of_ble_eq_true rfl⟩ ⟨Nat.le_of_ble_eq_true rfl, Nat.le_of_ble_eq_true rfl⟩ dX6_takeBack_45 (fun r21 kd17 ig18 rg19 lg20 H locs hw hH hp22 => ?_)
      obtain ⟨hI, hchp22, hrhp22⟩ := hp22
      have hN := hN.tr hchp22
      have hsh := hI.sh
      have hrs := hI.rs
      obtain rfl := hrhp22
      exact r_vret C hw hr hlk (Nat.le_of_ble_eq_true rfl) (Nat.le_of_ble_eq_true rfl) dX6_takeBack_48 ⟨hI, hN, rfl⟩
