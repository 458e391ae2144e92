set_option maxHeartbeats 4000000 in
set_option maxRecDepth 100000 in
theorem t_X0_initNE {τ : Tp} (l : Launch) (B : Nat) (D : va_G) (cA : Nat → ClassId) (kd : sK) (ig : sI) (rg : sR) (lg : sG) (sz : Nat) (a : Nat) (kt : kd a = some (0, 0)) (ha : B + 80 ≤ a) (x : Int32) (y : Int32) (hk2 : x.toInt ≠ 2) (hI : IC τ B kd ig rg) : MC l B D cA yX0_init cX0_init 4 none (rL 1 0 0) [.ref a, .int x, .int y, .null] kd ig rg lg sz (PI 1022 τ B (some a) kd ig rg lg (fun r kd' ig' rg' lg' => (r = none ∧ ClQ B kd' ig' rg' a ((x.toInt, y.toInt), (0, 0, 0), [])))) := by
  refine MC.of (own := RX0) (by decide +kernel) rfl (Nat.le_of_ble_eq_true rfl) ?_
  intro p e s m args below meth c ls C hr hlk hnm hw hsz hl
  have hx := C.1.1
  have hb := C.1.2.1
  have hown := C.1.2.2.2.1
  have hts := C.1.2.2.2.2
  have hl : lv_has ls 4 [(0, .ref a), (1, .int x), (2, .int y), (3, .null)] := hl
  have hN : Nx 1022 B (some a) kd ig rg lg kd ig rg lg := Nx.rf
  have hsh := hI.sh
  have hrs := hI.rs
  refine lv_aload_n hx hb dX0_init_0 rfl (lv_at hl 0 rfl) ?_
  refine r_obj C ol_X0_3 oi_i oi_c hl.1 (by decide) (by decide) dX0_init_1 ?_
  refine lv_aload_n hx hb dX0_init_4 rfl (lv_at hl 0 rfl) ?_
  refine lv_iload_n hx hb dX0_init_5 rfl (lv_at hl 1 rfl) ?_
  refine r_putiF C hw hnm rfl kt fl_X0_9 rfl rfl rfl dX0_init_6 (fun H locs hH hw => ?_)
  obtain ⟨ig1, eig1⟩ : ∃ f, f = up2 ig a 0 x := ⟨_, rfl⟩
  rw [← eig1] at hw
  have hN : Nx 1022 B (some a) kd ig rg lg kd ig1 rg lg := by rw [eig1]; exact hN.pi (by have := ha; omega)
  have hI : IC τ B kd ig1 rg := by rw [eig1]; exact hI.pd (by have := ha; omega)
  refine lv_aload_n hx hb dX0_init_9 rfl (lv_at hl 0 rfl) ?_
  refine lv_iload_n hx hb dX0_init_10 rfl (lv_at hl 2 rfl) ?_
  refine r_putiF C hw hnm rfl kt fl_X0_15 rfl rfl rfl dX0_init_11 (fun H locs hH hw => ?_)
  obtain ⟨ig2, eig2⟩ : ∃ f, f = up2 ig1 a 1 y := ⟨_, rfl⟩
  rw [← eig2] at hw
  have hN : Nx 1022 B (some a) kd ig rg lg kd ig2 rg lg := by rw [eig2]; exact hN.pi (by have := ha; omega)
  have hI : IC τ B kd ig2 rg := by rw [eig2]; exact hI.pd (by have := ha; omega)
  refine lv_aload_n hx hb dX0_init_14 rfl (lv_at hl 0 rfl) ?_
  refine lv_aload_nN hx hb dX0_init_15 rfl (lv_at hl 3 rfl) ?_
  refine r_putrF C hw none rfl hnm rfl kt fl_X0_18 rfl rfl rfl dX0_init_16 (fun H locs hH hw => ?_)
  obtain ⟨rg3, erg3⟩ : ∃ f, f = up2 rg a 2 none := ⟨_, rfl⟩
  rw [← erg3] at hw
  have hI : IC τ B kd ig2 rg3 := by rw [erg3]; exact hI.pf (by omega) (IC.nr hI kt) (fun n h1 h2 => Or.inl rfl)
  have hN : Nx 1022 B (some a) kd ig rg lg kd ig2 rg3 lg := by rw [erg3]; exact hN.pr (by omega) (Or.inl rfl)
  have hrs := hI.rs
  refine lv_aload_n hx hb dX0_init_19 rfl (lv_at hl 0 rfl) ?_
  refine lv_iconst (v := 0) hx hb dX0_init_20 (by decide) (ti_c 0 (by decide) fun z4 hz4 => ?_)
  refine r_putiF C hw hnm rfl kt fl_X0_22 rfl rfl rfl dX0_init_21 (fun H locs hH hw => ?_)
  obtain ⟨ig5, eig5⟩ : ∃ f, f = up2 ig2 a 3 z4 := ⟨_, rfl⟩
  rw [← eig5] at hw
  have hN : Nx 1022 B (some a) kd ig rg lg kd ig5 rg3 lg := by rw [eig5]; exact hN.pi (by have := ha; omega)
  have hI : IC τ B kd ig5 rg3 := by rw [eig5]; exact hI.pd (by have := ha; omega)
  refine lv_aload_n hx hb dX0_init_24 rfl (lv_at hl 0 rfl) ?_
  refine lv_iconst (v := 0) hx hb dX0_init_25 (by decide) (ti_c 0 (by decide) fun z6 hz6 => ?_)
  refine r_putiF C hw hnm rfl kt fl_X0_25 rfl rfl rfl dX0_init_26 (fun H locs hH hw => ?_)
  obtain ⟨ig7, eig7⟩ : ∃ f, f = up2 ig5 a 4 z6 := ⟨_, rfl⟩
  rw [← eig7] at hw
  have hN : Nx 1022 B (some a) kd ig rg lg kd ig7 rg3 lg := by rw [eig7]; exact hN.pi (by have := ha; omega)
  have hI : IC τ B kd ig7 rg3 := by rw [eig7]; exact hI.pd (by have := ha; omega)
  refine lv_aload_n hx hb dX0_init_29 rfl (lv_at hl 0 rfl) ?_
  refine lv_iconst (v := 0) hx hb dX0_init_30 (by decide) (ti_c 0 (by decide) fun z8 hz8 => ?_)
  refine r_putiF C hw hnm rfl kt fl_X0_28 rfl rfl rfl dX0_init_31 (fun H locs hH hw => ?_)
  obtain ⟨ig9, eig9⟩ : ∃ f, f = up2 ig7 a 5 z8 := ⟨_, rfl⟩
  rw [← eig9] at hw
  have hN : Nx 1022 B (some a) kd ig rg lg kd ig9 rg3 lg := by rw [eig9]; exact hN.pi (by have := ha; omega)
  have hI : IC τ B kd ig9 rg3 := by rw [eig9]; exact hI.pd (by have := ha; omega)
  exact r_vret C hw hr hlk (Nat.le_of_ble_eq_true rfl) (Nat.le_of_ble_eq_true rfl) dX0_init_34 ⟨hI, hN, ⟨rfl, ⟨⟨0, kt⟩, Or.inr ha, ⟨(by rw [eig9, up2_j (by decide), eig7, up2_j (by decide), eig5, up2_j (by decide), eig2, up2_j (by decide), eig1, up2_eq]), (by rw [eig9, up2_j (by decide), eig7, up2_j (by decide), eig5, up2_j (by decide), eig2, up2_eq]), (by rw [eig9, up2_j (by decide), eig7, up2_j (by decide), eig5, up2_eq]; exact hz4), (by rw [eig9, up2_j (by decide), eig7, up2_eq]; exact hz6), (by rw [eig9, up2_eq]; exact hz8)⟩, Or.inl ⟨hk2, by rw [erg3, up2_eq]⟩⟩⟩⟩

set_option maxHeartbeats 4000000 in
set_option maxRecDepth 100000 in
theorem t_X0_initFE {τ : Tp} (l : Launch) (B : Nat) (D : va_G) (cA : Nat → ClassId) (kd : sK) (ig : sI) (rg : sR) (lg : sG) (sz : Nat) (a : Nat) (kt : kd a = some (0, 0)) (ha : B + 80 ≤ a) (x : Int32) (y : Int32) (g : Nat) (M : Fm) (hM : FnL B kd ig rg g M) (hk2 : x.toInt = 2) (hI : IC τ B kd ig rg) : MC l B D cA yX0_init cX0_init 4 none (rL 1 0 0) [.ref a, .int x, .int y, .ref g] kd ig rg lg sz (PI 1022 τ B (some a) kd ig rg lg (fun r kd' ig' rg' lg' => (r = none ∧ ClQ B kd' ig' rg' a ((x.toInt, y.toInt), (0, 0, 0), M)))) := by
  refine MC.of (own := RX0) (by decide +kernel) rfl (Nat.le_of_ble_eq_true rfl) ?_
  intro p e s m args below meth c ls C hr hlk hnm hw hsz hl
  have hx := C.1.1
  have hb := C.1.2.1
  have hown := C.1.2.2.2.1
  have hts := C.1.2.2.2.2
  have hl : lv_has ls 4 [(0, .ref a), (1, .int x), (2, .int y), (3, .ref g)] := hl
  have hN : Nx 1022 B (some a) kd ig rg lg kd ig rg lg := Nx.rf
  have hsh := hI.sh
  have hrs := hI.rs
  refine lv_aload_n hx hb dX0_init_0 rfl (lv_at hl 0 rfl) ?_
  refine r_obj C ol_X0_3 oi_i oi_c hl.1 (by decide) (by decide) dX0_init_1 ?_
  refine lv_aload_n hx hb dX0_init_4 rfl (lv_at hl 0 rfl) ?_
  refine lv_iload_n hx hb dX0_init_5 rfl (lv_at hl 1 rfl) ?_
  refine r_putiF C hw hnm rfl kt fl_X0_9 rfl rfl rfl dX0_init_6 (fun H locs hH hw => ?_)
  obtain ⟨ig1, eig1⟩ : ∃ f, f = up2 ig a 0 x := ⟨_, rfl⟩
  rw [← eig1] at hw
  have hN : Nx 1022 B (some a) kd ig rg lg kd ig1 rg lg := by rw [eig1]; exact hN.pi (by have := ha; omega)
  have hI : IC τ B kd ig1 rg := by rw [eig1]; exact hI.pd (by have := ha; omega)
  refine lv_aload_n hx hb dX0_init_9 rfl (lv_at hl 0 rfl) ?_
  refine lv_iload_n hx hb dX0_init_10 rfl (lv_at hl 2 rfl) ?_
  refine r_putiF C hw hnm rfl kt fl_X0_15 rfl rfl rfl dX0_init_11 (fun H locs hH hw => ?_)
  obtain ⟨ig2, eig2⟩ : ∃ f, f = up2 ig1 a 1 y := ⟨_, rfl⟩
  rw [← eig2] at hw
  have hN : Nx 1022 B (some a) kd ig rg lg kd ig2 rg lg := by rw [eig2]; exact hN.pi (by have := ha; omega)
  have hI : IC τ B kd ig2 rg := by rw [eig2]; exact hI.pd (by have := ha; omega)
  refine lv_aload_n hx hb dX0_init_14 rfl (lv_at hl 0 rfl) ?_
  refine lv_aload_n hx hb dX0_init_15 rfl (lv_at hl 3 rfl) ?_
  refine r_putrF C hw (some g) rfl hnm rfl kt fl_X0_18 rfl rfl rfl dX0_init_16 (fun H locs hH hw => ?_)
  obtain ⟨rg3, erg3⟩ : ∃ f, f = up2 rg a 2 (some g) := ⟨_, rfl⟩
  rw [← erg3] at hw
  have hI : IC τ B kd ig2 rg3 := by rw [erg3]; exact hI.pf (by omega) (IC.nr hI kt) (fun n h1 h2 => Or.inr ⟨_, _, rfl, (by rintro rfl; have h9 := (isFn.k (FnL.F (hM.nxe hN kt (by decide)))).symm.trans kt; cases h9), (FnL.F (hM.nxe hN kt (by decide)))⟩)
  have hN : Nx 1022 B (some a) kd ig rg lg kd ig2 rg3 lg := by rw [erg3]; exact hN.pr (by omega) (Or.inl rfl)
  have hrs := hI.rs
  refine lv_aload_n hx hb dX0_init_19 rfl (lv_at hl 0 rfl) ?_
  refine lv_iconst (v := 0) hx hb dX0_init_20 (by decide) (ti_c 0 (by decide) fun z4 hz4 => ?_)
  refine r_putiF C hw hnm rfl kt fl_X0_22 rfl rfl rfl dX0_init_21 (fun H locs hH hw => ?_)
  obtain ⟨ig5, eig5⟩ : ∃ f, f = up2 ig2 a 3 z4 := ⟨_, rfl⟩
  rw [← eig5] at hw
  have hN : Nx 1022 B (some a) kd ig rg lg kd ig5 rg3 lg := by rw [eig5]; exact hN.pi (by have := ha; omega)
  have hI : IC τ B kd ig5 rg3 := by rw [eig5]; exact hI.pd (by have := ha; omega)
  refine lv_aload_n hx hb dX0_init_24 rfl (lv_at hl 0 rfl) ?_
  refine lv_iconst (v := 0) hx hb dX0_init_25 (by decide) (ti_c 0 (by decide) fun z6 hz6 => ?_)
  refine r_putiF C hw hnm rfl kt fl_X0_25 rfl rfl rfl dX0_init_26 (fun H locs hH hw => ?_)
  obtain ⟨ig7, eig7⟩ : ∃ f, f = up2 ig5 a 4 z6 := ⟨_, rfl⟩
  rw [← eig7] at hw
  have hN : Nx 1022 B (some a) kd ig rg lg kd ig7 rg3 lg := by rw [eig7]; exact hN.pi (by have := ha; omega)
  have hI : IC τ B kd ig7 rg3 := by rw [eig7]; exact hI.pd (by have := ha; omega)
  refine lv_aload_n hx hb dX0_init_29 rfl (lv_at hl 0 rfl) ?_
  refine lv_iconst (v := 0) hx hb dX0_init_30 (by decide) (ti_c 0 (by decide) fun z8 hz8 => ?_)
  refine r_putiF C hw hnm rfl kt fl_X0_28 rfl rfl rfl dX0_init_31 (fun H locs hH hw => ?_)
  obtain ⟨ig9, eig9⟩ : ∃ f, f = up2 ig7 a 5 z8 := ⟨_, rfl⟩
  rw [← eig9] at hw
  have hN : Nx 1022 B (some a) kd ig rg lg kd ig9 rg3 lg := by rw [eig9]; exact hN.pi (by have := ha; omega)
  have hI : IC τ B kd ig9 rg3 := by rw [eig9]; exact hI.pd (by have := ha; omega)
  exact r_vret C hw hr hlk (Nat.le_of_ble_eq_true rfl) (Nat.le_of_ble_eq_true rfl) dX0_init_34 ⟨hI, hN, ⟨rfl, ⟨⟨0, kt⟩, Or.inr ha, ⟨(by rw [eig9, up2_j (by decide), eig7, up2_j (by decide), eig5, up2_j (by decide), eig2, up2_j (by decide), eig1, up2_eq]), (by rw [eig9, up2_j (by decide), eig7, up2_j (by decide), eig5, up2_j (by decide), eig2, up2_eq]), (by rw [eig9, up2_j (by decide), eig7, up2_j (by decide), eig5, up2_eq]; exact hz4), (by rw [eig9, up2_j (by decide), eig7, up2_eq]; exact hz6), (by rw [eig9, up2_eq]; exact hz8)⟩, Or.inr ⟨hk2, g, by rw [erg3, up2_eq], hM.nxe hN kt (by decide)⟩⟩⟩⟩

set_option maxHeartbeats 4000000 in
set_option maxRecDepth 100000 in
theorem t_X0_init4E {τ : Tp} (l : Launch) (B : Nat) (D : va_G) (cA : Nat → ClassId) (kd : sK) (ig : sI) (rg : sR) (lg : sG) (sz : Nat) (a : Nat) (kt : kd a = some (0, 0)) (ha : B + 80 ≤ a) (x : Int32) (y : Int32) (u : Int32) (w : Int32) (hI : IC τ B kd ig rg) : MC l B D cA yX0_init_ cX0_init_ 5 none (rL 1 0 0) [.ref a, .int x, .int y, .int u, .int w] kd ig rg lg sz (PI 1022 τ B (some a) kd ig rg lg (fun r kd' ig' rg' lg' => (r = none ∧ ClQ B kd' ig' rg' a ((1, x.toInt), (y.toInt, u.toInt, w.toInt), [])))) := by
  refine MC.of (own := RX0) (by decide +kernel) rfl (Nat.le_of_ble_eq_true rfl) ?_
  intro p e s m args below meth c ls C hr hlk hnm hw hsz hl
  have hx := C.1.1
  have hb := C.1.2.1
  have hown := C.1.2.2.2.1
  have hts := C.1.2.2.2.2
  have hl : lv_has ls 5 [(0, .ref a), (1, .int x), (2, .int y), (3, .int u), (4, .int w)] := hl
  have hN : Nx 1022 B (some a) kd ig rg lg kd ig rg lg := Nx.rf
  have hsh := hI.sh
  have hrs := hI.rs
  refine lv_aload_n hx hb dX0_init__0 rfl (lv_at hl 0 rfl) ?_
  refine r_obj C ol_X0_3 oi_i oi_c hl.1 (by decide) (by decide) dX0_init__1 ?_
  refine lv_aload_n hx hb dX0_init__4 rfl (lv_at hl 0 rfl) ?_
  refine lv_iconst (v := 1) hx hb dX0_init__5 (by decide) (ti_c 1 (by decide) fun z1 hz1 => ?_)
  refine r_putiF C hw hnm rfl kt fl_X0_9 rfl rfl rfl dX0_init__6 (fun H locs hH hw => ?_)
  obtain ⟨ig2, eig2⟩ : ∃ f, f = up2 ig a 0 z1 := ⟨_, rfl⟩
  rw [← eig2] at hw
  have hN : Nx 1022 B (some a) kd ig rg lg kd ig2 rg lg := by rw [eig2]; exact hN.pi (by have := ha; omega)
  have hI : IC τ B kd ig2 rg := by rw [eig2]; exact hI.pd (by have := ha; omega)
  refine lv_aload_n hx hb dX0_init__9 rfl (lv_at hl 0 rfl) ?_
  refine lv_iload_n hx hb dX0_init__10 rfl (lv_at hl 1 rfl) ?_
  refine r_putiF C hw hnm rfl kt fl_X0_15 rfl rfl rfl dX0_init__11 (fun H locs hH hw => ?_)
  obtain ⟨ig3, eig3⟩ : ∃ f, f = up2 ig2 a 1 x := ⟨_, rfl⟩
  rw [← eig3] at hw
  have hN : Nx 1022 B (some a) kd ig rg lg kd ig3 rg lg := by rw [eig3]; exact hN.pi (by have := ha; omega)
  have hI : IC τ B kd ig3 rg := by rw [eig3]; exact hI.pd (by have := ha; omega)
  refine lv_aload_n hx hb dX0_init__14 rfl (lv_at hl 0 rfl) ?_
  refine lv_null hx hb dX0_init__15 ?_
  refine r_putrF C hw none rfl hnm rfl kt fl_X0_18 rfl rfl rfl dX0_init__16 (fun H locs hH hw => ?_)
  obtain ⟨rg4, erg4⟩ : ∃ f, f = up2 rg a 2 none := ⟨_, rfl⟩
  rw [← erg4] at hw
  have hI : IC τ B kd ig3 rg4 := by rw [erg4]; exact hI.pf (by omega) (IC.nr hI kt) (fun n h1 h2 => Or.inl rfl)
  have hN : Nx 1022 B (some a) kd ig rg lg kd ig3 rg4 lg := by rw [erg4]; exact hN.pr (by omega) (Or.inl rfl)
  have hrs := hI.rs
  refine lv_aload_n hx hb dX0_init__19 rfl (lv_at hl 0 rfl) ?_
  refine lv_iload_n hx hb dX0_init__20 rfl (lv_at hl 2 rfl) ?_
  refine r_putiF C hw hnm rfl kt fl_X0_22 rfl rfl rfl dX0_init__21 (fun H locs hH hw => ?_)
  obtain ⟨ig5, eig5⟩ : ∃ f, f = up2 ig3 a 3 y := ⟨_, rfl⟩
  rw [← eig5] at hw
  have hN : Nx 1022 B (some a) kd ig rg lg kd ig5 rg4 lg := by rw [eig5]; exact hN.pi (by have := ha; omega)
  have hI : IC τ B kd ig5 rg4 := by rw [eig5]; exact hI.pd (by have := ha; omega)
  refine lv_aload_n hx hb dX0_init__24 rfl (lv_at hl 0 rfl) ?_
  refine lv_iload_n hx hb dX0_init__25 rfl (lv_at hl 3 rfl) ?_
  refine r_putiF C hw hnm rfl kt fl_X0_25 rfl rfl rfl dX0_init__26 (fun H locs hH hw => ?_)
  obtain ⟨ig6, eig6⟩ : ∃ f, f = up2 ig5 a 4 u := ⟨_, rfl⟩
  rw [← eig6] at hw
  have hN : Nx 1022 B (some a) kd ig rg lg kd ig6 rg4 lg := by rw [eig6]; exact hN.pi (by have := ha; omega)
  have hI : IC τ B kd ig6 rg4 := by rw [eig6]; exact hI.pd (by have := ha; omega)
  refine lv_aload_n hx hb dX0_init__29 rfl (lv_at hl 0 rfl) ?_
  refine lv_iload hx hb dX0_init__30 (lv_at hl 4 rfl) ?_
  refine r_putiF C hw hnm rfl kt fl_X0_28 rfl rfl rfl dX0_init__32 (fun H locs hH hw => ?_)
  obtain ⟨ig7, eig7⟩ : ∃ f, f = up2 ig6 a 5 w := ⟨_, rfl⟩
  rw [← eig7] at hw
  have hN : Nx 1022 B (some a) kd ig rg lg kd ig7 rg4 lg := by rw [eig7]; exact hN.pi (by have := ha; omega)
  have hI : IC τ B kd ig7 rg4 := by rw [eig7]; exact hI.pd (by have := ha; omega)
  exact r_vret C hw hr hlk (Nat.le_of_ble_eq_true rfl) (Nat.le_of_ble_eq_true rfl) dX0_init__35 ⟨hI, hN, ⟨rfl, ⟨⟨0, kt⟩, Or.inr ha, ⟨(by rw [eig7, up2_j (by decide), eig6, up2_j (by decide), eig5, up2_j (by decide), eig3, up2_j (by decide), eig2, up2_eq]; exact hz1), (by rw [eig7, up2_j (by decide), eig6, up2_j (by decide), eig5, up2_j (by decide), eig3, up2_eq]), (by rw [eig7, up2_j (by decide), eig6, up2_j (by decide), eig5, up2_eq]), (by rw [eig7, up2_j (by decide), eig6, up2_eq]), (by rw [eig7, up2_eq])⟩, Or.inl ⟨(show ¬ (1 : Int) = 2 by decide), by rw [erg4, up2_eq]⟩⟩⟩⟩

set_option maxHeartbeats 4000000 in
set_option maxRecDepth 100000 in
theorem t_X0_withoutUnitE {τ : Tp} (l : Launch) (B : Nat) (D : va_G) (cA : Nat → ClassId) (kd : sK) (ig : sI) (rg : sR) (lg : sG) (sz : Nat) (q : Nat) (cq : Cl) (hq : ClQ B kd ig rg q cq) (hI : IC τ B kd ig rg) : MC l B D cA yX0_withoutUnit cX0_withoutUnit 1 (some (.object "SheetDoctor$Cell")) (rL 2 1 6) [.ref q] kd ig rg lg sz (PI 1022 τ B none kd ig rg lg (fun r kd' ig' rg' lg' => ∃ q', r = some (.ref q') ∧ ClQ B kd' ig' rg' q' (wuC cq))) := by
  refine MC.of (own := RX0) (by decide +kernel) rfl (Nat.le_of_ble_eq_true rfl) ?_
  intro p e s m args below meth c ls C hr hlk hnm hw hsz hl
  have hx := C.1.1
  have hb := C.1.2.1
  have hown := C.1.2.2.2.1
  have hts := C.1.2.2.2.2
  have hl : lv_has ls 1 [(0, .ref q)] := hl
  have hN : Nx 1022 B none kd ig rg lg kd ig rg lg := Nx.rf
  have hsh := hI.sh
  have hrs := hI.rs
  obtain ⟨nq, kq⟩ := hq.kq
  refine lv_aload_n hx hb dX0_withoutUnit_0 rfl (lv_at hl 0 rfl) ?_
  refine r_get C hw (hN.k kq) fl_X0_9 (oV_i rfl) dX0_withoutUnit_1 (ti_c (ig q 0).toInt rfl fun z1 hz1 => ?_)
  have hfz1 : z1.toInt = cq.1.1 := hz1.trans (hq.nx hN).2.2.1.1
  refine lv_iconst (v := 1) hx hb dX0_withoutUnit_4 (by decide) (ti_c 1 (by decide) fun z2 hz2 => ?_)
  refine b_ne (tgt := 24) hx hb dX0_withoutUnit_5 (by decide) (fun c5 => ?_) (fun c5 => ?_)
  · refine lv_aload_n hx hb dX0_withoutUnit_24 rfl (lv_at hl 0 rfl) ?_
    exact r_aret C hw hr hlk (Or.inr ⟨_, rfl⟩) (Nat.le_of_ble_eq_true rfl) (Nat.le_of_ble_eq_true rfl) dX0_withoutUnit_25 ⟨hI, hN, ⟨_, rfl, by rw [wuC, if_neg (show ¬ kdO cq = 1 from by unfold kdO; omega)]; exact hq⟩⟩
  · obtain ⟨h3, sh3⟩ : ∃ h, s.heap.size = h := ⟨_, rfl⟩
    have oh3 : kd h3 = none := by have h9 := hw.fresh; rw [sh3] at h9; exact h9
    have bh3 : B + 80 ≤ h3 := by have h9 := hw.lt (hsh 79 _ rfl); omega
    have noh3 := hN.no oh3
    have hI := IC.new (k := 0) (n := 0) hI oh3 bh3
    have hN := Nx.new (k := 0) (n := 0) hN oh3 bh3
    refine r_new (k := 0) (t0 := tyX0) C hw rfl (by decide) rfl inT0 tyX0_ok dfX0 cl_X0_10 it_0 id_0 (Nat.le_of_ble_eq_true rfl) (Nat.le_of_ble_eq_true rfl) dX0_withoutUnit_8 sh3 (fun H hsz hw => ?_)
    obtain ⟨kd4, ekd4⟩ : ∃ f, f = upK kd h3 0 0 := ⟨_, rfl⟩
    obtain ⟨ig5, eig5⟩ : ∃ f, f = upR ig h3 0 := ⟨_, rfl⟩
    obtain ⟨rg6, erg6⟩ : ∃ f, f = upR rg h3 none := ⟨_, rfl⟩
    have kh3 : kd4 h3 = some (0, 0) := by rw [ekd4, upK_eq]
    have rnh3 : ∀ j, rg6 h3 j = none := fun j => by rw [erg6, upR_eq]
    rw [← ekd4, ← eig5, ← erg6] at hw hI hN
    have hsh := hI.sh
    have hrs := hI.rs
    refine lv_dup hx hb dX0_withoutUnit_11 rfl ?_
    refine lv_iconst (v := 1) hx hb dX0_withoutUnit_12 (by decide) (ti_c 1 (by decide) fun z7 hz7 => ?_)
    refine lv_aload_n hx hb dX0_withoutUnit_13 rfl (lv_at hl 0 rfl) ?_
    refine r_get C hw (hN.k kq) fl_X0_15 (oV_i rfl) dX0_withoutUnit_14 (ti_c (ig5 q 1).toInt rfl fun z8 hz8 => ?_)
    have hfz8 : z8.toInt = cq.1.2 := hz8.trans (hq.nx hN).2.2.1.2.1
    refine lv_null hx hb dX0_withoutUnit_17 ?_
    refine r_callI (As := [.int z7, .int z8, .null]) (rest := [.ref h3]) C hw (t_X0_initNE l B D cA kd4 ig5 rg6 lg _ h3 kh3 bh3 z7 z8 (by omega) hI) sc_X0_37 rfl hl.1 rfl (Nat.le_of_ble_eq_true rfl) ⟨Nat.le_of_ble_eq_true rfl, Nat.le_of_ble_eq_true rfl⟩ ⟨Nat.le_of_ble_eq_true rfl, Nat.le_of_ble_eq_true rfl⟩ dX0_withoutUnit_18 (fun r13 kd9 ig10 rg11 lg12 H locs hw hH hp14 => ?_)
    obtain ⟨hI, hchp14, hrhp14⟩ := hp14
    have kh3 := Nx.k hchp14 kh3
    have hN := hN.trx hchp14 noh3
    have hsh := hI.sh
    have hrs := hI.rs
    obtain ⟨rfl, hc15⟩ := hrhp14
    refine lv_goto (tgt := 25) hx hb dX0_withoutUnit_21 (by decide) ?_
    exact r_aret C hw hr hlk (Or.inr ⟨_, rfl⟩) (Nat.le_of_ble_eq_true rfl) (Nat.le_of_ble_eq_true rfl) dX0_withoutUnit_25 ⟨hI, hN, ⟨_, rfl, by have w9 := hc15; rw [hz7, hfz8] at w9; rw [wuC, if_pos (show kdO cq = 1 from by unfold kdO; omega)]; exact w9⟩⟩

set_option maxHeartbeats 4000000 in
set_option maxRecDepth 100000 in
theorem t_X4_initE {τ : Tp} (l : Launch) (B : Nat) (D : va_G) (cA : Nat → ClassId) (kd : sK) (ig : sI) (rg : sR) (lg : sG) (sz : Nat) (fa : Nat) (kt : kd fa = some (4, 0)) (ha : B + 80 ≤ fa) (hr2 : rg fa 2 = none) (a1 n1 : Nat) (k1 : kd a1 = some (20, n1)) (a2 n2 : Nat) (k2 : kd a2 = some (20, n2)) (a3 n3 : Nat) (k3 : kd a3 = some (20, n3)) (x : Int32) (hnn : (x.toInt ≤ n1 ∧ x.toInt ≤ n2 ∧ x.toInt ≤ n3) ∧ n1 ≤ 120 ∧ n2 ≤ 120 ∧ n3 ≤ 120) (hxs : 0 ≤ x.toInt ∧ x.toInt ≤ 120) (L : Fm) (hLx : (L.length : Int) = x.toInt) (hs1 : ∀ i (h : i < L.length), (ig a1 i).toInt = (L[i]).1) (hs2 : ∀ i (h : i < L.length), (ig a2 i).toInt = (L[i]).2.1) (hs3 : ∀ i (h : i < L.length), (ig a3 i).toInt = (L[i]).2.2) (hI : IC τ B kd ig rg) : MC l B D cA yX4_init cX4_init 6 none (rL 2 3 360) [.ref fa, .ref a1, .ref a2, .ref a3, .int x] kd ig rg lg sz (PI 1022 τ B (some fa) kd ig rg lg (fun r kd' ig' rg' lg' => (r = none ∧ FnL B kd' ig' rg' fa L ∧ (∀ j b, j < 3 → rg' fa j = some b → kd b = none) ∧ rg' fa 0 ≠ rg' fa 2 ∧ rg' fa 1 ≠ rg' fa 2))) := by
  refine MC.of (own := RX4) (by decide +kernel) rfl (Nat.le_of_ble_eq_true rfl) ?_
  intro p e s m args below meth c ls C hr hlk hnm hw hsz hl
  have hx := C.1.1
  have hb := C.1.2.1
  have hown := C.1.2.2.2.1
  have hts := C.1.2.2.2.2
  have hl : lv_has ls 6 [(0, .ref fa), (1, .ref a1), (2, .ref a2), (3, .ref a3), (4, .int x)] := hl
  have hN : Nx 1022 B (some fa) kd ig rg lg kd ig rg lg := Nx.rf
  have hsh := hI.sh
  have hrs := hI.rs
  have en9 : L.length = x.toInt.toNat := by omega
  refine lv_aload_n hx hb dX4_init_0 rfl (lv_at hl 0 rfl) ?_
  refine r_obj C ol_X4_5 oi_i oi_c hl.1 (by decide) (by decide) dX4_init_1 ?_
  refine lv_iload hx hb dX4_init_4 (lv_at hl 4 rfl) ?_
  refine z_ge (tgt := 13) hx hb dX4_init_6 (by decide) (fun c6 => ?_) (fun c6 => ?_)
  · refine lv_iload hx hb dX4_init_13 (lv_at hl 4 rfl) ?_
    refine lv_istore (lv' := [(5, .int x), (0, .ref fa), (1, .ref a1), (2, .ref a2), (3, .ref a3), (4, .int x)]) hx hb dX4_init_15 hl (by decide) rfl (fun ls hl => ?_)
    refine lv_aload_n hx hb dX4_init_17 rfl (lv_at hl 1 rfl) ?_
    refine lv_aload_n hx hb dX4_init_18 rfl (lv_at hl 2 rfl) ?_
    refine lv_iload hx hb dX4_init_19 (lv_at hl 0 rfl) ?_
    have hN9 := hN
    refine r_callS (As := [.ref a1, .int x]) (rest := [.ref fa]) C hw (t_J7_copyOf l B D cA kd ig rg lg _ a1 n1 k1 x (by omega) (by omega) hI) ss_X4_11 rfl hl.1 rfl (Nat.le_of_ble_eq_true rfl) ⟨Nat.le_of_ble_eq_true rfl, Nat.le_of_ble_eq_true rfl⟩ ⟨Nat.le_of_ble_eq_true rfl, Nat.le_of_ble_eq_true rfl⟩ dX4_init_21 (fun r5 kd1 ig2 rg3 lg4 H locs hw hH hp6 => ?_)
    obtain ⟨hI, hchp6, hrhp6⟩ := hp6
    have hN := hN.tr hchp6
    have hsh := hI.sh
    have hrs := hI.rs
    have hr2 := (hchp6.1.2.1 fa 2 (by simp) ⟨0, Or.inr kt⟩).trans hr2
    obtain ⟨a7, rfl, ka7, ga7, oa7, ca7, fa7⟩ := hrhp6
    have ona7 := hN9.no oa7
    have ct0 : ∀ i (h : i < L.length), (ig2 a7 i).toInt = (L[i]).1 := fun i h => by rw [ca7 (by omega) i (by omega)]; exact hs1 i h
    have hs2 : ∀ i (h : i < L.length), (ig2 a2 i).toInt = (L[i]).2.1 := fun i h => by rw [fa7 a2 i (by rintro rfl; rw [oa7] at k2; cases k2)]; exact hs2 i h
    have hs3 : ∀ i (h : i < L.length), (ig2 a3 i).toInt = (L[i]).2.2 := fun i h => by rw [fa7 a3 i (by rintro rfl; rw [oa7] at k3; cases k3)]; exact hs3 i h
    have k1 := Nx.k hchp6 k1
    have k2 := Nx.k hchp6 k2
    have k3 := Nx.k hchp6 k3
    have kt := Nx.k hchp6 kt
    refine r_putrF C hw (some a7) rfl hnm rfl kt fl_X4_17 rfl rfl rfl dX4_init_24 (fun H locs hH hw => ?_)
    obtain ⟨rg8, erg8⟩ : ∃ f, f = up2 rg3 fa 0 (some a7) := ⟨_, rfl⟩
    rw [← erg8] at hw
    have hI : IC τ B kd1 ig2 rg8 := by rw [erg8]; exact hI.pf (by omega) (IC.nrj hI (by decide) hr2) (fun n h1 h2 => by rw [kt] at h1; cases h1)
    have hN : Nx 1022 B (some fa) kd ig rg lg kd1 ig2 rg8 lg4 := by rw [erg8]; exact hN.pr (by omega) (Or.inl rfl)
    have hrs := hI.rs
    have hr2 : rg8 fa 2 = none := by rw [erg8, up2_j (by decide)]; exact hr2
    have rj0 : rg8 fa 0 = some a7 := by rw [erg8, up2_eq]
    refine lv_aload_n hx hb dX4_init_27 rfl (lv_at hl 1 rfl) ?_
    refine lv_aload_n hx hb dX4_init_28 rfl (lv_at hl 3 rfl) ?_
    refine lv_iload hx hb dX4_init_29 (lv_at hl 0 rfl) ?_
    have hN9 := hN
    refine r_callS (As := [.ref a2, .int x]) (rest := [.ref fa]) C hw (t_J7_copyOf l B D cA kd1 ig2 rg8 lg4 _ a2 n2 k2 x (by omega) (by omega) hI) ss_X4_11 rfl hl.1 rfl (Nat.le_of_ble_eq_true rfl) ⟨Nat.le_of_ble_eq_true rfl, Nat.le_of_ble_eq_true rfl⟩ ⟨Nat.le_of_ble_eq_true rfl, Nat.le_of_ble_eq_true rfl⟩ dX4_init_31 (fun r13 kd9 ig10 rg11 lg12 H locs hw hH hp14 => ?_)
    obtain ⟨hI, hchp14, hrhp14⟩ := hp14
    have hN := hN.tr hchp14
    have hsh := hI.sh
    have hrs := hI.rs
    have hr2 := (hchp14.1.2.1 fa 2 (by simp) ⟨0, Or.inr kt⟩).trans hr2
    have rj0 := (hchp14.1.2.1 fa 0 (by simp) ⟨0, Or.inr kt⟩).trans rj0
    obtain ⟨a15, rfl, ka15, ga15, oa15, ca15, fa15⟩ := hrhp14
    have ona15 := hN9.no oa15
    have ct1 : ∀ i (h : i < L.length), (ig10 a15 i).toInt = (L[i]).2.1 := fun i h => by rw [ca15 (by omega) i (by omega)]; exact hs2 i h
    have hs3 : ∀ i (h : i < L.length), (ig10 a3 i).toInt = (L[i]).2.2 := fun i h => by rw [fa15 a3 i (by rintro rfl; rw [oa15] at k3; cases k3)]; exact hs3 i h
    have n01 : a7 ≠ a15 := by rintro rfl; rw [oa15] at ka7; cases ka7
    have ct0 : ∀ i (h : i < L.length), (ig10 a7 i).toInt = (L[i]).1 := fun i h => by rw [fa15 a7 i n01]; exact ct0 i h
    have ka7 := Nx.k hchp14 ka7
    have k1 := Nx.k hchp14 k1
    have k2 := Nx.k hchp14 k2
    have k3 := Nx.k hchp14 k3
    have kt := Nx.k hchp14 kt
    refine r_putrF C hw (some a15) rfl hnm rfl kt fl_X4_21 rfl rfl rfl dX4_init_34 (fun H locs hH hw => ?_)
    obtain ⟨rg16, erg16⟩ : ∃ f, f = up2 rg11 fa 1 (some a15) := ⟨_, rfl⟩
    rw [← erg16] at hw
    have hI : IC τ B kd9 ig10 rg16 := by rw [erg16]; exact hI.pf (by omega) (IC.nrj hI (by decide) hr2) (fun n h1 h2 => by rw [kt] at h1; cases h1)
    have hN : Nx 1022 B (some fa) kd ig rg lg kd9 ig10 rg16 lg12 := by rw [erg16]; exact hN.pr (by omega) (Or.inl rfl)
    have hrs := hI.rs
    have hr2 : rg16 fa 2 = none := by rw [erg16, up2_j (by decide)]; exact hr2
    have rj0 : rg16 fa 0 = some a7 := by rw [erg16, up2_j (by decide)]; exact rj0
    have rj1 : rg16 fa 1 = some a15 := by rw [erg16, up2_eq]
    refine lv_aload_n hx hb dX4_init_37 rfl (lv_at hl 1 rfl) ?_
    refine lv_aload_n hx hb dX4_init_38 rfl (lv_at hl 4 rfl) ?_
    refine lv_iload hx hb dX4_init_39 (lv_at hl 0 rfl) ?_
    have hN9 := hN
    refine r_callS (As := [.ref a3, .int x]) (rest := [.ref fa]) C hw (t_J7_copyOf l B D cA kd9 ig10 rg16 lg12 _ a3 n3 k3 x (by omega) (by omega) hI) ss_X4_11 rfl hl.1 rfl (Nat.le_of_ble_eq_true rfl) ⟨Nat.le_of_ble_eq_true rfl, Nat.le_of_ble_eq_true rfl⟩ ⟨Nat.le_of_ble_eq_true rfl, Nat.le_of_ble_eq_true rfl⟩ dX4_init_41 (fun r21 kd17 ig18 rg19 lg20 H locs hw hH hp22 => ?_)
    obtain ⟨hI, hchp22, hrhp22⟩ := hp22
    have hN := hN.tr hchp22
    have hsh := hI.sh
    have hrs := hI.rs
    have hr2 := (hchp22.1.2.1 fa 2 (by simp) ⟨0, Or.inr kt⟩).trans hr2
    have rj0 := (hchp22.1.2.1 fa 0 (by simp) ⟨0, Or.inr kt⟩).trans rj0
    have rj1 := (hchp22.1.2.1 fa 1 (by simp) ⟨0, Or.inr kt⟩).trans rj1
    obtain ⟨a23, rfl, ka23, ga23, oa23, ca23, fa23⟩ := hrhp22
    have ona23 := hN9.no oa23
    have ct2 : ∀ i (h : i < L.length), (ig18 a23 i).toInt = (L[i]).2.2 := fun i h => by rw [ca23 (by omega) i (by omega)]; exact hs3 i h
    have n02 : a7 ≠ a23 := by rintro rfl; rw [oa23] at ka7; cases ka7
    have ct0 : ∀ i (h : i < L.length), (ig18 a7 i).toInt = (L[i]).1 := fun i h => by rw [fa23 a7 i n02]; exact ct0 i h
    have ka7 := Nx.k hchp22 ka7
    have n12 : a15 ≠ a23 := by rintro rfl; rw [oa23] at ka15; cases ka15
    have ct1 : ∀ i (h : i < L.length), (ig18 a15 i).toInt = (L[i]).2.1 := fun i h => by rw [fa23 a15 i n12]; exact ct1 i h
    have ka15 := Nx.k hchp22 ka15
    have k1 := Nx.k hchp22 k1
    have k2 := Nx.k hchp22 k2
    have k3 := Nx.k hchp22 k3
    have kt := Nx.k hchp22 kt
    refine r_putrF C hw (some a23) rfl hnm rfl kt fl_X4_24 rfl rfl rfl dX4_init_44 (fun H locs hH hw => ?_)
    obtain ⟨rg24, erg24⟩ : ∃ f, f = up2 rg19 fa 2 (some a23) := ⟨_, rfl⟩
    rw [← erg24] at hw
    have hI : IC τ B kd17 ig18 rg24 := by rw [erg24]; exact hI.pf (by omega) (IC.nrj hI (by decide) hr2) (fun n h1 h2 => by rw [kt] at h1; cases h1)
    have hN : Nx 1022 B (some fa) kd ig rg lg kd17 ig18 rg24 lg20 := by rw [erg24]; exact hN.pr (by omega) (Or.inl rfl)
    have hrs := hI.rs
    have rj0 : rg24 fa 0 = some a7 := by rw [erg24, up2_j (by decide)]; exact rj0
    have rj1 : rg24 fa 1 = some a15 := by rw [erg24, up2_j (by decide)]; exact rj1
    have rj2 : rg24 fa 2 = some a23 := by rw [erg24, up2_eq]
    exact r_vret C hw hr hlk (Nat.le_of_ble_eq_true rfl) (Nat.le_of_ble_eq_true rfl) dX4_init_47 ⟨hI, hN, ⟨rfl, ⟨⟨kt, (by omega), fun j hj => (by rcases (show j = 0 ∨ j = 1 ∨ j = 2 by omega) with rfl | rfl | rfl; exact ⟨_, rj0, (by rw [en9]; exact ka7), ga7⟩; exact ⟨_, rj1, (by rw [en9]; exact ka15), ga15⟩; exact ⟨_, rj2, (by rw [en9]; exact ka23), ga23⟩)⟩, ha, fun j b hb i hi => ⟨fun e9 => (by subst e9; rw [rj0] at hb; cases hb; exact ct0 i hi), fun e9 => (by subst e9; rw [rj1] at hb; cases hb; exact ct1 i hi), fun e9 => (by subst e9; rw [rj2] at hb; cases hb; exact ct2 i hi)⟩⟩, fun j b hj hb => (by rcases (show j = 0 ∨ j = 1 ∨ j = 2 by omega) with rfl | rfl | rfl; (rw [rj0] at hb; cases hb; exact ona7); (rw [rj1] at hb; cases hb; exact ona15); (rw [rj2] at hb; cases hb; exact ona23)), ⟨by rw [rj0, rj2]; exact fun w => n02 (Option.some.inj w), by rw [rj1, rj2]; exact fun w => n12 (Option.some.inj w)⟩⟩⟩
  · exact absurd c6 (by omega)

theorem FnL.set {B : Nat} {kd : sK} {ig : sI} {rg : sR} {f a i : Nat} {L : Fm} {v : Int32} {s : St} (h : FnL B kd ig rg f L) (ha : rg f 2 = some a) (h0 : rg f 0 ≠ rg f 2) (h1 : rg f 1 ≠ rg f 2) (hi : i < L.length) (hs : s = ((L[i]).1, (L[i]).2.1, v.toInt)) : FnL B kd (up2 ig a i v) rg f (L.set i s) := by
  refine ⟨by rw [List.length_set]; exact h.1, h.2.1, fun j b hb k hk => ?_⟩
  rw [List.length_set] at hk
  have g := h.2.2 j b hb k hk
  by_cases e : i = k
  · subst e
    rw [List.getElem_set_self, hs]
    refine ⟨fun q => ?_, fun q => ?_, fun q => ?_⟩
    · rw [up2_a (by rintro rfl; subst q; exact h0 (hb.trans ha.symm))]; exact g.1 q
    · rw [up2_a (by rintro rfl; subst q; exact h1 (hb.trans ha.symm))]; exact g.2.1 q
    · subst q
      rw [ha] at hb
      cases hb
      rw [up2_eq]
  · rw [List.getElem_set_ne e]
    have : up2 ig a i v b k = ig b k := by simp only [up2]; rw [if_neg (fun w => e w.2.symm)]
    rw [this]
    exact g

set_option maxHeartbeats 4000000 in
set_option maxRecDepth 100000 in
theorem t_X4_stretchedE {τ : Tp} (l : Launch) (B : Nat) (D : va_G) (cA : Nat → ClassId) (kd : sK) (ig : sI) (rg : sR) (lg : sG) (sz : Nat) (f : Nat) (L : Fm) (hL : FnL B kd ig rg f L) (x : Int32) (y : Int32) (u : Int32) (hin : 0 ≤ x.toInt ∧ x.toInt < (L.length : Int)) (hyu : 0 ≤ y.toInt ∧ y.toInt ≤ 1 ∧ 0 ≤ u.toInt ∧ u.toInt ≤ 1) (hpk : 0 ≤ (stp L x.toInt).2.2 ∧ (stp L x.toInt).2.2 < 16384) (hI : IC τ B kd ig rg) : MC l B D cA yX4_stretched cX4_stretched 5 (some (.object "SheetDoctor$Formula")) (rL 3 4 363) [.ref f, .int x, .int y, .int u] kd ig rg lg sz (PI 1022 τ B none kd ig rg lg (fun r kd' ig' rg' lg' => ∃ f', r = some (.ref f') ∧ FnL B kd' ig' rg' f' (L.set x.toInt.toNat ((stp L x.toInt).1, (stp L x.toInt).2.1, (stp L x.toInt).2.2 + (y.toInt + 128 * u.toInt))))) := by
  refine MC.of (own := RX4) (by decide +kernel) rfl (Nat.le_of_ble_eq_true rfl) ?_
  intro p e s m args below meth c ls C hr hlk hnm hw hsz hl
  have hx := C.1.1
  have hb := C.1.2.1
  have hown := C.1.2.2.2.1
  have hts := C.1.2.2.2.2
  have hl : lv_has ls 5 [(0, .ref f), (1, .int x), (2, .int y), (3, .int u)] := hl
  have hN : Nx 1022 B none kd ig rg lg kd ig rg lg := Nx.rf
  have hsh := hI.sh
  have hrs := hI.rs
  have lnf := hL.le
  obtain ⟨h1, sh1⟩ : ∃ h, s.heap.size = h := ⟨_, rfl⟩
  have oh1 : kd h1 = none := by have h9 := hw.fresh; rw [sh1] at h9; exact h9
  have bh1 : B + 80 ≤ h1 := by have h9 := hw.lt (hsh 79 _ rfl); omega
  have noh1 := hN.no oh1
  have hI := IC.new (k := 4) (n := 0) hI oh1 bh1
  have hN := Nx.new (k := 4) (n := 0) hN oh1 bh1
  refine r_new (k := 4) (t0 := tyX4) C hw rfl (by decide) rfl inT4 tyX4_ok dfX4 cl_X4_1 it_4 id_4 (Nat.le_of_ble_eq_true rfl) (Nat.le_of_ble_eq_true rfl) dX4_stretched_0 sh1 (fun H hsz hw => ?_)
  obtain ⟨kd2, ekd2⟩ : ∃ f, f = upK kd h1 4 0 := ⟨_, rfl⟩
  obtain ⟨ig3, eig3⟩ : ∃ f, f = upR ig h1 0 := ⟨_, rfl⟩
  obtain ⟨rg4, erg4⟩ : ∃ f, f = upR rg h1 none := ⟨_, rfl⟩
  have kh1 : kd2 h1 = some (4, 0) := by rw [ekd2, upK_eq]
  have rnh1 : ∀ j, rg4 h1 j = none := fun j => by rw [erg4, upR_eq]
  rw [← ekd2, ← eig3, ← erg4] at hw hI hN
  have hsh := hI.sh
  have hrs := hI.rs
  refine lv_dup hx hb dX4_stretched_3 rfl ?_
  refine lv_aload_n hx hb dX4_stretched_4 rfl (lv_at hl 0 rfl) ?_
  obtain ⟨a5, ra5, ka5, ga5⟩ := isFn.arr (FnL.F (hL.nx hN)) 0 (by decide)
  refine r_get C hw (isFn.k (FnL.F (hL.nx hN))) fl_X4_17 (oV_r rfl ra5) dX4_stretched_5 ?_
  refine lv_aload_n hx hb dX4_stretched_8 rfl (lv_at hl 0 rfl) ?_
  obtain ⟨a6, ra6, ka6, ga6⟩ := isFn.arr (FnL.F (hL.nx hN)) 1 (by decide)
  refine r_get C hw (isFn.k (FnL.F (hL.nx hN))) fl_X4_21 (oV_r rfl ra6) dX4_stretched_9 ?_
  refine lv_aload_n hx hb dX4_stretched_12 rfl (lv_at hl 0 rfl) ?_
  obtain ⟨a7, ra7, ka7, ga7⟩ := isFn.arr (FnL.F (hL.nx hN)) 2 (by decide)
  refine r_get C hw (isFn.k (FnL.F (hL.nx hN))) fl_X4_24 (oV_r rfl ra7) dX4_stretched_13 ?_
  refine lv_aload_n hx hb dX4_stretched_16 rfl (lv_at hl 0 rfl) ?_
  obtain ⟨a8, ra8, ka8, ga8⟩ := isFn.arr (FnL.F (hL.nx hN)) 0 (by decide)
  refine r_get C hw (isFn.k (FnL.F (hL.nx hN))) fl_X4_17 (oV_r rfl ra8) dX4_stretched_17 ?_
  refine r_alen C hw ka8 (by omega) (by omega) dX4_stretched_20 (fun z9 hz9 => ?_)
  have hNb := hN
  refine r_callI (As := [.ref a5, .ref a6, .ref a7, .int z9]) (rest := [.ref h1]) C hw (t_X4_initE l B D cA kd2 ig3 rg4 lg _ h1 kh1 bh1 (rnh1 2) a5 L.length ka5 a6 L.length ka6 a7 L.length ka7 z9 (by omega) (by omega) L (by omega) (fun i h => (hL.nx hN).s ra5 h) (fun i h => (hL.nx hN).a ra6 h) (fun i h => (hL.nx hN).l ra7 h) hI) sc_X4_58 rfl hl.1 rfl (Nat.le_of_ble_eq_true rfl) ⟨Nat.le_of_ble_eq_true rfl, Nat.le_of_ble_eq_true rfl⟩ ⟨Nat.le_of_ble_eq_true rfl, Nat.le_of_ble_eq_true rfl⟩ dX4_stretched_21 (fun r14 kd10 ig11 rg12 lg13 H locs hw hH hp15 => ?_)
  obtain ⟨hI, hchp15, hrhp15⟩ := hp15
  have kh1 := Nx.k hchp15 kh1
  have hN := hN.trx hchp15 noh1
  have hsh := hI.sh
  have hrs := hI.rs
  obtain ⟨rfl, hL16, frhL16, dshL16⟩ := hrhp15
  have lehL16 := hL16.le
  refine lv_astore (lv' := [(4, .ref h1), (0, .ref f), (1, .int x), (2, .int y), (3, .int u)]) hx hb dX4_stretched_24 hl (by decide) rfl (fun ls hl => ?_)
  refine lv_iload_n hx hb dX4_stretched_26 rfl (lv_at hl 2 rfl) ?_
  refine z_lt (tgt := 57) hx hb dX4_stretched_27 (by decide) (fun c27 => ?_) (fun c27 => ?_)
  · exact absurd c27 (by omega)
  · refine lv_iload_n hx hb dX4_stretched_30 rfl (lv_at hl 2 rfl) ?_
    refine lv_aload hx hb dX4_stretched_31 (lv_at hl 0 rfl) ?_
    obtain ⟨a17, ra17, ka17, ga17⟩ := isFn.arr (FnL.F hL16) 2 (by decide)
    refine r_get C hw (isFn.k (FnL.F hL16)) fl_X4_24 (oV_r rfl ra17) dX4_stretched_33 ?_
    refine r_alen C hw ka17 (by omega) (by omega) dX4_stretched_36 (fun z18 hz18 => ?_)
    refine b_ge (tgt := 57) hx hb dX4_stretched_37 (by decide) (fun c37 => ?_) (fun c37 => ?_)
    · exact absurd c37 (by omega)
    · refine lv_aload hx hb dX4_stretched_40 (lv_at hl 0 rfl) ?_
      obtain ⟨a19, ra19, ka19, ga19⟩ := isFn.arr (FnL.F hL16) 2 (by decide)
      refine r_get C hw (isFn.k (FnL.F hL16)) fl_X4_24 (oV_r rfl ra19) dX4_stretched_42 ?_
      refine lv_iload_n hx hb dX4_stretched_45 rfl (lv_at hl 2 rfl) ?_
      refine lv_dup2_11 hx hb dX4_stretched_46 rfl rfl ?_
      refine r_iald C hw ka19 (by omega) (by omega) dX4_stretched_47 (ti_c (ig11 a19 x.toInt.toNat).toInt rfl fun z20 hz20 => ?_)
      have ez : z20.toInt = (stp L x.toInt).2.2 := by rw [hz20]; exact hL16.lD ra19 (by omega) (by omega)
      refine lv_iload_n hx hb dX4_stretched_48 rfl (lv_at hl 3 rfl) ?_
      refine lv_iload_n hx hb dX4_stretched_49 rfl (lv_at hl 4 rfl) ?_
      refine lv_sipush (v := 128) hx hb dX4_stretched_50 (by decide) (ti_c 128 (by decide) fun z21 hz21 => ?_)
      refine lv_imul hx hb dX4_stretched_53 (tc_mulR 128 hz21 fun z22 hz22 => ?_)
      first | replace hz22 := hz22 (by omega) | clear hz22
      refine lv_iadd hx hb dX4_stretched_54 (tc_add fun z23 hz23 => ?_)
      first | replace hz23 := hz23 (by omega) | clear hz23
      refine lv_iadd hx hb dX4_stretched_55 (tc_add fun z24 hz24 => ?_)
      first | replace hz24 := hz24 (by omega) | clear hz24
      refine r_iast C hw ka19 (by omega) (by omega) dX4_stretched_56 (fun H locs hH hw => ?_)
      obtain ⟨ig25, eig25⟩ : ∃ f, f = up2 ig11 a19 x.toInt.toNat z24 := ⟨_, rfl⟩
      rw [← eig25] at hw
      have ev9 : z24.toInt = (stp L x.toInt).2.2 + (y.toInt + 128 * u.toInt) := by omega
      have ona : kd a19 = none := hNb.no (frhL16 2 a19 (by decide) ra19)
      have hN : Nx 1022 B none kd ig rg lg kd10 ig25 rg12 lg13 := by rw [eig25]; exact hN.pi (Or.inr ga19) (nWr.new ga19 ona)
      have hI : IC τ B kd10 ig25 rg12 := by rw [eig25]; exact hI.pd (by have := ga19; omega)
      have hLs : FnL B kd10 ig25 rg12 h1 (L.set x.toInt.toNat ((stp L x.toInt).1, (stp L x.toInt).2.1, (stp L x.toInt).2.2 + (y.toInt + 128 * u.toInt))) := by rw [eig25]; exact FnL.set hL16 ra19 dshL16.1 dshL16.2 (by omega) (by rw [ev9, stp_in (by omega) (by omega)])
      refine lv_aload hx hb dX4_stretched_57 (lv_at hl 0 rfl) ?_
      exact r_aret C hw hr hlk (Or.inr ⟨_, rfl⟩) (Nat.le_of_ble_eq_true rfl) (Nat.le_of_ble_eq_true rfl) dX4_stretched_59 ⟨hI, hN, ⟨_, rfl, hLs⟩⟩

set_option maxHeartbeats 4000000 in
set_option maxRecDepth 100000 in
theorem t_X6_copyForE {τ : Tp} (l : Launch) (B : Nat) (D : va_G) (cA : Nat → ClassId) (kd : sK) (ig : sI) (rg : sR) (lg : sG) (sz : Nat) (x : Int32) (y : Int32) (σ : Sg) (π : Ps) (ν : Nat) (hS : SCh B σ π ν kd ig rg) (hwf : kdO (atC σ x.toInt) = 2 → WfL (fmO (atC σ x.toInt))) (hy0 : 0 ≤ y.toInt ∧ y.toInt < 288) (hI : IC τ B kd ig rg) : MC l B D cA yX6_copyFor cX6_copyFor 4 (some (.object "SheetDoctor$Cell")) (rL 5 1 6) [.ref (B + 9), .int x, .int y] kd ig rg lg sz (PI 1022 τ B none kd ig rg lg (fun r kd' ig' rg' lg' => ((r = some .null ∧ ¬ fitC y.toInt (atC σ x.toInt)) ∨ ∃ q, r = some (.ref q) ∧ fitC y.toInt (atC σ x.toInt) ∧ ClQ B kd' ig' rg' q (wuC (atC σ x.toInt))))) := by
  refine MC.of (own := RX6) (by decide +kernel) rfl (Nat.le_of_ble_eq_true rfl) ?_
  intro p e s m args below meth c ls C hr hlk hnm hw hsz hl
  have hx := C.1.1
  have hb := C.1.2.1
  have hown := C.1.2.2.2.1
  have hts := C.1.2.2.2.2
  have hl : lv_has ls 4 [(0, .ref (B + 9)), (1, .int x), (2, .int y)] := hl
  have hN : Nx 1022 B none kd ig rg lg kd ig rg lg := Nx.rf
  have hsh := hI.sh
  have hrs := hI.rs
  refine lv_aload_n hx hb dX6_copyFor_0 rfl (lv_at hl 0 rfl) ?_
  refine lv_iload_n hx hb dX6_copyFor_1 rfl (lv_at hl 1 rfl) ?_
  refine r_callV (As := [.int x]) (rest := []) C hw (t_X6_atE l B D cA kd ig rg lg _ x σ π ν hS hI) sv_X6_53 (hsh 9 _ rfl) rfl hl.1 rfl (Nat.le_of_ble_eq_true rfl) ⟨Nat.le_of_ble_eq_true rfl, Nat.le_of_ble_eq_true rfl⟩ ⟨Nat.le_of_ble_eq_true rfl, Nat.le_of_ble_eq_true rfl⟩ dX6_copyFor_2 (fun r5 kd1 ig2 rg3 lg4 H locs hw hH hp6 => ?_)
  obtain ⟨rfl, rfl, rfl, rfl, hzhp6, hrhp6⟩ := hp6
  obtain ⟨q7, rfl, hcq7⟩ := hrhp6
  obtain ⟨nq7, kq7⟩ := hcq7.kq
  refine lv_astore_n (lv' := [(3, .ref q7), (0, .ref (B + 9)), (1, .int x), (2, .int y)]) hx hb dX6_copyFor_5 rfl hl (by decide) rfl (fun ls hl => ?_)
  refine lv_aload_n hx hb dX6_copyFor_6 rfl (lv_at hl 0 rfl) ?_
  refine lv_iload_n hx hb dX6_copyFor_7 rfl (lv_at hl 3 rfl) ?_
  refine r_callV (As := [.int y]) (rest := []) C hw (t_X0_fitsE l B D cA kd ig rg lg _ q7 (atC σ x.toInt) hcq7 y (by omega) hwf hI) sv_X6_57 kq7 rfl hl.1 rfl (Nat.le_of_ble_eq_true rfl) ⟨Nat.le_of_ble_eq_true rfl, Nat.le_of_ble_eq_true rfl⟩ ⟨Nat.le_of_ble_eq_true rfl, Nat.le_of_ble_eq_true rfl⟩ dX6_copyFor_8 (fun r12 kd8 ig9 rg10 lg11 H locs hw hH hp13 => ?_)
  obtain ⟨rfl, rfl, rfl, rfl, hzhp13, hrhp13⟩ := hp13
  obtain ⟨z14, rfl, hz14⟩ := hrhp13
  have fth := hz14
  refine z_eq (tgt := 21) hx hb dX6_copyFor_11 (by decide) (fun c11 => ?_) (fun c11 => ?_)
  · refine lv_null hx hb dX6_copyFor_21 ?_
    exact r_aret C hw hr hlk (Or.inl rfl) (Nat.le_of_ble_eq_true rfl) (Nat.le_of_ble_eq_true rfl) dX6_copyFor_22 ⟨hI, hN, Or.inl ⟨rfl, (by rcases fth with ⟨q, -⟩ | ⟨-, q⟩; omega; exact q)⟩⟩
  · refine lv_aload_n hx hb dX6_copyFor_14 rfl (lv_at hl 0 rfl) ?_
    refine r_callV (As := []) (rest := []) C hw (t_X0_withoutUnitE l B D cA kd ig rg lg _ q7 (atC σ x.toInt) hcq7  hI) sv_X6_60 kq7 rfl hl.1 rfl (Nat.le_of_ble_eq_true rfl) ⟨Nat.le_of_ble_eq_true rfl, Nat.le_of_ble_eq_true rfl⟩ ⟨Nat.le_of_ble_eq_true rfl, Nat.le_of_ble_eq_true rfl⟩ dX6_copyFor_15 (fun r19 kd15 ig16 rg17 lg18 H locs hw hH hp20 => ?_)
    obtain ⟨hI, hchp20, hrhp20⟩ := hp20
    have hN := hN.tr hchp20
    have hsh := hI.sh
    have hrs := hI.rs
    obtain ⟨q21, rfl, hcq21⟩ := hrhp20
    obtain ⟨nq21, kq21⟩ := hcq21.kq
    refine lv_goto (tgt := 22) hx hb dX6_copyFor_18 (by decide) ?_
    exact r_aret C hw hr hlk (Or.inr ⟨_, rfl⟩) (Nat.le_of_ble_eq_true rfl) (Nat.le_of_ble_eq_true rfl) dX6_copyFor_22 ⟨hI, hN, Or.inr ⟨_, rfl, (by rcases fth with ⟨-, q⟩ | ⟨q, -⟩; exact q; omega), hcq21⟩⟩

set_option maxHeartbeats 4000000 in
set_option maxRecDepth 100000 in
theorem t_X6_replaceE {τ : Tp} (l : Launch) (B : Nat) (D : va_G) (cA : Nat → ClassId) (kd : sK) (ig : sI) (rg : sR) (lg : sG) (sz : Nat) (x : Int32) (q : Nat) (cq : Cl) (hq : ClQ B kd ig rg q cq) (σ : Sg) (π : Ps) (ν : Nat) (hS : SCh B σ π ν kd ig rg) (hx0 : 0 ≤ x.toInt ∧ x.toInt < 288) (hν : ν < 1000000) (hI : IC τ B kd ig rg) : MC l B D cA yX6_replace cX6_replace 3 none (rL 1 0 0) [.ref (B + 9), .int x, .ref q] kd ig rg lg sz (PI 1016 τ B none kd ig rg lg (fun r kd' ig' rg' lg' => (r = none ∧ (SCh B (upS σ x.toInt.toNat cq) π (ν + 1) kd' ig' rg' ∧ (ig' (B + 29) 4).toInt = (ig (B + 29) 4).toInt)))) := by
  refine MC.of (own := RX6) (by decide +kernel) rfl (Nat.le_of_ble_eq_true rfl) ?_
  intro p e s m args below meth c ls C hr hlk hnm hw hsz hl
  have hx := C.1.1
  have hb := C.1.2.1
  have hown := C.1.2.2.2.1
  have hts := C.1.2.2.2.2
  have hl : lv_has ls 3 [(0, .ref (B + 9)), (1, .int x), (2, .ref q)] := hl
  have hN : Nx 1016 B none kd ig rg lg kd ig rg lg := Nx.rf
  have hsh := hI.sh
  have hrs := hI.rs
  obtain ⟨nq, kq⟩ := hq.kq
  refine lv_iload_n hx hb dX6_replace_0 rfl (lv_at hl 1 rfl) ?_
  refine r_callN (As := [.int x]) (rest := []) C hw (t_X11_onSheet l B D cA kd ig rg lg _ x  hI) sn_X6_42 rfl hl.1 rfl (Nat.le_of_ble_eq_true rfl) ⟨Nat.le_of_ble_eq_true rfl, Nat.le_of_ble_eq_true rfl⟩ ⟨Nat.le_of_ble_eq_true rfl, Nat.le_of_ble_eq_true rfl⟩ dX6_replace_1 (fun r5 kd1 ig2 rg3 lg4 H locs hw hH hp6 => ?_)
  obtain ⟨rfl, rfl, rfl, rfl, hzhp6, hrhp6⟩ := hp6
  obtain ⟨z7, rfl, hz7⟩ := hrhp6
  refine z_eq (tgt := 24) hx hb dX6_replace_4 (by decide) (fun c4 => ?_) (fun c4 => ?_)
  · exact absurd c4 (by omega)
  · refine lv_aload_n hx hb dX6_replace_7 rfl (lv_at hl 0 rfl) ?_
    refine r_get C hw (hsh 9 _ rfl) fl_X6_20 (oV_r rfl (hrs (9, 1, 11) (by decide))) dX6_replace_8 ?_
    refine lv_iload_n hx hb dX6_replace_11 rfl (lv_at hl 1 rfl) ?_
    refine lv_aload_n hx hb dX6_replace_12 rfl (lv_at hl 2 rfl) ?_
    refine r_aast C hw (hsh 11 _ rfl) (hN.k kq) (by omega) (by omega) dX6_replace_13 (fun H locs hH hw => ?_)
    obtain ⟨rg8, erg8⟩ : ∃ f, f = up2 rg (B + 11) x.toInt.toNat (some q) := ⟨_, rfl⟩
    rw [← erg8] at hw
    have hN : Nx 1016 B none kd ig rg lg kd ig rg8 lg := by rw [erg8]; exact hN.pr (by omega) (Or.inr (by rintro ⟨n, h | h⟩ <;> (have h9 := (hN.k h).symm.trans (hsh 11 _ rfl); cases h9)))
    have hI : IC τ B kd ig rg8 := by rw [erg8]; exact hI.pc (by omega) (hN.k kq)
    have hrs := hI.rs
    have hS1 : SCh B (upS σ x.toInt.toNat cq) π ν kd ig rg8 := by rw [erg8]; exact hS.cell (by omega) hq
    refine lv_aload_n hx hb dX6_replace_14 rfl (lv_at hl 0 rfl) ?_
    refine lv_dup hx hb dX6_replace_15 rfl ?_
    have hv1 := hS1.v
    refine r_get C hw (hsh 9 _ rfl) fl_X6_39 (oV_i rfl) dX6_replace_16 (ti_c (ig (B + 9) 6).toInt rfl fun z9 hz9 => ?_)
    refine lv_iconst (v := 1) hx hb dX6_replace_19 (by decide) (ti_c 1 (by decide) fun z10 hz10 => ?_)
    refine lv_iadd hx hb dX6_replace_20 (tc_add fun z11 hz11 => ?_)
    first | replace hz11 := hz11 (by omega) | clear hz11
    refine r_puti C hw (hsh 9 _ rfl) fl_X6_39 rfl rfl rfl dX6_replace_21 (fun H locs hH hw => ?_)
    obtain ⟨ig12, eig12⟩ : ∃ f, f = up2 ig (B + 9) 6 z11 := ⟨_, rfl⟩
    rw [← eig12] at hw
    have hN : Nx 1016 B none kd ig rg lg kd ig12 rg8 lg := by rw [eig12]; exact hN.pi (by omega)
    have hI : IC τ B kd ig12 rg8 := by rw [eig12]; exact hI.pi (show okR none _ from trivial)
    have wig12_29_4 : (ig12 (B + 29) 4).toInt = (ig (B + 29) 4).toInt := by rw [eig12, up2_a (by omega)]
    have hS2 : SCh B (upS σ x.toInt.toNat cq) π (ν + 1) kd ig12 rg8 := by rw [eig12]; exact hS1.ver (by omega)
    exact r_vret C hw hr hlk (Nat.le_of_ble_eq_true rfl) (Nat.le_of_ble_eq_true rfl) dX6_replace_24 ⟨hI, hN, ⟨rfl, ⟨hS2, by omega⟩⟩⟩

theorem sf_p {π : Ps} {k : Nat} (h : 1 ≤ k ∧ k < π.length) : sfp π k = (sfp π (k - 1)).set (k - 1) ((((sfp π (k - 1)).set (k - 1) (((sfp π (k - 1)).getD k (0, blk)).1, ((sfp π (k - 1)).getD (k - 1) (0, blk)).2)).getD (k - 1) (0, blk)).1, ((sfp π (k - 1)).getD k (0, blk)).2) := by
  have e1 : (sfp π (k - 1)).getD k (0, blk) = π.getD k (0, blk) := by
    rw [getD_in (by rw [sfp_len]; omega), sfp_get (by rw [sfp_len]; omega), if_neg (by omega)]
  rw [e1, getD_in (by rw [List.length_set, sfp_len]; omega), List.getElem_set_self]
  have e2 := sfp_s (π := π) (k := k - 1)
  rw [show k - 1 + 1 = k by omega] at e2
  exact e2.symm

set_option maxHeartbeats 4000000 in
set_option maxRecDepth 100000 in
theorem t_X6_forgetOldestE {τ : Tp} (l : Launch) (B : Nat) (D : va_G) (cA : Nat → ClassId) (kd : sK) (ig : sI) (rg : sR) (lg : sG) (sz : Nat) (σ : Sg) (π : Ps) (ν : Nat) (hS : SCh B σ π ν kd ig rg) (hπ : π.length = 20) (hI : IC τ B kd ig rg) : MC l B D cA yX6_forgetOldest cX6_forgetOldest 2 none (rL 0 0 0) [.ref (B + 9)] kd ig rg lg sz (PI 1016 τ B none kd ig rg lg (fun r kd' ig' rg' lg' => (r = none ∧ (SCh B σ π.tail ν kd' ig' rg' ∧ (ig' (B + 29) 4).toInt = (ig (B + 29) 4).toInt)))) := by
  refine MC.of (own := RX6) (by decide +kernel) rfl (Nat.le_of_ble_eq_true rfl) ?_
  intro p e s m args below meth c ls C hr hlk hnm hw hsz hl
  have hx := C.1.1
  have hb := C.1.2.1
  have hown := C.1.2.2.2.1
  have hts := C.1.2.2.2.2
  have hl : lv_has ls 2 [(0, .ref (B + 9))] := hl
  have hN : Nx 1016 B none kd ig rg lg kd ig rg lg := Nx.rf
  have hsh := hI.sh
  have hrs := hI.rs
  refine lv_iconst (v := 1) hx hb dX6_forgetOldest_0 (by decide) (ti_c 1 (by decide) fun z1 hz1 => ?_)
  refine lv_istore_n (lv' := [(1, .int z1), (0, .ref (B + 9))]) hx hb dX6_forgetOldest_1 rfl hl (by decide) rfl (fun ls hl => ?_)
  have L2 : ∀ (n : Nat) (ls : Array Slot) (H : Heap) (locs : List Loc) (kd3 : sK) (ig4 : sI) (rg5 : sR) (lg6 : sG) (v2 : Int32), lv_has ls 2 [(1, .int v2), (0, .ref (B + 9))] → WD B D cA s.heap kd3 ig4 rg5 lg6 H locs → IC τ B kd3 ig4 rg5 → Nx 1016 B none kd ig rg lg kd3 ig4 rg5 lg6 → (1 ≤ v2.toInt) → (v2.toInt ≤ 20) → (SCh B σ (sfp π (v2.toInt.toNat - 1)) ν kd3 ig4 rg5) → ((ig4 (B + 29) 4).toInt = (ig (B + 29) 4).toInt) → 20 - v2.toInt < (n : Int) → W p l e (rL 0 0 0) s m args below meth c H locs 0 0 (MQ below (QcW B D cA (PI 1016 τ B none kd ig rg lg (fun r kd' ig' rg' lg' => (r = none ∧ (SCh B σ π.tail ν kd' ig' rg' ∧ (ig' (B + 29) 4).toInt = (ig (B + 29) 4).toInt))))) args s 0 0 (fun q => B ≤ q)) (F0 m 2 ls []) := by
    intro n2
    induction n2 with
    | zero => intro ls H locs kd3 ig4 rg5 lg6 v2 hl hw hI hN g2_0 g2_1 g2_2 g2_3 hmu; exact absurd hmu (by omega)
    | succ n2 ih2 =>
      intro ls H locs kd3 ig4 rg5 lg6 v2 hl hw hI hN g2_0 g2_1 g2_2 g2_3 hmu
      have hsh := hI.sh
      have hrs := hI.rs
      have hS := g2_2
      refine lv_iload_n hx hb dX6_forgetOldest_2 rfl (lv_at hl 0 rfl) ?_
      refine lv_bipush (v := 20) hx hb dX6_forgetOldest_3 (by decide) (ti_c 20 (by decide) fun z7 hz7 => ?_)
      refine b_ge (tgt := 42) hx hb dX6_forgetOldest_5 (by decide) (fun c5 => ?_) (fun c5 => ?_)
      · refine lv_aload_n hx hb dX6_forgetOldest_42 rfl (lv_at hl 1 rfl) ?_
        refine lv_bipush (v := 19) hx hb dX6_forgetOldest_43 (by decide) (ti_c 19 (by decide) fun z8 hz8 => ?_)
        refine r_puti C hw (hsh 9 _ rfl) fl_X6_35 rfl rfl rfl dX6_forgetOldest_45 (fun H locs hH hw => ?_)
        obtain ⟨ig9, eig9⟩ : ∃ f, f = up2 ig4 (B + 9) 5 z8 := ⟨_, rfl⟩
        rw [← eig9] at hw
        have hN : Nx 1016 B none kd ig rg lg kd3 ig9 rg5 lg6 := by rw [eig9]; exact hN.pi (by omega)
        have hI : IC τ B kd3 ig9 rg5 := by rw [eig9]; exact hI.pi (show okR (some (0, 20)) _ from ⟨by show (0 : Int) ≤ _; omega, by show _ ≤ (20 : Int); omega⟩)
        have wig9 : (ig9 (B + 9) 5).toInt = z8.toInt := by rw [eig9, up2_eq]
        have wig9_29_4 : (ig9 (B + 29) 4).toInt = (ig4 (B + 29) 4).toInt := by rw [eig9, up2_a (by omega)]
        have hS2 : SCh B σ π.tail ν kd3 ig9 rg5 := by rw [eig9]; exact hS.dep (by rw [List.length_tail]; omega) (by rw [List.length_tail]; omega) (fun i hi => by have hi2 := hi; rw [List.length_tail] at hi2; rw [sfp_e hi]; have w := hS.past (i := i) (by rw [sfp_len]; omega); rw [getD_in (by rw [sfp_len]; omega), sfp_get (by rw [sfp_len]; omega), if_pos (by omega)] at w; exact w)
        exact r_vret C hw hr hlk (Nat.le_of_ble_eq_true rfl) (Nat.le_of_ble_eq_true rfl) dX6_forgetOldest_48 ⟨hI, hN, ⟨rfl, ⟨hS2, by omega⟩⟩⟩
      · refine lv_aload_n hx hb dX6_forgetOldest_8 rfl (lv_at hl 1 rfl) ?_
        refine r_get C hw (hsh 9 _ rfl) fl_X6_28 (oV_r rfl (hrs (9, 3, 13) (by decide))) dX6_forgetOldest_9 ?_
        refine lv_iload_n hx hb dX6_forgetOldest_12 rfl (lv_at hl 0 rfl) ?_
        refine lv_iconst (v := 1) hx hb dX6_forgetOldest_13 (by decide) (ti_c 1 (by decide) fun z10 hz10 => ?_)
        refine lv_isub hx hb dX6_forgetOldest_14 (tc_sub fun z11 hz11 => ?_)
        first | replace hz11 := hz11 (by omega) | clear hz11
        refine lv_aload_n hx hb dX6_forgetOldest_15 rfl (lv_at hl 1 rfl) ?_
        refine r_get C hw (hsh 9 _ rfl) fl_X6_28 (oV_r rfl (hrs (9, 3, 13) (by decide))) dX6_forgetOldest_16 ?_
        refine lv_iload_n hx hb dX6_forgetOldest_19 rfl (lv_at hl 0 rfl) ?_
        refine r_iald C hw (hsh 13 _ rfl) (by omega) (by omega) dX6_forgetOldest_20 (ti_c (ig4 (B + 13) v2.toInt.toNat).toInt rfl fun z12 hz12 => ?_)
        refine r_iast C hw (hsh 13 _ rfl) (by omega) (by omega) dX6_forgetOldest_21 (fun H locs hH hw => ?_)
        obtain ⟨ig13, eig13⟩ : ∃ f, f = up2 ig4 (B + 13) z11.toInt.toNat z12 := ⟨_, rfl⟩
        rw [← eig13] at hw
        have hN : Nx 1016 B none kd ig rg lg kd3 ig13 rg5 lg6 := by rw [eig13]; exact hN.pi (by omega)
        have hI : IC τ B kd3 ig13 rg5 := by rw [eig13]; exact hI.pi (show okR none _ from trivial)
        have wig13_9_5 : (ig13 (B + 9) 5).toInt = (ig4 (B + 9) 5).toInt := by rw [eig13, up2_a (by omega)]
        have wig13_29_4 : (ig13 (B + 29) 4).toInt = (ig4 (B + 29) 4).toInt := by rw [eig13, up2_a (by omega)]
        obtain ⟨pp1, pp2, qq, pp3, pp4⟩ := hS.past (i := v2.toInt.toNat) (by rw [sfp_len]; omega)
        have hS : SCh B σ ((sfp π (v2.toInt.toNat - 1)).set (v2.toInt.toNat - 1) (((sfp π (v2.toInt.toNat - 1)).getD v2.toInt.toNat (0, blk)).1, ((sfp π (v2.toInt.toNat - 1)).getD (v2.toInt.toNat - 1) (0, blk)).2)) ν kd3 ig13 rg5 := by rw [eig13, show z11.toInt.toNat = v2.toInt.toNat - 1 by omega]; exact hS.p13 pp2 (by omega)
        refine lv_aload_n hx hb dX6_forgetOldest_22 rfl (lv_at hl 1 rfl) ?_
        refine r_get C hw (hsh 9 _ rfl) fl_X6_32 (oV_r rfl (hrs (9, 4, 14) (by decide))) dX6_forgetOldest_23 ?_
        refine lv_iload_n hx hb dX6_forgetOldest_26 rfl (lv_at hl 0 rfl) ?_
        refine lv_iconst (v := 1) hx hb dX6_forgetOldest_27 (by decide) (ti_c 1 (by decide) fun z14 hz14 => ?_)
        refine lv_isub hx hb dX6_forgetOldest_28 (tc_sub fun z15 hz15 => ?_)
        first | replace hz15 := hz15 (by omega) | clear hz15
        refine lv_aload_n hx hb dX6_forgetOldest_29 rfl (lv_at hl 1 rfl) ?_
        refine r_get C hw (hsh 9 _ rfl) fl_X6_32 (oV_r rfl (hrs (9, 4, 14) (by decide))) dX6_forgetOldest_30 ?_
        refine lv_iload_n hx hb dX6_forgetOldest_33 rfl (lv_at hl 0 rfl) ?_
        obtain ⟨q16, nq16, rq16, kq16⟩ := hI.past (j := v2.toInt.toNat) (by omega)
        refine r_aald C hw (hsh 14 _ rfl) (by omega) (by omega) (by rw [rq16]) dX6_forgetOldest_34 ?_
        refine r_aast C hw (hsh 14 _ rfl) kq16 (by omega) (by omega) dX6_forgetOldest_35 (fun H locs hH hw => ?_)
        obtain ⟨rg17, erg17⟩ : ∃ f, f = up2 rg5 (B + 14) z15.toInt.toNat (some q16) := ⟨_, rfl⟩
        rw [← erg17] at hw
        have hN : Nx 1016 B none kd ig rg lg kd3 ig13 rg17 lg6 := by rw [erg17]; exact hN.pr (by omega) (Or.inr (by rintro ⟨n, h | h⟩ <;> (have h9 := (hN.k h).symm.trans (hsh 14 _ rfl); cases h9)))
        have hI : IC τ B kd3 ig13 rg17 := by rw [erg17]; exact hI.pc (by omega) kq16
        have hrs := hI.rs
        have hcq : ClQ B kd3 ig13 rg5 q16 ((sfp π (v2.toInt.toNat - 1)).getD v2.toInt.toNat (0, blk)).2 := (by rw [pp3] at rq16; cases rq16; exact ClQ.ag pp4 (fun a j ha => by rw [eig13, up2_a (by omega)]) (fun _ _ _ => rfl))
        have hS := hS.p14 (k := v2.toInt.toNat - 1) hcq
        have hS : SCh B σ (sfp π v2.toInt.toNat) ν kd3 ig13 rg17 := by rw [erg17, show z15.toInt.toNat = v2.toInt.toNat - 1 by omega]; exact hS.eq rfl (by rw [List.set_set, sf_p (by omega)]) rfl
        refine tc_inc hx hb dX6_forgetOldest_36 hl (k := 0) rfl (by decide) (by decide) (fun z18 hz18 ls hl => ?_)
        first | replace hz18 := hz18 (by omega) | clear hz18
        have hl : lv_has ls 2 [(1, .int z18), (0, .ref (B + 9))] := hl
        refine lv_goto (tgt := 2) hx hb dX6_forgetOldest_39 (by decide) ?_
        exact ih2 ls H locs kd3 ig13 rg17 lg6 z18 (lv_sub hl [0, 1] rfl) hw hI hN (by omega) (by omega) (by rw [show z18.toInt.toNat - 1 = v2.toInt.toNat by omega]; exact hS) (by omega) (by omega)
  exact L2 ((20 - z1.toInt) + 1).toNat ls s.heap [] kd ig rg lg z1 (lv_sub hl [0, 1] rfl) hw hI hN (by omega) (by omega) (by rw [show z1.toInt.toNat - 1 = 0 by omega, sfp_0]; exact hS) (by omega) (by omega)

theorem pp_at {B : Nat} {σ : Sg} {ρ : Ps} {ν : Nat} {kd : sK} {ig : sI} {rg : sR} {x : Int} {c : Cl} (h : SCh B σ ρ ν kd ig rg) (hx : 0 ≤ x ∧ x < 288) (h1 : (ig (B + 13) ρ.length).toInt = x) (h2 : ∃ q, rg (B + 14) ρ.length = some q ∧ ClQ B kd ig rg q c) : ∀ i (hi : i < (ρ ++ [(x.toNat, c)]).length), (ig (B + 13) i).toInt = (((ρ ++ [(x.toNat, c)])[i]).1 : Int) ∧ ((ρ ++ [(x.toNat, c)])[i]).1 < 288 ∧ ∃ q, rg (B + 14) i = some q ∧ ClQ B kd ig rg q ((ρ ++ [(x.toNat, c)])[i]).2 := by
  intro i hi
  have hi2 := hi
  rw [List.length_append, List.length_singleton] at hi2
  by_cases e : i < ρ.length
  · rw [List.getElem_append_left e]
    exact h.2.2.2.1 i e
  · obtain rfl : i = ρ.length := by omega
    rw [List.getElem_append_right (Nat.le_refl _)]
    simp only [Nat.sub_self, List.getElem_cons_zero]
    exact ⟨by omega, by omega, h2⟩

set_option maxHeartbeats 4000000 in
set_option maxRecDepth 100000 in
theorem t_X6_putE {τ : Tp} (l : Launch) (B : Nat) (D : va_G) (cA : Nat → ClassId) (kd : sK) (ig : sI) (rg : sR) (lg : sG) (sz : Nat) (x : Int32) (q : Nat) (cq : Cl) (hq : ClQ B kd ig rg q cq) (σ : Sg) (π : Ps) (ν : Nat) (hS : SCh B σ π ν kd ig rg) (hx0 : 0 ≤ x.toInt ∧ x.toInt < 288) (hν : ν < 1000000) (hI : IC τ B kd ig rg) : MC l B D cA yX6_put cX6_put 3 none (rL 2 0 0) [.ref (B + 9), .int x, .ref q] kd ig rg lg sz (PI 1016 τ B none kd ig rg lg (fun r kd' ig' rg' lg' => (r = none ∧ (SCh B (upS σ x.toInt.toNat cq) (pput π x.toInt.toNat (σ x.toInt.toNat)) (ν + 1) kd' ig' rg' ∧ (ig' (B + 29) 4).toInt = (ig (B + 29) 4).toInt)))) := by
  refine MC.of (own := RX6) (by decide +kernel) rfl (Nat.le_of_ble_eq_true rfl) ?_
  intro p e s m args below meth c ls C hr hlk hnm hw hsz hl
  have hx := C.1.1
  have hb := C.1.2.1
  have hown := C.1.2.2.2.1
  have hts := C.1.2.2.2.2
  have hl : lv_has ls 3 [(0, .ref (B + 9)), (1, .int x), (2, .ref q)] := hl
  have hN : Nx 1016 B none kd ig rg lg kd ig rg lg := Nx.rf
  have hsh := hI.sh
  have hrs := hI.rs
  obtain ⟨nq, kq⟩ := hq.kq
  have hl9 := hS.len
  have hpl := ptl_len hl9.2
  refine lv_aload_n hx hb dX6_put_0 rfl (lv_at hl 0 rfl) ?_
  refine r_get C hw (hsh 9 _ rfl) fl_X6_35 (oV_i rfl) dX6_put_1 (ti_c (ig (B + 9) 5).toInt rfl fun z1 hz1 => ?_)
  have k2 : 0 ≤ (ig (B + 9) 5).toInt ∧ (ig (B + 9) 5).toInt ≤ 20 := hI.i 9 5 (by decide)
  refine lv_bipush (v := 20) hx hb dX6_put_4 (by decide) (ti_c 20 (by decide) fun z3 hz3 => ?_)
  have J13 : ∀ (ls : Array Slot) (H : Heap) (locs : List Loc) (kd4 : sK) (ig5 : sI) (rg6 : sR) (lg7 : sG) , lv_has ls 3 [(0, .ref (B + 9)), (1, .int x), (2, .ref q)] → WD B D cA s.heap kd4 ig5 rg6 lg7 H locs → IC τ B kd4 ig5 rg6 → Nx 1016 B none kd ig rg lg kd4 ig5 rg6 lg7 → (SCh B σ (ptl π) ν kd4 ig5 rg6) → ((ig5 (B + 29) 4).toInt = (ig (B + 29) 4).toInt) → W p l e (rL 2 0 0) s m args below meth c H locs 0 0 (MQ below (QcW B D cA (PI 1016 τ B none kd ig rg lg (fun r kd' ig' rg' lg' => (r = none ∧ (SCh B (upS σ x.toInt.toNat cq) (pput π x.toInt.toNat (σ x.toInt.toNat)) (ν + 1) kd' ig' rg' ∧ (ig' (B + 29) 4).toInt = (ig (B + 29) 4).toInt))))) args s 0 0 (fun q => B ≤ q)) (F0 m 13 ls []) := by
    intro ls H locs kd4 ig5 rg6 lg7 hl hw hI hN g13_0 g13_1
    have hsh := hI.sh
    have hrs := hI.rs
    have hS := g13_0
    have hl8 := hS.len
    have k29 := g13_1
    refine lv_aload_n hx hb dX6_put_13 rfl (lv_at hl 0 rfl) ?_
    refine r_get C hw (hsh 9 _ rfl) fl_X6_28 (oV_r rfl (hrs (9, 3, 13) (by decide))) dX6_put_14 ?_
    refine lv_aload_n hx hb dX6_put_17 rfl (lv_at hl 0 rfl) ?_
    refine r_get C hw (hsh 9 _ rfl) fl_X6_35 (oV_i rfl) dX6_put_18 (ti_c (ig5 (B + 9) 5).toInt rfl fun z8 hz8 => ?_)
    have k9 : 0 ≤ (ig5 (B + 9) 5).toInt ∧ (ig5 (B + 9) 5).toInt ≤ 20 := hI.i 9 5 (by decide)
    refine lv_iload_n hx hb dX6_put_21 rfl (lv_at hl 1 rfl) ?_
    refine r_iast C hw (hsh 13 _ rfl) (by omega) (by omega) dX6_put_22 (fun H locs hH hw => ?_)
    obtain ⟨ig10, eig10⟩ : ∃ f, f = up2 ig5 (B + 13) z8.toInt.toNat x := ⟨_, rfl⟩
    rw [← eig10] at hw
    have hN : Nx 1016 B none kd ig rg lg kd4 ig10 rg6 lg7 := by rw [eig10]; exact hN.pi (by omega)
    have hI : IC τ B kd4 ig10 rg6 := by rw [eig10]; exact hI.pi (show okR none _ from trivial)
    have wig10_9_5 : (ig10 (B + 9) 5).toInt = (ig5 (B + 9) 5).toInt := by rw [eig10, up2_a (by omega)]
    have wig10_29_4 : (ig10 (B + 29) 4).toInt = (ig5 (B + 29) 4).toInt := by rw [eig10, up2_a (by omega)]
    have hS : SCh B σ (ptl π) ν kd4 ig10 rg6 := by rw [eig10]; exact (hS.p13 (p := x.toInt.toNat) (by omega) (by omega)).eq rfl (set_out (by omega)).symm rfl
    have hp13 : (ig10 (B + 13) z8.toInt.toNat).toInt = x.toInt := by rw [eig10, up2_eq]
    refine lv_aload_n hx hb dX6_put_23 rfl (lv_at hl 0 rfl) ?_
    refine r_get C hw (hsh 9 _ rfl) fl_X6_32 (oV_r rfl (hrs (9, 4, 14) (by decide))) dX6_put_24 ?_
    refine lv_aload_n hx hb dX6_put_27 rfl (lv_at hl 0 rfl) ?_
    refine r_get C hw (hsh 9 _ rfl) fl_X6_35 (oV_i rfl) dX6_put_28 (ti_c (ig10 (B + 9) 5).toInt rfl fun z11 hz11 => ?_)
    have k12 : 0 ≤ (ig10 (B + 9) 5).toInt ∧ (ig10 (B + 9) 5).toInt ≤ 20 := hI.i 9 5 (by decide)
    refine lv_aload_n hx hb dX6_put_31 rfl (lv_at hl 0 rfl) ?_
    refine lv_iload_n hx hb dX6_put_32 rfl (lv_at hl 1 rfl) ?_
    refine r_callV (As := [.int x]) (rest := [.int z11, .ref (B + 14)]) C hw (t_X6_atE l B D cA kd4 ig10 rg6 lg7 _ x σ (ptl π) ν hS hI) sv_X6_53 (hsh 9 _ rfl) rfl hl.1 rfl (Nat.le_of_ble_eq_true rfl) ⟨Nat.le_of_ble_eq_true rfl, Nat.le_of_ble_eq_true rfl⟩ ⟨Nat.le_of_ble_eq_true rfl, Nat.le_of_ble_eq_true rfl⟩ dX6_put_33 (fun r17 kd13 ig14 rg15 lg16 H locs hw hH hp18 => ?_)
    obtain ⟨rfl, rfl, rfl, rfl, hzhp18, hrhp18⟩ := hp18
    obtain ⟨q19, rfl, hcq19⟩ := hrhp18
    obtain ⟨nq19, kq19⟩ := hcq19.kq
    refine r_aast C hw (hsh 14 _ rfl) kq19 (by omega) (by omega) dX6_put_36 (fun H locs hH hw => ?_)
    obtain ⟨rg20, erg20⟩ : ∃ f, f = up2 rg6 (B + 14) z11.toInt.toNat (some q19) := ⟨_, rfl⟩
    rw [← erg20] at hw
    have hN : Nx 1016 B none kd ig rg lg kd4 ig10 rg20 lg7 := by rw [erg20]; exact hN.pr (by omega) (Or.inr (by rintro ⟨n, h | h⟩ <;> (have h9 := (hN.k h).symm.trans (hsh 14 _ rfl); cases h9)))
    have hI : IC τ B kd4 ig10 rg20 := by rw [erg20]; exact hI.pc (by omega) kq19
    have hrs := hI.rs
    have hS : SCh B σ (ptl π) ν kd4 ig10 rg20 := by rw [erg20]; exact (hS.p14 hcq19).eq rfl (set_out (by omega)).symm rfl
    have hp14 : rg20 (B + 14) z11.toInt.toNat = some q19 := by rw [erg20, up2_eq]
    have hcq : ClQ B kd4 ig10 rg20 q19 (σ x.toInt.toNat) := (by rw [← atC_on (σ := σ) hx0]; exact ClQ.ag hcq19 (fun _ _ _ => rfl) (fun a j ha => by rw [erg20, up2_a (by omega)]))
    refine lv_aload_n hx hb dX6_put_37 rfl (lv_at hl 0 rfl) ?_
    refine lv_dup hx hb dX6_put_38 rfl ?_
    refine r_get C hw (hsh 9 _ rfl) fl_X6_35 (oV_i rfl) dX6_put_39 (ti_c (ig10 (B + 9) 5).toInt rfl fun z21 hz21 => ?_)
    have k22 : 0 ≤ (ig10 (B + 9) 5).toInt ∧ (ig10 (B + 9) 5).toInt ≤ 20 := hI.i 9 5 (by decide)
    refine lv_iconst (v := 1) hx hb dX6_put_42 (by decide) (ti_c 1 (by decide) fun z23 hz23 => ?_)
    refine lv_iadd hx hb dX6_put_43 (tc_add fun z24 hz24 => ?_)
    first | replace hz24 := hz24 (by omega) | clear hz24
    refine r_puti C hw (hsh 9 _ rfl) fl_X6_35 rfl rfl rfl dX6_put_44 (fun H locs hH hw => ?_)
    obtain ⟨ig25, eig25⟩ : ∃ f, f = up2 ig10 (B + 9) 5 z24 := ⟨_, rfl⟩
    rw [← eig25] at hw
    have hN : Nx 1016 B none kd ig rg lg kd4 ig25 rg20 lg7 := by rw [eig25]; exact hN.pi (by omega)
    have hI : IC τ B kd4 ig25 rg20 := by rw [eig25]; exact hI.pi (show okR (some (0, 20)) _ from ⟨by show (0 : Int) ≤ _; omega, by show _ ≤ (20 : Int); omega⟩)
    have wig25 : (ig25 (B + 9) 5).toInt = z24.toInt := by rw [eig25, up2_eq]
    have wig25_29_4 : (ig25 (B + 29) 4).toInt = (ig10 (B + 29) 4).toInt := by rw [eig25, up2_a (by omega)]
    have hS : SCh B σ (pput π x.toInt.toNat (σ x.toInt.toNat)) ν kd4 ig25 rg20 := by rw [eig25]; exact hS.dep (by unfold pput; rw [List.length_append, List.length_singleton]; omega) (by unfold pput; rw [List.length_append, List.length_singleton]; omega) (pp_at hS hx0 (by rw [← show z8.toInt.toNat = (ptl π).length by omega]; exact hp13) ⟨q19, (by rw [← show z11.toInt.toNat = (ptl π).length by omega]; exact hp14), hcq⟩)
    refine lv_aload_n hx hb dX6_put_47 rfl (lv_at hl 0 rfl) ?_
    refine lv_iload_n hx hb dX6_put_48 rfl (lv_at hl 1 rfl) ?_
    refine lv_aload_n hx hb dX6_put_49 rfl (lv_at hl 2 rfl) ?_
    refine r_callV (As := [.int x, .ref q]) (rest := []) C hw (t_X6_replaceE l B D cA kd4 ig25 rg20 lg7 _ x q cq (hq.nx hN) σ (pput π x.toInt.toNat (σ x.toInt.toNat)) ν hS (by omega) hν hI) sv_X6_67 (hsh 9 _ rfl) rfl hl.1 rfl (Nat.le_of_ble_eq_true rfl) ⟨Nat.le_of_ble_eq_true rfl, Nat.le_of_ble_eq_true rfl⟩ ⟨Nat.le_of_ble_eq_true rfl, Nat.le_of_ble_eq_true rfl⟩ dX6_put_50 (fun r30 kd26 ig27 rg28 lg29 H locs hw hH hp31 => ?_)
    obtain ⟨hI, hchp31, hrhp31⟩ := hp31
    have hN := hN.tr hchp31
    have hsh := hI.sh
    have hrs := hI.rs
    obtain ⟨rfl, hvhp31⟩ := hrhp31
    exact r_vret C hw hr hlk (Nat.le_of_ble_eq_true rfl) (Nat.le_of_ble_eq_true rfl) dX6_put_53 ⟨hI, hN, ⟨rfl, ⟨hvhp31.1, by have w := hvhp31.2; omega⟩⟩⟩
  refine b_lt (tgt := 13) hx hb dX6_put_6 (by decide) (fun c6 => ?_) (fun c6 => ?_)
  · exact J13 ls s.heap [] kd ig rg lg (lv_sub hl [0, 1, 2] rfl) hw hI hN (by rw [ptl, if_neg (by omega)]; exact hS) (by omega)
  · refine lv_aload_n hx hb dX6_put_9 rfl (lv_at hl 0 rfl) ?_
    refine r_callV (As := []) (rest := []) C hw (t_X6_forgetOldestE l B D cA kd ig rg lg _  σ π ν hS (by omega) hI) sv_X6_64 (hsh 9 _ rfl) rfl hl.1 rfl (Nat.le_of_ble_eq_true rfl) ⟨Nat.le_of_ble_eq_true rfl, Nat.le_of_ble_eq_true rfl⟩ ⟨Nat.le_of_ble_eq_true rfl, Nat.le_of_ble_eq_true rfl⟩ dX6_put_10 (fun r36 kd32 ig33 rg34 lg35 H locs hw hH hp37 => ?_)
    obtain ⟨hI, hchp37, hrhp37⟩ := hp37
    have hN := hN.tr hchp37
    have hsh := hI.sh
    have hrs := hI.rs
    obtain ⟨rfl, hvhp37⟩ := hrhp37
    exact J13 ls H locs kd32 ig33 rg34 lg35 (lv_sub hl [0, 1, 2] rfl) hw hI hN (by rw [ptl, if_pos (by omega)]; exact hvhp37.1) (by omega)

set_option maxHeartbeats 4000000 in
set_option maxRecDepth 100000 in
theorem t_X6_takeBackE {τ : Tp} (l : Launch) (B : Nat) (D : va_G) (cA : Nat → ClassId) (kd : sK) (ig : sI) (rg : sR) (lg : sG) (sz : Nat) (σ : Sg) (π : Ps) (ν : Nat) (π0 : Ps) (p0 : Nat) (c0 : Cl) (hπ : π = π0 ++ [(p0, c0)]) (hS : SCh B σ π ν kd ig rg) (hν : ν < 1000000) (hI : IC τ B kd ig rg) : MC l B D cA yX6_takeBack cX6_takeBack 1 none (rL 2 0 0) [.ref (B + 9)] kd ig rg lg sz (PI 1016 τ B none kd ig rg lg (fun r kd' ig' rg' lg' => (r = none ∧ (SCh B (upS σ p0 c0) π0 (ν + 1) kd' ig' rg' ∧ (ig' (B + 29) 4).toInt = (ig (B + 29) 4).toInt)))) := by
  refine MC.of (own := RX6) (by decide +kernel) rfl (Nat.le_of_ble_eq_true rfl) ?_
  intro p e s m args below meth c ls C hr hlk hnm hw hsz hl
  have hx := C.1.1
  have hb := C.1.2.1
  have hown := C.1.2.2.2.1
  have hts := C.1.2.2.2.2
  have hl : lv_has ls 1 [(0, .ref (B + 9))] := hl
  have hN : Nx 1016 B none kd ig rg lg kd ig rg lg := Nx.rf
  have hsh := hI.sh
  have hrs := hI.rs
  have hl9 := hS.len
  subst hπ
  rw [List.length_append, List.length_singleton] at hl9
  refine lv_aload_n hx hb dX6_takeBack_0 rfl (lv_at hl 0 rfl) ?_
  refine r_get C hw (hsh 9 _ rfl) fl_X6_35 (oV_i rfl) dX6_takeBack_1 (ti_c (ig (B + 9) 5).toInt rfl fun z1 hz1 => ?_)
  have k2 : 0 ≤ (ig (B + 9) 5).toInt ∧ (ig (B + 9) 5).toInt ≤ 20 := hI.i 9 5 (by decide)
  refine z_le (tgt := 48) hx hb dX6_takeBack_4 (by decide) (fun c4 => ?_) (fun c4 => ?_)
  · exact absurd c4 (by omega)
  · refine lv_aload_n hx hb dX6_takeBack_7 rfl (lv_at hl 0 rfl) ?_
    refine r_get C hw (hsh 9 _ rfl) fl_X6_35 (oV_i rfl) dX6_takeBack_8 (ti_c (ig (B + 9) 5).toInt rfl fun z3 hz3 => ?_)
    have k4 : 0 ≤ (ig (B + 9) 5).toInt ∧ (ig (B + 9) 5).toInt ≤ 20 := hI.i 9 5 (by decide)
    refine lv_bipush (v := 20) hx hb dX6_takeBack_11 (by decide) (ti_c 20 (by decide) fun z5 hz5 => ?_)
    refine b_gt (tgt := 48) hx hb dX6_takeBack_13 (by decide) (fun c13 => ?_) (fun c13 => ?_)
    · exact absurd c13 (by omega)
    · refine lv_aload_n hx hb dX6_takeBack_16 rfl (lv_at hl 0 rfl) ?_
      refine lv_dup hx hb dX6_takeBack_17 rfl ?_
      refine r_get C hw (hsh 9 _ rfl) fl_X6_35 (oV_i rfl) dX6_takeBack_18 (ti_c (ig (B + 9) 5).toInt rfl fun z6 hz6 => ?_)
      have k7 : 0 ≤ (ig (B + 9) 5).toInt ∧ (ig (B + 9) 5).toInt ≤ 20 := hI.i 9 5 (by decide)
      refine lv_iconst (v := 1) hx hb dX6_takeBack_21 (by decide) (ti_c 1 (by decide) fun z8 hz8 => ?_)
      refine lv_isub hx hb dX6_takeBack_22 (tc_sub fun z9 hz9 => ?_)
      first | replace hz9 := hz9 (by omega) | clear hz9
      refine r_puti C hw (hsh 9 _ rfl) fl_X6_35 rfl rfl rfl dX6_takeBack_23 (fun H locs hH hw => ?_)
      obtain ⟨ig10, eig10⟩ : ∃ f, f = up2 ig (B + 9) 5 z9 := ⟨_, rfl⟩
      rw [← eig10] at hw
      have hN : Nx 1016 B none kd ig rg lg kd ig10 rg lg := by rw [eig10]; exact hN.pi (by omega)
      have hI : IC τ B kd ig10 rg := by rw [eig10]; exact hI.pi (show okR (some (0, 20)) _ from ⟨by show (0 : Int) ≤ _; omega, by show _ ≤ (20 : Int); omega⟩)
      have wig10 : (ig10 (B + 9) 5).toInt = z9.toInt := by rw [eig10, up2_eq]
      have wig10_29_4 : (ig10 (B + 29) 4).toInt = (ig (B + 29) 4).toInt := by rw [eig10, up2_a (by omega)]
      have hS1 : SCh B σ π0 ν kd ig10 rg := by rw [eig10]; exact hS.dep (by omega) (by omega) (fun i hi => by have w := hS.2.2.2.1 i (by rw [List.length_append]; omega); rw [List.getElem_append_left hi] at w; exact w)
      have hla := hS.2.2.2.1 π0.length (by rw [List.length_append, List.length_singleton]; omega)
      rw [List.getElem_append_right (Nat.le_refl _)] at hla
      simp only [Nat.sub_self, List.getElem_cons_zero] at hla
      obtain ⟨la1, la2, lq, la3, la4⟩ := hla
      refine lv_aload_n hx hb dX6_takeBack_26 rfl (lv_at hl 0 rfl) ?_
      refine lv_aload_n hx hb dX6_takeBack_27 rfl (lv_at hl 0 rfl) ?_
      refine r_get C hw (hsh 9 _ rfl) fl_X6_28 (oV_r rfl (hrs (9, 3, 13) (by decide))) dX6_takeBack_28 ?_
      refine lv_aload_n hx hb dX6_takeBack_31 rfl (lv_at hl 0 rfl) ?_
      refine r_get C hw (hsh 9 _ rfl) fl_X6_35 (oV_i rfl) dX6_takeBack_32 (ti_c (ig10 (B + 9) 5).toInt rfl fun z11 hz11 => ?_)
      have k12 : 0 ≤ (ig10 (B + 9) 5).toInt ∧ (ig10 (B + 9) 5).toInt ≤ 20 := hI.i 9 5 (by decide)
      refine r_iald C hw (hsh 13 _ rfl) (by omega) (by omega) dX6_takeBack_35 (ti_c (ig10 (B + 13) z11.toInt.toNat).toInt rfl fun z13 hz13 => ?_)
      have hpl : z13.toInt = (p0 : Int) := by rw [hz13, show z11.toInt.toNat = π0.length by omega, eig10, up2_a (by omega)]; exact la1
      refine lv_aload_n hx hb dX6_takeBack_36 rfl (lv_at hl 0 rfl) ?_
      refine r_get C hw (hsh 9 _ rfl) fl_X6_32 (oV_r rfl (hrs (9, 4, 14) (by decide))) dX6_takeBack_37 ?_
      refine lv_aload_n hx hb dX6_takeBack_40 rfl (lv_at hl 0 rfl) ?_
      refine r_get C hw (hsh 9 _ rfl) fl_X6_35 (oV_i rfl) dX6_takeBack_41 (ti_c (ig10 (B + 9) 5).toInt rfl fun z14 hz14 => ?_)
      have k15 : 0 ≤ (ig10 (B + 9) 5).toInt ∧ (ig10 (B + 9) 5).toInt ≤ 20 := hI.i 9 5 (by decide)
      obtain ⟨q16, nq16, rq16, kq16⟩ := hI.past (j := z14.toInt.toNat) (by omega)
      refine r_aald C hw (hsh 14 _ rfl) (by omega) (by omega) (by rw [rq16]) dX6_takeBack_44 ?_
      have hcb : ClQ B kd ig10 rg q16 c0 := (by rw [show z14.toInt.toNat = π0.length by omega, la3] at rq16; cases rq16; exact ClQ.ag la4 (fun a j ha => by rw [eig10, up2_a (by omega)]) (fun _ _ _ => rfl))
      refine r_callV (As := [.int z13, .ref q16]) (rest := []) C hw (t_X6_replaceE l B D cA kd ig10 rg lg _ z13 q16 c0 hcb σ π0 ν hS1 (by omega) hν hI) sv_X6_67 (hsh 9 _ rfl) rfl hl.1 rfl (Nat.le_of_ble_eq_true rfl) ⟨Nat.le_of_ble_eq_true rfl, Nat.le_of_ble_eq_true rfl⟩ ⟨Nat.le_of_ble_eq_true rfl, Nat.le_of_ble_eq_true rfl⟩ dX6_takeBack_45 (fun r21 kd17 ig18 rg19 lg20 H locs hw hH hp22 => ?_)
      obtain ⟨hI, hchp22, hrhp22⟩ := hp22
      have hN := hN.tr hchp22
      have hsh := hI.sh
      have hrs := hI.rs
      obtain ⟨rfl, hvhp22⟩ := hrhp22
      exact r_vret C hw hr hlk (Nat.le_of_ble_eq_true rfl) (Nat.le_of_ble_eq_true rfl) dX6_takeBack_48 ⟨hI, hN, ⟨rfl, ⟨by have w := hvhp22.1; rw [show z13.toInt.toNat = p0 by omega] at w; exact w, by have w := hvhp22.2; omega⟩⟩⟩
