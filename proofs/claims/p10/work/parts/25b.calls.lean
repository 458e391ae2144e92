set_option maxHeartbeats 4000000 in
set_option maxRecDepth 100000 in
theorem t_X11_isExponentE {τ : Tp} (l : Launch) (B : Nat) (D : va_G) (cA : Nat → ClassId) (kd : sK) (ig : sI) (rg : sR) (lg : sG) (sz : Nat) (x : Int32) (hI : IC τ B kd ig rg) : MC l B D cA yX11_isExponent cX11_isExponent 1 (some .boolean) (rL 0 0 0) [.int x] kd ig rg lg sz (Pu kd ig rg lg sz (fun r => ∃ z : Int32, r = some (.int z) ∧ ((z.toInt = 1 ∧ (-4 ≤ x.toInt ∧ x.toInt ≤ 4)) ∨ (z.toInt = 0 ∧ ¬ (-4 ≤ x.toInt ∧ x.toInt ≤ 4))))) := by
  refine MC.of (own := RX11) (by decide +kernel) rfl (Nat.le_of_ble_eq_true rfl) ?_
  intro p e s m args below meth c ls C hr hlk hnm hw hsz hl
  have hx := C.1.1
  have hb := C.1.2.1
  have hown := C.1.2.2.2.1
  have hts := C.1.2.2.2.2
  have hl : lv_has ls 1 [(0, .int x)] := hl
  have hsh := hI.sh
  have hrs := hI.rs
  refine lv_iload_n hx hb dX11_isExponent_0 rfl (lv_at hl 0 rfl) ?_
  refine lv_bipush (v := (-4)) hx hb dX11_isExponent_1 (by decide) (ti_c (-4) (by decide) fun z1 hz1 => ?_)
  refine b_lt (tgt := 15) hx hb dX11_isExponent_3 (by decide) (fun c3 => ?_) (fun c3 => ?_)
  · refine lv_iconst (v := 0) hx hb dX11_isExponent_15 (by decide) (ti_c 0 (by decide) fun z2 hz2 => ?_)
    exact r_iret C hw hr hlk (nar_b (by omega)) (Nat.le_of_ble_eq_true rfl) (Nat.le_of_ble_eq_true rfl) dX11_isExponent_16 ⟨rfl, rfl, rfl, rfl, hsz, ⟨_, rfl, Or.inr ⟨by omega, by omega⟩⟩⟩
  · refine lv_iload_n hx hb dX11_isExponent_6 rfl (lv_at hl 0 rfl) ?_
    refine lv_iconst (v := 4) hx hb dX11_isExponent_7 (by decide) (ti_c 4 (by decide) fun z3 hz3 => ?_)
    refine b_gt (tgt := 15) hx hb dX11_isExponent_8 (by decide) (fun c8 => ?_) (fun c8 => ?_)
    · refine lv_iconst (v := 0) hx hb dX11_isExponent_15 (by decide) (ti_c 0 (by decide) fun z4 hz4 => ?_)
      exact r_iret C hw hr hlk (nar_b (by omega)) (Nat.le_of_ble_eq_true rfl) (Nat.le_of_ble_eq_true rfl) dX11_isExponent_16 ⟨rfl, rfl, rfl, rfl, hsz, ⟨_, rfl, Or.inr ⟨by omega, by omega⟩⟩⟩
    · refine lv_iconst (v := 1) hx hb dX11_isExponent_11 (by decide) (ti_c 1 (by decide) fun z5 hz5 => ?_)
      refine lv_goto (tgt := 16) hx hb dX11_isExponent_12 (by decide) ?_
      exact r_iret C hw hr hlk (nar_b (by omega)) (Nat.le_of_ble_eq_true rfl) (Nat.le_of_ble_eq_true rfl) dX11_isExponent_16 ⟨rfl, rfl, rfl, rfl, hsz, ⟨_, rfl, Or.inl ⟨by omega, by omega⟩⟩⟩

set_option maxHeartbeats 4000000 in
set_option maxRecDepth 100000 in
theorem t_X11_numberE {τ : Tp} (l : Launch) (B : Nat) (D : va_G) (cA : Nat → ClassId) (kd : sK) (ig : sI) (rg : sR) (lg : sG) (sz : Nat) (x : Int32) (y : Int32) (σ : Sg) (π : Ps) (ν : Nat) (hS : SCh B σ π ν kd ig rg) (hV : FV B σ ν ig) (hν : ν < 1000000) (hI : IC τ B kd ig rg) : MC l B D cA yX11_number cX11_number 3 (some .boolean) (rL 3 1 6) [.ref (B + 0), .int x, .int y] kd ig rg lg sz (PI 1016 τ B none kd ig rg lg (fun r kd' ig' rg' lg' => ∃ z : Int32, r = some (.int z) ∧ (∃ σ' π' ν', SCh B σ' π' ν' kd' ig' rg' ∧ FV B σ' ν' ig' ∧ (ν' = ν + 1 ∨ (ν' = ν ∧ σ' = σ)) ∧ stN σ π x.toInt y.toInt z.toInt σ' π'))) := by
  refine MC.of (own := RX11) (by decide +kernel) rfl (Nat.le_of_ble_eq_true rfl) ?_
  intro p e s m args below meth c ls C hr hlk hnm hw hsz hl
  have hx := C.1.1
  have hb := C.1.2.1
  have hown := C.1.2.2.2.1
  have hts := C.1.2.2.2.2
  have hl : lv_has ls 3 [(0, .ref (B + 0)), (1, .int x), (2, .int y)] := hl
  have hN : Nx 1016 B none kd ig rg lg kd ig rg lg := Nx.rf
  have hsh := hI.sh
  have hrs := hI.rs
  have hT : Nx 1022 B none kd ig rg lg kd ig rg lg := Nx.rf
  refine lv_iload_n hx hb dX11_number_0 rfl (lv_at hl 1 rfl) ?_
  refine r_callS (As := [.int x]) (rest := []) C hw (t_X11_onSheet l B D cA kd ig rg lg _ x  hI) ss_X11_88 rfl hl.1 rfl (Nat.le_of_ble_eq_true rfl) ⟨Nat.le_of_ble_eq_true rfl, Nat.le_of_ble_eq_true rfl⟩ ⟨Nat.le_of_ble_eq_true rfl, Nat.le_of_ble_eq_true rfl⟩ dX11_number_1 (fun r5 kd1 ig2 rg3 lg4 H locs hw hH hp6 => ?_)
  obtain ⟨rfl, rfl, rfl, rfl, hzhp6, hrhp6⟩ := hp6
  obtain ⟨z7, rfl, hz7⟩ := hrhp6
  refine z_ne (tgt := 9) hx hb dX11_number_4 (by decide) (fun c4 => ?_) (fun c4 => ?_)
  · refine lv_aload_n hx hb dX11_number_9 rfl (lv_at hl 0 rfl) ?_
    refine r_get C hw (hsh 0 _ rfl) fl_X11_19 (oV_r rfl (hrs (0, 1, 9) (by decide))) dX11_number_10 ?_
    refine lv_iload_n hx hb dX11_number_13 rfl (lv_at hl 1 rfl) ?_
    obtain ⟨h8, sh8⟩ : ∃ h, H.size = h := ⟨_, rfl⟩
    have oh8 : kd h8 = none := by have h9 := hw.fresh; rw [sh8] at h9; exact h9
    have bh8 : B + 80 ≤ h8 := by have h9 := hw.lt (hsh 79 _ rfl); omega
    have tnoh8 := hT.no oh8
    have noh8 := hN.no oh8
    have hI := IC.new (k := 0) (n := 0) hI oh8 bh8
    have hT := Nx.new (k := 0) (n := 0) hT oh8 bh8
    have hN := Nx.new (k := 0) (n := 0) hN oh8 bh8
    refine r_new (k := 0) (t0 := tyX0) C hw rfl (by decide) rfl inT0 tyX0_ok dfX0 cl_X11_99 it_0 id_0 (Nat.le_of_ble_eq_true rfl) (Nat.le_of_ble_eq_true rfl) dX11_number_14 sh8 (fun H hsz hw => ?_)
    obtain ⟨kd9, ekd9⟩ : ∃ f, f = upK kd h8 0 0 := ⟨_, rfl⟩
    obtain ⟨ig10, eig10⟩ : ∃ f, f = upR ig h8 0 := ⟨_, rfl⟩
    obtain ⟨rg11, erg11⟩ : ∃ f, f = upR rg h8 none := ⟨_, rfl⟩
    have kh8 : kd9 h8 = some (0, 0) := by rw [ekd9, upK_eq]
    have rnh8 : ∀ j, rg11 h8 j = none := fun j => by rw [erg11, upR_eq]
    rw [← ekd9, ← eig10, ← erg11] at hw hI hN hT
    have hsh := hI.sh
    have hrs := hI.rs
    refine lv_dup hx hb dX11_number_17 rfl ?_
    refine lv_iconst (v := 1) hx hb dX11_number_18 (by decide) (ti_c 1 (by decide) fun z12 hz12 => ?_)
    refine lv_iload_n hx hb dX11_number_19 rfl (lv_at hl 2 rfl) ?_
    refine lv_null hx hb dX11_number_20 ?_
    refine r_callI (As := [.int z12, .int y, .null]) (rest := [.ref h8, .int x, .ref (B + 9)]) C hw (t_X0_initNE l B D cA kd9 ig10 rg11 lg _ h8 kh8 bh8 z12 y (by omega) hI) sc_X11_101 rfl hl.1 rfl (Nat.le_of_ble_eq_true rfl) ⟨Nat.le_of_ble_eq_true rfl, Nat.le_of_ble_eq_true rfl⟩ ⟨Nat.le_of_ble_eq_true rfl, Nat.le_of_ble_eq_true rfl⟩ dX11_number_21 (fun r17 kd13 ig14 rg15 lg16 H locs hw hH hp18 => ?_)
    obtain ⟨hI, hchp18, hrhp18⟩ := hp18
    have kh8 := Nx.k hchp18 kh8
    have hT := hT.trx hchp18 tnoh8
    have hN := hN.trx hchp18 noh8
    have hsh := hI.sh
    have hrs := hI.rs
    obtain ⟨rfl, hc19⟩ := hrhp18
    rw [hz12] at hc19
    have hS := hS.nx hT
    have hV := hV.nx hT
    have hT : Nx 1022 B none kd13 ig14 rg15 lg16 kd13 ig14 rg15 lg16 := Nx.rf
    refine r_callV (As := [.int x, .ref h8]) (rest := []) C hw (t_X6_putE l B D cA kd13 ig14 rg15 lg16 _ x h8 (((1, y.toInt), (0, 0, 0), [])) hc19 σ π ν hS (by omega) (by omega) hI) sv_X11_104 (hsh 9 _ rfl) rfl hl.1 rfl (Nat.le_of_ble_eq_true rfl) ⟨Nat.le_of_ble_eq_true rfl, Nat.le_of_ble_eq_true rfl⟩ ⟨Nat.le_of_ble_eq_true rfl, Nat.le_of_ble_eq_true rfl⟩ dX11_number_24 (fun r24 kd20 ig21 rg22 lg23 H locs hw hH hp25 => ?_)
    obtain ⟨hI, hchp25, hrhp25⟩ := hp25
    have hN := hN.tr hchp25
    have hsh := hI.sh
    have hrs := hI.rs
    obtain ⟨rfl, hvhp25⟩ := hrhp25
    have hS := hvhp25.1
    have hV := FV.step (σ' := (upS σ x.toInt.toNat (((1, y.toInt), (0, 0, 0), [])))) hV hvhp25.2
    have hT : Nx 1022 B none kd20 ig21 rg22 lg23 kd20 ig21 rg22 lg23 := Nx.rf
    refine lv_iconst (v := 1) hx hb dX11_number_27 (by decide) (ti_c 1 (by decide) fun z26 hz26 => ?_)
    exact r_iret C hw hr hlk (nar_b (by omega)) (Nat.le_of_ble_eq_true rfl) (Nat.le_of_ble_eq_true rfl) dX11_number_28 ⟨hI, hN, ⟨_, rfl, ⟨_, _, _, hS, hV, (by first | exact Or.inl rfl | exact Or.inr ⟨rfl, rfl⟩), Or.inr ⟨by unfold onS; omega, by omega, rfl, rfl⟩⟩⟩⟩
  · refine lv_iconst (v := 0) hx hb dX11_number_7 (by decide) (ti_c 0 (by decide) fun z27 hz27 => ?_)
    exact r_iret C hw hr hlk (nar_b (by omega)) (Nat.le_of_ble_eq_true rfl) (Nat.le_of_ble_eq_true rfl) dX11_number_8 ⟨hI, hN, ⟨_, rfl, ⟨_, _, _, hS, hV, (by first | exact Or.inl rfl | exact Or.inr ⟨rfl, rfl⟩), Or.inl ⟨by unfold onS; omega, by omega, rfl, rfl⟩⟩⟩⟩

set_option maxHeartbeats 4000000 in
set_option maxRecDepth 100000 in
theorem t_X11_emptyE {τ : Tp} (l : Launch) (B : Nat) (D : va_G) (cA : Nat → ClassId) (kd : sK) (ig : sI) (rg : sR) (lg : sG) (sz : Nat) (x : Int32) (σ : Sg) (π : Ps) (ν : Nat) (hS : SCh B σ π ν kd ig rg) (hV : FV B σ ν ig) (hν : ν < 1000000) (hI : IC τ B kd ig rg) : MC l B D cA yX11_empty cX11_empty 2 (some .boolean) (rL 3 0 0) [.ref (B + 0), .int x] kd ig rg lg sz (PI 1016 τ B none kd ig rg lg (fun r kd' ig' rg' lg' => ∃ z : Int32, r = some (.int z) ∧ (∃ σ' π' ν', SCh B σ' π' ν' kd' ig' rg' ∧ FV B σ' ν' ig' ∧ (ν' = ν + 1 ∨ (ν' = ν ∧ σ' = σ)) ∧ stE σ π x.toInt z.toInt σ' π'))) := by
  refine MC.of (own := RX11) (by decide +kernel) rfl (Nat.le_of_ble_eq_true rfl) ?_
  intro p e s m args below meth c ls C hr hlk hnm hw hsz hl
  have hx := C.1.1
  have hb := C.1.2.1
  have hown := C.1.2.2.2.1
  have hts := C.1.2.2.2.2
  have hl : lv_has ls 2 [(0, .ref (B + 0)), (1, .int x)] := hl
  have hN : Nx 1016 B none kd ig rg lg kd ig rg lg := Nx.rf
  have hsh := hI.sh
  have hrs := hI.rs
  have hT : Nx 1022 B none kd ig rg lg kd ig rg lg := Nx.rf
  refine lv_iload_n hx hb dX11_empty_0 rfl (lv_at hl 1 rfl) ?_
  refine r_callS (As := [.int x]) (rest := []) C hw (t_X11_onSheet l B D cA kd ig rg lg _ x  hI) ss_X11_88 rfl hl.1 rfl (Nat.le_of_ble_eq_true rfl) ⟨Nat.le_of_ble_eq_true rfl, Nat.le_of_ble_eq_true rfl⟩ ⟨Nat.le_of_ble_eq_true rfl, Nat.le_of_ble_eq_true rfl⟩ dX11_empty_1 (fun r5 kd1 ig2 rg3 lg4 H locs hw hH hp6 => ?_)
  obtain ⟨rfl, rfl, rfl, rfl, hzhp6, hrhp6⟩ := hp6
  obtain ⟨z7, rfl, hz7⟩ := hrhp6
  refine z_ne (tgt := 9) hx hb dX11_empty_4 (by decide) (fun c4 => ?_) (fun c4 => ?_)
  · refine lv_aload_n hx hb dX11_empty_9 rfl (lv_at hl 0 rfl) ?_
    refine r_get C hw (hsh 0 _ rfl) fl_X11_19 (oV_r rfl (hrs (0, 1, 9) (by decide))) dX11_empty_10 ?_
    refine lv_iload_n hx hb dX11_empty_13 rfl (lv_at hl 1 rfl) ?_
    refine lv_aload_n hx hb dX11_empty_14 rfl (lv_at hl 0 rfl) ?_
    refine r_get C hw (hsh 0 _ rfl) fl_X11_19 (oV_r rfl (hrs (0, 1, 9) (by decide))) dX11_empty_15 ?_
    refine r_get C hw (hsh 9 _ rfl) fl_X11_108 (oV_r rfl (hrs (9, 0, 10) (by decide))) dX11_empty_18 ?_
    refine r_callV (As := [.int x, .ref (B + 10)]) (rest := []) C hw (t_X6_putE l B D cA kd ig rg lg _ x (B + 10) blk hS.2.1 σ π ν hS (by omega) (by omega) hI) sv_X11_104 (hsh 9 _ rfl) rfl hl.1 rfl (Nat.le_of_ble_eq_true rfl) ⟨Nat.le_of_ble_eq_true rfl, Nat.le_of_ble_eq_true rfl⟩ ⟨Nat.le_of_ble_eq_true rfl, Nat.le_of_ble_eq_true rfl⟩ dX11_empty_21 (fun r12 kd8 ig9 rg10 lg11 H locs hw hH hp13 => ?_)
    obtain ⟨hI, hchp13, hrhp13⟩ := hp13
    have hN := hN.tr hchp13
    have hsh := hI.sh
    have hrs := hI.rs
    obtain ⟨rfl, hvhp13⟩ := hrhp13
    have hS := hvhp13.1
    have hV := FV.step (σ' := (upS σ x.toInt.toNat blk)) hV hvhp13.2
    have hT : Nx 1022 B none kd8 ig9 rg10 lg11 kd8 ig9 rg10 lg11 := Nx.rf
    refine lv_iconst (v := 1) hx hb dX11_empty_24 (by decide) (ti_c 1 (by decide) fun z14 hz14 => ?_)
    exact r_iret C hw hr hlk (nar_b (by omega)) (Nat.le_of_ble_eq_true rfl) (Nat.le_of_ble_eq_true rfl) dX11_empty_25 ⟨hI, hN, ⟨_, rfl, ⟨_, _, _, hS, hV, (by first | exact Or.inl rfl | exact Or.inr ⟨rfl, rfl⟩), Or.inr ⟨by unfold onS; omega, by omega, rfl, rfl⟩⟩⟩⟩
  · refine lv_iconst (v := 0) hx hb dX11_empty_7 (by decide) (ti_c 0 (by decide) fun z15 hz15 => ?_)
    exact r_iret C hw hr hlk (nar_b (by omega)) (Nat.le_of_ble_eq_true rfl) (Nat.le_of_ble_eq_true rfl) dX11_empty_8 ⟨hI, hN, ⟨_, rfl, ⟨_, _, _, hS, hV, (by first | exact Or.inl rfl | exact Or.inr ⟨rfl, rfl⟩), Or.inl ⟨by unfold onS; omega, by omega, rfl, rfl⟩⟩⟩⟩

set_option maxHeartbeats 4000000 in
set_option maxRecDepth 100000 in
theorem t_X11_copyE {τ : Tp} (l : Launch) (B : Nat) (D : va_G) (cA : Nat → ClassId) (kd : sK) (ig : sI) (rg : sR) (lg : sG) (sz : Nat) (x : Int32) (y : Int32) (σ : Sg) (π : Ps) (ν : Nat) (hS : SCh B σ π ν kd ig rg) (hV : FV B σ ν ig) (hν : ν < 1000000) (hW : WS σ π) (hI : IC τ B kd ig rg) : MC l B D cA yX11_copy cX11_copy 4 (some .boolean) (rL 6 1 6) [.ref (B + 0), .int x, .int y] kd ig rg lg sz (PI 1016 τ B none kd ig rg lg (fun r kd' ig' rg' lg' => ∃ z : Int32, r = some (.int z) ∧ (∃ σ' π' ν', SCh B σ' π' ν' kd' ig' rg' ∧ FV B σ' ν' ig' ∧ (ν' = ν + 1 ∨ (ν' = ν ∧ σ' = σ)) ∧ stC σ π x.toInt y.toInt z.toInt σ' π'))) := by
  refine MC.of (own := RX11) (by decide +kernel) rfl (Nat.le_of_ble_eq_true rfl) ?_
  intro p e s m args below meth c ls C hr hlk hnm hw hsz hl
  have hx := C.1.1
  have hb := C.1.2.1
  have hown := C.1.2.2.2.1
  have hts := C.1.2.2.2.2
  have hl : lv_has ls 4 [(0, .ref (B + 0)), (1, .int x), (2, .int y)] := hl
  have hN : Nx 1016 B none kd ig rg lg kd ig rg lg := Nx.rf
  have hsh := hI.sh
  have hrs := hI.rs
  have hT : Nx 1022 B none kd ig rg lg kd ig rg lg := Nx.rf
  refine lv_iload_n hx hb dX11_copy_0 rfl (lv_at hl 1 rfl) ?_
  refine r_callS (As := [.int x]) (rest := []) C hw (t_X11_onSheet l B D cA kd ig rg lg _ x  hI) ss_X11_88 rfl hl.1 rfl (Nat.le_of_ble_eq_true rfl) ⟨Nat.le_of_ble_eq_true rfl, Nat.le_of_ble_eq_true rfl⟩ ⟨Nat.le_of_ble_eq_true rfl, Nat.le_of_ble_eq_true rfl⟩ dX11_copy_1 (fun r5 kd1 ig2 rg3 lg4 H locs hw hH hp6 => ?_)
  obtain ⟨rfl, rfl, rfl, rfl, hzhp6, hrhp6⟩ := hp6
  obtain ⟨z7, rfl, hz7⟩ := hrhp6
  refine z_eq (tgt := 14) hx hb dX11_copy_4 (by decide) (fun c4 => ?_) (fun c4 => ?_)
  · refine lv_iconst (v := 0) hx hb dX11_copy_14 (by decide) (ti_c 0 (by decide) fun z8 hz8 => ?_)
    exact r_iret C hw hr hlk (nar_b (by omega)) (Nat.le_of_ble_eq_true rfl) (Nat.le_of_ble_eq_true rfl) dX11_copy_15 ⟨hI, hN, ⟨_, rfl, ⟨_, _, _, hS, hV, (by first | exact Or.inl rfl | exact Or.inr ⟨rfl, rfl⟩), Or.inl ⟨fun w => (by have w1 := w.1; have w2 := w.2.1; unfold onS at w1 w2; omega), by omega, rfl, rfl⟩⟩⟩⟩
  · refine lv_iload_n hx hb dX11_copy_7 rfl (lv_at hl 2 rfl) ?_
    refine r_callS (As := [.int y]) (rest := []) C hw (t_X11_onSheet l B D cA kd ig rg lg _ y  hI) ss_X11_88 rfl hl.1 rfl (Nat.le_of_ble_eq_true rfl) ⟨Nat.le_of_ble_eq_true rfl, Nat.le_of_ble_eq_true rfl⟩ ⟨Nat.le_of_ble_eq_true rfl, Nat.le_of_ble_eq_true rfl⟩ dX11_copy_8 (fun r13 kd9 ig10 rg11 lg12 H locs hw hH hp14 => ?_)
    obtain ⟨rfl, rfl, rfl, rfl, hzhp14, hrhp14⟩ := hp14
    obtain ⟨z15, rfl, hz15⟩ := hrhp14
    refine z_ne (tgt := 16) hx hb dX11_copy_11 (by decide) (fun c11 => ?_) (fun c11 => ?_)
    · refine lv_aload_n hx hb dX11_copy_16 rfl (lv_at hl 0 rfl) ?_
      refine r_get C hw (hsh 0 _ rfl) fl_X11_19 (oV_r rfl (hrs (0, 1, 9) (by decide))) dX11_copy_17 ?_
      refine lv_iload_n hx hb dX11_copy_20 rfl (lv_at hl 1 rfl) ?_
      refine lv_iload_n hx hb dX11_copy_21 rfl (lv_at hl 2 rfl) ?_
      refine r_callV (As := [.int x, .int y]) (rest := []) C hw (t_X6_copyForE l B D cA kd ig rg lg _ x y σ π ν hS (fun q => (hW.wf q).2) (by omega) hI) sv_X11_112 (hsh 9 _ rfl) rfl hl.1 rfl (Nat.le_of_ble_eq_true rfl) ⟨Nat.le_of_ble_eq_true rfl, Nat.le_of_ble_eq_true rfl⟩ ⟨Nat.le_of_ble_eq_true rfl, Nat.le_of_ble_eq_true rfl⟩ dX11_copy_22 (fun r20 kd16 ig17 rg18 lg19 H locs hw hH hp21 => ?_)
      obtain ⟨hI, hchp21, hrhp21⟩ := hp21
      have hT := hT.tr hchp21
      have hN := hN.tr hchp21
      have hsh := hI.sh
      have hrs := hI.rs
      rcases hrhp21 with ⟨rfl, ftq22⟩ | ⟨q22, rfl, ftq22, hcq22⟩
      · refine lv_astore_nN (lv' := [(3, .null), (0, .ref (B + 0)), (1, .int x), (2, .int y)]) hx hb dX11_copy_25 rfl hl (by decide) rfl (fun ls hl => ?_)
        refine lv_aload_nN hx hb dX11_copy_26 rfl (lv_at hl 0 rfl) ?_
        refine lv_ifnonnullN hx hb dX11_copy_27 ?_
        refine lv_iconst (v := 0) hx hb dX11_copy_30 (by decide) (ti_c 0 (by decide) fun z23 hz23 => ?_)
        have hS := hS.nx hT
        have hV := hV.nx hT
        have hT : Nx 1022 B none kd16 ig17 rg18 lg19 kd16 ig17 rg18 lg19 := Nx.rf
        exact r_iret C hw hr hlk (nar_b (by omega)) (Nat.le_of_ble_eq_true rfl) (Nat.le_of_ble_eq_true rfl) dX11_copy_31 ⟨hI, hN, ⟨_, rfl, ⟨_, _, _, hS, hV, (by first | exact Or.inl rfl | exact Or.inr ⟨rfl, rfl⟩), Or.inl ⟨fun w => ftq22 w.2.2, by omega, rfl, rfl⟩⟩⟩⟩
      · obtain ⟨nq22, kq22⟩ := hcq22.kq
        refine lv_astore_n (lv' := [(3, .ref q22), (0, .ref (B + 0)), (1, .int x), (2, .int y)]) hx hb dX11_copy_25 rfl hl (by decide) rfl (fun ls hl => ?_)
        refine lv_aload_n hx hb dX11_copy_26 rfl (lv_at hl 0 rfl) ?_
        refine lv_ifnonnull (tgt := 32) hx hb dX11_copy_27 (by decide) ?_
        refine lv_aload_n hx hb dX11_copy_32 rfl (lv_at hl 1 rfl) ?_
        refine r_get C hw (hsh 0 _ rfl) fl_X11_19 (oV_r rfl (hrs (0, 1, 9) (by decide))) dX11_copy_33 ?_
        refine lv_iload_n hx hb dX11_copy_36 rfl (lv_at hl 3 rfl) ?_
        refine lv_aload_n hx hb dX11_copy_37 rfl (lv_at hl 0 rfl) ?_
        have hS := hS.nx hT
        have hV := hV.nx hT
        have hT : Nx 1022 B none kd16 ig17 rg18 lg19 kd16 ig17 rg18 lg19 := Nx.rf
        refine r_callV (As := [.int y, .ref q22]) (rest := []) C hw (t_X6_putE l B D cA kd16 ig17 rg18 lg19 _ y q22 (wuC (atC σ x.toInt)) hcq22 σ π ν hS (by omega) (by omega) hI) sv_X11_104 (hsh 9 _ rfl) rfl hl.1 rfl (Nat.le_of_ble_eq_true rfl) ⟨Nat.le_of_ble_eq_true rfl, Nat.le_of_ble_eq_true rfl⟩ ⟨Nat.le_of_ble_eq_true rfl, Nat.le_of_ble_eq_true rfl⟩ dX11_copy_38 (fun r28 kd24 ig25 rg26 lg27 H locs hw hH hp29 => ?_)
        obtain ⟨hI, hchp29, hrhp29⟩ := hp29
        have hN := hN.tr hchp29
        have hsh := hI.sh
        have hrs := hI.rs
        obtain ⟨rfl, hvhp29⟩ := hrhp29
        have hS := hvhp29.1
        have hV := FV.step (σ' := (upS σ y.toInt.toNat (wuC (atC σ x.toInt)))) hV hvhp29.2
        have hT : Nx 1022 B none kd24 ig25 rg26 lg27 kd24 ig25 rg26 lg27 := Nx.rf
        refine lv_iconst (v := 1) hx hb dX11_copy_41 (by decide) (ti_c 1 (by decide) fun z30 hz30 => ?_)
        exact r_iret C hw hr hlk (nar_b (by omega)) (Nat.le_of_ble_eq_true rfl) (Nat.le_of_ble_eq_true rfl) dX11_copy_42 ⟨hI, hN, ⟨_, rfl, ⟨_, _, _, hS, hV, (by first | exact Or.inl rfl | exact Or.inr ⟨rfl, rfl⟩), Or.inr ⟨⟨by unfold onS; omega, by unfold onS; omega, ftq22⟩, by omega, rfl, rfl⟩⟩⟩⟩
    · refine lv_iconst (v := 0) hx hb dX11_copy_14 (by decide) (ti_c 0 (by decide) fun z31 hz31 => ?_)
      exact r_iret C hw hr hlk (nar_b (by omega)) (Nat.le_of_ble_eq_true rfl) (Nat.le_of_ble_eq_true rfl) dX11_copy_15 ⟨hI, hN, ⟨_, rfl, ⟨_, _, _, hS, hV, (by first | exact Or.inl rfl | exact Or.inr ⟨rfl, rfl⟩), Or.inl ⟨fun w => (by have w1 := w.1; have w2 := w.2.1; unfold onS at w1 w2; omega), by omega, rfl, rfl⟩⟩⟩⟩

set_option maxHeartbeats 4000000 in
set_option maxRecDepth 100000 in
theorem t_X11_unitE {τ : Tp} (l : Launch) (B : Nat) (D : va_G) (cA : Nat → ClassId) (kd : sK) (ig : sI) (rg : sR) (lg : sG) (sz : Nat) (x : Int32) (y : Int32) (u : Int32) (w : Int32) (σ : Sg) (π : Ps) (ν : Nat) (hS : SCh B σ π ν kd ig rg) (hV : FV B σ ν ig) (hν : ν < 1000000) (hI : IC τ B kd ig rg) : MC l B D cA yX11_unit cX11_unit 5 (some .boolean) (rL 2 1 6) [.ref (B + 0), .int x, .int y, .int u, .int w] kd ig rg lg sz (PI 1016 τ B none kd ig rg lg (fun r kd' ig' rg' lg' => ∃ z : Int32, r = some (.int z) ∧ (∃ σ' π' ν', SCh B σ' π' ν' kd' ig' rg' ∧ FV B σ' ν' ig' ∧ (ν' = ν + 1 ∨ (ν' = ν ∧ σ' = σ)) ∧ stU σ π x.toInt z.toInt σ' π' y.toInt u.toInt w.toInt))) := by
  refine MC.of (own := RX11) (by decide +kernel) rfl (Nat.le_of_ble_eq_true rfl) ?_
  intro p e s m args below meth c ls C hr hlk hnm hw hsz hl
  have hx := C.1.1
  have hb := C.1.2.1
  have hown := C.1.2.2.2.1
  have hts := C.1.2.2.2.2
  have hl : lv_has ls 5 [(0, .ref (B + 0)), (1, .int x), (2, .int y), (3, .int u), (4, .int w)] := hl
  have hN : Nx 1016 B none kd ig rg lg kd ig rg lg := Nx.rf
  have hsh := hI.sh
  have hrs := hI.rs
  have hT : Nx 1022 B none kd ig rg lg kd ig rg lg := Nx.rf
  refine lv_aload_n hx hb dX11_unit_0 rfl (lv_at hl 0 rfl) ?_
  refine r_get C hw (hsh 0 _ rfl) fl_X11_19 (oV_r rfl (hrs (0, 1, 9) (by decide))) dX11_unit_1 ?_
  refine lv_iload_n hx hb dX11_unit_4 rfl (lv_at hl 1 rfl) ?_
  refine r_callV (As := [.int x]) (rest := []) C hw (t_X6_kindAtE l B D cA kd ig rg lg _ x σ π ν hS hI) sv_X11_116 (hsh 9 _ rfl) rfl hl.1 rfl (Nat.le_of_ble_eq_true rfl) ⟨Nat.le_of_ble_eq_true rfl, Nat.le_of_ble_eq_true rfl⟩ ⟨Nat.le_of_ble_eq_true rfl, Nat.le_of_ble_eq_true rfl⟩ dX11_unit_5 (fun r5 kd1 ig2 rg3 lg4 H locs hw hH hp6 => ?_)
  obtain ⟨rfl, rfl, rfl, rfl, hzhp6, hrhp6⟩ := hp6
  obtain ⟨z7, rfl, hz7⟩ := hrhp6
  refine lv_iconst (v := 1) hx hb dX11_unit_8 (by decide) (ti_c 1 (by decide) fun z8 hz8 => ?_)
  refine b_eq (tgt := 14) hx hb dX11_unit_9 (by decide) (fun c9 => ?_) (fun c9 => ?_)
  · have hx0 := atC_k (σ := σ) (x := x.toInt) (by omega)
    refine lv_iload_n hx hb dX11_unit_14 rfl (lv_at hl 2 rfl) ?_
    refine r_callS (As := [.int y]) (rest := []) C hw (t_X11_isExponentE l B D cA kd ig rg lg _ y  hI) ss_X11_120 rfl hl.1 rfl (Nat.le_of_ble_eq_true rfl) ⟨Nat.le_of_ble_eq_true rfl, Nat.le_of_ble_eq_true rfl⟩ ⟨Nat.le_of_ble_eq_true rfl, Nat.le_of_ble_eq_true rfl⟩ dX11_unit_15 (fun r13 kd9 ig10 rg11 lg12 H locs hw hH hp14 => ?_)
    obtain ⟨rfl, rfl, rfl, rfl, hzhp14, hrhp14⟩ := hp14
    obtain ⟨z15, rfl, hz15⟩ := hrhp14
    have u1 := hz15
    refine z_eq (tgt := 36) hx hb dX11_unit_18 (by decide) (fun c18 => ?_) (fun c18 => ?_)
    · refine lv_iconst (v := 0) hx hb dX11_unit_36 (by decide) (ti_c 0 (by decide) fun z16 hz16 => ?_)
      exact r_iret C hw hr hlk (nar_b (by omega)) (Nat.le_of_ble_eq_true rfl) (Nat.le_of_ble_eq_true rfl) dX11_unit_37 ⟨hI, hN, ⟨_, rfl, ⟨_, _, _, hS, hV, (by first | exact Or.inl rfl | exact Or.inr ⟨rfl, rfl⟩), Or.inl ⟨fun w => by0 u1 (by omega) w.2.1, by omega, rfl, rfl⟩⟩⟩⟩
    · refine lv_iload_n hx hb dX11_unit_21 rfl (lv_at hl 3 rfl) ?_
      refine r_callS (As := [.int u]) (rest := []) C hw (t_X11_isExponentE l B D cA kd ig rg lg _ u  hI) ss_X11_120 rfl hl.1 rfl (Nat.le_of_ble_eq_true rfl) ⟨Nat.le_of_ble_eq_true rfl, Nat.le_of_ble_eq_true rfl⟩ ⟨Nat.le_of_ble_eq_true rfl, Nat.le_of_ble_eq_true rfl⟩ dX11_unit_22 (fun r21 kd17 ig18 rg19 lg20 H locs hw hH hp22 => ?_)
      obtain ⟨rfl, rfl, rfl, rfl, hzhp22, hrhp22⟩ := hp22
      obtain ⟨z23, rfl, hz23⟩ := hrhp22
      have u2 := hz23
      refine z_eq (tgt := 36) hx hb dX11_unit_25 (by decide) (fun c25 => ?_) (fun c25 => ?_)
      · refine lv_iconst (v := 0) hx hb dX11_unit_36 (by decide) (ti_c 0 (by decide) fun z24 hz24 => ?_)
        exact r_iret C hw hr hlk (nar_b (by omega)) (Nat.le_of_ble_eq_true rfl) (Nat.le_of_ble_eq_true rfl) dX11_unit_37 ⟨hI, hN, ⟨_, rfl, ⟨_, _, _, hS, hV, (by first | exact Or.inl rfl | exact Or.inr ⟨rfl, rfl⟩), Or.inl ⟨fun w => by0 u2 (by omega) w.2.2.1, by omega, rfl, rfl⟩⟩⟩⟩
      · refine lv_iload hx hb dX11_unit_28 (lv_at hl 4 rfl) ?_
        refine r_callS (As := [.int w]) (rest := []) C hw (t_X11_isExponentE l B D cA kd ig rg lg _ w  hI) ss_X11_120 rfl hl.1 rfl (Nat.le_of_ble_eq_true rfl) ⟨Nat.le_of_ble_eq_true rfl, Nat.le_of_ble_eq_true rfl⟩ ⟨Nat.le_of_ble_eq_true rfl, Nat.le_of_ble_eq_true rfl⟩ dX11_unit_30 (fun r29 kd25 ig26 rg27 lg28 H locs hw hH hp30 => ?_)
        obtain ⟨rfl, rfl, rfl, rfl, hzhp30, hrhp30⟩ := hp30
        obtain ⟨z31, rfl, hz31⟩ := hrhp30
        have u3 := hz31
        refine z_ne (tgt := 38) hx hb dX11_unit_33 (by decide) (fun c33 => ?_) (fun c33 => ?_)
        · refine lv_aload_n hx hb dX11_unit_38 rfl (lv_at hl 0 rfl) ?_
          refine r_get C hw (hsh 0 _ rfl) fl_X11_19 (oV_r rfl (hrs (0, 1, 9) (by decide))) dX11_unit_39 ?_
          refine lv_iload_n hx hb dX11_unit_42 rfl (lv_at hl 1 rfl) ?_
          obtain ⟨h32, sh32⟩ : ∃ h, H.size = h := ⟨_, rfl⟩
          have oh32 : kd h32 = none := by have h9 := hw.fresh; rw [sh32] at h9; exact h9
          have bh32 : B + 80 ≤ h32 := by have h9 := hw.lt (hsh 79 _ rfl); omega
          have tnoh32 := hT.no oh32
          have noh32 := hN.no oh32
          have hI := IC.new (k := 0) (n := 0) hI oh32 bh32
          have hT := Nx.new (k := 0) (n := 0) hT oh32 bh32
          have hN := Nx.new (k := 0) (n := 0) hN oh32 bh32
          refine r_new (k := 0) (t0 := tyX0) C hw rfl (by decide) rfl inT0 tyX0_ok dfX0 cl_X11_99 it_0 id_0 (Nat.le_of_ble_eq_true rfl) (Nat.le_of_ble_eq_true rfl) dX11_unit_43 sh32 (fun H hsz hw => ?_)
          obtain ⟨kd33, ekd33⟩ : ∃ f, f = upK kd h32 0 0 := ⟨_, rfl⟩
          obtain ⟨ig34, eig34⟩ : ∃ f, f = upR ig h32 0 := ⟨_, rfl⟩
          obtain ⟨rg35, erg35⟩ : ∃ f, f = upR rg h32 none := ⟨_, rfl⟩
          have kh32 : kd33 h32 = some (0, 0) := by rw [ekd33, upK_eq]
          have rnh32 : ∀ j, rg35 h32 j = none := fun j => by rw [erg35, upR_eq]
          rw [← ekd33, ← eig34, ← erg35] at hw hI hN hT
          have hsh := hI.sh
          have hrs := hI.rs
          refine lv_dup hx hb dX11_unit_46 rfl ?_
          refine lv_aload_n hx hb dX11_unit_47 rfl (lv_at hl 0 rfl) ?_
          refine r_get C hw (hsh 0 _ rfl) fl_X11_19 (oV_r rfl (hrs (0, 1, 9) (by decide))) dX11_unit_48 ?_
          refine lv_iload_n hx hb dX11_unit_51 rfl (lv_at hl 1 rfl) ?_
          refine r_callV (As := [.int x]) (rest := [.ref h32, .ref h32, .int x, .ref (B + 9)]) C hw (t_X6_atE l B D cA kd33 ig34 rg35 lg _ x σ π ν (hS.nx hT) hI) sv_X11_123 (hsh 9 _ rfl) rfl hl.1 rfl (Nat.le_of_ble_eq_true rfl) ⟨Nat.le_of_ble_eq_true rfl, Nat.le_of_ble_eq_true rfl⟩ ⟨Nat.le_of_ble_eq_true rfl, Nat.le_of_ble_eq_true rfl⟩ dX11_unit_52 (fun r40 kd36 ig37 rg38 lg39 H locs hw hH hp41 => ?_)
          obtain ⟨rfl, rfl, rfl, rfl, hzhp41, hrhp41⟩ := hp41
          obtain ⟨q42, rfl, hcq42⟩ := hrhp41
          obtain ⟨nq42, kq42⟩ := hcq42.kq
          refine r_get C hw kq42 fl_X11_127 (oV_i rfl) dX11_unit_55 (ti_c (ig34 q42 1).toInt rfl fun z43 hz43 => ?_)
          have hfz43 : z43.toInt = (atC σ x.toInt).1.2 := hz43.trans hcq42.2.2.1.2.1
          have un9 : z43.toInt = (atC σ x.toInt).1.2 := hfz43
          refine lv_iload_n hx hb dX11_unit_58 rfl (lv_at hl 2 rfl) ?_
          refine lv_iload_n hx hb dX11_unit_59 rfl (lv_at hl 3 rfl) ?_
          refine lv_iload hx hb dX11_unit_60 (lv_at hl 4 rfl) ?_
          refine r_callI (As := [.int z43, .int y, .int u, .int w]) (rest := [.ref h32, .int x, .ref (B + 9)]) C hw (t_X0_init4E l B D cA kd33 ig34 rg35 lg _ h32 kh32 bh32 z43 y u w  hI) sc_X11_130 rfl hl.1 rfl (Nat.le_of_ble_eq_true rfl) ⟨Nat.le_of_ble_eq_true rfl, Nat.le_of_ble_eq_true rfl⟩ ⟨Nat.le_of_ble_eq_true rfl, Nat.le_of_ble_eq_true rfl⟩ dX11_unit_62 (fun r48 kd44 ig45 rg46 lg47 H locs hw hH hp49 => ?_)
          obtain ⟨hI, hchp49, hrhp49⟩ := hp49
          have kh32 := Nx.k hchp49 kh32
          have hT := hT.trx hchp49 tnoh32
          have hN := hN.trx hchp49 noh32
          have hsh := hI.sh
          have hrs := hI.rs
          obtain ⟨rfl, hc50⟩ := hrhp49
          have hS := hS.nx hT
          have hV := hV.nx hT
          have hT : Nx 1022 B none kd44 ig45 rg46 lg47 kd44 ig45 rg46 lg47 := Nx.rf
          refine r_callV (As := [.int x, .ref h32]) (rest := []) C hw (t_X6_replaceE l B D cA kd44 ig45 rg46 lg47 _ x h32 (((1, z43.toInt), (y.toInt, u.toInt, w.toInt), [])) hc50 σ π ν hS (by omega) (by omega) hI) sv_X11_133 (hsh 9 _ rfl) rfl hl.1 rfl (Nat.le_of_ble_eq_true rfl) ⟨Nat.le_of_ble_eq_true rfl, Nat.le_of_ble_eq_true rfl⟩ ⟨Nat.le_of_ble_eq_true rfl, Nat.le_of_ble_eq_true rfl⟩ dX11_unit_65 (fun r55 kd51 ig52 rg53 lg54 H locs hw hH hp56 => ?_)
          obtain ⟨hI, hchp56, hrhp56⟩ := hp56
          have hN := hN.tr hchp56
          have hsh := hI.sh
          have hrs := hI.rs
          obtain ⟨rfl, hvhp56⟩ := hrhp56
          have hS := hvhp56.1
          have hV := FV.step (σ' := (upS σ x.toInt.toNat (((1, z43.toInt), (y.toInt, u.toInt, w.toInt), [])))) hV hvhp56.2
          have hT : Nx 1022 B none kd51 ig52 rg53 lg54 kd51 ig52 rg53 lg54 := Nx.rf
          refine lv_iconst (v := 1) hx hb dX11_unit_68 (by decide) (ti_c 1 (by decide) fun z57 hz57 => ?_)
          exact r_iret C hw hr hlk (nar_b (by omega)) (Nat.le_of_ble_eq_true rfl) (Nat.le_of_ble_eq_true rfl) dX11_unit_69 ⟨hI, hN, ⟨_, rfl, ⟨_, _, _, hS, hV, (by first | exact Or.inl rfl | exact Or.inr ⟨rfl, rfl⟩), Or.inr ⟨⟨by omega, by1 u1 (by omega), by1 u2 (by omega), by1 u3 (by omega)⟩, by omega, by rw [uCl, ← un9], rfl⟩⟩⟩⟩
        · refine lv_iconst (v := 0) hx hb dX11_unit_36 (by decide) (ti_c 0 (by decide) fun z58 hz58 => ?_)
          exact r_iret C hw hr hlk (nar_b (by omega)) (Nat.le_of_ble_eq_true rfl) (Nat.le_of_ble_eq_true rfl) dX11_unit_37 ⟨hI, hN, ⟨_, rfl, ⟨_, _, _, hS, hV, (by first | exact Or.inl rfl | exact Or.inr ⟨rfl, rfl⟩), Or.inl ⟨fun w => by0 u3 (by omega) w.2.2.2, by omega, rfl, rfl⟩⟩⟩⟩
  · refine lv_iconst (v := 0) hx hb dX11_unit_12 (by decide) (ti_c 0 (by decide) fun z59 hz59 => ?_)
    exact r_iret C hw hr hlk (nar_b (by omega)) (Nat.le_of_ble_eq_true rfl) (Nat.le_of_ble_eq_true rfl) dX11_unit_13 ⟨hI, hN, ⟨_, rfl, ⟨_, _, _, hS, hV, (by first | exact Or.inl rfl | exact Or.inr ⟨rfl, rfl⟩), Or.inl ⟨fun w => (by have w1 := w.1; omega), by omega, rfl, rfl⟩⟩⟩⟩

set_option maxHeartbeats 4000000 in
set_option maxRecDepth 100000 in
theorem t_X11_formulaE {τ : Tp} (l : Launch) (B : Nat) (D : va_G) (cA : Nat → ClassId) (kd : sK) (ig : sI) (rg : sR) (lg : sG) (sz : Nat) (x : Int32) (hP : Prt τ) (σ : Sg) (π : Ps) (ν : Nat) (hS : SCh B σ π ν kd ig rg) (hV : FV B σ ν ig) (hν : ν < 1000000) (hI : IC τ B kd ig rg) : MC l B D cA yX11_formula cX11_formula 3 (some .int) (rL 45 5 369) [.ref (B + 0), .int x] kd ig rg lg sz (PI 1016 [] B none kd ig rg lg (fun r kd' ig' rg' lg' => ∃ z : Int32, r = some (.int z) ∧ (∃ σ' π' ν', SCh B σ' π' ν' kd' ig' rg' ∧ FV B σ' ν' ig' ∧ (ν' = ν + 1 ∨ (ν' = ν ∧ σ' = σ)) ∧ stF τ σ π x.toInt z.toInt σ' π'))) := by
  refine MC.of (own := RX11) (by decide +kernel) rfl (Nat.le_of_ble_eq_true rfl) ?_
  intro p e s m args below meth c ls C hr hlk hnm hw hsz hl
  have hx := C.1.1
  have hb := C.1.2.1
  have hown := C.1.2.2.2.1
  have hts := C.1.2.2.2.2
  have hl : lv_has ls 3 [(0, .ref (B + 0)), (1, .int x)] := hl
  have hN : Nx 1016 B none kd ig rg lg kd ig rg lg := Nx.rf
  have hsh := hI.sh
  have hrs := hI.rs
  have hT : Nx 1022 B none kd ig rg lg kd ig rg lg := Nx.rf
  refine lv_iload_n hx hb dX11_formula_0 rfl (lv_at hl 1 rfl) ?_
  refine r_callS (As := [.int x]) (rest := []) C hw (t_X11_onSheet l B D cA kd ig rg lg _ x  hI) ss_X11_88 rfl hl.1 rfl (Nat.le_of_ble_eq_true rfl) ⟨Nat.le_of_ble_eq_true rfl, Nat.le_of_ble_eq_true rfl⟩ ⟨Nat.le_of_ble_eq_true rfl, Nat.le_of_ble_eq_true rfl⟩ dX11_formula_1 (fun r5 kd1 ig2 rg3 lg4 H locs hw hH hp6 => ?_)
  obtain ⟨rfl, rfl, rfl, rfl, hzhp6, hrhp6⟩ := hp6
  obtain ⟨z7, rfl, hz7⟩ := hrhp6
  refine z_ne (tgt := 17) hx hb dX11_formula_4 (by decide) (fun c4 => ?_) (fun c4 => ?_)
  · have hon : onS x.toInt := by unfold onS; omega
    refine lv_aload_n hx hb dX11_formula_17 rfl (lv_at hl 0 rfl) ?_
    refine r_get C hw (hsh 0 _ rfl) fl_X11_12 (oV_r rfl (hrs (0, 0, 1) (by decide))) dX11_formula_18 ?_
    refine lv_iload_n hx hb dX11_formula_21 rfl (lv_at hl 1 rfl) ?_
    refine r_callV (As := [.int x]) (rest := []) C hw (t_X7_readE l B D cA kd ig rg lg _ x (by omega) hP hI) sv_X11_92 (hsh 1 _ rfl) rfl hl.1 rfl (Nat.le_of_ble_eq_true rfl) ⟨Nat.le_of_ble_eq_true rfl, Nat.le_of_ble_eq_true rfl⟩ ⟨Nat.le_of_ble_eq_true rfl, Nat.le_of_ble_eq_true rfl⟩ dX11_formula_22 (fun r12 kd8 ig9 rg10 lg11 H locs hw hH hp13 => ?_)
    obtain ⟨hI, hchp13, hrhp13⟩ := hp13
    have hT := hT.tr hchp13
    have hN := hN.tr hchp13
    have hsh := hI.sh
    have hrs := hI.rs
    rcases hrhp13 with ⟨rfl, fq, hfq, ptq, h8q⟩ | ⟨f14, Lf14, rfl, hLf14, ptf14, ttf14, fwf14⟩
    · refine lv_astore_nN (lv' := [(2, .null), (0, .ref (B + 0)), (1, .int x)]) hx hb dX11_formula_25 rfl hl (by decide) rfl (fun ls hl => ?_)
      refine lv_aload_n hx hb dX11_formula_26 rfl (lv_at hl 1 rfl) ?_
      refine r_get C hw (hsh 0 _ rfl) fl_X11_12 (oV_r rfl (hrs (0, 0, 1) (by decide))) dX11_formula_27 ?_
      refine lv_iconst (v := 0) hx hb dX11_formula_30 (by decide) (ti_c 0 (by decide) fun z15 hz15 => ?_)
      refine r_puti C hw (hsh 1 _ rfl) fl_X11_84 rfl rfl rfl dX11_formula_31 (fun H locs hH hw => ?_)
      obtain ⟨ig16, eig16⟩ : ∃ f, f = up2 ig9 (B + 1) 1 z15 := ⟨_, rfl⟩
      rw [← eig16] at hw
      have hT : Nx 1022 B none kd ig rg lg kd8 ig16 rg10 lg11 := by rw [eig16]; exact hT.pi (by omega)
      have hN : Nx 1016 B none kd ig rg lg kd8 ig16 rg10 lg11 := by rw [eig16]; exact hN.pi (by omega)
      have hI : IC [] B kd8 ig16 rg10 := by rw [eig16]; exact hI.clr (by omega)
      refine lv_aload_nN hx hb dX11_formula_34 rfl (lv_at hl 0 rfl) ?_
      refine lv_ifnonnullN hx hb dX11_formula_35 ?_
      refine lv_aload_n hx hb dX11_formula_38 rfl (lv_at hl 1 rfl) ?_
      refine r_get C hw (hsh 0 _ rfl) fl_X11_12 (oV_r rfl (hrs (0, 0, 1) (by decide))) dX11_formula_39 ?_
      refine r_get C hw (hsh 1 _ rfl) fl_X11_96 (oV_i rfl) dX11_formula_42 (ti_c (ig16 (B + 1) 8).toInt rfl fun z17 hz17 => ?_)
      have ez9 : z17.toInt = fq := by rw [hz17, eig16, up2_j (by decide)]; exact h8q
      have hS := hS.nx hT
      have hV := hV.nx hT
      have hT : Nx 1022 B none kd8 ig16 rg10 lg11 kd8 ig16 rg10 lg11 := Nx.rf
      exact r_iret C hw hr hlk rfl (Nat.le_of_ble_eq_true rfl) (Nat.le_of_ble_eq_true rfl) dX11_formula_45 ⟨hI, hN, ⟨_, rfl, ⟨_, _, _, hS, hV, (by first | exact Or.inl rfl | exact Or.inr ⟨rfl, rfl⟩), Or.inr ⟨hon, Or.inl ⟨by rw [ez9]; exact hfq, by rw [ez9]; exact ptq, rfl, rfl⟩⟩⟩⟩⟩
    · have lf14 := hLf14.le
      refine lv_astore_n (lv' := [(2, .ref f14), (0, .ref (B + 0)), (1, .int x)]) hx hb dX11_formula_25 rfl hl (by decide) rfl (fun ls hl => ?_)
      refine lv_aload_n hx hb dX11_formula_26 rfl (lv_at hl 1 rfl) ?_
      refine r_get C hw (hsh 0 _ rfl) fl_X11_12 (oV_r rfl (hrs (0, 0, 1) (by decide))) dX11_formula_27 ?_
      refine lv_iconst (v := 0) hx hb dX11_formula_30 (by decide) (ti_c 0 (by decide) fun z18 hz18 => ?_)
      refine r_puti C hw (hsh 1 _ rfl) fl_X11_84 rfl rfl rfl dX11_formula_31 (fun H locs hH hw => ?_)
      obtain ⟨ig19, eig19⟩ : ∃ f, f = up2 ig9 (B + 1) 1 z18 := ⟨_, rfl⟩
      rw [← eig19] at hw
      have hT : Nx 1022 B none kd ig rg lg kd8 ig19 rg10 lg11 := by rw [eig19]; exact hT.pi (by omega)
      have hN : Nx 1016 B none kd ig rg lg kd8 ig19 rg10 lg11 := by rw [eig19]; exact hN.pi (by omega)
      have hI : IC [] B kd8 ig19 rg10 := by rw [eig19]; exact hI.clr (by omega)
      have hLf14 : FnL B kd8 ig19 rg10 f14 (Lf14) := by rw [eig19]; exact FnL.ag hLf14 (fun a j ha => up2_a (by omega)) (fun _ _ _ => rfl)
      refine lv_aload_n hx hb dX11_formula_34 rfl (lv_at hl 0 rfl) ?_
      refine lv_ifnonnull (tgt := 46) hx hb dX11_formula_35 (by decide) ?_
      refine lv_aload_n hx hb dX11_formula_46 rfl (lv_at hl 1 rfl) ?_
      refine r_get C hw (hsh 0 _ rfl) fl_X11_19 (oV_r rfl (hrs (0, 1, 9) (by decide))) dX11_formula_47 ?_
      refine lv_iload_n hx hb dX11_formula_50 rfl (lv_at hl 2 rfl) ?_
      obtain ⟨h20, sh20⟩ : ∃ h, H.size = h := ⟨_, rfl⟩
      have oh20 : kd8 h20 = none := by have h9 := hw.fresh; rw [sh20] at h9; exact h9
      have bh20 : B + 80 ≤ h20 := by have h9 := hw.lt (hsh 79 _ rfl); omega
      have tnoh20 := hT.no oh20
      have noh20 := hN.no oh20
      have hI := IC.new (k := 0) (n := 0) hI oh20 bh20
      have hT := Nx.new (k := 0) (n := 0) hT oh20 bh20
      have hN := Nx.new (k := 0) (n := 0) hN oh20 bh20
      refine r_new (k := 0) (t0 := tyX0) C hw rfl (by decide) rfl inT0 tyX0_ok dfX0 cl_X11_99 it_0 id_0 (Nat.le_of_ble_eq_true rfl) (Nat.le_of_ble_eq_true rfl) dX11_formula_51 sh20 (fun H hsz hw => ?_)
      obtain ⟨kd21, ekd21⟩ : ∃ f, f = upK kd8 h20 0 0 := ⟨_, rfl⟩
      obtain ⟨ig22, eig22⟩ : ∃ f, f = upR ig19 h20 0 := ⟨_, rfl⟩
      obtain ⟨rg23, erg23⟩ : ∃ f, f = upR rg10 h20 none := ⟨_, rfl⟩
      have kh20 : kd21 h20 = some (0, 0) := by rw [ekd21, upK_eq]
      have rnh20 : ∀ j, rg23 h20 j = none := fun j => by rw [erg23, upR_eq]
      rw [← ekd21, ← eig22, ← erg23] at hw hI hN hT
      have hsh := hI.sh
      have hrs := hI.rs
      have hLf14 : FnL B kd21 ig22 rg23 f14 (Lf14) := by rw [ekd21, eig22, erg23]; exact FnL.nx hLf14 (Nx.new (b := 0) (k := 0) (n := 0) (lg := lg) Nx.rf oh20 bh20)
      refine lv_dup hx hb dX11_formula_54 rfl ?_
      refine lv_iconst (v := 2) hx hb dX11_formula_55 (by decide) (ti_c 2 (by decide) fun z24 hz24 => ?_)
      refine lv_iconst (v := 0) hx hb dX11_formula_56 (by decide) (ti_c 0 (by decide) fun z25 hz25 => ?_)
      refine lv_aload_n hx hb dX11_formula_57 rfl (lv_at hl 0 rfl) ?_
      refine r_callI (As := [.int z24, .int z25, .ref f14]) (rest := [.ref h20, .int x, .ref (B + 9)]) C hw (t_X0_initFE l B D cA kd21 ig22 rg23 lg11 _ h20 kh20 bh20 z24 z25 f14 (Lf14) hLf14 (by omega) hI) sc_X11_101 rfl hl.1 rfl (Nat.le_of_ble_eq_true rfl) ⟨Nat.le_of_ble_eq_true rfl, Nat.le_of_ble_eq_true rfl⟩ ⟨Nat.le_of_ble_eq_true rfl, Nat.le_of_ble_eq_true rfl⟩ dX11_formula_58 (fun r30 kd26 ig27 rg28 lg29 H locs hw hH hp31 => ?_)
      obtain ⟨hI, hchp31, hrhp31⟩ := hp31
      have kh20 := Nx.k hchp31 kh20
      have hT := hT.trx hchp31 tnoh20
      have hN := hN.trx hchp31 noh20
      have hsh := hI.sh
      have hrs := hI.rs
      obtain ⟨rfl, hc32⟩ := hrhp31
      rw [hz24] at hc32
      rw [hz25] at hc32
      have hS := hS.nx hT
      have hV := hV.nx hT
      have hT : Nx 1022 B none kd26 ig27 rg28 lg29 kd26 ig27 rg28 lg29 := Nx.rf
      refine r_callV (As := [.int x, .ref h20]) (rest := []) C hw (t_X6_putE l B D cA kd26 ig27 rg28 lg29 _ x h20 (((2, 0), (0, 0, 0), (Lf14))) hc32 σ π ν hS (by omega) (by omega) hI) sv_X11_104 (hsh 9 _ rfl) rfl hl.1 rfl (Nat.le_of_ble_eq_true rfl) ⟨Nat.le_of_ble_eq_true rfl, Nat.le_of_ble_eq_true rfl⟩ ⟨Nat.le_of_ble_eq_true rfl, Nat.le_of_ble_eq_true rfl⟩ dX11_formula_61 (fun r37 kd33 ig34 rg35 lg36 H locs hw hH hp38 => ?_)
      obtain ⟨hI, hchp38, hrhp38⟩ := hp38
      have hN := hN.tr hchp38
      have hsh := hI.sh
      have hrs := hI.rs
      obtain ⟨rfl, hvhp38⟩ := hrhp38
      have hS := hvhp38.1
      have hV := FV.step (σ' := (upS σ x.toInt.toNat (((2, 0), (0, 0, 0), (Lf14))))) hV hvhp38.2
      have hT : Nx 1022 B none kd33 ig34 rg35 lg36 kd33 ig34 rg35 lg36 := Nx.rf
      refine lv_iconst (v := 0) hx hb dX11_formula_64 (by decide) (ti_c 0 (by decide) fun z39 hz39 => ?_)
      exact r_iret C hw hr hlk rfl (Nat.le_of_ble_eq_true rfl) (Nat.le_of_ble_eq_true rfl) dX11_formula_65 ⟨hI, hN, ⟨_, rfl, ⟨_, _, _, hS, hV, (by first | exact Or.inl rfl | exact Or.inr ⟨rfl, rfl⟩), Or.inr ⟨hon, Or.inr ⟨by omega, ptf14, Lf14, ttf14, fwf14, rfl, rfl⟩⟩⟩⟩⟩
  · refine lv_aload_n hx hb dX11_formula_7 rfl (lv_at hl 0 rfl) ?_
    refine r_get C hw (hsh 0 _ rfl) fl_X11_12 (oV_r rfl (hrs (0, 0, 1) (by decide))) dX11_formula_8 ?_
    refine lv_iconst (v := 0) hx hb dX11_formula_11 (by decide) (ti_c 0 (by decide) fun z40 hz40 => ?_)
    refine r_puti C hw (hsh 1 _ rfl) fl_X11_84 rfl rfl rfl dX11_formula_12 (fun H locs hH hw => ?_)
    obtain ⟨ig41, eig41⟩ : ∃ f, f = up2 ig (B + 1) 1 z40 := ⟨_, rfl⟩
    rw [← eig41] at hw
    have hT : Nx 1022 B none kd ig rg lg kd ig41 rg lg := by rw [eig41]; exact hT.pi (by omega)
    have hN : Nx 1016 B none kd ig rg lg kd ig41 rg lg := by rw [eig41]; exact hN.pi (by omega)
    have hI : IC [] B kd ig41 rg := by rw [eig41]; exact hI.clr (by omega)
    refine lv_iconst (v := (-1)) hx hb dX11_formula_15 (by decide) (ti_c (-1) (by decide) fun z42 hz42 => ?_)
    have hS := hS.nx hT
    have hV := hV.nx hT
    have hT : Nx 1022 B none kd ig41 rg lg kd ig41 rg lg := Nx.rf
    exact r_iret C hw hr hlk rfl (Nat.le_of_ble_eq_true rfl) (Nat.le_of_ble_eq_true rfl) dX11_formula_16 ⟨hI, hN, ⟨_, rfl, ⟨_, _, _, hS, hV, (by first | exact Or.inl rfl | exact Or.inr ⟨rfl, rfl⟩), Or.inl ⟨by unfold onS; omega, by omega, rfl, rfl⟩⟩⟩⟩

set_option maxHeartbeats 4000000 in
set_option maxRecDepth 100000 in
theorem t_X11_mendE {τ : Tp} (l : Launch) (B : Nat) (D : va_G) (cA : Nat → ClassId) (kd : sK) (ig : sI) (rg : sR) (lg : sG) (sz : Nat) (x : Int32) (σ : Sg) (π : Ps) (ν : Nat) (hS : SCh B σ π ν kd ig rg) (hV : FV B σ ν ig) (hν : ν < 1000000) (hW : WS σ π) (hI : IC τ B kd ig rg) : MC l B D cA yX11_mend cX11_mend 4 (some .int) (rL 7 1 6) [.ref (B + 0), .int x] kd ig rg lg sz (PI 736 τ B none kd ig rg lg (fun r kd' ig' rg' lg' => ∃ z : Int32, r = some (.int z) ∧ (∃ σ' π' ν', SCh B σ' π' ν' kd' ig' rg' ∧ FV B σ' ν' ig' ∧ (ν' = ν + 1 ∨ (ν' = ν ∧ σ' = σ)) ∧ stM σ π x.toInt σ' π'))) := by
  refine MC.of (own := RX11) (by decide +kernel) rfl (Nat.le_of_ble_eq_true rfl) ?_
  intro p e s m args below meth c ls C hr hlk hnm hw hsz hl
  have hx := C.1.1
  have hb := C.1.2.1
  have hown := C.1.2.2.2.1
  have hts := C.1.2.2.2.2
  have hl : lv_has ls 4 [(0, .ref (B + 0)), (1, .int x)] := hl
  have hN : Nx 736 B none kd ig rg lg kd ig rg lg := Nx.rf
  have hsh := hI.sh
  have hrs := hI.rs
  have hT : Nx 742 B none kd ig rg lg kd ig rg lg := Nx.rf
  refine lv_aload_n hx hb dX11_mend_0 rfl (lv_at hl 0 rfl) ?_
  refine r_get C hw (hsh 0 _ rfl) fl_X11_76 (oV_r rfl (hrs (0, 8, 45) (by decide))) dX11_mend_1 ?_
  refine r_callV (As := []) (rest := []) C hw (t_X1_forget l B D cA kd ig rg lg _   hI) sv_X11_153 (hsh 45 _ rfl) rfl hl.1 rfl (Nat.le_of_ble_eq_true rfl) ⟨Nat.le_of_ble_eq_true rfl, Nat.le_of_ble_eq_true rfl⟩ ⟨Nat.le_of_ble_eq_true rfl, Nat.le_of_ble_eq_true rfl⟩ dX11_mend_4 (fun r5 kd1 ig2 rg3 lg4 H locs hw hH hp6 => ?_)
  obtain ⟨hI, hchp6, hrhp6⟩ := hp6
  have hT := hT.tr hchp6
  have hN := hN.tr hchp6
  have hsh := hI.sh
  have hrs := hI.rs
  obtain rfl := hrhp6
  refine lv_aload_n hx hb dX11_mend_7 rfl (lv_at hl 0 rfl) ?_
  refine r_get C hw (hsh 0 _ rfl) fl_X11_44 (oV_r rfl (hrs (0, 4, 29) (by decide))) dX11_mend_8 ?_
  have hS := hS.nx hT
  have hV := hV.nx hT
  have hT : Nx 742 B none kd1 ig2 rg3 lg4 kd1 ig2 rg3 lg4 := Nx.rf
  refine r_callV (As := []) (rest := []) C hw (t_X2_settleE l B D cA kd1 ig2 rg3 lg4 _  σ π ν hS hV hI) sv_X11_140 (hsh 29 _ rfl) rfl hl.1 rfl (Nat.le_of_ble_eq_true rfl) ⟨Nat.le_of_ble_eq_true rfl, Nat.le_of_ble_eq_true rfl⟩ ⟨Nat.le_of_ble_eq_true rfl, Nat.le_of_ble_eq_true rfl⟩ dX11_mend_11 (fun r11 kd7 ig8 rg9 lg10 H locs hw hH hp12 => ?_)
  obtain ⟨hI, hchp12, hrhp12⟩ := hp12
  have hN := hN.tr hchp12
  have hsh := hI.sh
  have hrs := hI.rs
  obtain ⟨rfl, hvhp12⟩ := hrhp12
  have hS := SCh.nx hS hchp12
  have hV := FV.of hvhp12.1 hvhp12.2
  have hT : Nx 742 B none kd7 ig8 rg9 lg10 kd7 ig8 rg9 lg10 := Nx.rf
  refine lv_aload_n hx hb dX11_mend_14 rfl (lv_at hl 0 rfl) ?_
  refine r_get C hw (hsh 0 _ rfl) fl_X11_44 (oV_r rfl (hrs (0, 4, 29) (by decide))) dX11_mend_15 ?_
  refine lv_iload_n hx hb dX11_mend_18 rfl (lv_at hl 1 rfl) ?_
  refine r_callV (As := [.int x]) (rest := []) C hw (t_X2_neighbourToCopyE l B D cA kd7 ig8 rg9 lg10 _ x σ π ν hS (fun p => (ig8 (B + 30) p).toInt) (fun p hp => rfl) hI) sv_X11_156 (hsh 29 _ rfl) rfl hl.1 rfl (Nat.le_of_ble_eq_true rfl) ⟨Nat.le_of_ble_eq_true rfl, Nat.le_of_ble_eq_true rfl⟩ ⟨Nat.le_of_ble_eq_true rfl, Nat.le_of_ble_eq_true rfl⟩ dX11_mend_19 (fun r17 kd13 ig14 rg15 lg16 H locs hw hH hp18 => ?_)
  obtain ⟨rfl, rfl, rfl, rfl, hzhp18, hrhp18⟩ := hp18
  obtain ⟨z19, rfl, hz19⟩ := hrhp18
  have odd9 := hz19
  refine lv_istore_n (lv' := [(2, .int z19), (0, .ref (B + 0)), (1, .int x)]) hx hb dX11_mend_22 rfl hl (by decide) rfl (fun ls hl => ?_)
  refine lv_iload_n hx hb dX11_mend_23 rfl (lv_at hl 0 rfl) ?_
  refine lv_iconst (v := (-1)) hx hb dX11_mend_24 (by decide) (ti_c (-1) (by decide) fun z20 hz20 => ?_)
  refine b_ne (tgt := 30) hx hb dX11_mend_25 (by decide) (fun c25 => ?_) (fun c25 => ?_)
  · have hx0 : 0 ≤ x.toInt ∧ x.toInt < 288 := (by rcases odd9 with ⟨-, q⟩ | ⟨q, -⟩; omega; exact atC_k q)
    refine lv_aload_n hx hb dX11_mend_30 rfl (lv_at hl 1 rfl) ?_
    refine r_get C hw (hsh 0 _ rfl) fl_X11_19 (oV_r rfl (hrs (0, 1, 9) (by decide))) dX11_mend_31 ?_
    refine lv_iload_n hx hb dX11_mend_34 rfl (lv_at hl 0 rfl) ?_
    refine lv_iload_n hx hb dX11_mend_35 rfl (lv_at hl 2 rfl) ?_
    refine r_callV (As := [.int z19, .int x]) (rest := []) C hw (t_X6_copyForE l B D cA kd7 ig8 rg9 lg10 _ z19 x σ π ν hS (fun q => (hW.wf q).2) (by omega) hI) sv_X11_112 (hsh 9 _ rfl) rfl hl.1 rfl (Nat.le_of_ble_eq_true rfl) ⟨Nat.le_of_ble_eq_true rfl, Nat.le_of_ble_eq_true rfl⟩ ⟨Nat.le_of_ble_eq_true rfl, Nat.le_of_ble_eq_true rfl⟩ dX11_mend_36 (fun r25 kd21 ig22 rg23 lg24 H locs hw hH hp26 => ?_)
    obtain ⟨hI, hchp26, hrhp26⟩ := hp26
    have hT := hT.tr hchp26
    have hN := hN.tr hchp26
    have hsh := hI.sh
    have hrs := hI.rs
    rcases hrhp26 with ⟨rfl, ftq27⟩ | ⟨q27, rfl, ftq27, hcq27⟩
    · refine lv_astore_nN (lv' := [(3, .null), (2, .int z19), (0, .ref (B + 0)), (1, .int x)]) hx hb dX11_mend_39 rfl hl (by decide) rfl (fun ls hl => ?_)
      refine lv_aload_nN hx hb dX11_mend_40 rfl (lv_at hl 0 rfl) ?_
      refine lv_ifnonnullN hx hb dX11_mend_41 ?_
      refine lv_iconst (v := (-1)) hx hb dX11_mend_44 (by decide) (ti_c (-1) (by decide) fun z28 hz28 => ?_)
      have hS := hS.nx hT
      have hV := hV.nx hT
      have hT : Nx 742 B none kd21 ig22 rg23 lg24 kd21 ig22 rg23 lg24 := Nx.rf
      exact r_iret C hw hr hlk rfl (Nat.le_of_ble_eq_true rfl) (Nat.le_of_ble_eq_true rfl) dX11_mend_45 ⟨hI, hN, ⟨_, rfl, ⟨_, _, _, hS, hV, (by first | exact Or.inl rfl | exact Or.inr ⟨rfl, rfl⟩), ⟨(fun p => (ig8 (B + 30) p).toInt), _, hvhp12.1, odd9, Or.inl ⟨fun w => ftq27 w.2, rfl, rfl⟩⟩⟩⟩⟩
    · obtain ⟨nq27, kq27⟩ := hcq27.kq
      refine lv_astore_n (lv' := [(3, .ref q27), (2, .int z19), (0, .ref (B + 0)), (1, .int x)]) hx hb dX11_mend_39 rfl hl (by decide) rfl (fun ls hl => ?_)
      refine lv_aload_n hx hb dX11_mend_40 rfl (lv_at hl 0 rfl) ?_
      refine lv_ifnonnull (tgt := 46) hx hb dX11_mend_41 (by decide) ?_
      refine lv_aload_n hx hb dX11_mend_46 rfl (lv_at hl 2 rfl) ?_
      refine r_get C hw (hsh 0 _ rfl) fl_X11_37 (oV_r rfl (hrs (0, 3, 24) (by decide))) dX11_mend_47 ?_
      refine r_callV (As := []) (rest := []) C hw (t_X10_settle l B D cA kd21 ig22 rg23 lg24 _   hI) sv_X11_159 (hsh 24 _ rfl) rfl hl.1 rfl (Nat.le_of_ble_eq_true rfl) ⟨Nat.le_of_ble_eq_true rfl, Nat.le_of_ble_eq_true rfl⟩ ⟨Nat.le_of_ble_eq_true rfl, Nat.le_of_ble_eq_true rfl⟩ dX11_mend_50 (fun r33 kd29 ig30 rg31 lg32 H locs hw hH hp34 => ?_)
      obtain ⟨hI, hchp34, hrhp34⟩ := hp34
      have hcq27 := ClQ.nx hcq27 hchp34
      have kq27 := Nx.k hchp34 kq27
      have hT := hT.tr hchp34
      have hN := hN.tr hchp34
      have hsh := hI.sh
      have hrs := hI.rs
      obtain rfl := hrhp34
      refine lv_aload_n hx hb dX11_mend_53 rfl (lv_at hl 2 rfl) ?_
      refine r_get C hw (hsh 0 _ rfl) fl_X11_76 (oV_r rfl (hrs (0, 8, 45) (by decide))) dX11_mend_54 ?_
      refine r_callV (As := []) (rest := []) C hw (t_X1_remember l B D cA kd29 ig30 rg31 lg32 _   hI) sv_X11_160 (hsh 45 _ rfl) rfl hl.1 rfl (Nat.le_of_ble_eq_true rfl) ⟨Nat.le_of_ble_eq_true rfl, Nat.le_of_ble_eq_true rfl⟩ ⟨Nat.le_of_ble_eq_true rfl, Nat.le_of_ble_eq_true rfl⟩ dX11_mend_57 (fun r39 kd35 ig36 rg37 lg38 H locs hw hH hp40 => ?_)
      obtain ⟨hI, hchp40, hrhp40⟩ := hp40
      have hcq27 := ClQ.nx hcq27 hchp40
      have kq27 := Nx.k hchp40 kq27
      have hT := hT.tr hchp40
      have hN := hN.tr hchp40
      have hsh := hI.sh
      have hrs := hI.rs
      obtain rfl := hrhp40
      refine lv_aload_n hx hb dX11_mend_60 rfl (lv_at hl 2 rfl) ?_
      refine r_get C hw (hsh 0 _ rfl) fl_X11_19 (oV_r rfl (hrs (0, 1, 9) (by decide))) dX11_mend_61 ?_
      refine lv_iload_n hx hb dX11_mend_64 rfl (lv_at hl 3 rfl) ?_
      refine lv_aload_n hx hb dX11_mend_65 rfl (lv_at hl 0 rfl) ?_
      have hS := hS.nx hT
      have hV := hV.nx hT
      have hT : Nx 742 B none kd35 ig36 rg37 lg38 kd35 ig36 rg37 lg38 := Nx.rf
      refine r_callV (As := [.int x, .ref q27]) (rest := []) C hw (t_X6_putE l B D cA kd35 ig36 rg37 lg38 _ x q27 (wuC (atC σ z19.toInt)) hcq27 σ π ν hS (by omega) (by omega) hI) sv_X11_104 (hsh 9 _ rfl) rfl hl.1 rfl (Nat.le_of_ble_eq_true rfl) ⟨Nat.le_of_ble_eq_true rfl, Nat.le_of_ble_eq_true rfl⟩ ⟨Nat.le_of_ble_eq_true rfl, Nat.le_of_ble_eq_true rfl⟩ dX11_mend_66 (fun r45 kd41 ig42 rg43 lg44 H locs hw hH hp46 => ?_)
      obtain ⟨hI, hchp46, hrhp46⟩ := hp46
      have hN := hN.tr hchp46
      have hsh := hI.sh
      have hrs := hI.rs
      obtain ⟨rfl, hvhp46⟩ := hrhp46
      have hS := hvhp46.1
      have hV := FV.step (σ' := (upS σ x.toInt.toNat (wuC (atC σ z19.toInt)))) hV hvhp46.2
      have hT : Nx 742 B none kd41 ig42 rg43 lg44 kd41 ig42 rg43 lg44 := Nx.rf
      refine lv_aload_n hx hb dX11_mend_69 rfl (lv_at hl 2 rfl) ?_
      refine r_get C hw (hsh 0 _ rfl) fl_X11_37 (oV_r rfl (hrs (0, 3, 24) (by decide))) dX11_mend_70 ?_
      refine r_callV (As := []) (rest := []) C hw (t_X10_settle l B D cA kd41 ig42 rg43 lg44 _   hI) sv_X11_159 (hsh 24 _ rfl) rfl hl.1 rfl (Nat.le_of_ble_eq_true rfl) ⟨Nat.le_of_ble_eq_true rfl, Nat.le_of_ble_eq_true rfl⟩ ⟨Nat.le_of_ble_eq_true rfl, Nat.le_of_ble_eq_true rfl⟩ dX11_mend_73 (fun r51 kd47 ig48 rg49 lg50 H locs hw hH hp52 => ?_)
      obtain ⟨hI, hchp52, hrhp52⟩ := hp52
      have hT := hT.tr hchp52
      have hN := hN.tr hchp52
      have hsh := hI.sh
      have hrs := hI.rs
      obtain rfl := hrhp52
      refine lv_aload_n hx hb dX11_mend_76 rfl (lv_at hl 2 rfl) ?_
      refine r_get C hw (hsh 0 _ rfl) fl_X11_76 (oV_r rfl (hrs (0, 8, 45) (by decide))) dX11_mend_77 ?_
      refine r_callV (As := []) (rest := []) C hw (t_X1_compare l B D cA kd47 ig48 rg49 lg50 _   hI) sv_X11_163 (hsh 45 _ rfl) rfl hl.1 rfl (Nat.le_of_ble_eq_true rfl) ⟨Nat.le_of_ble_eq_true rfl, Nat.le_of_ble_eq_true rfl⟩ ⟨Nat.le_of_ble_eq_true rfl, Nat.le_of_ble_eq_true rfl⟩ dX11_mend_80 (fun r57 kd53 ig54 rg55 lg56 H locs hw hH hp58 => ?_)
      obtain ⟨hI, hchp58, hrhp58⟩ := hp58
      have hT := hT.tr hchp58
      have hN := hN.tr hchp58
      have hsh := hI.sh
      have hrs := hI.rs
      obtain ⟨z59, rfl, hz59⟩ := hrhp58
      have hS := hS.nx hT
      have hV := hV.nx hT
      have hT : Nx 742 B none kd53 ig54 rg55 lg56 kd53 ig54 rg55 lg56 := Nx.rf
      exact r_iret C hw hr hlk rfl (Nat.le_of_ble_eq_true rfl) (Nat.le_of_ble_eq_true rfl) dX11_mend_83 ⟨hI, hN, ⟨_, rfl, ⟨_, _, _, hS, hV, (by first | exact Or.inl rfl | exact Or.inr ⟨rfl, rfl⟩), ⟨(fun p => (ig8 (B + 30) p).toInt), _, hvhp12.1, odd9, Or.inr ⟨⟨by omega, ftq27⟩, rfl, rfl⟩⟩⟩⟩⟩
  · refine lv_iconst (v := (-1)) hx hb dX11_mend_28 (by decide) (ti_c (-1) (by decide) fun z60 hz60 => ?_)
    exact r_iret C hw hr hlk rfl (Nat.le_of_ble_eq_true rfl) (Nat.le_of_ble_eq_true rfl) dX11_mend_29 ⟨hI, hN, ⟨_, rfl, ⟨_, _, _, hS, hV, (by first | exact Or.inl rfl | exact Or.inr ⟨rfl, rfl⟩), ⟨(fun p => (ig8 (B + 30) p).toInt), _, hvhp12.1, odd9, Or.inl ⟨fun w => w.1 (by omega), rfl, rfl⟩⟩⟩⟩⟩

theorem sh_y {K : Prop} {z w : Int} (h : (K ∧ z = w) ∨ (¬ K ∧ z = -1)) (hz : z ≠ -1) : K := by
  rcases h with h | h
  · exact h.1
  · exact (hz h.2).elim
theorem sh_n {σ : Sg} {ζ : Nat → Int} {x z : Int} {s : St} (h : (shB σ ζ x s ∧ z = lstP s x + 12) ∨ (¬ shB σ ζ x s ∧ z = -1)) (hz : z = -1) : ¬ shB σ ζ x s := by
  rcases h with h | h
  · have k := h.1.2.2.2.2
    intro _
    rcases k with k | k
    · have := atC_k (σ := σ) (x := lstP s x + 12) (by omega)
      omega
    · have := k.2.1
      omega
  · exact h.1
theorem sh_n2 {σ : Sg} {ζ : Nat → Int} {x z : Int} {s : St} (h : (shR σ ζ x s ∧ z = lstP s x + 1) ∨ (¬ shR σ ζ x s ∧ z = -1)) (hz : z = -1) : ¬ shR σ ζ x s := by
  rcases h with h | h
  · have k := h.1.2.2.2.2
    intro _
    rcases k with k | k
    · have := atC_k (σ := σ) (x := lstP s x + 1) (by omega)
      omega
    · have := k.2.1
      omega
  · exact h.1
set_option maxHeartbeats 4000000 in
set_option maxRecDepth 100000 in
theorem t_X11_stretchedFormulaE {τ : Tp} (l : Launch) (B : Nat) (D : va_G) (cA : Nat → ClassId) (kd : sK) (ig : sI) (rg : sR) (lg : sG) (sz : Nat) (x : Int32) (y : Int32) (σ : Sg) (π : Ps) (ν : Nat) (hS : SCh B σ π ν kd ig rg) (hV : FV B σ ν ig) (hν : ν < 1000000) (hW : WS σ π) (hI : IC τ B kd ig rg) : MC l B D cA yX11_stretchedFormula cX11_stretchedFormula 5 (some (.object "SheetDoctor$Formula")) (rL 4 4 363) [.ref (B + 0), .int x, .int y] kd ig rg lg sz (PI 1018 τ B none kd ig rg lg (fun r kd' ig' rg' lg' => (FV B σ ν ig' ∧ ((r = some .null ∧ stQ σ x.toInt y.toInt none) ∨ ∃ f' L', r = some (.ref f') ∧ FnL B kd' ig' rg' f' L' ∧ stQ σ x.toInt y.toInt (some L'))))) := by
  refine MC.of (own := RX11) (by decide +kernel) rfl (Nat.le_of_ble_eq_true rfl) ?_
  intro p e s m args below meth c ls C hr hlk hnm hw hsz hl
  have hx := C.1.1
  have hb := C.1.2.1
  have hown := C.1.2.2.2.1
  have hts := C.1.2.2.2.2
  have hl : lv_has ls 5 [(0, .ref (B + 0)), (1, .int x), (2, .int y)] := hl
  have hN : Nx 1018 B none kd ig rg lg kd ig rg lg := Nx.rf
  have hsh := hI.sh
  have hrs := hI.rs
  have hT : Nx 1022 B none kd ig rg lg kd ig rg lg := Nx.rf
  refine lv_aload_n hx hb dX11_stretchedFormula_0 rfl (lv_at hl 0 rfl) ?_
  refine r_get C hw (hsh 0 _ rfl) fl_X11_19 (oV_r rfl (hrs (0, 1, 9) (by decide))) dX11_stretchedFormula_1 ?_
  refine lv_iload_n hx hb dX11_stretchedFormula_4 rfl (lv_at hl 1 rfl) ?_
  refine r_callV (As := [.int x]) (rest := []) C hw (t_X6_formulaAtE l B D cA kd ig rg lg _ x σ π ν hS hI) sv_X11_221 (hsh 9 _ rfl) rfl hl.1 rfl (Nat.le_of_ble_eq_true rfl) ⟨Nat.le_of_ble_eq_true rfl, Nat.le_of_ble_eq_true rfl⟩ ⟨Nat.le_of_ble_eq_true rfl, Nat.le_of_ble_eq_true rfl⟩ dX11_stretchedFormula_5 (fun r5 kd1 ig2 rg3 lg4 H locs hw hH hp6 => ?_)
  obtain ⟨rfl, rfl, rfl, rfl, hzhp6, hrhp6⟩ := hp6
  rcases hrhp6 with ⟨rfl, nkf7⟩ | ⟨f7, rfl, nkf7, hLf7⟩
  · refine lv_astore_nN (lv' := [(3, .null), (0, .ref (B + 0)), (1, .int x), (2, .int y)]) hx hb dX11_stretchedFormula_8 rfl hl (by decide) rfl (fun ls hl => ?_)
    refine lv_aload_nN hx hb dX11_stretchedFormula_9 rfl (lv_at hl 0 rfl) ?_
    refine lv_ifnonnullN hx hb dX11_stretchedFormula_10 ?_
    refine lv_null hx hb dX11_stretchedFormula_13 ?_
    exact r_aret C hw hr hlk (Or.inl rfl) (Nat.le_of_ble_eq_true rfl) (Nat.le_of_ble_eq_true rfl) dX11_stretchedFormula_14 ⟨hI, hN, ⟨hV, Or.inl ⟨rfl, Or.inl ⟨nkf7, rfl⟩⟩⟩⟩
  · have lf7 := hLf7.le
    refine lv_astore_n (lv' := [(3, .ref f7), (0, .ref (B + 0)), (1, .int x), (2, .int y)]) hx hb dX11_stretchedFormula_8 rfl hl (by decide) rfl (fun ls hl => ?_)
    refine lv_aload_n hx hb dX11_stretchedFormula_9 rfl (lv_at hl 0 rfl) ?_
    refine lv_ifnonnull (tgt := 15) hx hb dX11_stretchedFormula_10 (by decide) ?_
    have wf9 := hW.wf nkf7
    have hx0 := atC_k (σ := σ) (x := x.toInt) (by rw [nkf7]; decide)
    refine lv_aload_n hx hb dX11_stretchedFormula_15 rfl (lv_at hl 1 rfl) ?_
    refine r_get C hw (hsh 0 _ rfl) fl_X11_44 (oV_r rfl (hrs (0, 4, 29) (by decide))) dX11_stretchedFormula_16 ?_
    refine r_callV (As := []) (rest := []) C hw (t_X2_settleE l B D cA kd ig rg lg _  σ π ν hS hV hI) sv_X11_140 (hsh 29 _ rfl) rfl hl.1 rfl (Nat.le_of_ble_eq_true rfl) ⟨Nat.le_of_ble_eq_true rfl, Nat.le_of_ble_eq_true rfl⟩ ⟨Nat.le_of_ble_eq_true rfl, Nat.le_of_ble_eq_true rfl⟩ dX11_stretchedFormula_19 (fun r12 kd8 ig9 rg10 lg11 H locs hw hH hp13 => ?_)
    obtain ⟨hI, hchp13, hrhp13⟩ := hp13
    have hLf7 := FnL.nx hLf7 hchp13
    have hN := hN.tr hchp13
    have hsh := hI.sh
    have hrs := hI.rs
    obtain ⟨rfl, hvhp13⟩ := hrhp13
    have hS := SCh.nx hS hchp13
    have hV := FV.of hvhp13.1 hvhp13.2
    have hT : Nx 1022 B none kd8 ig9 rg10 lg11 kd8 ig9 rg10 lg11 := Nx.rf
    refine lv_aload_n hx hb dX11_stretchedFormula_22 rfl (lv_at hl 0 rfl) ?_
    refine lv_iload_n hx hb dX11_stretchedFormula_23 rfl (lv_at hl 3 rfl) ?_
    refine r_callV (As := [.int y]) (rest := []) C hw (t_X4_stepOfSumE l B D cA kd8 ig9 rg10 lg11 _ f7 (fmO (atC σ x.toInt)) hLf7 y  hI) sv_X11_224 (isFn.k (FnL.F hLf7)) rfl hl.1 rfl (Nat.le_of_ble_eq_true rfl) ⟨Nat.le_of_ble_eq_true rfl, Nat.le_of_ble_eq_true rfl⟩ ⟨Nat.le_of_ble_eq_true rfl, Nat.le_of_ble_eq_true rfl⟩ dX11_stretchedFormula_24 (fun r18 kd14 ig15 rg16 lg17 H locs hw hH hp19 => ?_)
    obtain ⟨rfl, rfl, rfl, rfl, hzhp19, hrhp19⟩ := hp19
    obtain ⟨z20, rfl, hz20⟩ := hrhp19
    have sum9 := hz20
    refine lv_istore (lv' := [(4, .int z20), (3, .ref f7), (0, .ref (B + 0)), (1, .int x), (2, .int y)]) hx hb dX11_stretchedFormula_27 hl (by decide) rfl (fun ls hl => ?_)
    refine lv_aload_n hx hb dX11_stretchedFormula_29 rfl (lv_at hl 2 rfl) ?_
    refine r_get C hw (hsh 0 _ rfl) fl_X11_67 (oV_r rfl (hrs (0, 7, 43) (by decide))) dX11_stretchedFormula_30 ?_
    refine lv_iload_n hx hb dX11_stretchedFormula_33 rfl (lv_at hl 3 rfl) ?_
    refine lv_aload_n hx hb dX11_stretchedFormula_34 rfl (lv_at hl 1 rfl) ?_
    refine lv_iload hx hb dX11_stretchedFormula_35 (lv_at hl 0 rfl) ?_
    refine r_callV (As := [.int x, .ref f7, .int z20]) (rest := []) C hw (t_X3_shortBelowE l B D cA kd8 ig9 rg10 lg11 _ x f7 (fmO (atC σ x.toInt)) hLf7 z20 σ π ν hS (fun p => (ig9 (B + 30) p).toInt) (fun p hp => rfl) (by omega) wf9.2 hI) sv_X11_229 (hsh 43 _ rfl) rfl hl.1 rfl (Nat.le_of_ble_eq_true rfl) ⟨Nat.le_of_ble_eq_true rfl, Nat.le_of_ble_eq_true rfl⟩ ⟨Nat.le_of_ble_eq_true rfl, Nat.le_of_ble_eq_true rfl⟩ dX11_stretchedFormula_37 (fun r25 kd21 ig22 rg23 lg24 H locs hw hH hp26 => ?_)
    obtain ⟨rfl, rfl, rfl, rfl, hzhp26, hrhp26⟩ := hp26
    obtain ⟨z27, rfl, hz27⟩ := hrhp26
    have sb9 := hz27
    refine lv_iconst (v := (-1)) hx hb dX11_stretchedFormula_40 (by decide) (ti_c (-1) (by decide) fun z28 hz28 => ?_)
    refine b_eq (tgt := 53) hx hb dX11_stretchedFormula_41 (by decide) (fun c41 => ?_) (fun c41 => ?_)
    · have nb9 := sh_n sb9 (by omega)
      refine lv_aload_n hx hb dX11_stretchedFormula_53 rfl (lv_at hl 2 rfl) ?_
      refine r_get C hw (hsh 0 _ rfl) fl_X11_67 (oV_r rfl (hrs (0, 7, 43) (by decide))) dX11_stretchedFormula_54 ?_
      refine lv_iload_n hx hb dX11_stretchedFormula_57 rfl (lv_at hl 3 rfl) ?_
      refine lv_aload_n hx hb dX11_stretchedFormula_58 rfl (lv_at hl 1 rfl) ?_
      refine lv_iload hx hb dX11_stretchedFormula_59 (lv_at hl 0 rfl) ?_
      refine r_callV (As := [.int x, .ref f7, .int z20]) (rest := []) C hw (t_X3_shortRightE l B D cA kd8 ig9 rg10 lg11 _ x f7 (fmO (atC σ x.toInt)) hLf7 z20 σ π ν hS (fun p => (ig9 (B + 30) p).toInt) (fun p hp => rfl) (by omega) wf9.2 hI) sv_X11_237 (hsh 43 _ rfl) rfl hl.1 rfl (Nat.le_of_ble_eq_true rfl) ⟨Nat.le_of_ble_eq_true rfl, Nat.le_of_ble_eq_true rfl⟩ ⟨Nat.le_of_ble_eq_true rfl, Nat.le_of_ble_eq_true rfl⟩ dX11_stretchedFormula_61 (fun r33 kd29 ig30 rg31 lg32 H locs hw hH hp34 => ?_)
      obtain ⟨rfl, rfl, rfl, rfl, hzhp34, hrhp34⟩ := hp34
      obtain ⟨z35, rfl, hz35⟩ := hrhp34
      have sr9 := hz35
      refine lv_iconst (v := (-1)) hx hb dX11_stretchedFormula_64 (by decide) (ti_c (-1) (by decide) fun z36 hz36 => ?_)
      refine b_eq (tgt := 77) hx hb dX11_stretchedFormula_65 (by decide) (fun c65 => ?_) (fun c65 => ?_)
      · have nr9 := sh_n2 sr9 (by omega)
        refine lv_null hx hb dX11_stretchedFormula_77 ?_
        exact r_aret C hw hr hlk (Or.inl rfl) (Nat.le_of_ble_eq_true rfl) (Nat.le_of_ble_eq_true rfl) dX11_stretchedFormula_78 ⟨hI, hN, ⟨hV, Or.inl ⟨rfl, Or.inr ⟨nkf7, (fun p => (ig9 (B + 30) p).toInt), _, hvhp13.1, sum9, Or.inr (Or.inr ⟨nb9, nr9, rfl⟩)⟩⟩⟩⟩
      · have yr9 := sh_y sr9 (by omega)
        refine lv_aload_n hx hb dX11_stretchedFormula_68 rfl (lv_at hl 1 rfl) ?_
        refine lv_iload hx hb dX11_stretchedFormula_69 (lv_at hl 0 rfl) ?_
        refine lv_iconst (v := 0) hx hb dX11_stretchedFormula_71 (by decide) (ti_c 0 (by decide) fun z37 hz37 => ?_)
        refine lv_iconst (v := 1) hx hb dX11_stretchedFormula_72 (by decide) (ti_c 1 (by decide) fun z38 hz38 => ?_)
        refine r_callV (As := [.int z20, .int z37, .int z38]) (rest := []) C hw (t_X4_stretchedE l B D cA kd8 ig9 rg10 lg11 _ f7 (fmO (atC σ x.toInt)) hLf7 z20 z37 z38 (stp_2 yr9.1) (by omega) (wf9.2.at (stp_2 yr9.1).1 (stp_2 yr9.1).2 (Or.inr yr9.1)).2 hI) sv_X11_233 (isFn.k (FnL.F hLf7)) rfl hl.1 rfl (Nat.le_of_ble_eq_true rfl) ⟨Nat.le_of_ble_eq_true rfl, Nat.le_of_ble_eq_true rfl⟩ ⟨Nat.le_of_ble_eq_true rfl, Nat.le_of_ble_eq_true rfl⟩ dX11_stretchedFormula_73 (fun r43 kd39 ig40 rg41 lg42 H locs hw hH hp44 => ?_)
        obtain ⟨hI, hchp44, hrhp44⟩ := hp44
        have hT := hT.tr hchp44
        have hN := hN.tr hchp44
        have hsh := hI.sh
        have hrs := hI.rs
        obtain ⟨f45, rfl, hLf45⟩ := hrhp44
        have hS := hS.nx hT
        have hV := hV.nx hT
        have hT : Nx 1022 B none kd39 ig40 rg41 lg42 kd39 ig40 rg41 lg42 := Nx.rf
        exact r_aret C hw hr hlk (Or.inr ⟨_, rfl⟩) (Nat.le_of_ble_eq_true rfl) (Nat.le_of_ble_eq_true rfl) dX11_stretchedFormula_76 ⟨hI, hN, ⟨hV, Or.inr ⟨_, _, rfl, hLf45, Or.inr ⟨nkf7, (fun p => (ig9 (B + 30) p).toInt), _, hvhp13.1, sum9, Or.inr (Or.inl ⟨nb9, yr9, by rw [stL, show z37.toInt + 128 * z38.toInt = 128 by omega]⟩)⟩⟩⟩⟩
    · have yb9 := sh_y sb9 (by omega)
      refine lv_aload_n hx hb dX11_stretchedFormula_44 rfl (lv_at hl 1 rfl) ?_
      refine lv_iload hx hb dX11_stretchedFormula_45 (lv_at hl 0 rfl) ?_
      refine lv_iconst (v := 1) hx hb dX11_stretchedFormula_47 (by decide) (ti_c 1 (by decide) fun z46 hz46 => ?_)
      refine lv_iconst (v := 0) hx hb dX11_stretchedFormula_48 (by decide) (ti_c 0 (by decide) fun z47 hz47 => ?_)
      refine r_callV (As := [.int z20, .int z46, .int z47]) (rest := []) C hw (t_X4_stretchedE l B D cA kd8 ig9 rg10 lg11 _ f7 (fmO (atC σ x.toInt)) hLf7 z20 z46 z47 (stp_2 yb9.1) (by omega) (wf9.2.at (stp_2 yb9.1).1 (stp_2 yb9.1).2 (Or.inr yb9.1)).2 hI) sv_X11_233 (isFn.k (FnL.F hLf7)) rfl hl.1 rfl (Nat.le_of_ble_eq_true rfl) ⟨Nat.le_of_ble_eq_true rfl, Nat.le_of_ble_eq_true rfl⟩ ⟨Nat.le_of_ble_eq_true rfl, Nat.le_of_ble_eq_true rfl⟩ dX11_stretchedFormula_49 (fun r52 kd48 ig49 rg50 lg51 H locs hw hH hp53 => ?_)
      obtain ⟨hI, hchp53, hrhp53⟩ := hp53
      have hT := hT.tr hchp53
      have hN := hN.tr hchp53
      have hsh := hI.sh
      have hrs := hI.rs
      obtain ⟨f54, rfl, hLf54⟩ := hrhp53
      have hS := hS.nx hT
      have hV := hV.nx hT
      have hT : Nx 1022 B none kd48 ig49 rg50 lg51 kd48 ig49 rg50 lg51 := Nx.rf
      exact r_aret C hw hr hlk (Or.inr ⟨_, rfl⟩) (Nat.le_of_ble_eq_true rfl) (Nat.le_of_ble_eq_true rfl) dX11_stretchedFormula_52 ⟨hI, hN, ⟨hV, Or.inr ⟨_, _, rfl, hLf54, Or.inr ⟨nkf7, (fun p => (ig9 (B + 30) p).toInt), _, hvhp13.1, sum9, Or.inl ⟨yb9, by rw [stL, show z46.toInt + 128 * z47.toInt = 1 by omega]⟩⟩⟩⟩⟩

set_option maxHeartbeats 4000000 in
set_option maxRecDepth 100000 in
theorem t_X11_stretchE {τ : Tp} (l : Launch) (B : Nat) (D : va_G) (cA : Nat → ClassId) (kd : sK) (ig : sI) (rg : sR) (lg : sG) (sz : Nat) (x : Int32) (y : Int32) (σ : Sg) (π : Ps) (ν : Nat) (hS : SCh B σ π ν kd ig rg) (hV : FV B σ ν ig) (hν : ν < 1000000) (hW : WS σ π) (hI : IC τ B kd ig rg) : MC l B D cA yX11_stretch cX11_stretch 4 (some .int) (rL 7 5 369) [.ref (B + 0), .int x, .int y] kd ig rg lg sz (PI 736 τ B none kd ig rg lg (fun r kd' ig' rg' lg' => ∃ z : Int32, r = some (.int z) ∧ (∃ σ' π' ν', SCh B σ' π' ν' kd' ig' rg' ∧ FV B σ' ν' ig' ∧ (ν' = ν + 1 ∨ (ν' = ν ∧ σ' = σ)) ∧ stT σ π x.toInt σ' π' y.toInt))) := by
  refine MC.of (own := RX11) (by decide +kernel) rfl (Nat.le_of_ble_eq_true rfl) ?_
  intro p e s m args below meth c ls C hr hlk hnm hw hsz hl
  have hx := C.1.1
  have hb := C.1.2.1
  have hown := C.1.2.2.2.1
  have hts := C.1.2.2.2.2
  have hl : lv_has ls 4 [(0, .ref (B + 0)), (1, .int x), (2, .int y)] := hl
  have hN : Nx 736 B none kd ig rg lg kd ig rg lg := Nx.rf
  have hsh := hI.sh
  have hrs := hI.rs
  have hT : Nx 742 B none kd ig rg lg kd ig rg lg := Nx.rf
  refine lv_aload_n hx hb dX11_stretch_0 rfl (lv_at hl 0 rfl) ?_
  refine r_get C hw (hsh 0 _ rfl) fl_X11_76 (oV_r rfl (hrs (0, 8, 45) (by decide))) dX11_stretch_1 ?_
  refine r_callV (As := []) (rest := []) C hw (t_X1_forget l B D cA kd ig rg lg _   hI) sv_X11_153 (hsh 45 _ rfl) rfl hl.1 rfl (Nat.le_of_ble_eq_true rfl) ⟨Nat.le_of_ble_eq_true rfl, Nat.le_of_ble_eq_true rfl⟩ ⟨Nat.le_of_ble_eq_true rfl, Nat.le_of_ble_eq_true rfl⟩ dX11_stretch_4 (fun r5 kd1 ig2 rg3 lg4 H locs hw hH hp6 => ?_)
  obtain ⟨hI, hchp6, hrhp6⟩ := hp6
  have hT := hT.tr hchp6
  have hN := hN.tr hchp6
  have hsh := hI.sh
  have hrs := hI.rs
  obtain rfl := hrhp6
  refine lv_aload_n hx hb dX11_stretch_7 rfl (lv_at hl 0 rfl) ?_
  refine lv_iload_n hx hb dX11_stretch_8 rfl (lv_at hl 1 rfl) ?_
  refine lv_iload_n hx hb dX11_stretch_9 rfl (lv_at hl 2 rfl) ?_
  have hS := hS.nx hT
  have hV := hV.nx hT
  have hT : Nx 742 B none kd1 ig2 rg3 lg4 kd1 ig2 rg3 lg4 := Nx.rf
  refine r_callV (As := [.int x, .int y]) (rest := []) C hw (t_X11_stretchedFormulaE l B D cA kd1 ig2 rg3 lg4 _ x y σ π ν hS hV hν hW hI) sv_X11_166 (hsh 0 _ rfl) rfl hl.1 rfl (Nat.le_of_ble_eq_true rfl) ⟨Nat.le_of_ble_eq_true rfl, Nat.le_of_ble_eq_true rfl⟩ ⟨Nat.le_of_ble_eq_true rfl, Nat.le_of_ble_eq_true rfl⟩ dX11_stretch_10 (fun r11 kd7 ig8 rg9 lg10 H locs hw hH hp12 => ?_)
  obtain ⟨hI, hchp12, hrhp12⟩ := hp12
  have hN := hN.tr hchp12
  have hsh := hI.sh
  have hrs := hI.rs
  have hS := SCh.nx hS hchp12
  obtain ⟨hV, hrhp12⟩ := hrhp12
  have hT : Nx 742 B none kd7 ig8 rg9 lg10 kd7 ig8 rg9 lg10 := Nx.rf
  rcases hrhp12 with ⟨rfl, qqf13⟩ | ⟨f13, Lf13, rfl, hLf13, qqf13⟩
  · refine lv_astore_nN (lv' := [(3, .null), (0, .ref (B + 0)), (1, .int x), (2, .int y)]) hx hb dX11_stretch_13 rfl hl (by decide) rfl (fun ls hl => ?_)
    refine lv_aload_nN hx hb dX11_stretch_14 rfl (lv_at hl 0 rfl) ?_
    refine lv_ifnonnullN hx hb dX11_stretch_15 ?_
    refine lv_iconst (v := (-1)) hx hb dX11_stretch_18 (by decide) (ti_c (-1) (by decide) fun z14 hz14 => ?_)
    exact r_iret C hw hr hlk rfl (Nat.le_of_ble_eq_true rfl) (Nat.le_of_ble_eq_true rfl) dX11_stretch_19 ⟨hI, hN, ⟨_, rfl, ⟨_, _, _, hS, hV, (by first | exact Or.inl rfl | exact Or.inr ⟨rfl, rfl⟩), ⟨_, qqf13, Or.inl ⟨rfl, rfl, rfl⟩⟩⟩⟩⟩
  · have lf13 := hLf13.le
    refine lv_astore_n (lv' := [(3, .ref f13), (0, .ref (B + 0)), (1, .int x), (2, .int y)]) hx hb dX11_stretch_13 rfl hl (by decide) rfl (fun ls hl => ?_)
    refine lv_aload_n hx hb dX11_stretch_14 rfl (lv_at hl 0 rfl) ?_
    refine lv_ifnonnull (tgt := 20) hx hb dX11_stretch_15 (by decide) ?_
    have hx0 := (stQ.fit hW qqf13).1
    unfold onS at hx0
    refine lv_aload_n hx hb dX11_stretch_20 rfl (lv_at hl 1 rfl) ?_
    refine r_get C hw (hsh 0 _ rfl) fl_X11_37 (oV_r rfl (hrs (0, 3, 24) (by decide))) dX11_stretch_21 ?_
    refine r_callV (As := []) (rest := []) C hw (t_X10_settle l B D cA kd7 ig8 rg9 lg10 _   hI) sv_X11_159 (hsh 24 _ rfl) rfl hl.1 rfl (Nat.le_of_ble_eq_true rfl) ⟨Nat.le_of_ble_eq_true rfl, Nat.le_of_ble_eq_true rfl⟩ ⟨Nat.le_of_ble_eq_true rfl, Nat.le_of_ble_eq_true rfl⟩ dX11_stretch_24 (fun r19 kd15 ig16 rg17 lg18 H locs hw hH hp20 => ?_)
    obtain ⟨hI, hchp20, hrhp20⟩ := hp20
    have hLf13 := FnL.nx hLf13 hchp20
    have hT := hT.tr hchp20
    have hN := hN.tr hchp20
    have hsh := hI.sh
    have hrs := hI.rs
    obtain rfl := hrhp20
    refine lv_aload_n hx hb dX11_stretch_27 rfl (lv_at hl 1 rfl) ?_
    refine r_get C hw (hsh 0 _ rfl) fl_X11_76 (oV_r rfl (hrs (0, 8, 45) (by decide))) dX11_stretch_28 ?_
    refine r_callV (As := []) (rest := []) C hw (t_X1_remember l B D cA kd15 ig16 rg17 lg18 _   hI) sv_X11_160 (hsh 45 _ rfl) rfl hl.1 rfl (Nat.le_of_ble_eq_true rfl) ⟨Nat.le_of_ble_eq_true rfl, Nat.le_of_ble_eq_true rfl⟩ ⟨Nat.le_of_ble_eq_true rfl, Nat.le_of_ble_eq_true rfl⟩ dX11_stretch_31 (fun r25 kd21 ig22 rg23 lg24 H locs hw hH hp26 => ?_)
    obtain ⟨hI, hchp26, hrhp26⟩ := hp26
    have hLf13 := FnL.nx hLf13 hchp26
    have hT := hT.tr hchp26
    have hN := hN.tr hchp26
    have hsh := hI.sh
    have hrs := hI.rs
    obtain rfl := hrhp26
    refine lv_aload_n hx hb dX11_stretch_34 rfl (lv_at hl 1 rfl) ?_
    refine r_get C hw (hsh 0 _ rfl) fl_X11_19 (oV_r rfl (hrs (0, 1, 9) (by decide))) dX11_stretch_35 ?_
    refine lv_iload_n hx hb dX11_stretch_38 rfl (lv_at hl 2 rfl) ?_
    obtain ⟨h27, sh27⟩ : ∃ h, H.size = h := ⟨_, rfl⟩
    have oh27 : kd21 h27 = none := by have h9 := hw.fresh; rw [sh27] at h9; exact h9
    have bh27 : B + 80 ≤ h27 := by have h9 := hw.lt (hsh 79 _ rfl); omega
    have tnoh27 := hT.no oh27
    have noh27 := hN.no oh27
    have hI := IC.new (k := 0) (n := 0) hI oh27 bh27
    have hT := Nx.new (k := 0) (n := 0) hT oh27 bh27
    have hN := Nx.new (k := 0) (n := 0) hN oh27 bh27
    refine r_new (k := 0) (t0 := tyX0) C hw rfl (by decide) rfl inT0 tyX0_ok dfX0 cl_X11_99 it_0 id_0 (Nat.le_of_ble_eq_true rfl) (Nat.le_of_ble_eq_true rfl) dX11_stretch_39 sh27 (fun H hsz hw => ?_)
    obtain ⟨kd28, ekd28⟩ : ∃ f, f = upK kd21 h27 0 0 := ⟨_, rfl⟩
    obtain ⟨ig29, eig29⟩ : ∃ f, f = upR ig22 h27 0 := ⟨_, rfl⟩
    obtain ⟨rg30, erg30⟩ : ∃ f, f = upR rg23 h27 none := ⟨_, rfl⟩
    have kh27 : kd28 h27 = some (0, 0) := by rw [ekd28, upK_eq]
    have rnh27 : ∀ j, rg30 h27 j = none := fun j => by rw [erg30, upR_eq]
    rw [← ekd28, ← eig29, ← erg30] at hw hI hN hT
    have hsh := hI.sh
    have hrs := hI.rs
    have hLf13 : FnL B kd28 ig29 rg30 f13 (Lf13) := by rw [ekd28, eig29, erg30]; exact FnL.nx hLf13 (Nx.new (b := 0) (k := 0) (n := 0) (lg := lg) Nx.rf oh27 bh27)
    refine lv_dup hx hb dX11_stretch_42 rfl ?_
    refine lv_iconst (v := 2) hx hb dX11_stretch_43 (by decide) (ti_c 2 (by decide) fun z31 hz31 => ?_)
    refine lv_iconst (v := 0) hx hb dX11_stretch_44 (by decide) (ti_c 0 (by decide) fun z32 hz32 => ?_)
    refine lv_aload_n hx hb dX11_stretch_45 rfl (lv_at hl 0 rfl) ?_
    refine r_callI (As := [.int z31, .int z32, .ref f13]) (rest := [.ref h27, .int x, .ref (B + 9)]) C hw (t_X0_initFE l B D cA kd28 ig29 rg30 lg24 _ h27 kh27 bh27 z31 z32 f13 (Lf13) hLf13 (by omega) hI) sc_X11_101 rfl hl.1 rfl (Nat.le_of_ble_eq_true rfl) ⟨Nat.le_of_ble_eq_true rfl, Nat.le_of_ble_eq_true rfl⟩ ⟨Nat.le_of_ble_eq_true rfl, Nat.le_of_ble_eq_true rfl⟩ dX11_stretch_46 (fun r37 kd33 ig34 rg35 lg36 H locs hw hH hp38 => ?_)
    obtain ⟨hI, hchp38, hrhp38⟩ := hp38
    have kh27 := Nx.k hchp38 kh27
    have hT := hT.trx hchp38 tnoh27
    have hN := hN.trx hchp38 noh27
    have hsh := hI.sh
    have hrs := hI.rs
    obtain ⟨rfl, hc39⟩ := hrhp38
    rw [hz31] at hc39
    rw [hz32] at hc39
    have hS := hS.nx hT
    have hV := hV.nx hT
    have hT : Nx 742 B none kd33 ig34 rg35 lg36 kd33 ig34 rg35 lg36 := Nx.rf
    refine r_callV (As := [.int x, .ref h27]) (rest := []) C hw (t_X6_putE l B D cA kd33 ig34 rg35 lg36 _ x h27 (((2, 0), (0, 0, 0), (Lf13))) hc39 σ π ν hS (by omega) (by omega) hI) sv_X11_104 (hsh 9 _ rfl) rfl hl.1 rfl (Nat.le_of_ble_eq_true rfl) ⟨Nat.le_of_ble_eq_true rfl, Nat.le_of_ble_eq_true rfl⟩ ⟨Nat.le_of_ble_eq_true rfl, Nat.le_of_ble_eq_true rfl⟩ dX11_stretch_49 (fun r44 kd40 ig41 rg42 lg43 H locs hw hH hp45 => ?_)
    obtain ⟨hI, hchp45, hrhp45⟩ := hp45
    have hN := hN.tr hchp45
    have hsh := hI.sh
    have hrs := hI.rs
    obtain ⟨rfl, hvhp45⟩ := hrhp45
    have hS := hvhp45.1
    have hV := FV.step (σ' := (upS σ x.toInt.toNat (((2, 0), (0, 0, 0), (Lf13))))) hV hvhp45.2
    have hT : Nx 742 B none kd40 ig41 rg42 lg43 kd40 ig41 rg42 lg43 := Nx.rf
    refine lv_aload_n hx hb dX11_stretch_52 rfl (lv_at hl 1 rfl) ?_
    refine r_get C hw (hsh 0 _ rfl) fl_X11_37 (oV_r rfl (hrs (0, 3, 24) (by decide))) dX11_stretch_53 ?_
    refine r_callV (As := []) (rest := []) C hw (t_X10_settle l B D cA kd40 ig41 rg42 lg43 _   hI) sv_X11_159 (hsh 24 _ rfl) rfl hl.1 rfl (Nat.le_of_ble_eq_true rfl) ⟨Nat.le_of_ble_eq_true rfl, Nat.le_of_ble_eq_true rfl⟩ ⟨Nat.le_of_ble_eq_true rfl, Nat.le_of_ble_eq_true rfl⟩ dX11_stretch_56 (fun r50 kd46 ig47 rg48 lg49 H locs hw hH hp51 => ?_)
    obtain ⟨hI, hchp51, hrhp51⟩ := hp51
    have hT := hT.tr hchp51
    have hN := hN.tr hchp51
    have hsh := hI.sh
    have hrs := hI.rs
    obtain rfl := hrhp51
    refine lv_aload_n hx hb dX11_stretch_59 rfl (lv_at hl 1 rfl) ?_
    refine r_get C hw (hsh 0 _ rfl) fl_X11_76 (oV_r rfl (hrs (0, 8, 45) (by decide))) dX11_stretch_60 ?_
    refine r_callV (As := []) (rest := []) C hw (t_X1_compare l B D cA kd46 ig47 rg48 lg49 _   hI) sv_X11_163 (hsh 45 _ rfl) rfl hl.1 rfl (Nat.le_of_ble_eq_true rfl) ⟨Nat.le_of_ble_eq_true rfl, Nat.le_of_ble_eq_true rfl⟩ ⟨Nat.le_of_ble_eq_true rfl, Nat.le_of_ble_eq_true rfl⟩ dX11_stretch_63 (fun r56 kd52 ig53 rg54 lg55 H locs hw hH hp57 => ?_)
    obtain ⟨hI, hchp57, hrhp57⟩ := hp57
    have hT := hT.tr hchp57
    have hN := hN.tr hchp57
    have hsh := hI.sh
    have hrs := hI.rs
    obtain ⟨z58, rfl, hz58⟩ := hrhp57
    have hS := hS.nx hT
    have hV := hV.nx hT
    have hT : Nx 742 B none kd52 ig53 rg54 lg55 kd52 ig53 rg54 lg55 := Nx.rf
    exact r_iret C hw hr hlk rfl (Nat.le_of_ble_eq_true rfl) (Nat.le_of_ble_eq_true rfl) dX11_stretch_66 ⟨hI, hN, ⟨_, rfl, ⟨_, _, _, hS, hV, (by first | exact Or.inl rfl | exact Or.inr ⟨rfl, rfl⟩), ⟨_, qqf13, Or.inr ⟨_, rfl, rfl, rfl⟩⟩⟩⟩⟩

set_option maxHeartbeats 4000000 in
set_option maxRecDepth 100000 in
theorem t_X11_undoE {τ : Tp} (l : Launch) (B : Nat) (D : va_G) (cA : Nat → ClassId) (kd : sK) (ig : sI) (rg : sR) (lg : sG) (sz : Nat) (σ : Sg) (π : Ps) (ν : Nat) (hS : SCh B σ π ν kd ig rg) (hV : FV B σ ν ig) (hν : ν < 1000000) (hI : IC τ B kd ig rg) : MC l B D cA yX11_undo cX11_undo 1 (some .int) (rL 7 0 0) [.ref (B + 0)] kd ig rg lg sz (PI 736 τ B none kd ig rg lg (fun r kd' ig' rg' lg' => ∃ z : Int32, r = some (.int z) ∧ (∃ σ' π' ν', SCh B σ' π' ν' kd' ig' rg' ∧ FV B σ' ν' ig' ∧ (ν' = ν + 1 ∨ (ν' = ν ∧ σ' = σ)) ∧ stB σ π σ' π'))) := by
  refine MC.of (own := RX11) (by decide +kernel) rfl (Nat.le_of_ble_eq_true rfl) ?_
  intro p e s m args below meth c ls C hr hlk hnm hw hsz hl
  have hx := C.1.1
  have hb := C.1.2.1
  have hown := C.1.2.2.2.1
  have hts := C.1.2.2.2.2
  have hl : lv_has ls 1 [(0, .ref (B + 0))] := hl
  have hN : Nx 736 B none kd ig rg lg kd ig rg lg := Nx.rf
  have hsh := hI.sh
  have hrs := hI.rs
  have hT : Nx 742 B none kd ig rg lg kd ig rg lg := Nx.rf
  refine lv_aload_n hx hb dX11_undo_0 rfl (lv_at hl 0 rfl) ?_
  refine r_get C hw (hsh 0 _ rfl) fl_X11_76 (oV_r rfl (hrs (0, 8, 45) (by decide))) dX11_undo_1 ?_
  refine r_callV (As := []) (rest := []) C hw (t_X1_forget l B D cA kd ig rg lg _   hI) sv_X11_153 (hsh 45 _ rfl) rfl hl.1 rfl (Nat.le_of_ble_eq_true rfl) ⟨Nat.le_of_ble_eq_true rfl, Nat.le_of_ble_eq_true rfl⟩ ⟨Nat.le_of_ble_eq_true rfl, Nat.le_of_ble_eq_true rfl⟩ dX11_undo_4 (fun r5 kd1 ig2 rg3 lg4 H locs hw hH hp6 => ?_)
  obtain ⟨hI, hchp6, hrhp6⟩ := hp6
  have hT := hT.tr hchp6
  have hN := hN.tr hchp6
  have hsh := hI.sh
  have hrs := hI.rs
  obtain rfl := hrhp6
  refine lv_aload_n hx hb dX11_undo_7 rfl (lv_at hl 0 rfl) ?_
  refine r_get C hw (hsh 0 _ rfl) fl_X11_19 (oV_r rfl (hrs (0, 1, 9) (by decide))) dX11_undo_8 ?_
  refine r_get C hw (hsh 9 _ rfl) fl_X11_171 (oV_i rfl) dX11_undo_11 (ti_c (ig2 (B + 9) 5).toInt rfl fun z7 hz7 => ?_)
  have k8 : 0 ≤ (ig2 (B + 9) 5).toInt ∧ (ig2 (B + 9) 5).toInt ≤ 20 := hI.i 9 5 (by decide)
  have hS := hS.nx hT
  have hV := hV.nx hT
  have hT : Nx 742 B none kd1 ig2 rg3 lg4 kd1 ig2 rg3 lg4 := Nx.rf
  have hl9 := hS.len
  refine z_ne (tgt := 19) hx hb dX11_undo_14 (by decide) (fun c14 => ?_) (fun c14 => ?_)
  · obtain ⟨π0, ⟨p0, c0⟩, hπ0⟩ : ∃ π0 e, π = π0 ++ [e] := ⟨π.dropLast, π.getLast (by intro q; rw [q] at hl9; simp at hl9; omega), (List.dropLast_concat_getLast _).symm⟩
    refine lv_aload_n hx hb dX11_undo_19 rfl (lv_at hl 0 rfl) ?_
    refine r_get C hw (hsh 0 _ rfl) fl_X11_37 (oV_r rfl (hrs (0, 3, 24) (by decide))) dX11_undo_20 ?_
    refine r_callV (As := []) (rest := []) C hw (t_X10_settle l B D cA kd1 ig2 rg3 lg4 _   hI) sv_X11_159 (hsh 24 _ rfl) rfl hl.1 rfl (Nat.le_of_ble_eq_true rfl) ⟨Nat.le_of_ble_eq_true rfl, Nat.le_of_ble_eq_true rfl⟩ ⟨Nat.le_of_ble_eq_true rfl, Nat.le_of_ble_eq_true rfl⟩ dX11_undo_23 (fun r13 kd9 ig10 rg11 lg12 H locs hw hH hp14 => ?_)
    obtain ⟨hI, hchp14, hrhp14⟩ := hp14
    have hT := hT.tr hchp14
    have hN := hN.tr hchp14
    have hsh := hI.sh
    have hrs := hI.rs
    obtain rfl := hrhp14
    refine lv_aload_n hx hb dX11_undo_26 rfl (lv_at hl 0 rfl) ?_
    refine r_get C hw (hsh 0 _ rfl) fl_X11_76 (oV_r rfl (hrs (0, 8, 45) (by decide))) dX11_undo_27 ?_
    refine r_callV (As := []) (rest := []) C hw (t_X1_remember l B D cA kd9 ig10 rg11 lg12 _   hI) sv_X11_160 (hsh 45 _ rfl) rfl hl.1 rfl (Nat.le_of_ble_eq_true rfl) ⟨Nat.le_of_ble_eq_true rfl, Nat.le_of_ble_eq_true rfl⟩ ⟨Nat.le_of_ble_eq_true rfl, Nat.le_of_ble_eq_true rfl⟩ dX11_undo_30 (fun r19 kd15 ig16 rg17 lg18 H locs hw hH hp20 => ?_)
    obtain ⟨hI, hchp20, hrhp20⟩ := hp20
    have hT := hT.tr hchp20
    have hN := hN.tr hchp20
    have hsh := hI.sh
    have hrs := hI.rs
    obtain rfl := hrhp20
    refine lv_aload_n hx hb dX11_undo_33 rfl (lv_at hl 0 rfl) ?_
    refine r_get C hw (hsh 0 _ rfl) fl_X11_19 (oV_r rfl (hrs (0, 1, 9) (by decide))) dX11_undo_34 ?_
    have hS := hS.nx hT
    have hV := hV.nx hT
    have hT : Nx 742 B none kd15 ig16 rg17 lg18 kd15 ig16 rg17 lg18 := Nx.rf
    refine r_callV (As := []) (rest := []) C hw (t_X6_takeBackE l B D cA kd15 ig16 rg17 lg18 _  σ π ν π0 p0 c0 hπ0 hS (by omega) hI) sv_X11_174 (hsh 9 _ rfl) rfl hl.1 rfl (Nat.le_of_ble_eq_true rfl) ⟨Nat.le_of_ble_eq_true rfl, Nat.le_of_ble_eq_true rfl⟩ ⟨Nat.le_of_ble_eq_true rfl, Nat.le_of_ble_eq_true rfl⟩ dX11_undo_37 (fun r25 kd21 ig22 rg23 lg24 H locs hw hH hp26 => ?_)
    obtain ⟨hI, hchp26, hrhp26⟩ := hp26
    have hN := hN.tr hchp26
    have hsh := hI.sh
    have hrs := hI.rs
    obtain ⟨rfl, hvhp26⟩ := hrhp26
    have hS := hvhp26.1
    have hV := FV.step (σ' := (upS σ p0 c0)) hV hvhp26.2
    have hT : Nx 742 B none kd21 ig22 rg23 lg24 kd21 ig22 rg23 lg24 := Nx.rf
    refine lv_aload_n hx hb dX11_undo_40 rfl (lv_at hl 0 rfl) ?_
    refine r_get C hw (hsh 0 _ rfl) fl_X11_37 (oV_r rfl (hrs (0, 3, 24) (by decide))) dX11_undo_41 ?_
    refine r_callV (As := []) (rest := []) C hw (t_X10_settle l B D cA kd21 ig22 rg23 lg24 _   hI) sv_X11_159 (hsh 24 _ rfl) rfl hl.1 rfl (Nat.le_of_ble_eq_true rfl) ⟨Nat.le_of_ble_eq_true rfl, Nat.le_of_ble_eq_true rfl⟩ ⟨Nat.le_of_ble_eq_true rfl, Nat.le_of_ble_eq_true rfl⟩ dX11_undo_44 (fun r31 kd27 ig28 rg29 lg30 H locs hw hH hp32 => ?_)
    obtain ⟨hI, hchp32, hrhp32⟩ := hp32
    have hT := hT.tr hchp32
    have hN := hN.tr hchp32
    have hsh := hI.sh
    have hrs := hI.rs
    obtain rfl := hrhp32
    refine lv_aload_n hx hb dX11_undo_47 rfl (lv_at hl 0 rfl) ?_
    refine r_get C hw (hsh 0 _ rfl) fl_X11_76 (oV_r rfl (hrs (0, 8, 45) (by decide))) dX11_undo_48 ?_
    refine r_callV (As := []) (rest := []) C hw (t_X1_compare l B D cA kd27 ig28 rg29 lg30 _   hI) sv_X11_163 (hsh 45 _ rfl) rfl hl.1 rfl (Nat.le_of_ble_eq_true rfl) ⟨Nat.le_of_ble_eq_true rfl, Nat.le_of_ble_eq_true rfl⟩ ⟨Nat.le_of_ble_eq_true rfl, Nat.le_of_ble_eq_true rfl⟩ dX11_undo_51 (fun r37 kd33 ig34 rg35 lg36 H locs hw hH hp38 => ?_)
    obtain ⟨hI, hchp38, hrhp38⟩ := hp38
    have hT := hT.tr hchp38
    have hN := hN.tr hchp38
    have hsh := hI.sh
    have hrs := hI.rs
    obtain ⟨z39, rfl, hz39⟩ := hrhp38
    have hS := hS.nx hT
    have hV := hV.nx hT
    have hT : Nx 742 B none kd33 ig34 rg35 lg36 kd33 ig34 rg35 lg36 := Nx.rf
    exact r_iret C hw hr hlk rfl (Nat.le_of_ble_eq_true rfl) (Nat.le_of_ble_eq_true rfl) dX11_undo_54 ⟨hI, hN, ⟨_, rfl, ⟨_, _, _, hS, hV, (by first | exact Or.inl rfl | exact Or.inr ⟨rfl, rfl⟩), Or.inr ⟨π0, p0, c0, hπ0, rfl, rfl⟩⟩⟩⟩
  · have hπ0 : π = [] := List.length_eq_zero_iff.mp (by omega)
    refine lv_iconst (v := (-1)) hx hb dX11_undo_17 (by decide) (ti_c (-1) (by decide) fun z40 hz40 => ?_)
    exact r_iret C hw hr hlk rfl (Nat.le_of_ble_eq_true rfl) (Nat.le_of_ble_eq_true rfl) dX11_undo_18 ⟨hI, hN, ⟨_, rfl, ⟨_, _, _, hS, hV, (by first | exact Or.inl rfl | exact Or.inr ⟨rfl, rfl⟩), Or.inl ⟨hπ0, rfl, rfl⟩⟩⟩⟩

set_option maxHeartbeats 4000000 in
set_option maxRecDepth 100000 in
theorem t_X11_checkE {τ : Tp} (l : Launch) (B : Nat) (D : va_G) (cA : Nat → ClassId) (kd : sK) (ig : sI) (rg : sR) (lg : sG) (sz : Nat) (σ : Sg) (π : Ps) (ν : Nat) (hS : SCh B σ π ν kd ig rg) (hV : FV B σ ν ig) (hν : ν < 1000000) (hI : IC τ B kd ig rg) : MC l B D cA yX11_check cX11_check 1 (some .int) (rL 7 0 0) [.ref (B + 0)] kd ig rg lg sz (PI 786 τ B none kd ig rg lg (fun r kd' ig' rg' lg' => ∃ z : Int32, r = some (.int z) ∧ (SCh B σ π ν kd' ig' rg' ∧ FV B σ ν ig'))) := by
  refine MC.of (own := RX11) (by decide +kernel) rfl (Nat.le_of_ble_eq_true rfl) ?_
  intro p e s m args below meth c ls C hr hlk hnm hw hsz hl
  have hx := C.1.1
  have hb := C.1.2.1
  have hown := C.1.2.2.2.1
  have hts := C.1.2.2.2.2
  have hl : lv_has ls 1 [(0, .ref (B + 0))] := hl
  have hN : Nx 786 B none kd ig rg lg kd ig rg lg := Nx.rf
  have hsh := hI.sh
  have hrs := hI.rs
  have hT : Nx 790 B none kd ig rg lg kd ig rg lg := Nx.rf
  refine lv_aload_n hx hb dX11_check_0 rfl (lv_at hl 0 rfl) ?_
  refine r_get C hw (hsh 0 _ rfl) fl_X11_44 (oV_r rfl (hrs (0, 4, 29) (by decide))) dX11_check_1 ?_
  refine r_callV (As := []) (rest := []) C hw (t_X2_settleE l B D cA kd ig rg lg _  σ π ν hS hV hI) sv_X11_140 (hsh 29 _ rfl) rfl hl.1 rfl (Nat.le_of_ble_eq_true rfl) ⟨Nat.le_of_ble_eq_true rfl, Nat.le_of_ble_eq_true rfl⟩ ⟨Nat.le_of_ble_eq_true rfl, Nat.le_of_ble_eq_true rfl⟩ dX11_check_4 (fun r5 kd1 ig2 rg3 lg4 H locs hw hH hp6 => ?_)
  obtain ⟨hI, hchp6, hrhp6⟩ := hp6
  have hN := hN.tr hchp6
  have hsh := hI.sh
  have hrs := hI.rs
  obtain ⟨rfl, hvhp6⟩ := hrhp6
  have hS := SCh.nx hS hchp6
  have hV := FV.of hvhp6.1 hvhp6.2
  have hT : Nx 790 B none kd1 ig2 rg3 lg4 kd1 ig2 rg3 lg4 := Nx.rf
  refine lv_aload_n hx hb dX11_check_7 rfl (lv_at hl 0 rfl) ?_
  refine r_get C hw (hsh 0 _ rfl) fl_X11_51 (oV_r rfl (hrs (0, 5, 32) (by decide))) dX11_check_8 ?_
  refine r_callV (As := []) (rest := []) C hw (t_X9_settle l B D cA kd1 ig2 rg3 lg4 _   hI) sv_X11_143 (hsh 32 _ rfl) rfl hl.1 rfl (Nat.le_of_ble_eq_true rfl) ⟨Nat.le_of_ble_eq_true rfl, Nat.le_of_ble_eq_true rfl⟩ ⟨Nat.le_of_ble_eq_true rfl, Nat.le_of_ble_eq_true rfl⟩ dX11_check_11 (fun r11 kd7 ig8 rg9 lg10 H locs hw hH hp12 => ?_)
  obtain ⟨hI, hchp12, hrhp12⟩ := hp12
  have hT := hT.tr hchp12
  have hN := hN.tr hchp12
  have hsh := hI.sh
  have hrs := hI.rs
  obtain rfl := hrhp12
  refine lv_aload_n hx hb dX11_check_14 rfl (lv_at hl 0 rfl) ?_
  refine r_get C hw (hsh 0 _ rfl) fl_X11_58 (oV_r rfl (hrs (0, 6, 37) (by decide))) dX11_check_15 ?_
  refine r_callV (As := []) (rest := []) C hw (t_X8_settle l B D cA kd7 ig8 rg9 lg10 _   hI) sv_X11_144 (hsh 37 _ rfl) rfl hl.1 rfl (Nat.le_of_ble_eq_true rfl) ⟨Nat.le_of_ble_eq_true rfl, Nat.le_of_ble_eq_true rfl⟩ ⟨Nat.le_of_ble_eq_true rfl, Nat.le_of_ble_eq_true rfl⟩ dX11_check_18 (fun r17 kd13 ig14 rg15 lg16 H locs hw hH hp18 => ?_)
  obtain ⟨hI, hchp18, hrhp18⟩ := hp18
  have hT := hT.tr hchp18
  have hN := hN.tr hchp18
  have hsh := hI.sh
  have hrs := hI.rs
  obtain rfl := hrhp18
  refine lv_aload_n hx hb dX11_check_21 rfl (lv_at hl 0 rfl) ?_
  refine r_get C hw (hsh 0 _ rfl) fl_X11_67 (oV_r rfl (hrs (0, 7, 43) (by decide))) dX11_check_22 ?_
  refine r_callV (As := []) (rest := []) C hw (t_X3_gather l B D cA kd13 ig14 rg15 lg16 _   hI) sv_X11_145 (hsh 43 _ rfl) rfl hl.1 rfl (Nat.le_of_ble_eq_true rfl) ⟨Nat.le_of_ble_eq_true rfl, Nat.le_of_ble_eq_true rfl⟩ ⟨Nat.le_of_ble_eq_true rfl, Nat.le_of_ble_eq_true rfl⟩ dX11_check_25 (fun r23 kd19 ig20 rg21 lg22 H locs hw hH hp24 => ?_)
  obtain ⟨hI, hchp24, hrhp24⟩ := hp24
  have hT := hT.tr hchp24
  have hN := hN.tr hchp24
  have hsh := hI.sh
  have hrs := hI.rs
  obtain ⟨z25, rfl, hz25⟩ := hrhp24
  have hS := hS.nx hT
  have hV := hV.nx hT
  have hT : Nx 790 B none kd19 ig20 rg21 lg22 kd19 ig20 rg21 lg22 := Nx.rf
  exact r_iret C hw hr hlk rfl (Nat.le_of_ble_eq_true rfl) (Nat.le_of_ble_eq_true rfl) dX11_check_28 ⟨hI, hN, ⟨_, rfl, ⟨hS, hV⟩⟩⟩

set_option maxHeartbeats 4000000 in
set_option maxRecDepth 100000 in
theorem t_X11_countE {τ : Tp} (l : Launch) (B : Nat) (D : va_G) (cA : Nat → ClassId) (kd : sK) (ig : sI) (rg : sR) (lg : sG) (sz : Nat) (x : Int32) (σ : Sg) (π : Ps) (ν : Nat) (hS : SCh B σ π ν kd ig rg) (hV : FV B σ ν ig) (hν : ν < 1000000) (hI : IC τ B kd ig rg) : MC l B D cA yX11_count cX11_count 2 (some .int) (rL 7 0 0) [.ref (B + 0), .int x] kd ig rg lg sz (PI 994 τ B none kd ig rg lg (fun r kd' ig' rg' lg' => ∃ z : Int32, r = some (.int z) ∧ (SCh B σ π ν kd' ig' rg' ∧ FV B σ ν ig'))) := by
  refine MC.of (own := RX11) (by decide +kernel) rfl (Nat.le_of_ble_eq_true rfl) ?_
  intro p e s m args below meth c ls C hr hlk hnm hw hsz hl
  have hx := C.1.1
  have hb := C.1.2.1
  have hown := C.1.2.2.2.1
  have hts := C.1.2.2.2.2
  have hl : lv_has ls 2 [(0, .ref (B + 0)), (1, .int x)] := hl
  have hN : Nx 994 B none kd ig rg lg kd ig rg lg := Nx.rf
  have hsh := hI.sh
  have hrs := hI.rs
  have hT : Nx 998 B none kd ig rg lg kd ig rg lg := Nx.rf
  refine lv_iload_n hx hb dX11_count_0 rfl (lv_at hl 1 rfl) ?_
  by_cases s1_0 : x.toInt = 0
  · refine lv_tableIn hx hb dX11_count_1 (by omega) (by omega) (off := 39) (by rw [s1_0]; rfl) (tgt := 40) (by decide) ?_
    refine lv_aload_n hx hb dX11_count_40 rfl (lv_at hl 0 rfl) ?_
    refine r_get C hw (hsh 0 _ rfl) fl_X11_19 (oV_r rfl (hrs (0, 1, 9) (by decide))) dX11_count_41 ?_
    refine lv_iconst (v := 1) hx hb dX11_count_44 (by decide) (ti_c 1 (by decide) fun z1 hz1 => ?_)
    refine r_callV (As := [.int z1]) (rest := []) C hw (t_X6_cellsOfKind l B D cA kd ig rg lg _ z1  hI) sv_X11_212 (hsh 9 _ rfl) rfl hl.1 rfl (Nat.le_of_ble_eq_true rfl) ⟨Nat.le_of_ble_eq_true rfl, Nat.le_of_ble_eq_true rfl⟩ ⟨Nat.le_of_ble_eq_true rfl, Nat.le_of_ble_eq_true rfl⟩ dX11_count_45 (fun r6 kd2 ig3 rg4 lg5 H locs hw hH hp7 => ?_)
    obtain ⟨rfl, rfl, rfl, rfl, hzhp7, hrhp7⟩ := hp7
    obtain ⟨z8, rfl, hz8⟩ := hrhp7
    exact r_iret C hw hr hlk rfl (Nat.le_of_ble_eq_true rfl) (Nat.le_of_ble_eq_true rfl) dX11_count_48 ⟨hI, hN, ⟨_, rfl, ⟨hS, hV⟩⟩⟩
  by_cases s1_1 : x.toInt = 1
  · refine lv_tableIn hx hb dX11_count_1 (by omega) (by omega) (off := 48) (by rw [s1_1]; rfl) (tgt := 49) (by decide) ?_
    refine lv_aload_n hx hb dX11_count_49 rfl (lv_at hl 0 rfl) ?_
    refine r_get C hw (hsh 0 _ rfl) fl_X11_19 (oV_r rfl (hrs (0, 1, 9) (by decide))) dX11_count_50 ?_
    refine lv_iconst (v := 2) hx hb dX11_count_53 (by decide) (ti_c 2 (by decide) fun z9 hz9 => ?_)
    refine r_callV (As := [.int z9]) (rest := []) C hw (t_X6_cellsOfKind l B D cA kd ig rg lg _ z9  hI) sv_X11_212 (hsh 9 _ rfl) rfl hl.1 rfl (Nat.le_of_ble_eq_true rfl) ⟨Nat.le_of_ble_eq_true rfl, Nat.le_of_ble_eq_true rfl⟩ ⟨Nat.le_of_ble_eq_true rfl, Nat.le_of_ble_eq_true rfl⟩ dX11_count_54 (fun r14 kd10 ig11 rg12 lg13 H locs hw hH hp15 => ?_)
    obtain ⟨rfl, rfl, rfl, rfl, hzhp15, hrhp15⟩ := hp15
    obtain ⟨z16, rfl, hz16⟩ := hrhp15
    exact r_iret C hw hr hlk rfl (Nat.le_of_ble_eq_true rfl) (Nat.le_of_ble_eq_true rfl) dX11_count_57 ⟨hI, hN, ⟨_, rfl, ⟨hS, hV⟩⟩⟩
  by_cases s1_2 : x.toInt = 2
  · refine lv_tableIn hx hb dX11_count_1 (by omega) (by omega) (off := 57) (by rw [s1_2]; rfl) (tgt := 58) (by decide) ?_
    refine lv_aload_n hx hb dX11_count_58 rfl (lv_at hl 0 rfl) ?_
    refine r_get C hw (hsh 0 _ rfl) fl_X11_44 (oV_r rfl (hrs (0, 4, 29) (by decide))) dX11_count_59 ?_
    refine r_callV (As := []) (rest := []) C hw (t_X2_settleE l B D cA kd ig rg lg _  σ π ν hS hV hI) sv_X11_140 (hsh 29 _ rfl) rfl hl.1 rfl (Nat.le_of_ble_eq_true rfl) ⟨Nat.le_of_ble_eq_true rfl, Nat.le_of_ble_eq_true rfl⟩ ⟨Nat.le_of_ble_eq_true rfl, Nat.le_of_ble_eq_true rfl⟩ dX11_count_62 (fun r21 kd17 ig18 rg19 lg20 H locs hw hH hp22 => ?_)
    obtain ⟨hI, hchp22, hrhp22⟩ := hp22
    have hN := hN.tr hchp22
    have hsh := hI.sh
    have hrs := hI.rs
    obtain ⟨rfl, hvhp22⟩ := hrhp22
    have hS := SCh.nx hS hchp22
    have hV := FV.of hvhp22.1 hvhp22.2
    have hT : Nx 998 B none kd17 ig18 rg19 lg20 kd17 ig18 rg19 lg20 := Nx.rf
    refine lv_aload_n hx hb dX11_count_65 rfl (lv_at hl 0 rfl) ?_
    refine r_get C hw (hsh 0 _ rfl) fl_X11_44 (oV_r rfl (hrs (0, 4, 29) (by decide))) dX11_count_66 ?_
    refine r_get C hw (hsh 29 _ rfl) fl_X11_215 (oV_i rfl) dX11_count_69 (ti_c (ig18 (B + 29) 3).toInt rfl fun z23 hz23 => ?_)
    have k24 : 0 ≤ (ig18 (B + 29) 3).toInt ∧ (ig18 (B + 29) 3).toInt ≤ 288 := hI.i 29 3 (by decide)
    exact r_iret C hw hr hlk rfl (Nat.le_of_ble_eq_true rfl) (Nat.le_of_ble_eq_true rfl) dX11_count_72 ⟨hI, hN, ⟨_, rfl, ⟨hS, hV⟩⟩⟩
  by_cases s1_3 : x.toInt = 3
  · refine lv_tableIn hx hb dX11_count_1 (by omega) (by omega) (off := 72) (by rw [s1_3]; rfl) (tgt := 73) (by decide) ?_
    refine lv_aload_n hx hb dX11_count_73 rfl (lv_at hl 0 rfl) ?_
    refine r_get C hw (hsh 0 _ rfl) fl_X11_37 (oV_r rfl (hrs (0, 3, 24) (by decide))) dX11_count_74 ?_
    refine r_callV (As := []) (rest := []) C hw (t_X10_settle l B D cA kd ig rg lg _   hI) sv_X11_159 (hsh 24 _ rfl) rfl hl.1 rfl (Nat.le_of_ble_eq_true rfl) ⟨Nat.le_of_ble_eq_true rfl, Nat.le_of_ble_eq_true rfl⟩ ⟨Nat.le_of_ble_eq_true rfl, Nat.le_of_ble_eq_true rfl⟩ dX11_count_77 (fun r29 kd25 ig26 rg27 lg28 H locs hw hH hp30 => ?_)
    obtain ⟨hI, hchp30, hrhp30⟩ := hp30
    have hT := hT.tr hchp30
    have hN := hN.tr hchp30
    have hsh := hI.sh
    have hrs := hI.rs
    obtain rfl := hrhp30
    refine lv_aload_n hx hb dX11_count_80 rfl (lv_at hl 0 rfl) ?_
    refine r_get C hw (hsh 0 _ rfl) fl_X11_37 (oV_r rfl (hrs (0, 3, 24) (by decide))) dX11_count_81 ?_
    refine r_callV (As := []) (rest := []) C hw (t_X10_errors l B D cA kd25 ig26 rg27 lg28 _   hI) sv_X11_218 (hsh 24 _ rfl) rfl hl.1 rfl (Nat.le_of_ble_eq_true rfl) ⟨Nat.le_of_ble_eq_true rfl, Nat.le_of_ble_eq_true rfl⟩ ⟨Nat.le_of_ble_eq_true rfl, Nat.le_of_ble_eq_true rfl⟩ dX11_count_84 (fun r35 kd31 ig32 rg33 lg34 H locs hw hH hp36 => ?_)
    obtain ⟨rfl, rfl, rfl, rfl, hzhp36, hrhp36⟩ := hp36
    obtain ⟨z37, rfl, hz37⟩ := hrhp36
    have hS := hS.nx hT
    have hV := hV.nx hT
    have hT : Nx 998 B none kd25 ig26 rg27 lg28 kd25 ig26 rg27 lg28 := Nx.rf
    exact r_iret C hw hr hlk rfl (Nat.le_of_ble_eq_true rfl) (Nat.le_of_ble_eq_true rfl) dX11_count_87 ⟨hI, hN, ⟨_, rfl, ⟨hS, hV⟩⟩⟩
  by_cases s1_4 : x.toInt = 4
  · refine lv_tableIn hx hb dX11_count_1 (by omega) (by omega) (off := 87) (by rw [s1_4]; rfl) (tgt := 88) (by decide) ?_
    refine lv_aload_n hx hb dX11_count_88 rfl (lv_at hl 0 rfl) ?_
    refine r_get C hw (hsh 0 _ rfl) fl_X11_12 (oV_r rfl (hrs (0, 0, 1) (by decide))) dX11_count_89 ?_
    refine r_get C hw (hsh 1 _ rfl) fl_X11_84 (oV_i rfl) dX11_count_92 (ti_c (ig (B + 1) 1).toInt rfl fun z38 hz38 => ?_)
    have k39 : 0 ≤ (ig (B + 1) 1).toInt ∧ (ig (B + 1) 1).toInt ≤ 120 := hI.i 1 1 (by decide)
    exact r_iret C hw hr hlk rfl (Nat.le_of_ble_eq_true rfl) (Nat.le_of_ble_eq_true rfl) dX11_count_95 ⟨hI, hN, ⟨_, rfl, ⟨hS, hV⟩⟩⟩
  by_cases s1_5 : x.toInt = 5
  · refine lv_tableIn hx hb dX11_count_1 (by omega) (by omega) (off := 95) (by rw [s1_5]; rfl) (tgt := 96) (by decide) ?_
    refine lv_aload_n hx hb dX11_count_96 rfl (lv_at hl 0 rfl) ?_
    refine r_get C hw (hsh 0 _ rfl) fl_X11_19 (oV_r rfl (hrs (0, 1, 9) (by decide))) dX11_count_97 ?_
    refine r_get C hw (hsh 9 _ rfl) fl_X11_171 (oV_i rfl) dX11_count_100 (ti_c (ig (B + 9) 5).toInt rfl fun z40 hz40 => ?_)
    have k41 : 0 ≤ (ig (B + 9) 5).toInt ∧ (ig (B + 9) 5).toInt ≤ 20 := hI.i 9 5 (by decide)
    exact r_iret C hw hr hlk rfl (Nat.le_of_ble_eq_true rfl) (Nat.le_of_ble_eq_true rfl) dX11_count_103 ⟨hI, hN, ⟨_, rfl, ⟨hS, hV⟩⟩⟩
  refine lv_tableOut hx hb dX11_count_1 (by omega) (tgt := 104) (by decide) ?_
  refine lv_iconst (v := (-1)) hx hb dX11_count_104 (by decide) (ti_c (-1) (by decide) fun z42 hz42 => ?_)
  exact r_iret C hw hr hlk rfl (Nat.le_of_ble_eq_true rfl) (Nat.le_of_ble_eq_true rfl) dX11_count_105 ⟨hI, hN, ⟨_, rfl, ⟨hS, hV⟩⟩⟩
