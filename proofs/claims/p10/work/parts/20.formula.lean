set_option maxHeartbeats 4000000 in
set_option maxRecDepth 100000 in
theorem t_X11_onSheet {τ : Tp} (l : Launch) (B : Nat) (D : va_G) (cA : Nat → ClassId) (kd : sK) (ig : sI) (rg : sR) (lg : sG) (sz : Nat) (x : Int32) (hI : IC τ B kd ig rg) : MC l B D cA yX11_onSheet cX11_onSheet 1 (some .boolean) (rL 0 0 0) [.int x] kd ig rg lg sz (Pu kd ig rg lg sz (fun r => ∃ z : Int32, r = some (.int z) ∧ ((0 ≤ x.toInt ∧ x.toInt < 288) → z.toInt = 1) ∧ (¬ (0 ≤ x.toInt ∧ x.toInt < 288) → z.toInt = 0))) := by
  refine MC.of (own := RX11) (by decide +kernel) rfl (Nat.le_of_ble_eq_true rfl) ?_
  intro p e s m args below meth c ls C hr hlk hnm hw hsz hl
  have hx := C.1.1
  have hb := C.1.2.1
  have hown := C.1.2.2.2.1
  have hts := C.1.2.2.2.2
  have hl : lv_has ls 1 [(0, .int x)] := hl
  have hsh := hI.sh
  have hrs := hI.rs
  refine lv_iload_n hx hb dX11_onSheet_0 rfl (lv_at hl 0 rfl) ?_
  refine z_lt (tgt := 15) hx hb dX11_onSheet_1 (by decide) (fun c1 => ?_) (fun c1 => ?_)
  · refine lv_iconst (v := 0) hx hb dX11_onSheet_15 (by decide) (ti_c 0 (by decide) fun z1 hz1 => ?_)
    exact r_iret C hw hr hlk (nar_b (by omega)) (Nat.le_of_ble_eq_true rfl) (Nat.le_of_ble_eq_true rfl) dX11_onSheet_16 ⟨rfl, rfl, rfl, rfl, hsz, ⟨_, rfl, by omega⟩⟩
  · refine lv_iload_n hx hb dX11_onSheet_4 rfl (lv_at hl 0 rfl) ?_
    refine lv_sipush (v := 288) hx hb dX11_onSheet_5 (by decide) (ti_c 288 (by decide) fun z2 hz2 => ?_)
    refine b_ge (tgt := 15) hx hb dX11_onSheet_8 (by decide) (fun c8 => ?_) (fun c8 => ?_)
    · refine lv_iconst (v := 0) hx hb dX11_onSheet_15 (by decide) (ti_c 0 (by decide) fun z3 hz3 => ?_)
      exact r_iret C hw hr hlk (nar_b (by omega)) (Nat.le_of_ble_eq_true rfl) (Nat.le_of_ble_eq_true rfl) dX11_onSheet_16 ⟨rfl, rfl, rfl, rfl, hsz, ⟨_, rfl, by omega⟩⟩
    · refine lv_iconst (v := 1) hx hb dX11_onSheet_11 (by decide) (ti_c 1 (by decide) fun z4 hz4 => ?_)
      refine lv_goto (tgt := 16) hx hb dX11_onSheet_12 (by decide) ?_
      exact r_iret C hw hr hlk (nar_b (by omega)) (Nat.le_of_ble_eq_true rfl) (Nat.le_of_ble_eq_true rfl) dX11_onSheet_16 ⟨rfl, rfl, rfl, rfl, hsz, ⟨_, rfl, by omega⟩⟩

set_option maxHeartbeats 4000000 in
set_option maxRecDepth 100000 in
theorem t_X11_isExponent {τ : Tp} (l : Launch) (B : Nat) (D : va_G) (cA : Nat → ClassId) (kd : sK) (ig : sI) (rg : sR) (lg : sG) (sz : Nat) (x : Int32) (hI : IC τ B kd ig rg) : MC l B D cA yX11_isExponent cX11_isExponent 1 (some .boolean) (rL 0 0 0) [.int x] kd ig rg lg sz (Pu kd ig rg lg sz (fun r => ∃ z : Int32, r = some (.int z) ∧ (z.toInt = 0 ∨ z.toInt = 1))) := by
  refine MC.of (own := RX11) (by decide +kernel) rfl (Nat.le_of_ble_eq_true rfl) ?_
  intro p e s m args below meth c ls C hr hlk hnm hw hsz hl
  have hx := C.1.1
  have hb := C.1.2.1
  have hown := C.1.2.2.2.1
  have hts := C.1.2.2.2.2
  have hl : lv_has ls 1 [(0, .int x)] := hl
  have hsh := hI.sh
  have hrs := hI.rs
  refine lv_iload_n hx hb dX11_isExponent_0 rfl (lv_at hl 0 rfl) ?_
  refine lv_bipush (v := (-4)) hx hb dX11_isExponent_1 (by decide) (ti_c (-4) (by decide) fun z1 hz1 => ?_)
  refine b_lt (tgt := 15) hx hb dX11_isExponent_3 (by decide) (fun c3 => ?_) (fun c3 => ?_)
  · refine lv_iconst (v := 0) hx hb dX11_isExponent_15 (by decide) (ti_c 0 (by decide) fun z2 hz2 => ?_)
    exact r_iret C hw hr hlk (nar_b (by omega)) (Nat.le_of_ble_eq_true rfl) (Nat.le_of_ble_eq_true rfl) dX11_isExponent_16 ⟨rfl, rfl, rfl, rfl, hsz, ⟨_, rfl, by omega⟩⟩
  · refine lv_iload_n hx hb dX11_isExponent_6 rfl (lv_at hl 0 rfl) ?_
    refine lv_iconst (v := 4) hx hb dX11_isExponent_7 (by decide) (ti_c 4 (by decide) fun z3 hz3 => ?_)
    refine b_gt (tgt := 15) hx hb dX11_isExponent_8 (by decide) (fun c8 => ?_) (fun c8 => ?_)
    · refine lv_iconst (v := 0) hx hb dX11_isExponent_15 (by decide) (ti_c 0 (by decide) fun z4 hz4 => ?_)
      exact r_iret C hw hr hlk (nar_b (by omega)) (Nat.le_of_ble_eq_true rfl) (Nat.le_of_ble_eq_true rfl) dX11_isExponent_16 ⟨rfl, rfl, rfl, rfl, hsz, ⟨_, rfl, by omega⟩⟩
    · refine lv_iconst (v := 1) hx hb dX11_isExponent_11 (by decide) (ti_c 1 (by decide) fun z5 hz5 => ?_)
      refine lv_goto (tgt := 16) hx hb dX11_isExponent_12 (by decide) ?_
      exact r_iret C hw hr hlk (nar_b (by omega)) (Nat.le_of_ble_eq_true rfl) (Nat.le_of_ble_eq_true rfl) dX11_isExponent_16 ⟨rfl, rfl, rfl, rfl, hsz, ⟨_, rfl, by omega⟩⟩

/-- the rows of longs that hold sets of places -/
theorem isLr.k {B c : Nat} {kd : sK} (h : isLr c) (hs : Sh B kd) : kd (B + c) = some (23, 1440) := by
  rcases h with rfl | rfl | rfl | rfl <;> exact hs _ _ rfl
theorem isLr.lt {c : Nat} (h : isLr c) : c < 49 := by rcases h with rfl | rfl | rfl | rfl <;> decide

set_option maxHeartbeats 4000000 in
set_option maxRecDepth 100000 in
theorem t_X11_hasBit {τ : Tp} (l : Launch) (B : Nat) (D : va_G) (cA : Nat → ClassId) (kd : sK) (ig : sI) (rg : sR) (lg : sG) (sz : Nat) (c0 : Nat) (hc : isLr c0) (x : Int32) (y : Int32) (hI : IC τ B kd ig rg) : MC l B D cA yX11_hasBit cX11_hasBit 3 (some .boolean) (rL 1 0 0) [.ref (B + c0), .int x, .int y] kd ig rg lg sz (Pu kd ig rg lg sz (fun r => ∃ z : Int32, r = some (.int z) ∧ (z.toInt = 0 ∨ z.toInt = 1))) := by
  refine MC.of (own := RX11) (by decide +kernel) rfl (Nat.le_of_ble_eq_true rfl) ?_
  intro p e s m args below meth c ls C hr hlk hnm hw hsz hl
  have hx := C.1.1
  have hb := C.1.2.1
  have hown := C.1.2.2.2.1
  have hts := C.1.2.2.2.2
  have hl : lv_has ls 3 [(0, .ref (B + c0)), (1, .int x), (2, .int y)] := hl
  have hsh := hI.sh
  have hrs := hI.rs
  have hcl := hc.lt
  refine lv_iload_n hx hb dX11_hasBit_0 rfl (lv_at hl 1 rfl) ?_
  refine r_callS (As := [.int x]) (rest := []) C hw (t_X11_onSheet l B D cA kd ig rg lg _ x  hI) ss_X11_88 rfl hl.1 rfl (Nat.le_of_ble_eq_true rfl) ⟨Nat.le_of_ble_eq_true rfl, Nat.le_of_ble_eq_true rfl⟩ ⟨Nat.le_of_ble_eq_true rfl, Nat.le_of_ble_eq_true rfl⟩ dX11_hasBit_1 (fun r5 kd1 ig2 rg3 lg4 H locs hw hH hp6 => ?_)
  obtain ⟨rfl, rfl, rfl, rfl, hzhp6, hrhp6⟩ := hp6
  have hsz := hzhp6.trans hsz
  obtain ⟨z7, rfl, hz7⟩ := hrhp6
  refine z_eq (tgt := 14) hx hb dX11_hasBit_4 (by decide) (fun c4 => ?_) (fun c4 => ?_)
  · refine lv_iconst (v := 0) hx hb dX11_hasBit_14 (by decide) (ti_c 0 (by decide) fun z8 hz8 => ?_)
    exact r_iret C hw hr hlk (nar_b (by omega)) (Nat.le_of_ble_eq_true rfl) (Nat.le_of_ble_eq_true rfl) dX11_hasBit_15 ⟨rfl, rfl, rfl, rfl, hsz, ⟨_, rfl, by omega⟩⟩
  · refine lv_iload_n hx hb dX11_hasBit_7 rfl (lv_at hl 2 rfl) ?_
    refine r_callS (As := [.int y]) (rest := []) C hw (t_X11_onSheet l B D cA kd ig rg lg _ y  hI) ss_X11_88 rfl hl.1 rfl (Nat.le_of_ble_eq_true rfl) ⟨Nat.le_of_ble_eq_true rfl, Nat.le_of_ble_eq_true rfl⟩ ⟨Nat.le_of_ble_eq_true rfl, Nat.le_of_ble_eq_true rfl⟩ dX11_hasBit_8 (fun r13 kd9 ig10 rg11 lg12 H locs hw hH hp14 => ?_)
    obtain ⟨rfl, rfl, rfl, rfl, hzhp14, hrhp14⟩ := hp14
    have hsz := hzhp14.trans hsz
    obtain ⟨z15, rfl, hz15⟩ := hrhp14
    refine z_ne (tgt := 16) hx hb dX11_hasBit_11 (by decide) (fun c11 => ?_) (fun c11 => ?_)
    · refine lv_aload_n hx hb dX11_hasBit_16 rfl (lv_at hl 0 rfl) ?_
      refine lv_iload_n hx hb dX11_hasBit_17 rfl (lv_at hl 1 rfl) ?_
      refine lv_iconst (v := 5) hx hb dX11_hasBit_18 (by decide) (ti_c 5 (by decide) fun z16 hz16 => ?_)
      refine lv_imul hx hb dX11_hasBit_19 (tc_mulR 5 hz16 fun z17 hz17 => ?_)
      first | replace hz17 := hz17 (by omega) | clear hz17
      refine lv_iload_n hx hb dX11_hasBit_20 rfl (lv_at hl 2 rfl) ?_
      refine lv_bipush (v := 64) hx hb dX11_hasBit_21 (by decide) (ti_c 64 (by decide) fun z18 hz18 => ?_)
      refine lv_idiv hx hb dX11_hasBit_23 (ne0_of (by omega)) (tc_div 64 hz18 (by decide) fun z19 bz19 hz19 => ?_)
      first | replace hz19 := hz19 (by omega) | clear hz19
      refine lv_iadd hx hb dX11_hasBit_24 (tc_add fun z20 hz20 => ?_)
      first | replace hz20 := hz20 (by omega) | clear hz20
      refine r_lald C hw (isLr.k hc hsh) (by omega) (by omega) dX11_hasBit_25 (lv_topl fun x21 hx21 => ?_)
      refine lv_iload_n hx hb dX11_hasBit_26 rfl (lv_at hl 2 rfl) ?_
      refine lv_bipush (v := 64) hx hb dX11_hasBit_27 (by decide) (ti_c 64 (by decide) fun z22 hz22 => ?_)
      refine lv_irem hx hb dX11_hasBit_29 (ne0_of (by omega)) (tc_rem 64 hz22 (by decide) fun z23 bz23 hz23 => ?_)
      first | replace hz23 := hz23 (by omega) | clear hz23
      refine lv_lushr hx hb dX11_hasBit_30 rfl (lv_topl fun x24 hx24 => ?_)
      refine lv_lconst (v := 1) hx hb dX11_hasBit_31 (by decide) (lv_topl fun x25 hx25 => ?_)
      refine lv_land hx hb dX11_hasBit_32 (lv_topl fun x26 hx26 => ?_)
      refine lv_lconst (v := 0) hx hb dX11_hasBit_33 (by decide) (lv_topl fun x27 hx27 => ?_)
      refine W.lcmp hx hb dX11_hasBit_34 (lv_topi fun z28 hz28 => ?_)
      refine z_eq (tgt := 42) hx hb dX11_hasBit_35 (by decide) (fun c35 => ?_) (fun c35 => ?_)
      · refine lv_iconst (v := 0) hx hb dX11_hasBit_42 (by decide) (ti_c 0 (by decide) fun z29 hz29 => ?_)
        exact r_iret C hw hr hlk (nar_b (by omega)) (Nat.le_of_ble_eq_true rfl) (Nat.le_of_ble_eq_true rfl) dX11_hasBit_43 ⟨rfl, rfl, rfl, rfl, hsz, ⟨_, rfl, by omega⟩⟩
      · refine lv_iconst (v := 1) hx hb dX11_hasBit_38 (by decide) (ti_c 1 (by decide) fun z30 hz30 => ?_)
        refine lv_goto (tgt := 43) hx hb dX11_hasBit_39 (by decide) ?_
        exact r_iret C hw hr hlk (nar_b (by omega)) (Nat.le_of_ble_eq_true rfl) (Nat.le_of_ble_eq_true rfl) dX11_hasBit_43 ⟨rfl, rfl, rfl, rfl, hsz, ⟨_, rfl, by omega⟩⟩
    · refine lv_iconst (v := 0) hx hb dX11_hasBit_14 (by decide) (ti_c 0 (by decide) fun z31 hz31 => ?_)
      exact r_iret C hw hr hlk (nar_b (by omega)) (Nat.le_of_ble_eq_true rfl) (Nat.le_of_ble_eq_true rfl) dX11_hasBit_15 ⟨rfl, rfl, rfl, rfl, hsz, ⟨_, rfl, by omega⟩⟩

set_option maxHeartbeats 4000000 in
set_option maxRecDepth 100000 in
theorem t_X11_setBit {τ : Tp} (l : Launch) (B : Nat) (D : va_G) (cA : Nat → ClassId) (kd : sK) (ig : sI) (rg : sR) (lg : sG) (sz : Nat) (c0 : Nat) (hc : isLr c0) (hmb : nWl 1014 B (B + c0)) (x : Int32) (y : Int32) (hI : IC τ B kd ig rg) : MC l B D cA yX11_setBit cX11_setBit 3 none (rL 1 0 0) [.ref (B + c0), .int x, .int y] kd ig rg lg sz (PI 1014 τ B none kd ig rg lg (fun r kd' ig' rg' lg' => (r = none ∧ (ig' (B + 43) 6).toInt = (ig (B + 43) 6).toInt))) := by
  refine MC.of (own := RX11) (by decide +kernel) rfl (Nat.le_of_ble_eq_true rfl) ?_
  intro p e s m args below meth c ls C hr hlk hnm hw hsz hl
  have hx := C.1.1
  have hb := C.1.2.1
  have hown := C.1.2.2.2.1
  have hts := C.1.2.2.2.2
  have hl : lv_has ls 3 [(0, .ref (B + c0)), (1, .int x), (2, .int y)] := hl
  have hN : Nx 1014 B none kd ig rg lg kd ig rg lg := Nx.rf
  have hsh := hI.sh
  have hrs := hI.rs
  have hcl := hc.lt
  refine lv_iload_n hx hb dX11_setBit_0 rfl (lv_at hl 1 rfl) ?_
  refine r_callS (As := [.int x]) (rest := []) C hw (t_X11_onSheet l B D cA kd ig rg lg _ x  hI) ss_X11_88 rfl hl.1 rfl (Nat.le_of_ble_eq_true rfl) ⟨Nat.le_of_ble_eq_true rfl, Nat.le_of_ble_eq_true rfl⟩ ⟨Nat.le_of_ble_eq_true rfl, Nat.le_of_ble_eq_true rfl⟩ dX11_setBit_1 (fun r5 kd1 ig2 rg3 lg4 H locs hw hH hp6 => ?_)
  obtain ⟨rfl, rfl, rfl, rfl, hzhp6, hrhp6⟩ := hp6
  obtain ⟨z7, rfl, hz7⟩ := hrhp6
  refine z_eq (tgt := 33) hx hb dX11_setBit_4 (by decide) (fun c4 => ?_) (fun c4 => ?_)
  · exact r_vret C hw hr hlk (Nat.le_of_ble_eq_true rfl) (Nat.le_of_ble_eq_true rfl) dX11_setBit_33 ⟨hI, hN, ⟨rfl, by omega⟩⟩
  · refine lv_iload_n hx hb dX11_setBit_7 rfl (lv_at hl 2 rfl) ?_
    refine r_callS (As := [.int y]) (rest := []) C hw (t_X11_onSheet l B D cA kd ig rg lg _ y  hI) ss_X11_88 rfl hl.1 rfl (Nat.le_of_ble_eq_true rfl) ⟨Nat.le_of_ble_eq_true rfl, Nat.le_of_ble_eq_true rfl⟩ ⟨Nat.le_of_ble_eq_true rfl, Nat.le_of_ble_eq_true rfl⟩ dX11_setBit_8 (fun r12 kd8 ig9 rg10 lg11 H locs hw hH hp13 => ?_)
    obtain ⟨rfl, rfl, rfl, rfl, hzhp13, hrhp13⟩ := hp13
    obtain ⟨z14, rfl, hz14⟩ := hrhp13
    refine z_eq (tgt := 33) hx hb dX11_setBit_11 (by decide) (fun c11 => ?_) (fun c11 => ?_)
    · exact r_vret C hw hr hlk (Nat.le_of_ble_eq_true rfl) (Nat.le_of_ble_eq_true rfl) dX11_setBit_33 ⟨hI, hN, ⟨rfl, by omega⟩⟩
    · refine lv_aload_n hx hb dX11_setBit_14 rfl (lv_at hl 0 rfl) ?_
      refine lv_iload_n hx hb dX11_setBit_15 rfl (lv_at hl 1 rfl) ?_
      refine lv_iconst (v := 5) hx hb dX11_setBit_16 (by decide) (ti_c 5 (by decide) fun z15 hz15 => ?_)
      refine lv_imul hx hb dX11_setBit_17 (tc_mulR 5 hz15 fun z16 hz16 => ?_)
      first | replace hz16 := hz16 (by omega) | clear hz16
      refine lv_iload_n hx hb dX11_setBit_18 rfl (lv_at hl 2 rfl) ?_
      refine lv_bipush (v := 64) hx hb dX11_setBit_19 (by decide) (ti_c 64 (by decide) fun z17 hz17 => ?_)
      refine lv_idiv hx hb dX11_setBit_21 (ne0_of (by omega)) (tc_div 64 hz17 (by decide) fun z18 bz18 hz18 => ?_)
      first | replace hz18 := hz18 (by omega) | clear hz18
      refine lv_iadd hx hb dX11_setBit_22 (tc_add fun z19 hz19 => ?_)
      first | replace hz19 := hz19 (by omega) | clear hz19
      refine lv_dup2_11 hx hb dX11_setBit_23 rfl rfl ?_
      refine r_lald C hw (isLr.k hc hsh) (by omega) (by omega) dX11_setBit_24 (lv_topl fun x20 hx20 => ?_)
      refine lv_lconst (v := 1) hx hb dX11_setBit_25 (by decide) (lv_topl fun x21 hx21 => ?_)
      refine lv_iload_n hx hb dX11_setBit_26 rfl (lv_at hl 2 rfl) ?_
      refine lv_bipush (v := 64) hx hb dX11_setBit_27 (by decide) (ti_c 64 (by decide) fun z22 hz22 => ?_)
      refine lv_irem hx hb dX11_setBit_29 (ne0_of (by omega)) (tc_rem 64 hz22 (by decide) fun z23 bz23 hz23 => ?_)
      first | replace hz23 := hz23 (by omega) | clear hz23
      refine lv_lshl hx hb dX11_setBit_30 rfl (lv_topl fun x24 hx24 => ?_)
      refine lv_lor hx hb dX11_setBit_31 (lv_topl fun x25 hx25 => ?_)
      refine r_last C hw (isLr.k hc hsh) (by omega) (by omega) dX11_setBit_32 (fun H locs hH hw => ?_)
      obtain ⟨lg26, elg26⟩ : ∃ f, f = up2 lg (B + c0) z19.toInt.toNat x25 := ⟨_, rfl⟩
      rw [← elg26] at hw
      have hN : Nx 1014 B none kd ig rg lg kd ig rg lg26 := by rw [elg26]; exact hN.pl (by omega)
      exact r_vret C hw hr hlk (Nat.le_of_ble_eq_true rfl) (Nat.le_of_ble_eq_true rfl) dX11_setBit_33 ⟨hI, hN, ⟨rfl, by omega⟩⟩

theorem t_X11_setBitT {τ : Tp} (l : Launch) (B : Nat) (D : va_G) (cA : Nat → ClassId) (kd : sK) (ig : sI) (rg : sR) (lg : sG) (sz : Nat) (c0 : Nat) (hc : isLr c0) (hmb : nWl 958 B (B + c0)) (x : Int32) (y : Int32) (hI : IC τ B kd ig rg) : MC l B D cA yX11_setBit cX11_setBit 3 none (rL 1 0 0) [.ref (B + c0), .int x, .int y] kd ig rg lg sz (PI 958 τ B none kd ig rg lg (fun r kd' ig' rg' lg' => (r = none ∧ (ig' (B + 43) 6).toInt = (ig (B + 43) 6).toInt))) := by
  refine MC.of (own := RX11) (by decide +kernel) rfl (Nat.le_of_ble_eq_true rfl) ?_
  intro p e s m args below meth c ls C hr hlk hnm hw hsz hl
  have hx := C.1.1
  have hb := C.1.2.1
  have hown := C.1.2.2.2.1
  have hts := C.1.2.2.2.2
  have hl : lv_has ls 3 [(0, .ref (B + c0)), (1, .int x), (2, .int y)] := hl
  have hN : Nx 958 B none kd ig rg lg kd ig rg lg := Nx.rf
  have hsh := hI.sh
  have hrs := hI.rs
  have hcl := hc.lt
  refine lv_iload_n hx hb dX11_setBit_0 rfl (lv_at hl 1 rfl) ?_
  refine r_callS (As := [.int x]) (rest := []) C hw (t_X11_onSheet l B D cA kd ig rg lg _ x  hI) ss_X11_88 rfl hl.1 rfl (Nat.le_of_ble_eq_true rfl) ⟨Nat.le_of_ble_eq_true rfl, Nat.le_of_ble_eq_true rfl⟩ ⟨Nat.le_of_ble_eq_true rfl, Nat.le_of_ble_eq_true rfl⟩ dX11_setBit_1 (fun r5 kd1 ig2 rg3 lg4 H locs hw hH hp6 => ?_)
  obtain ⟨rfl, rfl, rfl, rfl, hzhp6, hrhp6⟩ := hp6
  obtain ⟨z7, rfl, hz7⟩ := hrhp6
  refine z_eq (tgt := 33) hx hb dX11_setBit_4 (by decide) (fun c4 => ?_) (fun c4 => ?_)
  · exact r_vret C hw hr hlk (Nat.le_of_ble_eq_true rfl) (Nat.le_of_ble_eq_true rfl) dX11_setBit_33 ⟨hI, hN, ⟨rfl, by omega⟩⟩
  · refine lv_iload_n hx hb dX11_setBit_7 rfl (lv_at hl 2 rfl) ?_
    refine r_callS (As := [.int y]) (rest := []) C hw (t_X11_onSheet l B D cA kd ig rg lg _ y  hI) ss_X11_88 rfl hl.1 rfl (Nat.le_of_ble_eq_true rfl) ⟨Nat.le_of_ble_eq_true rfl, Nat.le_of_ble_eq_true rfl⟩ ⟨Nat.le_of_ble_eq_true rfl, Nat.le_of_ble_eq_true rfl⟩ dX11_setBit_8 (fun r12 kd8 ig9 rg10 lg11 H locs hw hH hp13 => ?_)
    obtain ⟨rfl, rfl, rfl, rfl, hzhp13, hrhp13⟩ := hp13
    obtain ⟨z14, rfl, hz14⟩ := hrhp13
    refine z_eq (tgt := 33) hx hb dX11_setBit_11 (by decide) (fun c11 => ?_) (fun c11 => ?_)
    · exact r_vret C hw hr hlk (Nat.le_of_ble_eq_true rfl) (Nat.le_of_ble_eq_true rfl) dX11_setBit_33 ⟨hI, hN, ⟨rfl, by omega⟩⟩
    · refine lv_aload_n hx hb dX11_setBit_14 rfl (lv_at hl 0 rfl) ?_
      refine lv_iload_n hx hb dX11_setBit_15 rfl (lv_at hl 1 rfl) ?_
      refine lv_iconst (v := 5) hx hb dX11_setBit_16 (by decide) (ti_c 5 (by decide) fun z15 hz15 => ?_)
      refine lv_imul hx hb dX11_setBit_17 (tc_mulR 5 hz15 fun z16 hz16 => ?_)
      first | replace hz16 := hz16 (by omega) | clear hz16
      refine lv_iload_n hx hb dX11_setBit_18 rfl (lv_at hl 2 rfl) ?_
      refine lv_bipush (v := 64) hx hb dX11_setBit_19 (by decide) (ti_c 64 (by decide) fun z17 hz17 => ?_)
      refine lv_idiv hx hb dX11_setBit_21 (ne0_of (by omega)) (tc_div 64 hz17 (by decide) fun z18 bz18 hz18 => ?_)
      first | replace hz18 := hz18 (by omega) | clear hz18
      refine lv_iadd hx hb dX11_setBit_22 (tc_add fun z19 hz19 => ?_)
      first | replace hz19 := hz19 (by omega) | clear hz19
      refine lv_dup2_11 hx hb dX11_setBit_23 rfl rfl ?_
      refine r_lald C hw (isLr.k hc hsh) (by omega) (by omega) dX11_setBit_24 (lv_topl fun x20 hx20 => ?_)
      refine lv_lconst (v := 1) hx hb dX11_setBit_25 (by decide) (lv_topl fun x21 hx21 => ?_)
      refine lv_iload_n hx hb dX11_setBit_26 rfl (lv_at hl 2 rfl) ?_
      refine lv_bipush (v := 64) hx hb dX11_setBit_27 (by decide) (ti_c 64 (by decide) fun z22 hz22 => ?_)
      refine lv_irem hx hb dX11_setBit_29 (ne0_of (by omega)) (tc_rem 64 hz22 (by decide) fun z23 bz23 hz23 => ?_)
      first | replace hz23 := hz23 (by omega) | clear hz23
      refine lv_lshl hx hb dX11_setBit_30 rfl (lv_topl fun x24 hx24 => ?_)
      refine lv_lor hx hb dX11_setBit_31 (lv_topl fun x25 hx25 => ?_)
      refine r_last C hw (isLr.k hc hsh) (by omega) (by omega) dX11_setBit_32 (fun H locs hH hw => ?_)
      obtain ⟨lg26, elg26⟩ : ∃ f, f = up2 lg (B + c0) z19.toInt.toNat x25 := ⟨_, rfl⟩
      rw [← elg26] at hw
      have hN : Nx 958 B none kd ig rg lg kd ig rg lg26 := by rw [elg26]; exact hN.pl (by omega)
      exact r_vret C hw hr hlk (Nat.le_of_ble_eq_true rfl) (Nat.le_of_ble_eq_true rfl) dX11_setBit_33 ⟨hI, hN, ⟨rfl, by omega⟩⟩

set_option maxHeartbeats 4000000 in
set_option maxRecDepth 100000 in
theorem t_X11_setBit5 {τ : Tp} (l : Launch) (B : Nat) (D : va_G) (cA : Nat → ClassId) (kd : sK) (ig : sI) (rg : sR) (lg : sG) (sz : Nat) (w : Int32) (x : Int32) (hw0 : w.toInt = 0) (hI : IC τ B kd ig rg) : MC l B D cA yX11_setBit cX11_setBit 3 none (rL 1 0 0) [.ref (B + 17), .int w, .int x] kd ig rg lg sz (PI 1014 τ B none kd ig rg lg (fun r kd' ig' rg' lg' => r = none)) := by
  refine MC.of (own := RX11) (by decide +kernel) rfl (Nat.le_of_ble_eq_true rfl) ?_
  intro p e s m args below meth c ls C hr hlk hnm hw hsz hl
  have hx := C.1.1
  have hb := C.1.2.1
  have hown := C.1.2.2.2.1
  have hts := C.1.2.2.2.2
  have hl : lv_has ls 3 [(0, .ref (B + 17)), (1, .int w), (2, .int x)] := hl
  have hN : Nx 1014 B none kd ig rg lg kd ig rg lg := Nx.rf
  have hsh := hI.sh
  have hrs := hI.rs
  refine lv_iload_n hx hb dX11_setBit_0 rfl (lv_at hl 1 rfl) ?_
  refine r_callS (As := [.int w]) (rest := []) C hw (t_X11_onSheet l B D cA kd ig rg lg _ w  hI) ss_X11_88 rfl hl.1 rfl (Nat.le_of_ble_eq_true rfl) ⟨Nat.le_of_ble_eq_true rfl, Nat.le_of_ble_eq_true rfl⟩ ⟨Nat.le_of_ble_eq_true rfl, Nat.le_of_ble_eq_true rfl⟩ dX11_setBit_1 (fun r5 kd1 ig2 rg3 lg4 H locs hw hH hp6 => ?_)
  obtain ⟨rfl, rfl, rfl, rfl, hzhp6, hrhp6⟩ := hp6
  obtain ⟨z7, rfl, hz7⟩ := hrhp6
  refine z_eq (tgt := 33) hx hb dX11_setBit_4 (by decide) (fun c4 => ?_) (fun c4 => ?_)
  · exact r_vret C hw hr hlk (Nat.le_of_ble_eq_true rfl) (Nat.le_of_ble_eq_true rfl) dX11_setBit_33 ⟨hI, hN, rfl⟩
  · refine lv_iload_n hx hb dX11_setBit_7 rfl (lv_at hl 2 rfl) ?_
    refine r_callS (As := [.int x]) (rest := []) C hw (t_X11_onSheet l B D cA kd ig rg lg _ x  hI) ss_X11_88 rfl hl.1 rfl (Nat.le_of_ble_eq_true rfl) ⟨Nat.le_of_ble_eq_true rfl, Nat.le_of_ble_eq_true rfl⟩ ⟨Nat.le_of_ble_eq_true rfl, Nat.le_of_ble_eq_true rfl⟩ dX11_setBit_8 (fun r12 kd8 ig9 rg10 lg11 H locs hw hH hp13 => ?_)
    obtain ⟨rfl, rfl, rfl, rfl, hzhp13, hrhp13⟩ := hp13
    obtain ⟨z14, rfl, hz14⟩ := hrhp13
    refine z_eq (tgt := 33) hx hb dX11_setBit_11 (by decide) (fun c11 => ?_) (fun c11 => ?_)
    · exact r_vret C hw hr hlk (Nat.le_of_ble_eq_true rfl) (Nat.le_of_ble_eq_true rfl) dX11_setBit_33 ⟨hI, hN, rfl⟩
    · refine lv_aload_n hx hb dX11_setBit_14 rfl (lv_at hl 0 rfl) ?_
      refine lv_iload_n hx hb dX11_setBit_15 rfl (lv_at hl 1 rfl) ?_
      refine lv_iconst (v := 5) hx hb dX11_setBit_16 (by decide) (ti_c 5 (by decide) fun z15 hz15 => ?_)
      refine lv_imul hx hb dX11_setBit_17 (tc_mulR 5 hz15 fun z16 hz16 => ?_)
      first | replace hz16 := hz16 (by omega) | clear hz16
      refine lv_iload_n hx hb dX11_setBit_18 rfl (lv_at hl 2 rfl) ?_
      refine lv_bipush (v := 64) hx hb dX11_setBit_19 (by decide) (ti_c 64 (by decide) fun z17 hz17 => ?_)
      refine lv_idiv hx hb dX11_setBit_21 (ne0_of (by omega)) (tc_div 64 hz17 (by decide) fun z18 bz18 hz18 => ?_)
      first | replace hz18 := hz18 (by omega) | clear hz18
      refine lv_iadd hx hb dX11_setBit_22 (tc_add fun z19 hz19 => ?_)
      first | replace hz19 := hz19 (by omega) | clear hz19
      refine lv_dup2_11 hx hb dX11_setBit_23 rfl rfl ?_
      refine r_lald C hw (hsh 17 _ rfl) (by omega) (by omega) dX11_setBit_24 (lv_topl fun x20 hx20 => ?_)
      refine lv_lconst (v := 1) hx hb dX11_setBit_25 (by decide) (lv_topl fun x21 hx21 => ?_)
      refine lv_iload_n hx hb dX11_setBit_26 rfl (lv_at hl 2 rfl) ?_
      refine lv_bipush (v := 64) hx hb dX11_setBit_27 (by decide) (ti_c 64 (by decide) fun z22 hz22 => ?_)
      refine lv_irem hx hb dX11_setBit_29 (ne0_of (by omega)) (tc_rem 64 hz22 (by decide) fun z23 bz23 hz23 => ?_)
      first | replace hz23 := hz23 (by omega) | clear hz23
      refine lv_lshl hx hb dX11_setBit_30 rfl (lv_topl fun x24 hx24 => ?_)
      refine lv_lor hx hb dX11_setBit_31 (lv_topl fun x25 hx25 => ?_)
      refine r_last C hw (hsh 17 _ rfl) (by omega) (by omega) dX11_setBit_32 (fun H locs hH hw => ?_)
      obtain ⟨lg26, elg26⟩ : ∃ f, f = up2 lg (B + 17) z19.toInt.toNat x25 := ⟨_, rfl⟩
      rw [← elg26] at hw
      have hN : Nx 1014 B none kd ig rg lg kd ig rg lg26 := by rw [elg26]; exact hN.pl (by omega)
      exact r_vret C hw hr hlk (Nat.le_of_ble_eq_true rfl) (Nat.le_of_ble_eq_true rfl) dX11_setBit_33 ⟨hI, hN, rfl⟩

set_option maxHeartbeats 4000000 in
set_option maxRecDepth 100000 in
theorem t_X4_columnOf {τ : Tp} (l : Launch) (B : Nat) (D : va_G) (cA : Nat → ClassId) (kd : sK) (ig : sI) (rg : sR) (lg : sG) (sz : Nat) (x : Int32) (y : Int32) (hI : IC τ B kd ig rg) : MC l B D cA yX4_columnOf cX4_columnOf 3 (some .int) (rL 0 0 0) [.int x, .int y] kd ig rg lg sz (Pu kd ig rg lg sz (fun r => ∃ z : Int32, r = some (.int z) ∧ (-200 ≤ z.toInt ∧ z.toInt ≤ 200))) := by
  refine MC.of (own := RX4) (by decide +kernel) rfl (Nat.le_of_ble_eq_true rfl) ?_
  intro p e s m args below meth c ls C hr hlk hnm hw hsz hl
  have hx := C.1.1
  have hb := C.1.2.1
  have hown := C.1.2.2.2.1
  have hts := C.1.2.2.2.2
  have hl : lv_has ls 3 [(0, .int x), (1, .int y)] := hl
  have hsh := hI.sh
  have hrs := hI.rs
  refine lv_iload_n hx hb dX4_columnOf_0 rfl (lv_at hl 0 rfl) ?_
  refine lv_sipush (v := 128) hx hb dX4_columnOf_1 (by decide) (ti_c 128 (by decide) fun z1 hz1 => ?_)
  refine lv_idiv hx hb dX4_columnOf_4 (ne0_of (by omega)) (tc_div 128 hz1 (by decide) fun z2 bz2 hz2 => ?_)
  first | replace hz2 := hz2 (by omega) | clear hz2
  refine lv_bipush (v := 64) hx hb dX4_columnOf_5 (by decide) (ti_c 64 (by decide) fun z3 hz3 => ?_)
  refine lv_irem hx hb dX4_columnOf_7 (ne0_of (by omega)) (tc_rem 64 hz3 (by decide) fun z4 bz4 hz4 => ?_)
  first | replace hz4 := hz4 (by omega) | clear hz4
  refine lv_istore_n (lv' := [(2, .int z4), (0, .int x), (1, .int y)]) hx hb dX4_columnOf_8 rfl hl (by decide) rfl (fun ls hl => ?_)
  refine lv_iload_n hx hb dX4_columnOf_9 rfl (lv_at hl 1 rfl) ?_
  refine lv_sipush (v := 8192) hx hb dX4_columnOf_10 (by decide) (ti_c 8192 (by decide) fun z5 hz5 => ?_)
  refine b_lt (tgt := 20) hx hb dX4_columnOf_13 (by decide) (fun c13 => ?_) (fun c13 => ?_)
  · refine lv_iload_n hx hb dX4_columnOf_20 rfl (lv_at hl 0 rfl) ?_
    refine lv_bipush (v := 32) hx hb dX4_columnOf_21 (by decide) (ti_c 32 (by decide) fun z6 hz6 => ?_)
    refine lv_isub hx hb dX4_columnOf_23 (tc_sub fun z7 hz7 => ?_)
    first | replace hz7 := hz7 (by omega) | clear hz7
    refine lv_iload_n hx hb dX4_columnOf_24 rfl (lv_at hl 2 rfl) ?_
    refine lv_bipush (v := 12) hx hb dX4_columnOf_25 (by decide) (ti_c 12 (by decide) fun z8 hz8 => ?_)
    refine lv_irem hx hb dX4_columnOf_27 (ne0_of (by omega)) (tc_rem 12 hz8 (by decide) fun z9 bz9 hz9 => ?_)
    first | replace hz9 := hz9 (by omega) | clear hz9
    refine lv_iadd hx hb dX4_columnOf_28 (tc_add fun z10 hz10 => ?_)
    first | replace hz10 := hz10 (by omega) | clear hz10
    exact r_iret C hw hr hlk rfl (Nat.le_of_ble_eq_true rfl) (Nat.le_of_ble_eq_true rfl) dX4_columnOf_29 ⟨rfl, rfl, rfl, rfl, hsz, ⟨_, rfl, by omega⟩⟩
  · refine lv_iload_n hx hb dX4_columnOf_16 rfl (lv_at hl 0 rfl) ?_
    refine lv_goto (tgt := 29) hx hb dX4_columnOf_17 (by decide) ?_
    exact r_iret C hw hr hlk rfl (Nat.le_of_ble_eq_true rfl) (Nat.le_of_ble_eq_true rfl) dX4_columnOf_29 ⟨rfl, rfl, rfl, rfl, hsz, ⟨_, rfl, by omega⟩⟩

set_option maxHeartbeats 4000000 in
set_option maxRecDepth 100000 in
theorem t_X4_rowOf {τ : Tp} (l : Launch) (B : Nat) (D : va_G) (cA : Nat → ClassId) (kd : sK) (ig : sI) (rg : sR) (lg : sG) (sz : Nat) (x : Int32) (y : Int32) (hI : IC τ B kd ig rg) : MC l B D cA yX4_rowOf cX4_rowOf 3 (some .int) (rL 0 0 0) [.int x, .int y] kd ig rg lg sz (Pu kd ig rg lg sz (fun r => ∃ z : Int32, r = some (.int z) ∧ (-200000000 ≤ z.toInt ∧ z.toInt ≤ 200000000))) := by
  refine MC.of (own := RX4) (by decide +kernel) rfl (Nat.le_of_ble_eq_true rfl) ?_
  intro p e s m args below meth c ls C hr hlk hnm hw hsz hl
  have hx := C.1.1
  have hb := C.1.2.1
  have hown := C.1.2.2.2.1
  have hts := C.1.2.2.2.2
  have hl : lv_has ls 3 [(0, .int x), (1, .int y)] := hl
  have hsh := hI.sh
  have hrs := hI.rs
  refine lv_iload_n hx hb dX4_rowOf_0 rfl (lv_at hl 0 rfl) ?_
  refine lv_bipush (v := 64) hx hb dX4_rowOf_1 (by decide) (ti_c 64 (by decide) fun z1 hz1 => ?_)
  refine lv_irem hx hb dX4_rowOf_3 (ne0_of (by omega)) (tc_rem 64 hz1 (by decide) fun z2 bz2 hz2 => ?_)
  first | replace hz2 := hz2 (by omega) | clear hz2
  refine lv_istore_n (lv' := [(2, .int z2), (0, .int x), (1, .int y)]) hx hb dX4_rowOf_4 rfl hl (by decide) rfl (fun ls hl => ?_)
  refine lv_iload_n hx hb dX4_rowOf_5 rfl (lv_at hl 1 rfl) ?_
  refine lv_bipush (v := 64) hx hb dX4_rowOf_6 (by decide) (ti_c 64 (by decide) fun z3 hz3 => ?_)
  refine lv_idiv hx hb dX4_rowOf_8 (ne0_of (by omega)) (tc_div 64 hz3 (by decide) fun z4 bz4 hz4 => ?_)
  first | replace hz4 := hz4 (by omega) | clear hz4
  refine lv_iconst (v := 2) hx hb dX4_rowOf_9 (by decide) (ti_c 2 (by decide) fun z5 hz5 => ?_)
  refine lv_irem hx hb dX4_rowOf_10 (ne0_of (by omega)) (tc_rem 2 hz5 (by decide) fun z6 bz6 hz6 => ?_)
  first | replace hz6 := hz6 (by omega) | clear hz6
  refine lv_iconst (v := 1) hx hb dX4_rowOf_11 (by decide) (ti_c 1 (by decide) fun z7 hz7 => ?_)
  refine b_ne (tgt := 19) hx hb dX4_rowOf_12 (by decide) (fun c12 => ?_) (fun c12 => ?_)
  · refine lv_iload_n hx hb dX4_rowOf_19 rfl (lv_at hl 0 rfl) ?_
    refine lv_bipush (v := 32) hx hb dX4_rowOf_20 (by decide) (ti_c 32 (by decide) fun z8 hz8 => ?_)
    refine lv_isub hx hb dX4_rowOf_22 (tc_sub fun z9 hz9 => ?_)
    first | replace hz9 := hz9 (by omega) | clear hz9
    refine lv_iload_n hx hb dX4_rowOf_23 rfl (lv_at hl 2 rfl) ?_
    refine lv_bipush (v := 12) hx hb dX4_rowOf_24 (by decide) (ti_c 12 (by decide) fun z10 hz10 => ?_)
    refine lv_idiv hx hb dX4_rowOf_26 (ne0_of (by omega)) (tc_div 12 hz10 (by decide) fun z11 bz11 hz11 => ?_)
    first | replace hz11 := hz11 (by omega) | clear hz11
    refine lv_iadd hx hb dX4_rowOf_27 (tc_add fun z12 hz12 => ?_)
    first | replace hz12 := hz12 (by omega) | clear hz12
    exact r_iret C hw hr hlk rfl (Nat.le_of_ble_eq_true rfl) (Nat.le_of_ble_eq_true rfl) dX4_rowOf_28 ⟨rfl, rfl, rfl, rfl, hsz, ⟨_, rfl, by omega⟩⟩
  · refine lv_iload_n hx hb dX4_rowOf_15 rfl (lv_at hl 0 rfl) ?_
    refine lv_goto (tgt := 28) hx hb dX4_rowOf_16 (by decide) ?_
    exact r_iret C hw hr hlk rfl (Nat.le_of_ble_eq_true rfl) (Nat.le_of_ble_eq_true rfl) dX4_rowOf_28 ⟨rfl, rfl, rfl, rfl, hsz, ⟨_, rfl, by omega⟩⟩

set_option maxHeartbeats 4000000 in
set_option maxRecDepth 100000 in
theorem t_X4_reference {τ : Tp} (l : Launch) (B : Nat) (D : va_G) (cA : Nat → ClassId) (kd : sK) (ig : sI) (rg : sR) (lg : sG) (sz : Nat) (x : Int32) (y : Int32) (u : Int32) (w : Int32) (hy : y.toInt = 0 ∨ y.toInt = 1) (hu : u.toInt = 0 ∨ u.toInt = 1) (hI : IC τ B kd ig rg) : MC l B D cA yX4_reference cX4_reference 7 (some .int) (rL 0 0 0) [.int x, .int y, .int u, .int w] kd ig rg lg sz (Pu kd ig rg lg sz (fun r => ∃ z : Int32, r = some (.int z) ∧ True)) := by
  refine MC.of (own := RX4) (by decide +kernel) rfl (Nat.le_of_ble_eq_true rfl) ?_
  intro p e s m args below meth c ls C hr hlk hnm hw hsz hl
  have hx := C.1.1
  have hb := C.1.2.1
  have hown := C.1.2.2.2.1
  have hts := C.1.2.2.2.2
  have hl : lv_has ls 7 [(0, .int x), (1, .int y), (2, .int u), (3, .int w)] := hl
  have hsh := hI.sh
  have hrs := hI.rs
  refine lv_iload_n hx hb dX4_reference_0 rfl (lv_at hl 0 rfl) ?_
  refine lv_bipush (v := 12) hx hb dX4_reference_1 (by decide) (ti_c 12 (by decide) fun z1 hz1 => ?_)
  refine lv_irem hx hb dX4_reference_3 (ne0_of (by omega)) (tc_rem 12 hz1 (by decide) fun z2 bz2 hz2 => ?_)
  first | replace hz2 := hz2 (by omega) | clear hz2
  refine lv_istore (lv' := [(4, .int z2), (0, .int x), (1, .int y), (2, .int u), (3, .int w)]) hx hb dX4_reference_4 hl (by decide) rfl (fun ls hl => ?_)
  refine lv_iload_n hx hb dX4_reference_6 rfl (lv_at hl 1 rfl) ?_
  refine lv_bipush (v := 12) hx hb dX4_reference_7 (by decide) (ti_c 12 (by decide) fun z3 hz3 => ?_)
  refine lv_idiv hx hb dX4_reference_9 (ne0_of (by omega)) (tc_div 12 hz3 (by decide) fun z4 bz4 hz4 => ?_)
  first | replace hz4 := hz4 (by omega) | clear hz4
  refine lv_istore (lv' := [(5, .int z4), (4, .int z2), (0, .int x), (1, .int y), (2, .int u), (3, .int w)]) hx hb dX4_reference_10 hl (by decide) rfl (fun ls hl => ?_)
  refine lv_iconst (v := 0) hx hb dX4_reference_12 (by decide) (ti_c 0 (by decide) fun z5 hz5 => ?_)
  refine lv_istore (lv' := [(6, .int z5), (5, .int z4), (4, .int z2), (0, .int x), (1, .int y), (2, .int u), (3, .int w)]) hx hb dX4_reference_13 hl (by decide) rfl (fun ls hl => ?_)
  refine lv_iload hx hb dX4_reference_15 (lv_at hl 0 rfl) ?_
  refine lv_iload_n hx hb dX4_reference_17 rfl (lv_at hl 4 rfl) ?_
  have J48 : ∀ (ls : Array Slot) (H : Heap) (locs : List Loc) (u6 : Int32), lv_has ls 7 [(5, .int z4), (2, .int u), (3, .int w)] → WD B D cA s.heap kd ig rg lg H locs → H.size = sz → W p l e (rL 0 0 0) s m args below meth c H locs 0 0 (MQ below (QcW B D cA (Pu kd ig rg lg sz (fun r => ∃ z : Int32, r = some (.int z) ∧ True))) args s 0 0 (fun q => B ≤ q)) (F0 m 48 ls [.int u6, .int z5]) := by
    intro ls H locs u6 hl hw hsz
    refine lv_iadd hx hb dX4_reference_48 (tc_add fun z7 hz7 => ?_)
    first | replace hz7 := hz7 (by omega) | clear hz7
    refine lv_istore (lv' := [(6, .int z7), (5, .int z4), (2, .int u), (3, .int w)]) hx hb dX4_reference_49 hl (by decide) rfl (fun ls hl => ?_)
    refine lv_iload hx hb dX4_reference_51 (lv_at hl 0 rfl) ?_
    refine lv_iload_n hx hb dX4_reference_53 rfl (lv_at hl 2 rfl) ?_
    refine z_eq (tgt := 65) hx hb dX4_reference_54 (by decide) (fun c54 => ?_) (fun c54 => ?_)
    · refine lv_iload hx hb dX4_reference_65 (lv_at hl 1 rfl) ?_
      refine lv_iload_n hx hb dX4_reference_67 rfl (lv_at hl 3 rfl) ?_
      refine lv_bipush (v := 12) hx hb dX4_reference_68 (by decide) (ti_c 12 (by decide) fun z8 hz8 => ?_)
      refine lv_idiv hx hb dX4_reference_70 (ne0_of (by omega)) (tc_div 12 hz8 (by decide) fun z9 bz9 hz9 => ?_)
      first | replace hz9 := hz9 (by omega) | clear hz9
      refine lv_isub hx hb dX4_reference_71 (tc_sub fun z10 hz10 => ?_)
      first | replace hz10 := hz10 (by omega) | clear hz10
      refine lv_bipush (v := 32) hx hb dX4_reference_72 (by decide) (ti_c 32 (by decide) fun z11 hz11 => ?_)
      refine lv_iadd hx hb dX4_reference_74 (tc_add fun z12 hz12 => ?_)
      first | replace hz12 := hz12 (by omega) | clear hz12
      refine lv_iadd hx hb dX4_reference_75 (tc_add fun z13 hz13 => ?_)
      first | replace hz13 := hz13 (by omega) | clear hz13
      refine lv_istore (lv' := [(6, .int z13), (5, .int z4), (2, .int u), (3, .int w)]) hx hb dX4_reference_76 hl (by decide) rfl (fun ls hl => ?_)
      refine lv_iload hx hb dX4_reference_78 (lv_at hl 0 rfl) ?_
      exact r_iret C hw hr hlk rfl (Nat.le_of_ble_eq_true rfl) (Nat.le_of_ble_eq_true rfl) dX4_reference_80 ⟨rfl, rfl, rfl, rfl, hsz, ⟨_, rfl, trivial⟩⟩
    · refine lv_bipush (v := 64) hx hb dX4_reference_57 (by decide) (ti_c 64 (by decide) fun z14 hz14 => ?_)
      refine lv_iload hx hb dX4_reference_59 (lv_at hl 1 rfl) ?_
      refine lv_iadd hx hb dX4_reference_61 (tc_add fun z15 hz15 => ?_)
      first | replace hz15 := hz15 (by omega) | clear hz15
      refine lv_goto (tgt := 75) hx hb dX4_reference_62 (by decide) ?_
      refine lv_iadd hx hb dX4_reference_75 (tc_add fun z16 hz16 => ?_)
      first | replace hz16 := hz16 (by omega) | clear hz16
      refine lv_istore (lv' := [(6, .int z16), (5, .int z4), (2, .int u), (3, .int w)]) hx hb dX4_reference_76 hl (by decide) rfl (fun ls hl => ?_)
      refine lv_iload hx hb dX4_reference_78 (lv_at hl 0 rfl) ?_
      exact r_iret C hw hr hlk rfl (Nat.le_of_ble_eq_true rfl) (Nat.le_of_ble_eq_true rfl) dX4_reference_80 ⟨rfl, rfl, rfl, rfl, hsz, ⟨_, rfl, trivial⟩⟩
  refine z_eq (tgt := 34) hx hb dX4_reference_18 (by decide) (fun c18 => ?_) (fun c18 => ?_)
  · refine lv_iload hx hb dX4_reference_34 (lv_at hl 2 rfl) ?_
    refine lv_iload_n hx hb dX4_reference_36 rfl (lv_at hl 6 rfl) ?_
    refine lv_bipush (v := 12) hx hb dX4_reference_37 (by decide) (ti_c 12 (by decide) fun z17 hz17 => ?_)
    refine lv_irem hx hb dX4_reference_39 (ne0_of (by omega)) (tc_rem 12 hz17 (by decide) fun z18 bz18 hz18 => ?_)
    first | replace hz18 := hz18 (by omega) | clear hz18
    refine lv_isub hx hb dX4_reference_40 (tc_sub fun z19 hz19 => ?_)
    first | replace hz19 := hz19 (by omega) | clear hz19
    refine lv_bipush (v := 32) hx hb dX4_reference_41 (by decide) (ti_c 32 (by decide) fun z20 hz20 => ?_)
    refine lv_iadd hx hb dX4_reference_43 (tc_add fun z21 hz21 => ?_)
    first | replace hz21 := hz21 (by omega) | clear hz21
    refine lv_sipush (v := 128) hx hb dX4_reference_44 (by decide) (ti_c 128 (by decide) fun z22 hz22 => ?_)
    refine lv_imul hx hb dX4_reference_47 (tc_mulR 128 hz22 fun z23 hz23 => ?_)
    first | replace hz23 := hz23 (by omega) | clear hz23
    exact J48 ls s.heap [] z23 (lv_sub hl [1, 5, 6] rfl) hw hsz
  · refine lv_sipush (v := 8192) hx hb dX4_reference_21 (by decide) (ti_c 8192 (by decide) fun z24 hz24 => ?_)
    refine lv_iload hx hb dX4_reference_24 (lv_at hl 2 rfl) ?_
    refine lv_sipush (v := 128) hx hb dX4_reference_26 (by decide) (ti_c 128 (by decide) fun z25 hz25 => ?_)
    refine lv_imul hx hb dX4_reference_29 (tc_mulR 128 hz25 fun z26 hz26 => ?_)
    first | replace hz26 := hz26 (by omega) | clear hz26
    refine lv_iadd hx hb dX4_reference_30 (tc_add fun z27 hz27 => ?_)
    first | replace hz27 := hz27 (by omega) | clear hz27
    refine lv_goto (tgt := 48) hx hb dX4_reference_31 (by decide) ?_
    exact J48 ls s.heap [] z27 (lv_sub hl [1, 5, 6] rfl) hw hsz

set_option maxHeartbeats 4000000 in
set_option maxRecDepth 100000 in
theorem t_X4_size {τ : Tp} (l : Launch) (B : Nat) (D : va_G) (cA : Nat → ClassId) (kd : sK) (ig : sI) (rg : sR) (lg : sG) (sz : Nat) (f nf : Nat) (Ff : isFn B kd rg f nf) (hI : IC τ B kd ig rg) : MC l B D cA yX4_size cX4_size 1 (some .int) (rL 0 0 0) [.ref f] kd ig rg lg sz (Pu kd ig rg lg sz (fun r => ∃ z : Int32, r = some (.int z) ∧ z.toInt = (nf : Int))) := by
  refine MC.of (own := RX4) (by decide +kernel) rfl (Nat.le_of_ble_eq_true rfl) ?_
  intro p e s m args below meth c ls C hr hlk hnm hw hsz hl
  have hx := C.1.1
  have hb := C.1.2.1
  have hown := C.1.2.2.2.1
  have hts := C.1.2.2.2.2
  have hl : lv_has ls 1 [(0, .ref f)] := hl
  have hsh := hI.sh
  have hrs := hI.rs
  have lnf := Ff.le
  refine lv_aload_n hx hb dX4_size_0 rfl (lv_at hl 0 rfl) ?_
  obtain ⟨a1, ra1, ka1, ga1⟩ := isFn.arr Ff 0 (by decide)
  refine r_get C hw (isFn.k Ff) fl_X4_17 (oV_r rfl ra1) dX4_size_1 ?_
  refine r_alen C hw ka1 (by omega) (by omega) dX4_size_4 (fun z2 hz2 => ?_)
  exact r_iret C hw hr hlk rfl (Nat.le_of_ble_eq_true rfl) (Nat.le_of_ble_eq_true rfl) dX4_size_5 ⟨rfl, rfl, rfl, rfl, hsz, ⟨_, rfl, by omega⟩⟩

set_option maxHeartbeats 4000000 in
set_option maxRecDepth 100000 in
theorem t_X4_stepAt {τ : Tp} (l : Launch) (B : Nat) (D : va_G) (cA : Nat → ClassId) (kd : sK) (ig : sI) (rg : sR) (lg : sG) (sz : Nat) (f nf : Nat) (Ff : isFn B kd rg f nf) (x : Int32) (hI : IC τ B kd ig rg) : MC l B D cA yX4_stepAt cX4_stepAt 2 (some .int) (rL 0 0 0) [.ref f, .int x] kd ig rg lg sz (Pu kd ig rg lg sz (fun r => ∃ z : Int32, r = some (.int z) ∧ True)) := by
  refine MC.of (own := RX4) (by decide +kernel) rfl (Nat.le_of_ble_eq_true rfl) ?_
  intro p e s m args below meth c ls C hr hlk hnm hw hsz hl
  have hx := C.1.1
  have hb := C.1.2.1
  have hown := C.1.2.2.2.1
  have hts := C.1.2.2.2.2
  have hl : lv_has ls 2 [(0, .ref f), (1, .int x)] := hl
  have hsh := hI.sh
  have hrs := hI.rs
  have lnf := Ff.le
  refine lv_iload_n hx hb dX4_stepAt_0 rfl (lv_at hl 1 rfl) ?_
  refine z_lt (tgt := 22) hx hb dX4_stepAt_1 (by decide) (fun c1 => ?_) (fun c1 => ?_)
  · refine lv_iconst (v := (-1)) hx hb dX4_stepAt_22 (by decide) (ti_c (-1) (by decide) fun z1 hz1 => ?_)
    exact r_iret C hw hr hlk rfl (Nat.le_of_ble_eq_true rfl) (Nat.le_of_ble_eq_true rfl) dX4_stepAt_23 ⟨rfl, rfl, rfl, rfl, hsz, ⟨_, rfl, trivial⟩⟩
  · refine lv_iload_n hx hb dX4_stepAt_4 rfl (lv_at hl 1 rfl) ?_
    refine lv_aload_n hx hb dX4_stepAt_5 rfl (lv_at hl 0 rfl) ?_
    obtain ⟨a2, ra2, ka2, ga2⟩ := isFn.arr Ff 0 (by decide)
    refine r_get C hw (isFn.k Ff) fl_X4_17 (oV_r rfl ra2) dX4_stepAt_6 ?_
    refine r_alen C hw ka2 (by omega) (by omega) dX4_stepAt_9 (fun z3 hz3 => ?_)
    refine b_ge (tgt := 22) hx hb dX4_stepAt_10 (by decide) (fun c10 => ?_) (fun c10 => ?_)
    · refine lv_iconst (v := (-1)) hx hb dX4_stepAt_22 (by decide) (ti_c (-1) (by decide) fun z4 hz4 => ?_)
      exact r_iret C hw hr hlk rfl (Nat.le_of_ble_eq_true rfl) (Nat.le_of_ble_eq_true rfl) dX4_stepAt_23 ⟨rfl, rfl, rfl, rfl, hsz, ⟨_, rfl, trivial⟩⟩
    · refine lv_aload_n hx hb dX4_stepAt_13 rfl (lv_at hl 0 rfl) ?_
      obtain ⟨a5, ra5, ka5, ga5⟩ := isFn.arr Ff 0 (by decide)
      refine r_get C hw (isFn.k Ff) fl_X4_17 (oV_r rfl ra5) dX4_stepAt_14 ?_
      refine lv_iload_n hx hb dX4_stepAt_17 rfl (lv_at hl 1 rfl) ?_
      refine r_iald C hw ka5 (by omega) (by omega) dX4_stepAt_18 (ti_c (ig a5 x.toInt.toNat).toInt rfl fun z6 hz6 => ?_)
      refine lv_goto (tgt := 23) hx hb dX4_stepAt_19 (by decide) ?_
      exact r_iret C hw hr hlk rfl (Nat.le_of_ble_eq_true rfl) (Nat.le_of_ble_eq_true rfl) dX4_stepAt_23 ⟨rfl, rfl, rfl, rfl, hsz, ⟨_, rfl, trivial⟩⟩

set_option maxHeartbeats 4000000 in
set_option maxRecDepth 100000 in
theorem t_X4_constantAt {τ : Tp} (l : Launch) (B : Nat) (D : va_G) (cA : Nat → ClassId) (kd : sK) (ig : sI) (rg : sR) (lg : sG) (sz : Nat) (f nf : Nat) (Ff : isFn B kd rg f nf) (x : Int32) (hI : IC τ B kd ig rg) : MC l B D cA yX4_constantAt cX4_constantAt 2 (some .int) (rL 0 0 0) [.ref f, .int x] kd ig rg lg sz (Pu kd ig rg lg sz (fun r => ∃ z : Int32, r = some (.int z) ∧ True)) := by
  refine MC.of (own := RX4) (by decide +kernel) rfl (Nat.le_of_ble_eq_true rfl) ?_
  intro p e s m args below meth c ls C hr hlk hnm hw hsz hl
  have hx := C.1.1
  have hb := C.1.2.1
  have hown := C.1.2.2.2.1
  have hts := C.1.2.2.2.2
  have hl : lv_has ls 2 [(0, .ref f), (1, .int x)] := hl
  have hsh := hI.sh
  have hrs := hI.rs
  have lnf := Ff.le
  refine lv_iload_n hx hb dX4_constantAt_0 rfl (lv_at hl 1 rfl) ?_
  refine z_lt (tgt := 22) hx hb dX4_constantAt_1 (by decide) (fun c1 => ?_) (fun c1 => ?_)
  · refine lv_iconst (v := 0) hx hb dX4_constantAt_22 (by decide) (ti_c 0 (by decide) fun z1 hz1 => ?_)
    exact r_iret C hw hr hlk rfl (Nat.le_of_ble_eq_true rfl) (Nat.le_of_ble_eq_true rfl) dX4_constantAt_23 ⟨rfl, rfl, rfl, rfl, hsz, ⟨_, rfl, trivial⟩⟩
  · refine lv_iload_n hx hb dX4_constantAt_4 rfl (lv_at hl 1 rfl) ?_
    refine lv_aload_n hx hb dX4_constantAt_5 rfl (lv_at hl 0 rfl) ?_
    obtain ⟨a2, ra2, ka2, ga2⟩ := isFn.arr Ff 1 (by decide)
    refine r_get C hw (isFn.k Ff) fl_X4_21 (oV_r rfl ra2) dX4_constantAt_6 ?_
    refine r_alen C hw ka2 (by omega) (by omega) dX4_constantAt_9 (fun z3 hz3 => ?_)
    refine b_ge (tgt := 22) hx hb dX4_constantAt_10 (by decide) (fun c10 => ?_) (fun c10 => ?_)
    · refine lv_iconst (v := 0) hx hb dX4_constantAt_22 (by decide) (ti_c 0 (by decide) fun z4 hz4 => ?_)
      exact r_iret C hw hr hlk rfl (Nat.le_of_ble_eq_true rfl) (Nat.le_of_ble_eq_true rfl) dX4_constantAt_23 ⟨rfl, rfl, rfl, rfl, hsz, ⟨_, rfl, trivial⟩⟩
    · refine lv_aload_n hx hb dX4_constantAt_13 rfl (lv_at hl 0 rfl) ?_
      obtain ⟨a5, ra5, ka5, ga5⟩ := isFn.arr Ff 1 (by decide)
      refine r_get C hw (isFn.k Ff) fl_X4_21 (oV_r rfl ra5) dX4_constantAt_14 ?_
      refine lv_iload_n hx hb dX4_constantAt_17 rfl (lv_at hl 1 rfl) ?_
      refine r_iald C hw ka5 (by omega) (by omega) dX4_constantAt_18 (ti_c (ig a5 x.toInt.toNat).toInt rfl fun z6 hz6 => ?_)
      refine lv_goto (tgt := 23) hx hb dX4_constantAt_19 (by decide) ?_
      exact r_iret C hw hr hlk rfl (Nat.le_of_ble_eq_true rfl) (Nat.le_of_ble_eq_true rfl) dX4_constantAt_23 ⟨rfl, rfl, rfl, rfl, hsz, ⟨_, rfl, trivial⟩⟩

set_option maxHeartbeats 4000000 in
set_option maxRecDepth 100000 in
theorem t_X4_readsAt {τ : Tp} (l : Launch) (B : Nat) (D : va_G) (cA : Nat → ClassId) (kd : sK) (ig : sI) (rg : sR) (lg : sG) (sz : Nat) (f nf : Nat) (Ff : isFn B kd rg f nf) (x : Int32) (hI : IC τ B kd ig rg) : MC l B D cA yX4_readsAt cX4_readsAt 3 (some .boolean) (rL 1 0 0) [.ref f, .int x] kd ig rg lg sz (Pu kd ig rg lg sz (fun r => ∃ z : Int32, r = some (.int z) ∧ (z.toInt = 0 ∨ z.toInt = 1))) := by
  refine MC.of (own := RX4) (by decide +kernel) rfl (Nat.le_of_ble_eq_true rfl) ?_
  intro p e s m args below meth c ls C hr hlk hnm hw hsz hl
  have hx := C.1.1
  have hb := C.1.2.1
  have hown := C.1.2.2.2.1
  have hts := C.1.2.2.2.2
  have hl : lv_has ls 3 [(0, .ref f), (1, .int x)] := hl
  have hsh := hI.sh
  have hrs := hI.rs
  have lnf := Ff.le
  refine lv_aload_n hx hb dX4_readsAt_0 rfl (lv_at hl 0 rfl) ?_
  refine lv_iload_n hx hb dX4_readsAt_1 rfl (lv_at hl 1 rfl) ?_
  refine r_callV (As := [.int x]) (rest := []) C hw (t_X4_stepAt l B D cA kd ig rg lg _ f nf Ff x  hI) sv_X4_27 (isFn.k Ff) rfl hl.1 rfl (Nat.le_of_ble_eq_true rfl) ⟨Nat.le_of_ble_eq_true rfl, Nat.le_of_ble_eq_true rfl⟩ ⟨Nat.le_of_ble_eq_true rfl, Nat.le_of_ble_eq_true rfl⟩ dX4_readsAt_2 (fun r5 kd1 ig2 rg3 lg4 H locs hw hH hp6 => ?_)
  obtain ⟨rfl, rfl, rfl, rfl, hzhp6, hrhp6⟩ := hp6
  have hsz := hzhp6.trans hsz
  obtain ⟨z7, rfl, hz7⟩ := hrhp6
  refine lv_istore_n (lv' := [(2, .int z7), (0, .ref f), (1, .int x)]) hx hb dX4_readsAt_5 rfl hl (by decide) rfl (fun ls hl => ?_)
  refine lv_iload_n hx hb dX4_readsAt_6 rfl (lv_at hl 0 rfl) ?_
  refine lv_iconst (v := 1) hx hb dX4_readsAt_7 (by decide) (ti_c 1 (by decide) fun z8 hz8 => ?_)
  refine b_eq (tgt := 16) hx hb dX4_readsAt_8 (by decide) (fun c8 => ?_) (fun c8 => ?_)
  · refine lv_iconst (v := 1) hx hb dX4_readsAt_16 (by decide) (ti_c 1 (by decide) fun z9 hz9 => ?_)
    refine lv_goto (tgt := 21) hx hb dX4_readsAt_17 (by decide) ?_
    exact r_iret C hw hr hlk (nar_b (by omega)) (Nat.le_of_ble_eq_true rfl) (Nat.le_of_ble_eq_true rfl) dX4_readsAt_21 ⟨rfl, rfl, rfl, rfl, hsz, ⟨_, rfl, by omega⟩⟩
  · refine lv_iload_n hx hb dX4_readsAt_11 rfl (lv_at hl 0 rfl) ?_
    refine lv_iconst (v := 2) hx hb dX4_readsAt_12 (by decide) (ti_c 2 (by decide) fun z10 hz10 => ?_)
    refine b_ne (tgt := 20) hx hb dX4_readsAt_13 (by decide) (fun c13 => ?_) (fun c13 => ?_)
    · refine lv_iconst (v := 0) hx hb dX4_readsAt_20 (by decide) (ti_c 0 (by decide) fun z11 hz11 => ?_)
      exact r_iret C hw hr hlk (nar_b (by omega)) (Nat.le_of_ble_eq_true rfl) (Nat.le_of_ble_eq_true rfl) dX4_readsAt_21 ⟨rfl, rfl, rfl, rfl, hsz, ⟨_, rfl, by omega⟩⟩
    · refine lv_iconst (v := 1) hx hb dX4_readsAt_16 (by decide) (ti_c 1 (by decide) fun z12 hz12 => ?_)
      refine lv_goto (tgt := 21) hx hb dX4_readsAt_17 (by decide) ?_
      exact r_iret C hw hr hlk (nar_b (by omega)) (Nat.le_of_ble_eq_true rfl) (Nat.le_of_ble_eq_true rfl) dX4_readsAt_21 ⟨rfl, rfl, rfl, rfl, hsz, ⟨_, rfl, by omega⟩⟩

set_option maxHeartbeats 4000000 in
set_option maxRecDepth 100000 in
theorem t_X4_left {τ : Tp} (l : Launch) (B : Nat) (D : va_G) (cA : Nat → ClassId) (kd : sK) (ig : sI) (rg : sR) (lg : sG) (sz : Nat) (f nf : Nat) (Ff : isFn B kd rg f nf) (x : Int32) (y : Int32) (hI : IC τ B kd ig rg) : MC l B D cA yX4_left cX4_left 3 (some .int) (rL 1 0 0) [.ref f, .int x, .int y] kd ig rg lg sz (Pu kd ig rg lg sz (fun r => ∃ z : Int32, r = some (.int z) ∧ (-200000000 ≤ z.toInt ∧ z.toInt ≤ 200000000))) := by
  refine MC.of (own := RX4) (by decide +kernel) rfl (Nat.le_of_ble_eq_true rfl) ?_
  intro p e s m args below meth c ls C hr hlk hnm hw hsz hl
  have hx := C.1.1
  have hb := C.1.2.1
  have hown := C.1.2.2.2.1
  have hts := C.1.2.2.2.2
  have hl : lv_has ls 3 [(0, .ref f), (1, .int x), (2, .int y)] := hl
  have hsh := hI.sh
  have hrs := hI.rs
  have lnf := Ff.le
  refine lv_iload_n hx hb dX4_left_0 rfl (lv_at hl 1 rfl) ?_
  refine z_lt (tgt := 26) hx hb dX4_left_1 (by decide) (fun c1 => ?_) (fun c1 => ?_)
  · refine lv_iconst (v := (-1)) hx hb dX4_left_26 (by decide) (ti_c (-1) (by decide) fun z1 hz1 => ?_)
    exact r_iret C hw hr hlk rfl (Nat.le_of_ble_eq_true rfl) (Nat.le_of_ble_eq_true rfl) dX4_left_27 ⟨rfl, rfl, rfl, rfl, hsz, ⟨_, rfl, by omega⟩⟩
  · refine lv_iload_n hx hb dX4_left_4 rfl (lv_at hl 1 rfl) ?_
    refine lv_aload_n hx hb dX4_left_5 rfl (lv_at hl 0 rfl) ?_
    obtain ⟨a2, ra2, ka2, ga2⟩ := isFn.arr Ff 1 (by decide)
    refine r_get C hw (isFn.k Ff) fl_X4_21 (oV_r rfl ra2) dX4_left_6 ?_
    refine r_alen C hw ka2 (by omega) (by omega) dX4_left_9 (fun z3 hz3 => ?_)
    refine b_ge (tgt := 26) hx hb dX4_left_10 (by decide) (fun c10 => ?_) (fun c10 => ?_)
    · refine lv_iconst (v := (-1)) hx hb dX4_left_26 (by decide) (ti_c (-1) (by decide) fun z4 hz4 => ?_)
      exact r_iret C hw hr hlk rfl (Nat.le_of_ble_eq_true rfl) (Nat.le_of_ble_eq_true rfl) dX4_left_27 ⟨rfl, rfl, rfl, rfl, hsz, ⟨_, rfl, by omega⟩⟩
    · refine lv_aload_n hx hb dX4_left_13 rfl (lv_at hl 0 rfl) ?_
      obtain ⟨a5, ra5, ka5, ga5⟩ := isFn.arr Ff 1 (by decide)
      refine r_get C hw (isFn.k Ff) fl_X4_21 (oV_r rfl ra5) dX4_left_14 ?_
      refine lv_iload_n hx hb dX4_left_17 rfl (lv_at hl 1 rfl) ?_
      refine r_iald C hw ka5 (by omega) (by omega) dX4_left_18 (ti_c (ig a5 x.toInt.toNat).toInt rfl fun z6 hz6 => ?_)
      refine lv_iload_n hx hb dX4_left_19 rfl (lv_at hl 2 rfl) ?_
      refine r_callS (As := [.int z6, .int y]) (rest := []) C hw (t_X4_columnOf l B D cA kd ig rg lg _ z6 y  hI) ss_X4_31 rfl hl.1 rfl (Nat.le_of_ble_eq_true rfl) ⟨Nat.le_of_ble_eq_true rfl, Nat.le_of_ble_eq_true rfl⟩ ⟨Nat.le_of_ble_eq_true rfl, Nat.le_of_ble_eq_true rfl⟩ dX4_left_20 (fun r11 kd7 ig8 rg9 lg10 H locs hw hH hp12 => ?_)
      obtain ⟨rfl, rfl, rfl, rfl, hzhp12, hrhp12⟩ := hp12
      have hsz := hzhp12.trans hsz
      obtain ⟨z13, rfl, hz13⟩ := hrhp12
      refine lv_goto (tgt := 27) hx hb dX4_left_23 (by decide) ?_
      exact r_iret C hw hr hlk rfl (Nat.le_of_ble_eq_true rfl) (Nat.le_of_ble_eq_true rfl) dX4_left_27 ⟨rfl, rfl, rfl, rfl, hsz, ⟨_, rfl, by omega⟩⟩

set_option maxHeartbeats 4000000 in
set_option maxRecDepth 100000 in
theorem t_X4_right {τ : Tp} (l : Launch) (B : Nat) (D : va_G) (cA : Nat → ClassId) (kd : sK) (ig : sI) (rg : sR) (lg : sG) (sz : Nat) (f nf : Nat) (Ff : isFn B kd rg f nf) (x : Int32) (y : Int32) (hI : IC τ B kd ig rg) : MC l B D cA yX4_right cX4_right 3 (some .int) (rL 1 0 0) [.ref f, .int x, .int y] kd ig rg lg sz (Pu kd ig rg lg sz (fun r => ∃ z : Int32, r = some (.int z) ∧ (-200000000 ≤ z.toInt ∧ z.toInt ≤ 200000000))) := by
  refine MC.of (own := RX4) (by decide +kernel) rfl (Nat.le_of_ble_eq_true rfl) ?_
  intro p e s m args below meth c ls C hr hlk hnm hw hsz hl
  have hx := C.1.1
  have hb := C.1.2.1
  have hown := C.1.2.2.2.1
  have hts := C.1.2.2.2.2
  have hl : lv_has ls 3 [(0, .ref f), (1, .int x), (2, .int y)] := hl
  have hsh := hI.sh
  have hrs := hI.rs
  have lnf := Ff.le
  refine lv_iload_n hx hb dX4_right_0 rfl (lv_at hl 1 rfl) ?_
  refine z_lt (tgt := 26) hx hb dX4_right_1 (by decide) (fun c1 => ?_) (fun c1 => ?_)
  · refine lv_iconst (v := (-1)) hx hb dX4_right_26 (by decide) (ti_c (-1) (by decide) fun z1 hz1 => ?_)
    exact r_iret C hw hr hlk rfl (Nat.le_of_ble_eq_true rfl) (Nat.le_of_ble_eq_true rfl) dX4_right_27 ⟨rfl, rfl, rfl, rfl, hsz, ⟨_, rfl, by omega⟩⟩
  · refine lv_iload_n hx hb dX4_right_4 rfl (lv_at hl 1 rfl) ?_
    refine lv_aload_n hx hb dX4_right_5 rfl (lv_at hl 0 rfl) ?_
    obtain ⟨a2, ra2, ka2, ga2⟩ := isFn.arr Ff 2 (by decide)
    refine r_get C hw (isFn.k Ff) fl_X4_24 (oV_r rfl ra2) dX4_right_6 ?_
    refine r_alen C hw ka2 (by omega) (by omega) dX4_right_9 (fun z3 hz3 => ?_)
    refine b_ge (tgt := 26) hx hb dX4_right_10 (by decide) (fun c10 => ?_) (fun c10 => ?_)
    · refine lv_iconst (v := (-1)) hx hb dX4_right_26 (by decide) (ti_c (-1) (by decide) fun z4 hz4 => ?_)
      exact r_iret C hw hr hlk rfl (Nat.le_of_ble_eq_true rfl) (Nat.le_of_ble_eq_true rfl) dX4_right_27 ⟨rfl, rfl, rfl, rfl, hsz, ⟨_, rfl, by omega⟩⟩
    · refine lv_aload_n hx hb dX4_right_13 rfl (lv_at hl 0 rfl) ?_
      obtain ⟨a5, ra5, ka5, ga5⟩ := isFn.arr Ff 2 (by decide)
      refine r_get C hw (isFn.k Ff) fl_X4_24 (oV_r rfl ra5) dX4_right_14 ?_
      refine lv_iload_n hx hb dX4_right_17 rfl (lv_at hl 1 rfl) ?_
      refine r_iald C hw ka5 (by omega) (by omega) dX4_right_18 (ti_c (ig a5 x.toInt.toNat).toInt rfl fun z6 hz6 => ?_)
      refine lv_iload_n hx hb dX4_right_19 rfl (lv_at hl 2 rfl) ?_
      refine r_callS (As := [.int z6, .int y]) (rest := []) C hw (t_X4_columnOf l B D cA kd ig rg lg _ z6 y  hI) ss_X4_31 rfl hl.1 rfl (Nat.le_of_ble_eq_true rfl) ⟨Nat.le_of_ble_eq_true rfl, Nat.le_of_ble_eq_true rfl⟩ ⟨Nat.le_of_ble_eq_true rfl, Nat.le_of_ble_eq_true rfl⟩ dX4_right_20 (fun r11 kd7 ig8 rg9 lg10 H locs hw hH hp12 => ?_)
      obtain ⟨rfl, rfl, rfl, rfl, hzhp12, hrhp12⟩ := hp12
      have hsz := hzhp12.trans hsz
      obtain ⟨z13, rfl, hz13⟩ := hrhp12
      refine lv_goto (tgt := 27) hx hb dX4_right_23 (by decide) ?_
      exact r_iret C hw hr hlk rfl (Nat.le_of_ble_eq_true rfl) (Nat.le_of_ble_eq_true rfl) dX4_right_27 ⟨rfl, rfl, rfl, rfl, hsz, ⟨_, rfl, by omega⟩⟩

set_option maxHeartbeats 4000000 in
set_option maxRecDepth 100000 in
theorem t_X4_top {τ : Tp} (l : Launch) (B : Nat) (D : va_G) (cA : Nat → ClassId) (kd : sK) (ig : sI) (rg : sR) (lg : sG) (sz : Nat) (f nf : Nat) (Ff : isFn B kd rg f nf) (x : Int32) (y : Int32) (hI : IC τ B kd ig rg) : MC l B D cA yX4_top cX4_top 3 (some .int) (rL 1 0 0) [.ref f, .int x, .int y] kd ig rg lg sz (Pu kd ig rg lg sz (fun r => ∃ z : Int32, r = some (.int z) ∧ (-200000000 ≤ z.toInt ∧ z.toInt ≤ 200000000))) := by
  refine MC.of (own := RX4) (by decide +kernel) rfl (Nat.le_of_ble_eq_true rfl) ?_
  intro p e s m args below meth c ls C hr hlk hnm hw hsz hl
  have hx := C.1.1
  have hb := C.1.2.1
  have hown := C.1.2.2.2.1
  have hts := C.1.2.2.2.2
  have hl : lv_has ls 3 [(0, .ref f), (1, .int x), (2, .int y)] := hl
  have hsh := hI.sh
  have hrs := hI.rs
  have lnf := Ff.le
  refine lv_iload_n hx hb dX4_top_0 rfl (lv_at hl 1 rfl) ?_
  refine z_lt (tgt := 26) hx hb dX4_top_1 (by decide) (fun c1 => ?_) (fun c1 => ?_)
  · refine lv_iconst (v := (-1)) hx hb dX4_top_26 (by decide) (ti_c (-1) (by decide) fun z1 hz1 => ?_)
    exact r_iret C hw hr hlk rfl (Nat.le_of_ble_eq_true rfl) (Nat.le_of_ble_eq_true rfl) dX4_top_27 ⟨rfl, rfl, rfl, rfl, hsz, ⟨_, rfl, by omega⟩⟩
  · refine lv_iload_n hx hb dX4_top_4 rfl (lv_at hl 1 rfl) ?_
    refine lv_aload_n hx hb dX4_top_5 rfl (lv_at hl 0 rfl) ?_
    obtain ⟨a2, ra2, ka2, ga2⟩ := isFn.arr Ff 1 (by decide)
    refine r_get C hw (isFn.k Ff) fl_X4_21 (oV_r rfl ra2) dX4_top_6 ?_
    refine r_alen C hw ka2 (by omega) (by omega) dX4_top_9 (fun z3 hz3 => ?_)
    refine b_ge (tgt := 26) hx hb dX4_top_10 (by decide) (fun c10 => ?_) (fun c10 => ?_)
    · refine lv_iconst (v := (-1)) hx hb dX4_top_26 (by decide) (ti_c (-1) (by decide) fun z4 hz4 => ?_)
      exact r_iret C hw hr hlk rfl (Nat.le_of_ble_eq_true rfl) (Nat.le_of_ble_eq_true rfl) dX4_top_27 ⟨rfl, rfl, rfl, rfl, hsz, ⟨_, rfl, by omega⟩⟩
    · refine lv_aload_n hx hb dX4_top_13 rfl (lv_at hl 0 rfl) ?_
      obtain ⟨a5, ra5, ka5, ga5⟩ := isFn.arr Ff 1 (by decide)
      refine r_get C hw (isFn.k Ff) fl_X4_21 (oV_r rfl ra5) dX4_top_14 ?_
      refine lv_iload_n hx hb dX4_top_17 rfl (lv_at hl 1 rfl) ?_
      refine r_iald C hw ka5 (by omega) (by omega) dX4_top_18 (ti_c (ig a5 x.toInt.toNat).toInt rfl fun z6 hz6 => ?_)
      refine lv_iload_n hx hb dX4_top_19 rfl (lv_at hl 2 rfl) ?_
      refine r_callS (As := [.int z6, .int y]) (rest := []) C hw (t_X4_rowOf l B D cA kd ig rg lg _ z6 y  hI) ss_X4_35 rfl hl.1 rfl (Nat.le_of_ble_eq_true rfl) ⟨Nat.le_of_ble_eq_true rfl, Nat.le_of_ble_eq_true rfl⟩ ⟨Nat.le_of_ble_eq_true rfl, Nat.le_of_ble_eq_true rfl⟩ dX4_top_20 (fun r11 kd7 ig8 rg9 lg10 H locs hw hH hp12 => ?_)
      obtain ⟨rfl, rfl, rfl, rfl, hzhp12, hrhp12⟩ := hp12
      have hsz := hzhp12.trans hsz
      obtain ⟨z13, rfl, hz13⟩ := hrhp12
      refine lv_goto (tgt := 27) hx hb dX4_top_23 (by decide) ?_
      exact r_iret C hw hr hlk rfl (Nat.le_of_ble_eq_true rfl) (Nat.le_of_ble_eq_true rfl) dX4_top_27 ⟨rfl, rfl, rfl, rfl, hsz, ⟨_, rfl, by omega⟩⟩

set_option maxHeartbeats 4000000 in
set_option maxRecDepth 100000 in
theorem t_X4_bottom {τ : Tp} (l : Launch) (B : Nat) (D : va_G) (cA : Nat → ClassId) (kd : sK) (ig : sI) (rg : sR) (lg : sG) (sz : Nat) (f nf : Nat) (Ff : isFn B kd rg f nf) (x : Int32) (y : Int32) (hI : IC τ B kd ig rg) : MC l B D cA yX4_bottom cX4_bottom 3 (some .int) (rL 1 0 0) [.ref f, .int x, .int y] kd ig rg lg sz (Pu kd ig rg lg sz (fun r => ∃ z : Int32, r = some (.int z) ∧ (-200000000 ≤ z.toInt ∧ z.toInt ≤ 200000000))) := by
  refine MC.of (own := RX4) (by decide +kernel) rfl (Nat.le_of_ble_eq_true rfl) ?_
  intro p e s m args below meth c ls C hr hlk hnm hw hsz hl
  have hx := C.1.1
  have hb := C.1.2.1
  have hown := C.1.2.2.2.1
  have hts := C.1.2.2.2.2
  have hl : lv_has ls 3 [(0, .ref f), (1, .int x), (2, .int y)] := hl
  have hsh := hI.sh
  have hrs := hI.rs
  have lnf := Ff.le
  refine lv_iload_n hx hb dX4_bottom_0 rfl (lv_at hl 1 rfl) ?_
  refine z_lt (tgt := 26) hx hb dX4_bottom_1 (by decide) (fun c1 => ?_) (fun c1 => ?_)
  · refine lv_iconst (v := (-1)) hx hb dX4_bottom_26 (by decide) (ti_c (-1) (by decide) fun z1 hz1 => ?_)
    exact r_iret C hw hr hlk rfl (Nat.le_of_ble_eq_true rfl) (Nat.le_of_ble_eq_true rfl) dX4_bottom_27 ⟨rfl, rfl, rfl, rfl, hsz, ⟨_, rfl, by omega⟩⟩
  · refine lv_iload_n hx hb dX4_bottom_4 rfl (lv_at hl 1 rfl) ?_
    refine lv_aload_n hx hb dX4_bottom_5 rfl (lv_at hl 0 rfl) ?_
    obtain ⟨a2, ra2, ka2, ga2⟩ := isFn.arr Ff 2 (by decide)
    refine r_get C hw (isFn.k Ff) fl_X4_24 (oV_r rfl ra2) dX4_bottom_6 ?_
    refine r_alen C hw ka2 (by omega) (by omega) dX4_bottom_9 (fun z3 hz3 => ?_)
    refine b_ge (tgt := 26) hx hb dX4_bottom_10 (by decide) (fun c10 => ?_) (fun c10 => ?_)
    · refine lv_iconst (v := (-1)) hx hb dX4_bottom_26 (by decide) (ti_c (-1) (by decide) fun z4 hz4 => ?_)
      exact r_iret C hw hr hlk rfl (Nat.le_of_ble_eq_true rfl) (Nat.le_of_ble_eq_true rfl) dX4_bottom_27 ⟨rfl, rfl, rfl, rfl, hsz, ⟨_, rfl, by omega⟩⟩
    · refine lv_aload_n hx hb dX4_bottom_13 rfl (lv_at hl 0 rfl) ?_
      obtain ⟨a5, ra5, ka5, ga5⟩ := isFn.arr Ff 2 (by decide)
      refine r_get C hw (isFn.k Ff) fl_X4_24 (oV_r rfl ra5) dX4_bottom_14 ?_
      refine lv_iload_n hx hb dX4_bottom_17 rfl (lv_at hl 1 rfl) ?_
      refine r_iald C hw ka5 (by omega) (by omega) dX4_bottom_18 (ti_c (ig a5 x.toInt.toNat).toInt rfl fun z6 hz6 => ?_)
      refine lv_iload_n hx hb dX4_bottom_19 rfl (lv_at hl 2 rfl) ?_
      refine r_callS (As := [.int z6, .int y]) (rest := []) C hw (t_X4_rowOf l B D cA kd ig rg lg _ z6 y  hI) ss_X4_35 rfl hl.1 rfl (Nat.le_of_ble_eq_true rfl) ⟨Nat.le_of_ble_eq_true rfl, Nat.le_of_ble_eq_true rfl⟩ ⟨Nat.le_of_ble_eq_true rfl, Nat.le_of_ble_eq_true rfl⟩ dX4_bottom_20 (fun r11 kd7 ig8 rg9 lg10 H locs hw hH hp12 => ?_)
      obtain ⟨rfl, rfl, rfl, rfl, hzhp12, hrhp12⟩ := hp12
      have hsz := hzhp12.trans hsz
      obtain ⟨z13, rfl, hz13⟩ := hrhp12
      refine lv_goto (tgt := 27) hx hb dX4_bottom_23 (by decide) ?_
      exact r_iret C hw hr hlk rfl (Nat.le_of_ble_eq_true rfl) (Nat.le_of_ble_eq_true rfl) dX4_bottom_27 ⟨rfl, rfl, rfl, rfl, hsz, ⟨_, rfl, by omega⟩⟩

set_option maxHeartbeats 4000000 in
set_option maxRecDepth 100000 in
theorem t_X4_listPlaces {τ : Tp} (l : Launch) (B : Nat) (D : va_G) (cA : Nat → ClassId) (kd : sK) (ig : sI) (rg : sR) (lg : sG) (sz : Nat) (f nf : Nat) (Ff : isFn B kd rg f nf) (x : Int32) (y : Int32) (c0 : Nat) (hc : isSp c0) (hI : IC τ B kd ig rg) : MC l B D cA yX4_listPlaces cX4_listPlaces 10 (some .int) (rL 2 0 0) [.ref f, .int x, .int y, .ref (B + c0)] kd ig rg lg sz (PI 1022 τ B none kd ig rg lg (fun r kd' ig' rg' lg' => ∃ z : Int32, r = some (.int z) ∧ (ig' (B + 43) 6).toInt = (ig (B + 43) 6).toInt)) := by
  refine MC.of (own := RX4) (by decide +kernel) rfl (Nat.le_of_ble_eq_true rfl) ?_
  intro p e s m args below meth c ls C hr hlk hnm hw hsz hl
  have hx := C.1.1
  have hb := C.1.2.1
  have hown := C.1.2.2.2.1
  have hts := C.1.2.2.2.2
  have hl : lv_has ls 10 [(0, .ref f), (1, .int x), (2, .int y), (3, .ref (B + c0))] := hl
  have hN : Nx 1022 B none kd ig rg lg kd ig rg lg := Nx.rf
  have hsh := hI.sh
  have hrs := hI.rs
  have lnf := Ff.le
  have hcl := hc.lt
  have hcs : c0 = 23 ∨ c0 = 27 ∨ c0 = 35 ∨ c0 = 40 := hc
  refine lv_iconst (v := 0) hx hb dX4_listPlaces_0 (by decide) (ti_c 0 (by decide) fun z1 hz1 => ?_)
  refine lv_istore (lv' := [(4, .int z1), (0, .ref f), (1, .int x), (2, .int y), (3, .ref (B + c0))]) hx hb dX4_listPlaces_1 hl (by decide) rfl (fun ls hl => ?_)
  refine lv_aload_n hx hb dX4_listPlaces_3 rfl (lv_at hl 1 rfl) ?_
  refine lv_iload_n hx hb dX4_listPlaces_4 rfl (lv_at hl 2 rfl) ?_
  refine lv_iload_n hx hb dX4_listPlaces_5 rfl (lv_at hl 3 rfl) ?_
  refine r_callV (As := [.int x, .int y]) (rest := []) C hw (t_X4_left l B D cA kd ig rg lg _ f nf Ff x y  hI) sv_X4_38 (isFn.k Ff) rfl hl.1 rfl (Nat.le_of_ble_eq_true rfl) ⟨Nat.le_of_ble_eq_true rfl, Nat.le_of_ble_eq_true rfl⟩ ⟨Nat.le_of_ble_eq_true rfl, Nat.le_of_ble_eq_true rfl⟩ dX4_listPlaces_6 (fun r6 kd2 ig3 rg4 lg5 H locs hw hH hp7 => ?_)
  obtain ⟨rfl, rfl, rfl, rfl, hzhp7, hrhp7⟩ := hp7
  obtain ⟨z8, rfl, hz8⟩ := hrhp7
  refine lv_istore (lv' := [(5, .int z8), (4, .int z1), (0, .ref f), (1, .int x), (2, .int y), (3, .ref (B + c0))]) hx hb dX4_listPlaces_9 hl (by decide) rfl (fun ls hl => ?_)
  refine lv_aload_n hx hb dX4_listPlaces_11 rfl (lv_at hl 2 rfl) ?_
  refine lv_iload_n hx hb dX4_listPlaces_12 rfl (lv_at hl 3 rfl) ?_
  refine lv_iload_n hx hb dX4_listPlaces_13 rfl (lv_at hl 4 rfl) ?_
  refine r_callV (As := [.int x, .int y]) (rest := []) C hw (t_X4_right l B D cA kd ig rg lg _ f nf Ff x y  hI) sv_X4_41 (isFn.k Ff) rfl hl.1 rfl (Nat.le_of_ble_eq_true rfl) ⟨Nat.le_of_ble_eq_true rfl, Nat.le_of_ble_eq_true rfl⟩ ⟨Nat.le_of_ble_eq_true rfl, Nat.le_of_ble_eq_true rfl⟩ dX4_listPlaces_14 (fun r13 kd9 ig10 rg11 lg12 H locs hw hH hp14 => ?_)
  obtain ⟨rfl, rfl, rfl, rfl, hzhp14, hrhp14⟩ := hp14
  obtain ⟨z15, rfl, hz15⟩ := hrhp14
  refine lv_istore (lv' := [(6, .int z15), (5, .int z8), (4, .int z1), (0, .ref f), (1, .int x), (2, .int y), (3, .ref (B + c0))]) hx hb dX4_listPlaces_17 hl (by decide) rfl (fun ls hl => ?_)
  refine lv_aload_n hx hb dX4_listPlaces_19 rfl (lv_at hl 3 rfl) ?_
  refine lv_iload_n hx hb dX4_listPlaces_20 rfl (lv_at hl 4 rfl) ?_
  refine lv_iload_n hx hb dX4_listPlaces_21 rfl (lv_at hl 5 rfl) ?_
  refine r_callV (As := [.int x, .int y]) (rest := []) C hw (t_X4_bottom l B D cA kd ig rg lg _ f nf Ff x y  hI) sv_X4_44 (isFn.k Ff) rfl hl.1 rfl (Nat.le_of_ble_eq_true rfl) ⟨Nat.le_of_ble_eq_true rfl, Nat.le_of_ble_eq_true rfl⟩ ⟨Nat.le_of_ble_eq_true rfl, Nat.le_of_ble_eq_true rfl⟩ dX4_listPlaces_22 (fun r20 kd16 ig17 rg18 lg19 H locs hw hH hp21 => ?_)
  obtain ⟨rfl, rfl, rfl, rfl, hzhp21, hrhp21⟩ := hp21
  obtain ⟨z22, rfl, hz22⟩ := hrhp21
  refine lv_istore (lv' := [(7, .int z22), (6, .int z15), (5, .int z8), (4, .int z1), (0, .ref f), (1, .int x), (2, .int y), (3, .ref (B + c0))]) hx hb dX4_listPlaces_25 hl (by decide) rfl (fun ls hl => ?_)
  refine lv_aload_n hx hb dX4_listPlaces_27 rfl (lv_at hl 4 rfl) ?_
  refine lv_iload_n hx hb dX4_listPlaces_28 rfl (lv_at hl 5 rfl) ?_
  refine lv_iload_n hx hb dX4_listPlaces_29 rfl (lv_at hl 6 rfl) ?_
  refine r_callV (As := [.int x, .int y]) (rest := []) C hw (t_X4_top l B D cA kd ig rg lg _ f nf Ff x y  hI) sv_X4_47 (isFn.k Ff) rfl hl.1 rfl (Nat.le_of_ble_eq_true rfl) ⟨Nat.le_of_ble_eq_true rfl, Nat.le_of_ble_eq_true rfl⟩ ⟨Nat.le_of_ble_eq_true rfl, Nat.le_of_ble_eq_true rfl⟩ dX4_listPlaces_30 (fun r27 kd23 ig24 rg25 lg26 H locs hw hH hp28 => ?_)
  obtain ⟨rfl, rfl, rfl, rfl, hzhp28, hrhp28⟩ := hp28
  obtain ⟨z29, rfl, hz29⟩ := hrhp28
  refine lv_istore (lv' := [(8, .int z29), (7, .int z22), (6, .int z15), (5, .int z8), (4, .int z1), (0, .ref f), (1, .int x), (2, .int y), (3, .ref (B + c0))]) hx hb dX4_listPlaces_33 hl (by decide) rfl (fun ls hl => ?_)
  have L35 : ∀ (n : Nat) (ls : Array Slot) (H : Heap) (locs : List Loc) (kd32 : sK) (ig33 : sI) (rg34 : sR) (lg35 : sG) (v30 : Int32) (v31 : Int32), lv_has ls 10 [(8, .int v30), (7, .int z22), (6, .int z15), (5, .int z8), (4, .int v31), (3, .ref (B + c0))] → WD B D cA s.heap kd32 ig33 rg34 lg35 H locs → IC τ B kd32 ig33 rg34 → Nx 1022 B none kd ig rg lg kd32 ig33 rg34 lg35 → (0 ≤ v31.toInt) → (v31.toInt ≤ 288) → (-400000000 ≤ v30.toInt) → (v30.toInt ≤ 400000000) → ((ig33 (B + 43) 6).toInt = (ig (B + 43) 6).toInt) → 400000000 - v30.toInt < (n : Int) → W p l e (rL 2 0 0) s m args below meth c H locs 0 0 (MQ below (QcW B D cA (PI 1022 τ B none kd ig rg lg (fun r kd' ig' rg' lg' => ∃ z : Int32, r = some (.int z) ∧ (ig' (B + 43) 6).toInt = (ig (B + 43) 6).toInt))) args s 0 0 (fun q => B ≤ q)) (F0 m 35 ls []) := by
    intro n35
    induction n35 with
    | zero => intro ls H locs kd32 ig33 rg34 lg35 v30 v31 hl hw hI hN g35_0 g35_1 g35_2 g35_3 g35_4 hmu; exact absurd hmu (by omega)
    | succ n35 ih35 =>
      intro ls H locs kd32 ig33 rg34 lg35 v30 v31 hl hw hI hN g35_0 g35_1 g35_2 g35_3 g35_4 hmu
      have hsh := hI.sh
      have hrs := hI.rs
      refine lv_iload hx hb dX4_listPlaces_35 (lv_at hl 0 rfl) ?_
      refine lv_iload hx hb dX4_listPlaces_37 (lv_at hl 1 rfl) ?_
      refine b_gt (tgt := 87) hx hb dX4_listPlaces_39 (by decide) (fun c39 => ?_) (fun c39 => ?_)
      · refine lv_iload hx hb dX4_listPlaces_87 (lv_at hl 4 rfl) ?_
        exact r_iret C hw hr hlk rfl (Nat.le_of_ble_eq_true rfl) (Nat.le_of_ble_eq_true rfl) dX4_listPlaces_89 ⟨hI, hN, ⟨_, rfl, by omega⟩⟩
      · refine lv_iload hx hb dX4_listPlaces_42 (lv_at hl 3 rfl) ?_
        refine lv_istore (lv' := [(9, .int z8), (8, .int v30), (7, .int z22), (6, .int z15), (5, .int z8), (4, .int v31), (3, .ref (B + c0))]) hx hb dX4_listPlaces_44 hl (by decide) rfl (fun ls hl => ?_)
        have L46 : ∀ (n : Nat) (ls : Array Slot) (H : Heap) (locs : List Loc) (kd38 : sK) (ig39 : sI) (rg40 : sR) (lg41 : sG) (v36 : Int32) (v37 : Int32), lv_has ls 10 [(9, .int v36), (8, .int v30), (7, .int z22), (6, .int z15), (5, .int z8), (4, .int v37), (3, .ref (B + c0))] → WD B D cA s.heap kd38 ig39 rg40 lg41 H locs → IC τ B kd38 ig39 rg40 → Nx 1022 B none kd ig rg lg kd38 ig39 rg40 lg41 → (0 ≤ v37.toInt) → (v37.toInt ≤ 288) → (-400000000 ≤ v36.toInt) → (v36.toInt ≤ 400000000) → ((ig39 (B + 43) 6).toInt = (ig (B + 43) 6).toInt) → 400000000 - v36.toInt < (n : Int) → W p l e (rL 2 0 0) s m args below meth c H locs 0 0 (MQ below (QcW B D cA (PI 1022 τ B none kd ig rg lg (fun r kd' ig' rg' lg' => ∃ z : Int32, r = some (.int z) ∧ (ig' (B + 43) 6).toInt = (ig (B + 43) 6).toInt))) args s 0 0 (fun q => B ≤ q)) (F0 m 46 ls []) := by
          intro n46
          induction n46 with
          | zero => intro ls H locs kd38 ig39 rg40 lg41 v36 v37 hl hw hI hN g46_0 g46_1 g46_2 g46_3 g46_4 hmu; exact absurd hmu (by omega)
          | succ n46 ih46 =>
            intro ls H locs kd38 ig39 rg40 lg41 v36 v37 hl hw hI hN g46_0 g46_1 g46_2 g46_3 g46_4 hmu
            have hsh := hI.sh
            have hrs := hI.rs
            refine lv_iload hx hb dX4_listPlaces_46 (lv_at hl 0 rfl) ?_
            refine lv_iload hx hb dX4_listPlaces_48 (lv_at hl 3 rfl) ?_
            refine b_gt (tgt := 81) hx hb dX4_listPlaces_50 (by decide) (fun c50 => ?_) (fun c50 => ?_)
            · refine tc_inc hx hb dX4_listPlaces_81 hl (k := 1) rfl (by decide) (by decide) (fun z42 hz42 ls hl => ?_)
              first | replace hz42 := hz42 (by omega) | clear hz42
              have hl : lv_has ls 10 [(8, .int z42), (9, .int v36), (7, .int z22), (6, .int z15), (5, .int z8), (4, .int v37), (3, .ref (B + c0))] := hl
              refine lv_goto (tgt := 35) hx hb dX4_listPlaces_84 (by decide) ?_
              exact ih35 ls H locs kd38 ig39 rg40 lg41 z42 v37 (lv_sub hl [0, 2, 3, 4, 5, 6] rfl) hw hI hN (by omega) (by omega) (by omega) (by omega) (by omega) (by omega)
            · refine lv_iload hx hb dX4_listPlaces_53 (lv_at hl 5 rfl) ?_
              refine lv_aload_n hx hb dX4_listPlaces_55 rfl (lv_at hl 6 rfl) ?_
              refine r_alen C hw (isSp.k hc hsh) (by omega) (by omega) dX4_listPlaces_56 (fun z43 hz43 => ?_)
              refine b_ge (tgt := 81) hx hb dX4_listPlaces_57 (by decide) (fun c57 => ?_) (fun c57 => ?_)
              · refine tc_inc hx hb dX4_listPlaces_81 hl (k := 1) rfl (by decide) (by decide) (fun z44 hz44 ls hl => ?_)
                first | replace hz44 := hz44 (by omega) | clear hz44
                have hl : lv_has ls 10 [(8, .int z44), (9, .int v36), (7, .int z22), (6, .int z15), (5, .int z8), (4, .int v37), (3, .ref (B + c0))] := hl
                refine lv_goto (tgt := 35) hx hb dX4_listPlaces_84 (by decide) ?_
                exact ih35 ls H locs kd38 ig39 rg40 lg41 z44 v37 (lv_sub hl [0, 2, 3, 4, 5, 6] rfl) hw hI hN (by omega) (by omega) (by omega) (by omega) (by omega) (by omega)
              · refine lv_aload_n hx hb dX4_listPlaces_60 rfl (lv_at hl 6 rfl) ?_
                refine lv_iload hx hb dX4_listPlaces_61 (lv_at hl 5 rfl) ?_
                refine lv_iload hx hb dX4_listPlaces_63 (lv_at hl 1 rfl) ?_
                refine lv_bipush (v := 12) hx hb dX4_listPlaces_65 (by decide) (ti_c 12 (by decide) fun z45 hz45 => ?_)
                refine lv_imul hx hb dX4_listPlaces_67 (tc_mulR 12 hz45 fun z46 hz46 => ?_)
                first | replace hz46 := hz46 (by omega) | clear hz46
                refine lv_iload hx hb dX4_listPlaces_68 (lv_at hl 0 rfl) ?_
                refine lv_iadd hx hb dX4_listPlaces_70 (tc_add fun z47 hz47 => ?_)
                first | replace hz47 := hz47 (by omega) | clear hz47
                refine r_iast C hw (isSp.k hc hsh) (by omega) (by omega) dX4_listPlaces_71 (fun H locs hH hw => ?_)
                obtain ⟨ig48, eig48⟩ : ∃ f, f = up2 ig39 (B + c0) v37.toInt.toNat z47 := ⟨_, rfl⟩
                rw [← eig48] at hw
                have hN : Nx 1022 B none kd ig rg lg kd38 ig48 rg40 lg41 := by rw [eig48]; exact hN.pi (by omega)
                have hI : IC τ B kd38 ig48 rg40 := by rw [eig48]; exact hI.pi hc.ok
                have wig48_43_6 : (ig48 (B + 43) 6).toInt = (ig39 (B + 43) 6).toInt := by rw [eig48, up2_a (by omega)]
                refine tc_inc hx hb dX4_listPlaces_72 hl (k := 5) rfl (by decide) (by decide) (fun z49 hz49 ls hl => ?_)
                first | replace hz49 := hz49 (by omega) | clear hz49
                have hl : lv_has ls 10 [(4, .int z49), (9, .int v36), (8, .int v30), (7, .int z22), (6, .int z15), (5, .int z8), (3, .ref (B + c0))] := hl
                refine tc_inc hx hb dX4_listPlaces_75 hl (k := 1) rfl (by decide) (by decide) (fun z50 hz50 ls hl => ?_)
                first | replace hz50 := hz50 (by omega) | clear hz50
                have hl : lv_has ls 10 [(9, .int z50), (4, .int z49), (8, .int v30), (7, .int z22), (6, .int z15), (5, .int z8), (3, .ref (B + c0))] := hl
                refine lv_goto (tgt := 46) hx hb dX4_listPlaces_78 (by decide) ?_
                exact ih46 ls H locs kd38 ig48 rg40 lg41 z50 z49 (lv_sub hl [0, 2, 3, 4, 5, 1, 6] rfl) hw hI hN (by omega) (by omega) (by omega) (by omega) (by omega) (by omega)
        exact L46 ((400000000 - z8.toInt) + 1).toNat ls H locs kd32 ig33 rg34 lg35 z8 v31 (lv_sub hl [0, 1, 2, 3, 4, 5, 6] rfl) hw hI hN (by omega) (by omega) (by omega) (by omega) (by omega) (by omega)
  exact L35 ((400000000 - z29.toInt) + 1).toNat ls H locs kd ig rg lg z29 z1 (lv_sub hl [0, 1, 2, 3, 4, 8] rfl) hw hI hN (by omega) (by omega) (by omega) (by omega) (by omega) (by omega)

set_option maxHeartbeats 4000000 in
set_option maxRecDepth 100000 in
theorem t_X4_stepOfSum {τ : Tp} (l : Launch) (B : Nat) (D : va_G) (cA : Nat → ClassId) (kd : sK) (ig : sI) (rg : sR) (lg : sG) (sz : Nat) (f nf : Nat) (Ff : isFn B kd rg f nf) (x : Int32) (hI : IC τ B kd ig rg) : MC l B D cA yX4_stepOfSum cX4_stepOfSum 4 (some .int) (rL 0 0 0) [.ref f, .int x] kd ig rg lg sz (Pu kd ig rg lg sz (fun r => ∃ z : Int32, r = some (.int z) ∧ True)) := by
  refine MC.of (own := RX4) (by decide +kernel) rfl (Nat.le_of_ble_eq_true rfl) ?_
  intro p e s m args below meth c ls C hr hlk hnm hw hsz hl
  have hx := C.1.1
  have hb := C.1.2.1
  have hown := C.1.2.2.2.1
  have hts := C.1.2.2.2.2
  have hl : lv_has ls 4 [(0, .ref f), (1, .int x)] := hl
  have hsh := hI.sh
  have hrs := hI.rs
  have lnf := Ff.le
  refine lv_iconst (v := 0) hx hb dX4_stepOfSum_0 (by decide) (ti_c 0 (by decide) fun z1 hz1 => ?_)
  refine lv_istore_n (lv' := [(2, .int z1), (0, .ref f), (1, .int x)]) hx hb dX4_stepOfSum_1 rfl hl (by decide) rfl (fun ls hl => ?_)
  refine lv_iconst (v := 0) hx hb dX4_stepOfSum_2 (by decide) (ti_c 0 (by decide) fun z2 hz2 => ?_)
  refine lv_istore_n (lv' := [(3, .int z2), (2, .int z1), (0, .ref f), (1, .int x)]) hx hb dX4_stepOfSum_3 rfl hl (by decide) rfl (fun ls hl => ?_)
  have L4 : ∀ (n : Nat) (ls : Array Slot) (H : Heap) (locs : List Loc) (v3 : Int32) (v4 : Int32), lv_has ls 4 [(3, .int v3), (2, .int v4), (0, .ref f), (1, .int x)] → WD B D cA s.heap kd ig rg lg H locs → H.size = sz → isFn B kd rg f nf → (0 ≤ v3.toInt) → (v3.toInt ≤ 120) → 120 - v3.toInt < (n : Int) → W p l e (rL 0 0 0) s m args below meth c H locs 0 0 (MQ below (QcW B D cA (Pu kd ig rg lg sz (fun r => ∃ z : Int32, r = some (.int z) ∧ True))) args s 0 0 (fun q => B ≤ q)) (F0 m 4 ls []) := by
    intro n4
    induction n4 with
    | zero => intro ls H locs v3 v4 hl hw hsz Ff g4_0 g4_1 hmu; exact absurd hmu (by omega)
    | succ n4 ih4 =>
      intro ls H locs v3 v4 hl hw hsz Ff g4_0 g4_1 hmu
      refine lv_iload_n hx hb dX4_stepOfSum_4 rfl (lv_at hl 0 rfl) ?_
      refine lv_aload_n hx hb dX4_stepOfSum_5 rfl (lv_at hl 2 rfl) ?_
      obtain ⟨a5, ra5, ka5, ga5⟩ := isFn.arr Ff 0 (by decide)
      refine r_get C hw (isFn.k Ff) fl_X4_17 (oV_r rfl ra5) dX4_stepOfSum_6 ?_
      refine r_alen C hw ka5 (by omega) (by omega) dX4_stepOfSum_9 (fun z6 hz6 => ?_)
      refine b_ge (tgt := 39) hx hb dX4_stepOfSum_10 (by decide) (fun c10 => ?_) (fun c10 => ?_)
      · refine lv_iconst (v := (-1)) hx hb dX4_stepOfSum_39 (by decide) (ti_c (-1) (by decide) fun z7 hz7 => ?_)
        exact r_iret C hw hr hlk rfl (Nat.le_of_ble_eq_true rfl) (Nat.le_of_ble_eq_true rfl) dX4_stepOfSum_40 ⟨rfl, rfl, rfl, rfl, hsz, ⟨_, rfl, trivial⟩⟩
      · refine lv_aload_n hx hb dX4_stepOfSum_13 rfl (lv_at hl 2 rfl) ?_
        obtain ⟨a8, ra8, ka8, ga8⟩ := isFn.arr Ff 0 (by decide)
        refine r_get C hw (isFn.k Ff) fl_X4_17 (oV_r rfl ra8) dX4_stepOfSum_14 ?_
        refine lv_iload_n hx hb dX4_stepOfSum_17 rfl (lv_at hl 0 rfl) ?_
        refine r_iald C hw ka8 (by omega) (by omega) dX4_stepOfSum_18 (ti_c (ig a8 v3.toInt.toNat).toInt rfl fun z9 hz9 => ?_)
        refine lv_iconst (v := 2) hx hb dX4_stepOfSum_19 (by decide) (ti_c 2 (by decide) fun z10 hz10 => ?_)
        refine b_ne (tgt := 33) hx hb dX4_stepOfSum_20 (by decide) (fun c20 => ?_) (fun c20 => ?_)
        · refine tc_inc hx hb dX4_stepOfSum_33 hl (k := 0) rfl (by decide) (by decide) (fun z11 hz11 ls hl => ?_)
          first | replace hz11 := hz11 (by omega) | clear hz11
          have hl : lv_has ls 4 [(3, .int z11), (2, .int v4), (0, .ref f), (1, .int x)] := hl
          refine lv_goto (tgt := 4) hx hb dX4_stepOfSum_36 (by decide) ?_
          exact ih4 ls H locs z11 v4 (lv_sub hl [0, 1, 2, 3] rfl) hw hsz Ff (by omega) (by omega) (by omega)
        · refine lv_iload_n hx hb dX4_stepOfSum_23 rfl (lv_at hl 1 rfl) ?_
          refine lv_iload_n hx hb dX4_stepOfSum_24 rfl (lv_at hl 3 rfl) ?_
          refine b_ne (tgt := 30) hx hb dX4_stepOfSum_25 (by decide) (fun c25 => ?_) (fun c25 => ?_)
          · refine tc_inc hx hb dX4_stepOfSum_30 hl (k := 1) rfl (by decide) (by decide) (fun z12 hz12 ls hl => ?_)
            first | replace hz12 := hz12 (by omega) | clear hz12
            have hl : lv_has ls 4 [(2, .int z12), (3, .int v3), (0, .ref f), (1, .int x)] := hl
            refine tc_inc hx hb dX4_stepOfSum_33 hl (k := 1) rfl (by decide) (by decide) (fun z13 hz13 ls hl => ?_)
            first | replace hz13 := hz13 (by omega) | clear hz13
            have hl : lv_has ls 4 [(3, .int z13), (2, .int z12), (0, .ref f), (1, .int x)] := hl
            refine lv_goto (tgt := 4) hx hb dX4_stepOfSum_36 (by decide) ?_
            exact ih4 ls H locs z13 z12 (lv_sub hl [0, 1, 2, 3] rfl) hw hsz Ff (by omega) (by omega) (by omega)
          · refine lv_iload_n hx hb dX4_stepOfSum_28 rfl (lv_at hl 0 rfl) ?_
            exact r_iret C hw hr hlk rfl (Nat.le_of_ble_eq_true rfl) (Nat.le_of_ble_eq_true rfl) dX4_stepOfSum_29 ⟨rfl, rfl, rfl, rfl, hsz, ⟨_, rfl, trivial⟩⟩
  exact L4 ((120 - z2.toInt) + 1).toNat ls s.heap [] z2 z1 (lv_sub hl [0, 1, 2, 3] rfl) hw hsz Ff (by omega) (by omega) (by omega)

set_option maxHeartbeats 4000000 in
set_option maxRecDepth 100000 in
theorem t_X4_isOfReadsAndPlus {τ : Tp} (l : Launch) (B : Nat) (D : va_G) (cA : Nat → ClassId) (kd : sK) (ig : sI) (rg : sR) (lg : sG) (sz : Nat) (f nf : Nat) (Ff : isFn B kd rg f nf) (hI : IC τ B kd ig rg) : MC l B D cA yX4_isOfReadsAndPlus cX4_isOfReadsAndPlus 2 (some .boolean) (rL 0 0 0) [.ref f] kd ig rg lg sz (Pu kd ig rg lg sz (fun r => ∃ z : Int32, r = some (.int z) ∧ (z.toInt = 0 ∨ z.toInt = 1))) := by
  refine MC.of (own := RX4) (by decide +kernel) rfl (Nat.le_of_ble_eq_true rfl) ?_
  intro p e s m args below meth c ls C hr hlk hnm hw hsz hl
  have hx := C.1.1
  have hb := C.1.2.1
  have hown := C.1.2.2.2.1
  have hts := C.1.2.2.2.2
  have hl : lv_has ls 2 [(0, .ref f)] := hl
  have hsh := hI.sh
  have hrs := hI.rs
  have lnf := Ff.le
  refine lv_iconst (v := 0) hx hb dX4_isOfReadsAndPlus_0 (by decide) (ti_c 0 (by decide) fun z1 hz1 => ?_)
  refine lv_istore_n (lv' := [(1, .int z1), (0, .ref f)]) hx hb dX4_isOfReadsAndPlus_1 rfl hl (by decide) rfl (fun ls hl => ?_)
  have L2 : ∀ (n : Nat) (ls : Array Slot) (H : Heap) (locs : List Loc) (v2 : Int32), lv_has ls 2 [(1, .int v2), (0, .ref f)] → WD B D cA s.heap kd ig rg lg H locs → H.size = sz → isFn B kd rg f nf → (0 ≤ v2.toInt) → (v2.toInt ≤ 120) → 120 - v2.toInt < (n : Int) → W p l e (rL 0 0 0) s m args below meth c H locs 0 0 (MQ below (QcW B D cA (Pu kd ig rg lg sz (fun r => ∃ z : Int32, r = some (.int z) ∧ (z.toInt = 0 ∨ z.toInt = 1)))) args s 0 0 (fun q => B ≤ q)) (F0 m 2 ls []) := by
    intro n2
    induction n2 with
    | zero => intro ls H locs v2 hl hw hsz Ff g2_0 g2_1 hmu; exact absurd hmu (by omega)
    | succ n2 ih2 =>
      intro ls H locs v2 hl hw hsz Ff g2_0 g2_1 hmu
      refine lv_iload_n hx hb dX4_isOfReadsAndPlus_2 rfl (lv_at hl 0 rfl) ?_
      refine lv_aload_n hx hb dX4_isOfReadsAndPlus_3 rfl (lv_at hl 1 rfl) ?_
      obtain ⟨a3, ra3, ka3, ga3⟩ := isFn.arr Ff 0 (by decide)
      refine r_get C hw (isFn.k Ff) fl_X4_17 (oV_r rfl ra3) dX4_isOfReadsAndPlus_4 ?_
      refine r_alen C hw ka3 (by omega) (by omega) dX4_isOfReadsAndPlus_7 (fun z4 hz4 => ?_)
      refine b_ge (tgt := 49) hx hb dX4_isOfReadsAndPlus_8 (by decide) (fun c8 => ?_) (fun c8 => ?_)
      · refine lv_iconst (v := 1) hx hb dX4_isOfReadsAndPlus_49 (by decide) (ti_c 1 (by decide) fun z5 hz5 => ?_)
        exact r_iret C hw hr hlk (nar_b (by omega)) (Nat.le_of_ble_eq_true rfl) (Nat.le_of_ble_eq_true rfl) dX4_isOfReadsAndPlus_50 ⟨rfl, rfl, rfl, rfl, hsz, ⟨_, rfl, by omega⟩⟩
      · refine lv_aload_n hx hb dX4_isOfReadsAndPlus_11 rfl (lv_at hl 1 rfl) ?_
        obtain ⟨a6, ra6, ka6, ga6⟩ := isFn.arr Ff 0 (by decide)
        refine r_get C hw (isFn.k Ff) fl_X4_17 (oV_r rfl ra6) dX4_isOfReadsAndPlus_12 ?_
        refine lv_iload_n hx hb dX4_isOfReadsAndPlus_15 rfl (lv_at hl 0 rfl) ?_
        refine r_iald C hw ka6 (by omega) (by omega) dX4_isOfReadsAndPlus_16 (ti_c (ig a6 v2.toInt.toNat).toInt rfl fun z7 hz7 => ?_)
        refine lv_iconst (v := 1) hx hb dX4_isOfReadsAndPlus_17 (by decide) (ti_c 1 (by decide) fun z8 hz8 => ?_)
        refine b_eq (tgt := 43) hx hb dX4_isOfReadsAndPlus_18 (by decide) (fun c18 => ?_) (fun c18 => ?_)
        · refine tc_inc hx hb dX4_isOfReadsAndPlus_43 hl (k := 0) rfl (by decide) (by decide) (fun z9 hz9 ls hl => ?_)
          first | replace hz9 := hz9 (by omega) | clear hz9
          have hl : lv_has ls 2 [(1, .int z9), (0, .ref f)] := hl
          refine lv_goto (tgt := 2) hx hb dX4_isOfReadsAndPlus_46 (by decide) ?_
          exact ih2 ls H locs z9 (lv_sub hl [0, 1] rfl) hw hsz Ff (by omega) (by omega) (by omega)
        · refine lv_aload_n hx hb dX4_isOfReadsAndPlus_21 rfl (lv_at hl 1 rfl) ?_
          obtain ⟨a10, ra10, ka10, ga10⟩ := isFn.arr Ff 0 (by decide)
          refine r_get C hw (isFn.k Ff) fl_X4_17 (oV_r rfl ra10) dX4_isOfReadsAndPlus_22 ?_
          refine lv_iload_n hx hb dX4_isOfReadsAndPlus_25 rfl (lv_at hl 0 rfl) ?_
          refine r_iald C hw ka10 (by omega) (by omega) dX4_isOfReadsAndPlus_26 (ti_c (ig a10 v2.toInt.toNat).toInt rfl fun z11 hz11 => ?_)
          refine lv_iconst (v := 2) hx hb dX4_isOfReadsAndPlus_27 (by decide) (ti_c 2 (by decide) fun z12 hz12 => ?_)
          refine b_eq (tgt := 43) hx hb dX4_isOfReadsAndPlus_28 (by decide) (fun c28 => ?_) (fun c28 => ?_)
          · refine tc_inc hx hb dX4_isOfReadsAndPlus_43 hl (k := 0) rfl (by decide) (by decide) (fun z13 hz13 ls hl => ?_)
            first | replace hz13 := hz13 (by omega) | clear hz13
            have hl : lv_has ls 2 [(1, .int z13), (0, .ref f)] := hl
            refine lv_goto (tgt := 2) hx hb dX4_isOfReadsAndPlus_46 (by decide) ?_
            exact ih2 ls H locs z13 (lv_sub hl [0, 1] rfl) hw hsz Ff (by omega) (by omega) (by omega)
          · refine lv_aload_n hx hb dX4_isOfReadsAndPlus_31 rfl (lv_at hl 1 rfl) ?_
            obtain ⟨a14, ra14, ka14, ga14⟩ := isFn.arr Ff 0 (by decide)
            refine r_get C hw (isFn.k Ff) fl_X4_17 (oV_r rfl ra14) dX4_isOfReadsAndPlus_32 ?_
            refine lv_iload_n hx hb dX4_isOfReadsAndPlus_35 rfl (lv_at hl 0 rfl) ?_
            refine r_iald C hw ka14 (by omega) (by omega) dX4_isOfReadsAndPlus_36 (ti_c (ig a14 v2.toInt.toNat).toInt rfl fun z15 hz15 => ?_)
            refine lv_iconst (v := 5) hx hb dX4_isOfReadsAndPlus_37 (by decide) (ti_c 5 (by decide) fun z16 hz16 => ?_)
            refine b_eq (tgt := 43) hx hb dX4_isOfReadsAndPlus_38 (by decide) (fun c38 => ?_) (fun c38 => ?_)
            · refine tc_inc hx hb dX4_isOfReadsAndPlus_43 hl (k := 0) rfl (by decide) (by decide) (fun z17 hz17 ls hl => ?_)
              first | replace hz17 := hz17 (by omega) | clear hz17
              have hl : lv_has ls 2 [(1, .int z17), (0, .ref f)] := hl
              refine lv_goto (tgt := 2) hx hb dX4_isOfReadsAndPlus_46 (by decide) ?_
              exact ih2 ls H locs z17 (lv_sub hl [0, 1] rfl) hw hsz Ff (by omega) (by omega) (by omega)
            · refine lv_iconst (v := 0) hx hb dX4_isOfReadsAndPlus_41 (by decide) (ti_c 0 (by decide) fun z18 hz18 => ?_)
              exact r_iret C hw hr hlk (nar_b (by omega)) (Nat.le_of_ble_eq_true rfl) (Nat.le_of_ble_eq_true rfl) dX4_isOfReadsAndPlus_42 ⟨rfl, rfl, rfl, rfl, hsz, ⟨_, rfl, by omega⟩⟩
  exact L2 ((120 - z1.toInt) + 1).toNat ls s.heap [] z1 (lv_sub hl [0, 1] rfl) hw hsz Ff (by omega) (by omega) (by omega)

set_option maxHeartbeats 4000000 in
set_option maxRecDepth 100000 in
theorem t_X4_isKinOf {τ : Tp} (l : Launch) (B : Nat) (D : va_G) (cA : Nat → ClassId) (kd : sK) (ig : sI) (rg : sR) (lg : sG) (sz : Nat) (f nf : Nat) (Ff : isFn B kd rg f nf) (g ng : Nat) (Fg : isFn B kd rg g ng) (hI : IC τ B kd ig rg) : MC l B D cA yX4_isKinOf cX4_isKinOf 3 (some .boolean) (rL 0 0 0) [.ref f, .ref g] kd ig rg lg sz (Pu kd ig rg lg sz (fun r => ∃ z : Int32, r = some (.int z) ∧ (z.toInt = 0 ∨ z.toInt = 1))) := by
  refine MC.of (own := RX4) (by decide +kernel) rfl (Nat.le_of_ble_eq_true rfl) ?_
  intro p e s m args below meth c ls C hr hlk hnm hw hsz hl
  have hx := C.1.1
  have hb := C.1.2.1
  have hown := C.1.2.2.2.1
  have hts := C.1.2.2.2.2
  have hl : lv_has ls 3 [(0, .ref f), (1, .ref g)] := hl
  have hsh := hI.sh
  have hrs := hI.rs
  have lnf := Ff.le
  have lng := Fg.le
  refine lv_aload_n hx hb dX4_isKinOf_0 rfl (lv_at hl 1 rfl) ?_
  obtain ⟨a1, ra1, ka1, ga1⟩ := isFn.arr Fg 0 (by decide)
  refine r_get C hw (isFn.k Fg) fl_X4_17 (oV_r rfl ra1) dX4_isKinOf_1 ?_
  refine r_alen C hw ka1 (by omega) (by omega) dX4_isKinOf_4 (fun z2 hz2 => ?_)
  refine lv_aload_n hx hb dX4_isKinOf_5 rfl (lv_at hl 0 rfl) ?_
  obtain ⟨a3, ra3, ka3, ga3⟩ := isFn.arr Ff 0 (by decide)
  refine r_get C hw (isFn.k Ff) fl_X4_17 (oV_r rfl ra3) dX4_isKinOf_6 ?_
  refine r_alen C hw ka3 (by omega) (by omega) dX4_isKinOf_9 (fun z4 hz4 => ?_)
  refine b_eq (tgt := 15) hx hb dX4_isKinOf_10 (by decide) (fun c10 => ?_) (fun c10 => ?_)
  · refine lv_iconst (v := 0) hx hb dX4_isKinOf_15 (by decide) (ti_c 0 (by decide) fun z5 hz5 => ?_)
    refine lv_istore_n (lv' := [(2, .int z5), (0, .ref f), (1, .ref g)]) hx hb dX4_isKinOf_16 rfl hl (by decide) rfl (fun ls hl => ?_)
    have L17 : ∀ (n : Nat) (ls : Array Slot) (H : Heap) (locs : List Loc) (v6 : Int32), lv_has ls 3 [(2, .int v6), (0, .ref f), (1, .ref g)] → WD B D cA s.heap kd ig rg lg H locs → H.size = sz → isFn B kd rg f nf → isFn B kd rg g ng → (0 ≤ v6.toInt) → (v6.toInt ≤ 120) → 120 - v6.toInt < (n : Int) → W p l e (rL 0 0 0) s m args below meth c H locs 0 0 (MQ below (QcW B D cA (Pu kd ig rg lg sz (fun r => ∃ z : Int32, r = some (.int z) ∧ (z.toInt = 0 ∨ z.toInt = 1)))) args s 0 0 (fun q => B ≤ q)) (F0 m 17 ls []) := by
      intro n17
      induction n17 with
      | zero => intro ls H locs v6 hl hw hsz Ff Fg g17_0 g17_1 hmu; exact absurd hmu (by omega)
      | succ n17 ih17 =>
        intro ls H locs v6 hl hw hsz Ff Fg g17_0 g17_1 hmu
        refine lv_iload_n hx hb dX4_isKinOf_17 rfl (lv_at hl 0 rfl) ?_
        refine lv_aload_n hx hb dX4_isKinOf_18 rfl (lv_at hl 1 rfl) ?_
        obtain ⟨a7, ra7, ka7, ga7⟩ := isFn.arr Ff 0 (by decide)
        refine r_get C hw (isFn.k Ff) fl_X4_17 (oV_r rfl ra7) dX4_isKinOf_19 ?_
        refine r_alen C hw ka7 (by omega) (by omega) dX4_isKinOf_22 (fun z8 hz8 => ?_)
        refine b_ge (tgt := 79) hx hb dX4_isKinOf_23 (by decide) (fun c23 => ?_) (fun c23 => ?_)
        · refine lv_iconst (v := 1) hx hb dX4_isKinOf_79 (by decide) (ti_c 1 (by decide) fun z9 hz9 => ?_)
          exact r_iret C hw hr hlk (nar_b (by omega)) (Nat.le_of_ble_eq_true rfl) (Nat.le_of_ble_eq_true rfl) dX4_isKinOf_80 ⟨rfl, rfl, rfl, rfl, hsz, ⟨_, rfl, by omega⟩⟩
        · refine lv_aload_n hx hb dX4_isKinOf_26 rfl (lv_at hl 1 rfl) ?_
          obtain ⟨a10, ra10, ka10, ga10⟩ := isFn.arr Ff 0 (by decide)
          refine r_get C hw (isFn.k Ff) fl_X4_17 (oV_r rfl ra10) dX4_isKinOf_27 ?_
          refine lv_iload_n hx hb dX4_isKinOf_30 rfl (lv_at hl 0 rfl) ?_
          refine r_iald C hw ka10 (by omega) (by omega) dX4_isKinOf_31 (ti_c (ig a10 v6.toInt.toNat).toInt rfl fun z11 hz11 => ?_)
          refine lv_aload_n hx hb dX4_isKinOf_32 rfl (lv_at hl 2 rfl) ?_
          obtain ⟨a12, ra12, ka12, ga12⟩ := isFn.arr Fg 0 (by decide)
          refine r_get C hw (isFn.k Fg) fl_X4_17 (oV_r rfl ra12) dX4_isKinOf_33 ?_
          refine lv_iload_n hx hb dX4_isKinOf_36 rfl (lv_at hl 0 rfl) ?_
          refine r_iald C hw ka12 (by omega) (by omega) dX4_isKinOf_37 (ti_c (ig a12 v6.toInt.toNat).toInt rfl fun z13 hz13 => ?_)
          refine b_ne (tgt := 71) hx hb dX4_isKinOf_38 (by decide) (fun c38 => ?_) (fun c38 => ?_)
          · refine lv_iconst (v := 0) hx hb dX4_isKinOf_71 (by decide) (ti_c 0 (by decide) fun z14 hz14 => ?_)
            exact r_iret C hw hr hlk (nar_b (by omega)) (Nat.le_of_ble_eq_true rfl) (Nat.le_of_ble_eq_true rfl) dX4_isKinOf_72 ⟨rfl, rfl, rfl, rfl, hsz, ⟨_, rfl, by omega⟩⟩
          · refine lv_aload_n hx hb dX4_isKinOf_41 rfl (lv_at hl 1 rfl) ?_
            obtain ⟨a15, ra15, ka15, ga15⟩ := isFn.arr Ff 1 (by decide)
            refine r_get C hw (isFn.k Ff) fl_X4_21 (oV_r rfl ra15) dX4_isKinOf_42 ?_
            refine lv_iload_n hx hb dX4_isKinOf_45 rfl (lv_at hl 0 rfl) ?_
            refine r_iald C hw ka15 (by omega) (by omega) dX4_isKinOf_46 (ti_c (ig a15 v6.toInt.toNat).toInt rfl fun z16 hz16 => ?_)
            refine lv_aload_n hx hb dX4_isKinOf_47 rfl (lv_at hl 2 rfl) ?_
            obtain ⟨a17, ra17, ka17, ga17⟩ := isFn.arr Fg 1 (by decide)
            refine r_get C hw (isFn.k Fg) fl_X4_21 (oV_r rfl ra17) dX4_isKinOf_48 ?_
            refine lv_iload_n hx hb dX4_isKinOf_51 rfl (lv_at hl 0 rfl) ?_
            refine r_iald C hw ka17 (by omega) (by omega) dX4_isKinOf_52 (ti_c (ig a17 v6.toInt.toNat).toInt rfl fun z18 hz18 => ?_)
            refine b_ne (tgt := 71) hx hb dX4_isKinOf_53 (by decide) (fun c53 => ?_) (fun c53 => ?_)
            · refine lv_iconst (v := 0) hx hb dX4_isKinOf_71 (by decide) (ti_c 0 (by decide) fun z19 hz19 => ?_)
              exact r_iret C hw hr hlk (nar_b (by omega)) (Nat.le_of_ble_eq_true rfl) (Nat.le_of_ble_eq_true rfl) dX4_isKinOf_72 ⟨rfl, rfl, rfl, rfl, hsz, ⟨_, rfl, by omega⟩⟩
            · refine lv_aload_n hx hb dX4_isKinOf_56 rfl (lv_at hl 1 rfl) ?_
              obtain ⟨a20, ra20, ka20, ga20⟩ := isFn.arr Ff 2 (by decide)
              refine r_get C hw (isFn.k Ff) fl_X4_24 (oV_r rfl ra20) dX4_isKinOf_57 ?_
              refine lv_iload_n hx hb dX4_isKinOf_60 rfl (lv_at hl 0 rfl) ?_
              refine r_iald C hw ka20 (by omega) (by omega) dX4_isKinOf_61 (ti_c (ig a20 v6.toInt.toNat).toInt rfl fun z21 hz21 => ?_)
              refine lv_aload_n hx hb dX4_isKinOf_62 rfl (lv_at hl 2 rfl) ?_
              obtain ⟨a22, ra22, ka22, ga22⟩ := isFn.arr Fg 2 (by decide)
              refine r_get C hw (isFn.k Fg) fl_X4_24 (oV_r rfl ra22) dX4_isKinOf_63 ?_
              refine lv_iload_n hx hb dX4_isKinOf_66 rfl (lv_at hl 0 rfl) ?_
              refine r_iald C hw ka22 (by omega) (by omega) dX4_isKinOf_67 (ti_c (ig a22 v6.toInt.toNat).toInt rfl fun z23 hz23 => ?_)
              refine b_eq (tgt := 73) hx hb dX4_isKinOf_68 (by decide) (fun c68 => ?_) (fun c68 => ?_)
              · refine tc_inc hx hb dX4_isKinOf_73 hl (k := 0) rfl (by decide) (by decide) (fun z24 hz24 ls hl => ?_)
                first | replace hz24 := hz24 (by omega) | clear hz24
                have hl : lv_has ls 3 [(2, .int z24), (0, .ref f), (1, .ref g)] := hl
                refine lv_goto (tgt := 17) hx hb dX4_isKinOf_76 (by decide) ?_
                exact ih17 ls H locs z24 (lv_sub hl [0, 1, 2] rfl) hw hsz Ff Fg (by omega) (by omega) (by omega)
              · refine lv_iconst (v := 0) hx hb dX4_isKinOf_71 (by decide) (ti_c 0 (by decide) fun z25 hz25 => ?_)
                exact r_iret C hw hr hlk (nar_b (by omega)) (Nat.le_of_ble_eq_true rfl) (Nat.le_of_ble_eq_true rfl) dX4_isKinOf_72 ⟨rfl, rfl, rfl, rfl, hsz, ⟨_, rfl, by omega⟩⟩
    exact L17 ((120 - z5.toInt) + 1).toNat ls s.heap [] z5 (lv_sub hl [0, 1, 2] rfl) hw hsz Ff Fg (by omega) (by omega) (by omega)
  · refine lv_iconst (v := 0) hx hb dX4_isKinOf_13 (by decide) (ti_c 0 (by decide) fun z26 hz26 => ?_)
    exact r_iret C hw hr hlk (nar_b (by omega)) (Nat.le_of_ble_eq_true rfl) (Nat.le_of_ble_eq_true rfl) dX4_isKinOf_14 ⟨rfl, rfl, rfl, rfl, hsz, ⟨_, rfl, by omega⟩⟩

set_option maxHeartbeats 4000000 in
set_option maxRecDepth 100000 in
theorem t_X4_spanFits {τ : Tp} (l : Launch) (B : Nat) (D : va_G) (cA : Nat → ClassId) (kd : sK) (ig : sI) (rg : sR) (lg : sG) (sz : Nat) (f nf : Nat) (Ff : isFn B kd rg f nf) (x : Int32) (y : Int32) (hI : IC τ B kd ig rg) : MC l B D cA yX4_spanFits cX4_spanFits 3 (some .boolean) (rL 2 0 0) [.ref f, .int x, .int y] kd ig rg lg sz (Pu kd ig rg lg sz (fun r => ∃ z : Int32, r = some (.int z) ∧ (z.toInt = 0 ∨ z.toInt = 1))) := by
  refine MC.of (own := RX4) (by decide +kernel) rfl (Nat.le_of_ble_eq_true rfl) ?_
  intro p e s m args below meth c ls C hr hlk hnm hw hsz hl
  have hx := C.1.1
  have hb := C.1.2.1
  have hown := C.1.2.2.2.1
  have hts := C.1.2.2.2.2
  have hl : lv_has ls 3 [(0, .ref f), (1, .int x), (2, .int y)] := hl
  have hsh := hI.sh
  have hrs := hI.rs
  have lnf := Ff.le
  refine lv_aload_n hx hb dX4_spanFits_0 rfl (lv_at hl 0 rfl) ?_
  refine lv_iload_n hx hb dX4_spanFits_1 rfl (lv_at hl 1 rfl) ?_
  refine lv_iload_n hx hb dX4_spanFits_2 rfl (lv_at hl 2 rfl) ?_
  refine r_callV (As := [.int x, .int y]) (rest := []) C hw (t_X4_left l B D cA kd ig rg lg _ f nf Ff x y  hI) sv_X4_38 (isFn.k Ff) rfl hl.1 rfl (Nat.le_of_ble_eq_true rfl) ⟨Nat.le_of_ble_eq_true rfl, Nat.le_of_ble_eq_true rfl⟩ ⟨Nat.le_of_ble_eq_true rfl, Nat.le_of_ble_eq_true rfl⟩ dX4_spanFits_3 (fun r5 kd1 ig2 rg3 lg4 H locs hw hH hp6 => ?_)
  obtain ⟨rfl, rfl, rfl, rfl, hzhp6, hrhp6⟩ := hp6
  have hsz := hzhp6.trans hsz
  obtain ⟨z7, rfl, hz7⟩ := hrhp6
  refine z_lt (tgt := 74) hx hb dX4_spanFits_6 (by decide) (fun c6 => ?_) (fun c6 => ?_)
  · refine lv_iconst (v := 0) hx hb dX4_spanFits_74 (by decide) (ti_c 0 (by decide) fun z8 hz8 => ?_)
    exact r_iret C hw hr hlk (nar_b (by omega)) (Nat.le_of_ble_eq_true rfl) (Nat.le_of_ble_eq_true rfl) dX4_spanFits_75 ⟨rfl, rfl, rfl, rfl, hsz, ⟨_, rfl, by omega⟩⟩
  · refine lv_aload_n hx hb dX4_spanFits_9 rfl (lv_at hl 0 rfl) ?_
    refine lv_iload_n hx hb dX4_spanFits_10 rfl (lv_at hl 1 rfl) ?_
    refine lv_iload_n hx hb dX4_spanFits_11 rfl (lv_at hl 2 rfl) ?_
    refine r_callV (As := [.int x, .int y]) (rest := []) C hw (t_X4_left l B D cA kd ig rg lg _ f nf Ff x y  hI) sv_X4_38 (isFn.k Ff) rfl hl.1 rfl (Nat.le_of_ble_eq_true rfl) ⟨Nat.le_of_ble_eq_true rfl, Nat.le_of_ble_eq_true rfl⟩ ⟨Nat.le_of_ble_eq_true rfl, Nat.le_of_ble_eq_true rfl⟩ dX4_spanFits_12 (fun r13 kd9 ig10 rg11 lg12 H locs hw hH hp14 => ?_)
    obtain ⟨rfl, rfl, rfl, rfl, hzhp14, hrhp14⟩ := hp14
    have hsz := hzhp14.trans hsz
    obtain ⟨z15, rfl, hz15⟩ := hrhp14
    refine lv_aload_n hx hb dX4_spanFits_15 rfl (lv_at hl 0 rfl) ?_
    refine lv_iload_n hx hb dX4_spanFits_16 rfl (lv_at hl 1 rfl) ?_
    refine lv_iload_n hx hb dX4_spanFits_17 rfl (lv_at hl 2 rfl) ?_
    refine r_callV (As := [.int x, .int y]) (rest := [.int z15]) C hw (t_X4_right l B D cA kd ig rg lg _ f nf Ff x y  hI) sv_X4_41 (isFn.k Ff) rfl hl.1 rfl (Nat.le_of_ble_eq_true rfl) ⟨Nat.le_of_ble_eq_true rfl, Nat.le_of_ble_eq_true rfl⟩ ⟨Nat.le_of_ble_eq_true rfl, Nat.le_of_ble_eq_true rfl⟩ dX4_spanFits_18 (fun r20 kd16 ig17 rg18 lg19 H locs hw hH hp21 => ?_)
    obtain ⟨rfl, rfl, rfl, rfl, hzhp21, hrhp21⟩ := hp21
    have hsz := hzhp21.trans hsz
    obtain ⟨z22, rfl, hz22⟩ := hrhp21
    refine b_gt (tgt := 74) hx hb dX4_spanFits_21 (by decide) (fun c21 => ?_) (fun c21 => ?_)
    · refine lv_iconst (v := 0) hx hb dX4_spanFits_74 (by decide) (ti_c 0 (by decide) fun z23 hz23 => ?_)
      exact r_iret C hw hr hlk (nar_b (by omega)) (Nat.le_of_ble_eq_true rfl) (Nat.le_of_ble_eq_true rfl) dX4_spanFits_75 ⟨rfl, rfl, rfl, rfl, hsz, ⟨_, rfl, by omega⟩⟩
    · refine lv_aload_n hx hb dX4_spanFits_24 rfl (lv_at hl 0 rfl) ?_
      refine lv_iload_n hx hb dX4_spanFits_25 rfl (lv_at hl 1 rfl) ?_
      refine lv_iload_n hx hb dX4_spanFits_26 rfl (lv_at hl 2 rfl) ?_
      refine r_callV (As := [.int x, .int y]) (rest := []) C hw (t_X4_right l B D cA kd ig rg lg _ f nf Ff x y  hI) sv_X4_41 (isFn.k Ff) rfl hl.1 rfl (Nat.le_of_ble_eq_true rfl) ⟨Nat.le_of_ble_eq_true rfl, Nat.le_of_ble_eq_true rfl⟩ ⟨Nat.le_of_ble_eq_true rfl, Nat.le_of_ble_eq_true rfl⟩ dX4_spanFits_27 (fun r28 kd24 ig25 rg26 lg27 H locs hw hH hp29 => ?_)
      obtain ⟨rfl, rfl, rfl, rfl, hzhp29, hrhp29⟩ := hp29
      have hsz := hzhp29.trans hsz
      obtain ⟨z30, rfl, hz30⟩ := hrhp29
      refine lv_bipush (v := 12) hx hb dX4_spanFits_30 (by decide) (ti_c 12 (by decide) fun z31 hz31 => ?_)
      refine b_ge (tgt := 74) hx hb dX4_spanFits_32 (by decide) (fun c32 => ?_) (fun c32 => ?_)
      · refine lv_iconst (v := 0) hx hb dX4_spanFits_74 (by decide) (ti_c 0 (by decide) fun z32 hz32 => ?_)
        exact r_iret C hw hr hlk (nar_b (by omega)) (Nat.le_of_ble_eq_true rfl) (Nat.le_of_ble_eq_true rfl) dX4_spanFits_75 ⟨rfl, rfl, rfl, rfl, hsz, ⟨_, rfl, by omega⟩⟩
      · refine lv_aload_n hx hb dX4_spanFits_35 rfl (lv_at hl 0 rfl) ?_
        refine lv_iload_n hx hb dX4_spanFits_36 rfl (lv_at hl 1 rfl) ?_
        refine lv_iload_n hx hb dX4_spanFits_37 rfl (lv_at hl 2 rfl) ?_
        refine r_callV (As := [.int x, .int y]) (rest := []) C hw (t_X4_top l B D cA kd ig rg lg _ f nf Ff x y  hI) sv_X4_47 (isFn.k Ff) rfl hl.1 rfl (Nat.le_of_ble_eq_true rfl) ⟨Nat.le_of_ble_eq_true rfl, Nat.le_of_ble_eq_true rfl⟩ ⟨Nat.le_of_ble_eq_true rfl, Nat.le_of_ble_eq_true rfl⟩ dX4_spanFits_38 (fun r37 kd33 ig34 rg35 lg36 H locs hw hH hp38 => ?_)
        obtain ⟨rfl, rfl, rfl, rfl, hzhp38, hrhp38⟩ := hp38
        have hsz := hzhp38.trans hsz
        obtain ⟨z39, rfl, hz39⟩ := hrhp38
        refine z_lt (tgt := 74) hx hb dX4_spanFits_41 (by decide) (fun c41 => ?_) (fun c41 => ?_)
        · refine lv_iconst (v := 0) hx hb dX4_spanFits_74 (by decide) (ti_c 0 (by decide) fun z40 hz40 => ?_)
          exact r_iret C hw hr hlk (nar_b (by omega)) (Nat.le_of_ble_eq_true rfl) (Nat.le_of_ble_eq_true rfl) dX4_spanFits_75 ⟨rfl, rfl, rfl, rfl, hsz, ⟨_, rfl, by omega⟩⟩
        · refine lv_aload_n hx hb dX4_spanFits_44 rfl (lv_at hl 0 rfl) ?_
          refine lv_iload_n hx hb dX4_spanFits_45 rfl (lv_at hl 1 rfl) ?_
          refine lv_iload_n hx hb dX4_spanFits_46 rfl (lv_at hl 2 rfl) ?_
          refine r_callV (As := [.int x, .int y]) (rest := []) C hw (t_X4_top l B D cA kd ig rg lg _ f nf Ff x y  hI) sv_X4_47 (isFn.k Ff) rfl hl.1 rfl (Nat.le_of_ble_eq_true rfl) ⟨Nat.le_of_ble_eq_true rfl, Nat.le_of_ble_eq_true rfl⟩ ⟨Nat.le_of_ble_eq_true rfl, Nat.le_of_ble_eq_true rfl⟩ dX4_spanFits_47 (fun r45 kd41 ig42 rg43 lg44 H locs hw hH hp46 => ?_)
          obtain ⟨rfl, rfl, rfl, rfl, hzhp46, hrhp46⟩ := hp46
          have hsz := hzhp46.trans hsz
          obtain ⟨z47, rfl, hz47⟩ := hrhp46
          refine lv_aload_n hx hb dX4_spanFits_50 rfl (lv_at hl 0 rfl) ?_
          refine lv_iload_n hx hb dX4_spanFits_51 rfl (lv_at hl 1 rfl) ?_
          refine lv_iload_n hx hb dX4_spanFits_52 rfl (lv_at hl 2 rfl) ?_
          refine r_callV (As := [.int x, .int y]) (rest := [.int z47]) C hw (t_X4_bottom l B D cA kd ig rg lg _ f nf Ff x y  hI) sv_X4_44 (isFn.k Ff) rfl hl.1 rfl (Nat.le_of_ble_eq_true rfl) ⟨Nat.le_of_ble_eq_true rfl, Nat.le_of_ble_eq_true rfl⟩ ⟨Nat.le_of_ble_eq_true rfl, Nat.le_of_ble_eq_true rfl⟩ dX4_spanFits_53 (fun r52 kd48 ig49 rg50 lg51 H locs hw hH hp53 => ?_)
          obtain ⟨rfl, rfl, rfl, rfl, hzhp53, hrhp53⟩ := hp53
          have hsz := hzhp53.trans hsz
          obtain ⟨z54, rfl, hz54⟩ := hrhp53
          refine b_gt (tgt := 74) hx hb dX4_spanFits_56 (by decide) (fun c56 => ?_) (fun c56 => ?_)
          · refine lv_iconst (v := 0) hx hb dX4_spanFits_74 (by decide) (ti_c 0 (by decide) fun z55 hz55 => ?_)
            exact r_iret C hw hr hlk (nar_b (by omega)) (Nat.le_of_ble_eq_true rfl) (Nat.le_of_ble_eq_true rfl) dX4_spanFits_75 ⟨rfl, rfl, rfl, rfl, hsz, ⟨_, rfl, by omega⟩⟩
          · refine lv_aload_n hx hb dX4_spanFits_59 rfl (lv_at hl 0 rfl) ?_
            refine lv_iload_n hx hb dX4_spanFits_60 rfl (lv_at hl 1 rfl) ?_
            refine lv_iload_n hx hb dX4_spanFits_61 rfl (lv_at hl 2 rfl) ?_
            refine r_callV (As := [.int x, .int y]) (rest := []) C hw (t_X4_bottom l B D cA kd ig rg lg _ f nf Ff x y  hI) sv_X4_44 (isFn.k Ff) rfl hl.1 rfl (Nat.le_of_ble_eq_true rfl) ⟨Nat.le_of_ble_eq_true rfl, Nat.le_of_ble_eq_true rfl⟩ ⟨Nat.le_of_ble_eq_true rfl, Nat.le_of_ble_eq_true rfl⟩ dX4_spanFits_62 (fun r60 kd56 ig57 rg58 lg59 H locs hw hH hp61 => ?_)
            obtain ⟨rfl, rfl, rfl, rfl, hzhp61, hrhp61⟩ := hp61
            have hsz := hzhp61.trans hsz
            obtain ⟨z62, rfl, hz62⟩ := hrhp61
            refine lv_bipush (v := 24) hx hb dX4_spanFits_65 (by decide) (ti_c 24 (by decide) fun z63 hz63 => ?_)
            refine b_ge (tgt := 74) hx hb dX4_spanFits_67 (by decide) (fun c67 => ?_) (fun c67 => ?_)
            · refine lv_iconst (v := 0) hx hb dX4_spanFits_74 (by decide) (ti_c 0 (by decide) fun z64 hz64 => ?_)
              exact r_iret C hw hr hlk (nar_b (by omega)) (Nat.le_of_ble_eq_true rfl) (Nat.le_of_ble_eq_true rfl) dX4_spanFits_75 ⟨rfl, rfl, rfl, rfl, hsz, ⟨_, rfl, by omega⟩⟩
            · refine lv_iconst (v := 1) hx hb dX4_spanFits_70 (by decide) (ti_c 1 (by decide) fun z65 hz65 => ?_)
              refine lv_goto (tgt := 75) hx hb dX4_spanFits_71 (by decide) ?_
              exact r_iret C hw hr hlk (nar_b (by omega)) (Nat.le_of_ble_eq_true rfl) (Nat.le_of_ble_eq_true rfl) dX4_spanFits_75 ⟨rfl, rfl, rfl, rfl, hsz, ⟨_, rfl, by omega⟩⟩

set_option maxHeartbeats 4000000 in
set_option maxRecDepth 100000 in
theorem t_X4_fits {τ : Tp} (l : Launch) (B : Nat) (D : va_G) (cA : Nat → ClassId) (kd : sK) (ig : sI) (rg : sR) (lg : sG) (sz : Nat) (f nf : Nat) (Ff : isFn B kd rg f nf) (x : Int32) (hI : IC τ B kd ig rg) : MC l B D cA yX4_fits cX4_fits 3 (some .boolean) (rL 3 0 0) [.ref f, .int x] kd ig rg lg sz (Pu kd ig rg lg sz (fun r => ∃ z : Int32, r = some (.int z) ∧ (z.toInt = 0 ∨ z.toInt = 1))) := by
  refine MC.of (own := RX4) (by decide +kernel) rfl (Nat.le_of_ble_eq_true rfl) ?_
  intro p e s m args below meth c ls C hr hlk hnm hw hsz hl
  have hx := C.1.1
  have hb := C.1.2.1
  have hown := C.1.2.2.2.1
  have hts := C.1.2.2.2.2
  have hl : lv_has ls 3 [(0, .ref f), (1, .int x)] := hl
  have hsh := hI.sh
  have hrs := hI.rs
  have lnf := Ff.le
  refine lv_iconst (v := 0) hx hb dX4_fits_0 (by decide) (ti_c 0 (by decide) fun z1 hz1 => ?_)
  refine lv_istore_n (lv' := [(2, .int z1), (0, .ref f), (1, .int x)]) hx hb dX4_fits_1 rfl hl (by decide) rfl (fun ls hl => ?_)
  have L2 : ∀ (n : Nat) (ls : Array Slot) (H : Heap) (locs : List Loc) (v2 : Int32), lv_has ls 3 [(2, .int v2), (0, .ref f), (1, .int x)] → WD B D cA s.heap kd ig rg lg H locs → H.size = sz → isFn B kd rg f nf → (0 ≤ v2.toInt) → (v2.toInt ≤ 120) → 120 - v2.toInt < (n : Int) → W p l e (rL 3 0 0) s m args below meth c H locs 0 0 (MQ below (QcW B D cA (Pu kd ig rg lg sz (fun r => ∃ z : Int32, r = some (.int z) ∧ (z.toInt = 0 ∨ z.toInt = 1)))) args s 0 0 (fun q => B ≤ q)) (F0 m 2 ls []) := by
    intro n2
    induction n2 with
    | zero => intro ls H locs v2 hl hw hsz Ff g2_0 g2_1 hmu; exact absurd hmu (by omega)
    | succ n2 ih2 =>
      intro ls H locs v2 hl hw hsz Ff g2_0 g2_1 hmu
      refine lv_iload_n hx hb dX4_fits_2 rfl (lv_at hl 0 rfl) ?_
      refine lv_aload_n hx hb dX4_fits_3 rfl (lv_at hl 1 rfl) ?_
      obtain ⟨a3, ra3, ka3, ga3⟩ := isFn.arr Ff 0 (by decide)
      refine r_get C hw (isFn.k Ff) fl_X4_17 (oV_r rfl ra3) dX4_fits_4 ?_
      refine r_alen C hw ka3 (by omega) (by omega) dX4_fits_7 (fun z4 hz4 => ?_)
      refine b_ge (tgt := 36) hx hb dX4_fits_8 (by decide) (fun c8 => ?_) (fun c8 => ?_)
      · refine lv_iconst (v := 1) hx hb dX4_fits_36 (by decide) (ti_c 1 (by decide) fun z5 hz5 => ?_)
        exact r_iret C hw hr hlk (nar_b (by omega)) (Nat.le_of_ble_eq_true rfl) (Nat.le_of_ble_eq_true rfl) dX4_fits_37 ⟨rfl, rfl, rfl, rfl, hsz, ⟨_, rfl, by omega⟩⟩
      · refine lv_aload_n hx hb dX4_fits_11 rfl (lv_at hl 1 rfl) ?_
        refine lv_iload_n hx hb dX4_fits_12 rfl (lv_at hl 0 rfl) ?_
        refine r_callV (As := [.int v2]) (rest := []) C hw (t_X4_readsAt l B D cA kd ig rg lg _ f nf Ff v2  hI) sv_X4_50 (isFn.k Ff) rfl hl.1 rfl (Nat.le_of_ble_eq_true rfl) ⟨Nat.le_of_ble_eq_true rfl, Nat.le_of_ble_eq_true rfl⟩ ⟨Nat.le_of_ble_eq_true rfl, Nat.le_of_ble_eq_true rfl⟩ dX4_fits_13 (fun r10 kd6 ig7 rg8 lg9 H locs hw hH hp11 => ?_)
        obtain ⟨rfl, rfl, rfl, rfl, hzhp11, hrhp11⟩ := hp11
        have hsz := hzhp11.trans hsz
        obtain ⟨z12, rfl, hz12⟩ := hrhp11
        refine z_eq (tgt := 30) hx hb dX4_fits_16 (by decide) (fun c16 => ?_) (fun c16 => ?_)
        · refine tc_inc hx hb dX4_fits_30 hl (k := 0) rfl (by decide) (by decide) (fun z13 hz13 ls hl => ?_)
          first | replace hz13 := hz13 (by omega) | clear hz13
          have hl : lv_has ls 3 [(2, .int z13), (0, .ref f), (1, .int x)] := hl
          refine lv_goto (tgt := 2) hx hb dX4_fits_33 (by decide) ?_
          exact ih2 ls H locs z13 (lv_sub hl [0, 1, 2] rfl) hw hsz Ff (by omega) (by omega) (by omega)
        · refine lv_aload_n hx hb dX4_fits_19 rfl (lv_at hl 1 rfl) ?_
          refine lv_iload_n hx hb dX4_fits_20 rfl (lv_at hl 0 rfl) ?_
          refine lv_iload_n hx hb dX4_fits_21 rfl (lv_at hl 2 rfl) ?_
          refine r_callV (As := [.int v2, .int x]) (rest := []) C hw (t_X4_spanFits l B D cA kd ig rg lg _ f nf Ff v2 x  hI) sv_X4_54 (isFn.k Ff) rfl hl.1 rfl (Nat.le_of_ble_eq_true rfl) ⟨Nat.le_of_ble_eq_true rfl, Nat.le_of_ble_eq_true rfl⟩ ⟨Nat.le_of_ble_eq_true rfl, Nat.le_of_ble_eq_true rfl⟩ dX4_fits_22 (fun r18 kd14 ig15 rg16 lg17 H locs hw hH hp19 => ?_)
          obtain ⟨rfl, rfl, rfl, rfl, hzhp19, hrhp19⟩ := hp19
          have hsz := hzhp19.trans hsz
          obtain ⟨z20, rfl, hz20⟩ := hrhp19
          refine z_ne (tgt := 30) hx hb dX4_fits_25 (by decide) (fun c25 => ?_) (fun c25 => ?_)
          · refine tc_inc hx hb dX4_fits_30 hl (k := 0) rfl (by decide) (by decide) (fun z21 hz21 ls hl => ?_)
            first | replace hz21 := hz21 (by omega) | clear hz21
            have hl : lv_has ls 3 [(2, .int z21), (0, .ref f), (1, .int x)] := hl
            refine lv_goto (tgt := 2) hx hb dX4_fits_33 (by decide) ?_
            exact ih2 ls H locs z21 (lv_sub hl [0, 1, 2] rfl) hw hsz Ff (by omega) (by omega) (by omega)
          · refine lv_iconst (v := 0) hx hb dX4_fits_28 (by decide) (ti_c 0 (by decide) fun z22 hz22 => ?_)
            exact r_iret C hw hr hlk (nar_b (by omega)) (Nat.le_of_ble_eq_true rfl) (Nat.le_of_ble_eq_true rfl) dX4_fits_29 ⟨rfl, rfl, rfl, rfl, hsz, ⟨_, rfl, by omega⟩⟩
  exact L2 ((120 - z1.toInt) + 1).toNat ls s.heap [] z1 (lv_sub hl [0, 1, 2] rfl) hw hsz Ff (by omega) (by omega) (by omega)

set_option maxHeartbeats 4000000 in
set_option maxRecDepth 100000 in
theorem t_X0_fits {τ : Tp} (l : Launch) (B : Nat) (D : va_G) (cA : Nat → ClassId) (kd : sK) (ig : sI) (rg : sR) (lg : sG) (sz : Nat) (q nq : Nat) (kq : kd q = some (0, nq)) (x : Int32) (hI : IC τ B kd ig rg) : MC l B D cA yX0_fits cX0_fits 2 (some .boolean) (rL 4 0 0) [.ref q, .int x] kd ig rg lg sz (Pu kd ig rg lg sz (fun r => ∃ z : Int32, r = some (.int z) ∧ (z.toInt = 0 ∨ z.toInt = 1))) := by
  refine MC.of (own := RX0) (by decide +kernel) rfl (Nat.le_of_ble_eq_true rfl) ?_
  intro p e s m args below meth c ls C hr hlk hnm hw hsz hl
  have hx := C.1.1
  have hb := C.1.2.1
  have hown := C.1.2.2.2.1
  have hts := C.1.2.2.2.2
  have hl : lv_has ls 2 [(0, .ref q), (1, .int x)] := hl
  have hsh := hI.sh
  have hrs := hI.rs
  refine lv_aload_n hx hb dX0_fits_0 rfl (lv_at hl 0 rfl) ?_
  rcases hI.fo kq with ef1 | ⟨f1, nf1, ef1, Ff1⟩
  · refine r_get C hw kq fl_X0_18 (oV_n rfl ef1) dX0_fits_1 ?_
    refine lv_ifnullN (tgt := 18) hx hb dX0_fits_4 (by decide) ?_
    refine lv_iconst (v := 1) hx hb dX0_fits_18 (by decide) (ti_c 1 (by decide) fun z2 hz2 => ?_)
    refine lv_goto (tgt := 23) hx hb dX0_fits_19 (by decide) ?_
    exact r_iret C hw hr hlk (nar_b (by omega)) (Nat.le_of_ble_eq_true rfl) (Nat.le_of_ble_eq_true rfl) dX0_fits_23 ⟨rfl, rfl, rfl, rfl, hsz, ⟨_, rfl, by omega⟩⟩
  · have lf1 := isFn.le Ff1
    refine r_get C hw kq fl_X0_18 (oV_r rfl ef1) dX0_fits_1 ?_
    refine lv_ifnull hx hb dX0_fits_4 ?_
    refine lv_aload_n hx hb dX0_fits_7 rfl (lv_at hl 0 rfl) ?_
    refine r_get C hw kq fl_X0_18 (oV_r rfl ef1) dX0_fits_8 ?_
    refine lv_iload_n hx hb dX0_fits_11 rfl (lv_at hl 1 rfl) ?_
    refine r_callV (As := [.int x]) (rest := []) C hw (t_X4_fits l B D cA kd ig rg lg _ f1 nf1 Ff1 x  hI) sv_X0_31 (isFn.k Ff1) rfl hl.1 rfl (Nat.le_of_ble_eq_true rfl) ⟨Nat.le_of_ble_eq_true rfl, Nat.le_of_ble_eq_true rfl⟩ ⟨Nat.le_of_ble_eq_true rfl, Nat.le_of_ble_eq_true rfl⟩ dX0_fits_12 (fun r7 kd3 ig4 rg5 lg6 H locs hw hH hp8 => ?_)
    obtain ⟨rfl, rfl, rfl, rfl, hzhp8, hrhp8⟩ := hp8
    have hsz := hzhp8.trans hsz
    obtain ⟨z9, rfl, hz9⟩ := hrhp8
    refine z_eq (tgt := 22) hx hb dX0_fits_15 (by decide) (fun c15 => ?_) (fun c15 => ?_)
    · refine lv_iconst (v := 0) hx hb dX0_fits_22 (by decide) (ti_c 0 (by decide) fun z10 hz10 => ?_)
      exact r_iret C hw hr hlk (nar_b (by omega)) (Nat.le_of_ble_eq_true rfl) (Nat.le_of_ble_eq_true rfl) dX0_fits_23 ⟨rfl, rfl, rfl, rfl, hsz, ⟨_, rfl, by omega⟩⟩
    · refine lv_iconst (v := 1) hx hb dX0_fits_18 (by decide) (ti_c 1 (by decide) fun z11 hz11 => ?_)
      refine lv_goto (tgt := 23) hx hb dX0_fits_19 (by decide) ?_
      exact r_iret C hw hr hlk (nar_b (by omega)) (Nat.le_of_ble_eq_true rfl) (Nat.le_of_ble_eq_true rfl) dX0_fits_23 ⟨rfl, rfl, rfl, rfl, hsz, ⟨_, rfl, by omega⟩⟩
