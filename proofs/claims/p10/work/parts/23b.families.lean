set_option maxHeartbeats 4000000 in
set_option maxRecDepth 100000 in
theorem t_X2_areKinE {τ : Tp} (l : Launch) (B : Nat) (D : va_G) (cA : Nat → ClassId) (kd : sK) (ig : sI) (rg : sR) (lg : sG) (sz : Nat) (x : Int32) (y : Int32) (ζ : Nat → Int) (hζ : FA B ζ ig) (hI : IC τ B kd ig rg) : MC l B D cA yX2_areKin cX2_areKin 3 (some .boolean) (rL 1 0 0) [.ref (B + 29), .int x, .int y] kd ig rg lg sz (Pu kd ig rg lg sz (fun r => ∃ z : Int32, r = some (.int z) ∧ ((z.toInt = 1 ∧ kinN ζ x.toInt y.toInt) ∨ (z.toInt = 0 ∧ ¬ kinN ζ x.toInt y.toInt)))) := by
  refine MC.of (own := RX2) (by decide +kernel) rfl (Nat.le_of_ble_eq_true rfl) ?_
  intro p e s m args below meth c ls C hr hlk hnm hw hsz hl
  have hx := C.1.1
  have hb := C.1.2.1
  have hown := C.1.2.2.2.1
  have hts := C.1.2.2.2.2
  have hl : lv_has ls 3 [(0, .ref (B + 29)), (1, .int x), (2, .int y)] := hl
  have hsh := hI.sh
  have hrs := hI.rs
  refine lv_iload_n hx hb dX2_areKin_0 rfl (lv_at hl 1 rfl) ?_
  refine r_callN (As := [.int x]) (rest := []) C hw (t_X11_onSheet l B D cA kd ig rg lg _ x  hI) sn_X2_46 rfl hl.1 rfl (Nat.le_of_ble_eq_true rfl) ⟨Nat.le_of_ble_eq_true rfl, Nat.le_of_ble_eq_true rfl⟩ ⟨Nat.le_of_ble_eq_true rfl, Nat.le_of_ble_eq_true rfl⟩ dX2_areKin_1 (fun r5 kd1 ig2 rg3 lg4 H locs hw hH hp6 => ?_)
  obtain ⟨rfl, rfl, rfl, rfl, hzhp6, hrhp6⟩ := hp6
  have hsz := hzhp6.trans hsz
  obtain ⟨z7, rfl, hz7⟩ := hrhp6
  refine z_eq (tgt := 43) hx hb dX2_areKin_4 (by decide) (fun c4 => ?_) (fun c4 => ?_)
  · refine lv_iconst (v := 0) hx hb dX2_areKin_43 (by decide) (ti_c 0 (by decide) fun z8 hz8 => ?_)
    exact r_iret C hw hr hlk (nar_b (by omega)) (Nat.le_of_ble_eq_true rfl) (Nat.le_of_ble_eq_true rfl) dX2_areKin_44 ⟨rfl, rfl, rfl, rfl, hsz, ⟨_, rfl, Or.inr ⟨by omega, by unfold kinN; omega⟩⟩⟩
  · refine lv_iload_n hx hb dX2_areKin_7 rfl (lv_at hl 2 rfl) ?_
    refine r_callN (As := [.int y]) (rest := []) C hw (t_X11_onSheet l B D cA kd ig rg lg _ y  hI) sn_X2_46 rfl hl.1 rfl (Nat.le_of_ble_eq_true rfl) ⟨Nat.le_of_ble_eq_true rfl, Nat.le_of_ble_eq_true rfl⟩ ⟨Nat.le_of_ble_eq_true rfl, Nat.le_of_ble_eq_true rfl⟩ dX2_areKin_8 (fun r13 kd9 ig10 rg11 lg12 H locs hw hH hp14 => ?_)
    obtain ⟨rfl, rfl, rfl, rfl, hzhp14, hrhp14⟩ := hp14
    have hsz := hzhp14.trans hsz
    obtain ⟨z15, rfl, hz15⟩ := hrhp14
    refine z_eq (tgt := 43) hx hb dX2_areKin_11 (by decide) (fun c11 => ?_) (fun c11 => ?_)
    · refine lv_iconst (v := 0) hx hb dX2_areKin_43 (by decide) (ti_c 0 (by decide) fun z16 hz16 => ?_)
      exact r_iret C hw hr hlk (nar_b (by omega)) (Nat.le_of_ble_eq_true rfl) (Nat.le_of_ble_eq_true rfl) dX2_areKin_44 ⟨rfl, rfl, rfl, rfl, hsz, ⟨_, rfl, Or.inr ⟨by omega, by unfold kinN; omega⟩⟩⟩
    · refine lv_aload_n hx hb dX2_areKin_14 rfl (lv_at hl 0 rfl) ?_
      refine r_get C hw (hsh 29 _ rfl) fl_X2_15 (oV_r rfl (hrs (29, 1, 30) (by decide))) dX2_areKin_15 ?_
      refine lv_iload_n hx hb dX2_areKin_18 rfl (lv_at hl 1 rfl) ?_
      refine r_iald C hw (hsh 30 _ rfl) (by omega) (by omega) dX2_areKin_19 (ti_c (ig (B + 30) x.toInt.toNat).toInt rfl fun z17 hz17 => ?_)
      have a1 : z17.toInt = ζ x.toInt.toNat := by rw [hz17]; exact hζ _ (by omega)
      refine lv_iconst (v := (-1)) hx hb dX2_areKin_20 (by decide) (ti_c (-1) (by decide) fun z18 hz18 => ?_)
      refine b_eq (tgt := 43) hx hb dX2_areKin_21 (by decide) (fun c21 => ?_) (fun c21 => ?_)
      · refine lv_iconst (v := 0) hx hb dX2_areKin_43 (by decide) (ti_c 0 (by decide) fun z19 hz19 => ?_)
        exact r_iret C hw hr hlk (nar_b (by omega)) (Nat.le_of_ble_eq_true rfl) (Nat.le_of_ble_eq_true rfl) dX2_areKin_44 ⟨rfl, rfl, rfl, rfl, hsz, ⟨_, rfl, Or.inr ⟨by omega, by unfold kinN; omega⟩⟩⟩
      · refine lv_aload_n hx hb dX2_areKin_24 rfl (lv_at hl 0 rfl) ?_
        refine r_get C hw (hsh 29 _ rfl) fl_X2_15 (oV_r rfl (hrs (29, 1, 30) (by decide))) dX2_areKin_25 ?_
        refine lv_iload_n hx hb dX2_areKin_28 rfl (lv_at hl 1 rfl) ?_
        refine r_iald C hw (hsh 30 _ rfl) (by omega) (by omega) dX2_areKin_29 (ti_c (ig (B + 30) x.toInt.toNat).toInt rfl fun z20 hz20 => ?_)
        have a2 : z20.toInt = ζ x.toInt.toNat := by rw [hz20]; exact hζ _ (by omega)
        refine lv_aload_n hx hb dX2_areKin_30 rfl (lv_at hl 0 rfl) ?_
        refine r_get C hw (hsh 29 _ rfl) fl_X2_15 (oV_r rfl (hrs (29, 1, 30) (by decide))) dX2_areKin_31 ?_
        refine lv_iload_n hx hb dX2_areKin_34 rfl (lv_at hl 2 rfl) ?_
        refine r_iald C hw (hsh 30 _ rfl) (by omega) (by omega) dX2_areKin_35 (ti_c (ig (B + 30) y.toInt.toNat).toInt rfl fun z21 hz21 => ?_)
        have a3 : z21.toInt = ζ y.toInt.toNat := by rw [hz21]; exact hζ _ (by omega)
        refine b_ne (tgt := 43) hx hb dX2_areKin_36 (by decide) (fun c36 => ?_) (fun c36 => ?_)
        · refine lv_iconst (v := 0) hx hb dX2_areKin_43 (by decide) (ti_c 0 (by decide) fun z22 hz22 => ?_)
          exact r_iret C hw hr hlk (nar_b (by omega)) (Nat.le_of_ble_eq_true rfl) (Nat.le_of_ble_eq_true rfl) dX2_areKin_44 ⟨rfl, rfl, rfl, rfl, hsz, ⟨_, rfl, Or.inr ⟨by omega, by unfold kinN; omega⟩⟩⟩
        · refine lv_iconst (v := 1) hx hb dX2_areKin_39 (by decide) (ti_c 1 (by decide) fun z23 hz23 => ?_)
          refine lv_goto (tgt := 44) hx hb dX2_areKin_40 (by decide) ?_
          exact r_iret C hw hr hlk (nar_b (by omega)) (Nat.le_of_ble_eq_true rfl) (Nat.le_of_ble_eq_true rfl) dX2_areKin_44 ⟨rfl, rfl, rfl, rfl, hsz, ⟨_, rfl, Or.inl ⟨by omega, by unfold kinN; omega⟩⟩⟩

set_option maxHeartbeats 4000000 in
set_option maxRecDepth 100000 in
theorem t_X2_isStrangerE {τ : Tp} (l : Launch) (B : Nat) (D : va_G) (cA : Nat → ClassId) (kd : sK) (ig : sI) (rg : sR) (lg : sG) (sz : Nat) (x : Int32) (y : Int32) (u : Int32) (ζ : Nat → Int) (hζ : FA B ζ ig) (hI : IC τ B kd ig rg) : MC l B D cA yX2_isStranger cX2_isStranger 4 (some .boolean) (rL 2 0 0) [.ref (B + 29), .int x, .int y, .int u] kd ig rg lg sz (Pu kd ig rg lg sz (fun r => ∃ z : Int32, r = some (.int z) ∧ ((z.toInt = 1 ∧ strN ζ x.toInt y.toInt u.toInt) ∨ (z.toInt = 0 ∧ ¬ strN ζ x.toInt y.toInt u.toInt)))) := by
  refine MC.of (own := RX2) (by decide +kernel) rfl (Nat.le_of_ble_eq_true rfl) ?_
  intro p e s m args below meth c ls C hr hlk hnm hw hsz hl
  have hx := C.1.1
  have hb := C.1.2.1
  have hown := C.1.2.2.2.1
  have hts := C.1.2.2.2.2
  have hl : lv_has ls 4 [(0, .ref (B + 29)), (1, .int x), (2, .int y), (3, .int u)] := hl
  have hsh := hI.sh
  have hrs := hI.rs
  refine lv_aload_n hx hb dX2_isStranger_0 rfl (lv_at hl 0 rfl) ?_
  refine lv_iload_n hx hb dX2_isStranger_1 rfl (lv_at hl 2 rfl) ?_
  refine lv_iload_n hx hb dX2_isStranger_2 rfl (lv_at hl 3 rfl) ?_
  refine r_callV (As := [.int y, .int u]) (rest := []) C hw (t_X2_areKinE l B D cA kd ig rg lg _ y u ζ hζ hI) sv_X2_58 (hsh 29 _ rfl) rfl hl.1 rfl (Nat.le_of_ble_eq_true rfl) ⟨Nat.le_of_ble_eq_true rfl, Nat.le_of_ble_eq_true rfl⟩ ⟨Nat.le_of_ble_eq_true rfl, Nat.le_of_ble_eq_true rfl⟩ dX2_isStranger_3 (fun r5 kd1 ig2 rg3 lg4 H locs hw hH hp6 => ?_)
  obtain ⟨rfl, rfl, rfl, rfl, hzhp6, hrhp6⟩ := hp6
  have hsz := hzhp6.trans hsz
  obtain ⟨z7, rfl, hz7⟩ := hrhp6
  have k1 := hz7
  refine z_eq (tgt := 22) hx hb dX2_isStranger_6 (by decide) (fun c6 => ?_) (fun c6 => ?_)
  · refine lv_iconst (v := 0) hx hb dX2_isStranger_22 (by decide) (ti_c 0 (by decide) fun z8 hz8 => ?_)
    exact r_iret C hw hr hlk (nar_b (by omega)) (Nat.le_of_ble_eq_true rfl) (Nat.le_of_ble_eq_true rfl) dX2_isStranger_23 ⟨rfl, rfl, rfl, rfl, hsz, ⟨_, rfl, Or.inr ⟨by omega, fun w => by0 k1 (by omega) w.1⟩⟩⟩
  · have q1 := by1 k1 (by omega)
    refine lv_aload_n hx hb dX2_isStranger_9 rfl (lv_at hl 0 rfl) ?_
    refine lv_iload_n hx hb dX2_isStranger_10 rfl (lv_at hl 2 rfl) ?_
    refine lv_iload_n hx hb dX2_isStranger_11 rfl (lv_at hl 1 rfl) ?_
    refine r_callV (As := [.int y, .int x]) (rest := []) C hw (t_X2_areKinE l B D cA kd ig rg lg _ y x ζ hζ hI) sv_X2_58 (hsh 29 _ rfl) rfl hl.1 rfl (Nat.le_of_ble_eq_true rfl) ⟨Nat.le_of_ble_eq_true rfl, Nat.le_of_ble_eq_true rfl⟩ ⟨Nat.le_of_ble_eq_true rfl, Nat.le_of_ble_eq_true rfl⟩ dX2_isStranger_12 (fun r13 kd9 ig10 rg11 lg12 H locs hw hH hp14 => ?_)
    obtain ⟨rfl, rfl, rfl, rfl, hzhp14, hrhp14⟩ := hp14
    have hsz := hzhp14.trans hsz
    obtain ⟨z15, rfl, hz15⟩ := hrhp14
    have k2 := hz15
    refine z_ne (tgt := 22) hx hb dX2_isStranger_15 (by decide) (fun c15 => ?_) (fun c15 => ?_)
    · refine lv_iconst (v := 0) hx hb dX2_isStranger_22 (by decide) (ti_c 0 (by decide) fun z16 hz16 => ?_)
      exact r_iret C hw hr hlk (nar_b (by omega)) (Nat.le_of_ble_eq_true rfl) (Nat.le_of_ble_eq_true rfl) dX2_isStranger_23 ⟨rfl, rfl, rfl, rfl, hsz, ⟨_, rfl, Or.inr ⟨by omega, fun w => w.2 (by1 k2 (by omega))⟩⟩⟩
    · refine lv_iconst (v := 1) hx hb dX2_isStranger_18 (by decide) (ti_c 1 (by decide) fun z17 hz17 => ?_)
      refine lv_goto (tgt := 23) hx hb dX2_isStranger_19 (by decide) ?_
      exact r_iret C hw hr hlk (nar_b (by omega)) (Nat.le_of_ble_eq_true rfl) (Nat.le_of_ble_eq_true rfl) dX2_isStranger_23 ⟨rfl, rfl, rfl, rfl, hsz, ⟨_, rfl, Or.inl ⟨by omega, q1, by0 k2 (by omega)⟩⟩⟩

set_option maxHeartbeats 4000000 in
set_option maxRecDepth 100000 in
theorem t_X2_neighbourToCopyE {τ : Tp} (l : Launch) (B : Nat) (D : va_G) (cA : Nat → ClassId) (kd : sK) (ig : sI) (rg : sR) (lg : sG) (sz : Nat) (x : Int32) (σ : Sg) (π : Ps) (ν : Nat) (hS : SCh B σ π ν kd ig rg) (ζ : Nat → Int) (hζ : FA B ζ ig) (hI : IC τ B kd ig rg) : MC l B D cA yX2_neighbourToCopy cX2_neighbourToCopy 3 (some .int) (rL 3 0 0) [.ref (B + 29), .int x] kd ig rg lg sz (Pu kd ig rg lg sz (fun r => ∃ z : Int32, r = some (.int z) ∧ OddR σ ζ x.toInt z.toInt)) := by
  refine MC.of (own := RX2) (by decide +kernel) rfl (Nat.le_of_ble_eq_true rfl) ?_
  intro p e s m args below meth c ls C hr hlk hnm hw hsz hl
  have hx := C.1.1
  have hb := C.1.2.1
  have hown := C.1.2.2.2.1
  have hts := C.1.2.2.2.2
  have hl : lv_has ls 3 [(0, .ref (B + 29)), (1, .int x)] := hl
  have hsh := hI.sh
  have hrs := hI.rs
  refine lv_aload_n hx hb dX2_neighbourToCopy_0 rfl (lv_at hl 0 rfl) ?_
  refine r_get C hw (hsh 29 _ rfl) fl_X2_9 (oV_r rfl (hrs (29, 0, 9) (by decide))) dX2_neighbourToCopy_1 ?_
  refine lv_iload_n hx hb dX2_neighbourToCopy_4 rfl (lv_at hl 1 rfl) ?_
  refine r_callV (As := [.int x]) (rest := []) C hw (t_X6_kindAtE l B D cA kd ig rg lg _ x σ π ν hS hI) sv_X2_50 (hsh 9 _ rfl) rfl hl.1 rfl (Nat.le_of_ble_eq_true rfl) ⟨Nat.le_of_ble_eq_true rfl, Nat.le_of_ble_eq_true rfl⟩ ⟨Nat.le_of_ble_eq_true rfl, Nat.le_of_ble_eq_true rfl⟩ dX2_neighbourToCopy_5 (fun r5 kd1 ig2 rg3 lg4 H locs hw hH hp6 => ?_)
  obtain ⟨rfl, rfl, rfl, rfl, hzhp6, hrhp6⟩ := hp6
  have hsz := hzhp6.trans hsz
  obtain ⟨z7, rfl, hz7⟩ := hrhp6
  refine z_ne (tgt := 13) hx hb dX2_neighbourToCopy_8 (by decide) (fun c8 => ?_) (fun c8 => ?_)
  · have hx0 := atC_k (σ := σ) (x := x.toInt) (by omega)
    refine lv_iload_n hx hb dX2_neighbourToCopy_13 rfl (lv_at hl 1 rfl) ?_
    refine lv_bipush (v := 12) hx hb dX2_neighbourToCopy_14 (by decide) (ti_c 12 (by decide) fun z8 hz8 => ?_)
    refine lv_irem hx hb dX2_neighbourToCopy_16 (ne0_of (by omega)) (tc_rem 12 hz8 (by decide) fun z9 bz9 hz9 => ?_)
    first | replace hz9 := hz9 (by omega) | clear hz9
    refine lv_istore_n (lv' := [(2, .int z9), (0, .ref (B + 29)), (1, .int x)]) hx hb dX2_neighbourToCopy_17 rfl hl (by decide) rfl (fun ls hl => ?_)
    refine lv_iload_n hx hb dX2_neighbourToCopy_18 rfl (lv_at hl 0 rfl) ?_
    refine z_le (tgt := 46) hx hb dX2_neighbourToCopy_19 (by decide) (fun c19 => ?_) (fun c19 => ?_)
    · have na : ¬ oddA ζ x.toInt := fun w => by have w1 := w.1; omega
      refine lv_aload_n hx hb dX2_neighbourToCopy_46 rfl (lv_at hl 1 rfl) ?_
      refine lv_iload_n hx hb dX2_neighbourToCopy_47 rfl (lv_at hl 2 rfl) ?_
      refine lv_iload_n hx hb dX2_neighbourToCopy_48 rfl (lv_at hl 2 rfl) ?_
      refine lv_bipush (v := 12) hx hb dX2_neighbourToCopy_49 (by decide) (ti_c 12 (by decide) fun z10 hz10 => ?_)
      refine lv_isub hx hb dX2_neighbourToCopy_51 (tc_sub fun z11 hz11 => ?_)
      first | replace hz11 := hz11 (by omega) | clear hz11
      refine lv_iload_n hx hb dX2_neighbourToCopy_52 rfl (lv_at hl 2 rfl) ?_
      refine lv_bipush (v := 12) hx hb dX2_neighbourToCopy_53 (by decide) (ti_c 12 (by decide) fun z12 hz12 => ?_)
      refine lv_iadd hx hb dX2_neighbourToCopy_55 (tc_add fun z13 hz13 => ?_)
      first | replace hz13 := hz13 (by omega) | clear hz13
      refine r_callV (As := [.int x, .int z11, .int z13]) (rest := []) C hw (t_X2_isStrangerE l B D cA kd ig rg lg _ x z11 z13 ζ hζ hI) sv_X2_54 (hsh 29 _ rfl) rfl hl.1 rfl (Nat.le_of_ble_eq_true rfl) ⟨Nat.le_of_ble_eq_true rfl, Nat.le_of_ble_eq_true rfl⟩ ⟨Nat.le_of_ble_eq_true rfl, Nat.le_of_ble_eq_true rfl⟩ dX2_neighbourToCopy_56 (fun r18 kd14 ig15 rg16 lg17 H locs hw hH hp19 => ?_)
      obtain ⟨rfl, rfl, rfl, rfl, hzhp19, hrhp19⟩ := hp19
      have hsz := hzhp19.trans hsz
      obtain ⟨z20, rfl, hz20⟩ := hrhp19
      have k3 : (z20.toInt = 1 ∧ strN ζ x.toInt (x.toInt - 12) (x.toInt + 12)) ∨ (z20.toInt = 0 ∧ ¬ strN ζ x.toInt (x.toInt - 12) (x.toInt + 12)) := by rw [show x.toInt - 12 = z11.toInt by omega, show x.toInt + 12 = z13.toInt by omega]; exact hz20
      refine z_eq (tgt := 69) hx hb dX2_neighbourToCopy_59 (by decide) (fun c59 => ?_) (fun c59 => ?_)
      · refine lv_iconst (v := (-1)) hx hb dX2_neighbourToCopy_69 (by decide) (ti_c (-1) (by decide) fun z21 hz21 => ?_)
        exact r_iret C hw hr hlk rfl (Nat.le_of_ble_eq_true rfl) (Nat.le_of_ble_eq_true rfl) dX2_neighbourToCopy_70 ⟨rfl, rfl, rfl, rfl, hsz, ⟨_, rfl, Or.inr ⟨by omega, Or.inr (Or.inr ⟨na, by0 k3 (by omega), by omega⟩)⟩⟩⟩
      · refine lv_iload_n hx hb dX2_neighbourToCopy_62 rfl (lv_at hl 2 rfl) ?_
        refine lv_bipush (v := 12) hx hb dX2_neighbourToCopy_63 (by decide) (ti_c 12 (by decide) fun z22 hz22 => ?_)
        refine lv_isub hx hb dX2_neighbourToCopy_65 (tc_sub fun z23 hz23 => ?_)
        first | replace hz23 := hz23 (by omega) | clear hz23
        refine lv_goto (tgt := 70) hx hb dX2_neighbourToCopy_66 (by decide) ?_
        exact r_iret C hw hr hlk rfl (Nat.le_of_ble_eq_true rfl) (Nat.le_of_ble_eq_true rfl) dX2_neighbourToCopy_70 ⟨rfl, rfl, rfl, rfl, hsz, ⟨_, rfl, Or.inr ⟨by omega, Or.inr (Or.inl ⟨na, by1 k3 (by omega), by omega⟩)⟩⟩⟩
    · refine lv_iload_n hx hb dX2_neighbourToCopy_22 rfl (lv_at hl 0 rfl) ?_
      refine lv_bipush (v := 11) hx hb dX2_neighbourToCopy_23 (by decide) (ti_c 11 (by decide) fun z24 hz24 => ?_)
      refine b_ge (tgt := 46) hx hb dX2_neighbourToCopy_25 (by decide) (fun c25 => ?_) (fun c25 => ?_)
      · have na : ¬ oddA ζ x.toInt := fun w => by have w1 := w.1; omega
        refine lv_aload_n hx hb dX2_neighbourToCopy_46 rfl (lv_at hl 1 rfl) ?_
        refine lv_iload_n hx hb dX2_neighbourToCopy_47 rfl (lv_at hl 2 rfl) ?_
        refine lv_iload_n hx hb dX2_neighbourToCopy_48 rfl (lv_at hl 2 rfl) ?_
        refine lv_bipush (v := 12) hx hb dX2_neighbourToCopy_49 (by decide) (ti_c 12 (by decide) fun z25 hz25 => ?_)
        refine lv_isub hx hb dX2_neighbourToCopy_51 (tc_sub fun z26 hz26 => ?_)
        first | replace hz26 := hz26 (by omega) | clear hz26
        refine lv_iload_n hx hb dX2_neighbourToCopy_52 rfl (lv_at hl 2 rfl) ?_
        refine lv_bipush (v := 12) hx hb dX2_neighbourToCopy_53 (by decide) (ti_c 12 (by decide) fun z27 hz27 => ?_)
        refine lv_iadd hx hb dX2_neighbourToCopy_55 (tc_add fun z28 hz28 => ?_)
        first | replace hz28 := hz28 (by omega) | clear hz28
        refine r_callV (As := [.int x, .int z26, .int z28]) (rest := []) C hw (t_X2_isStrangerE l B D cA kd ig rg lg _ x z26 z28 ζ hζ hI) sv_X2_54 (hsh 29 _ rfl) rfl hl.1 rfl (Nat.le_of_ble_eq_true rfl) ⟨Nat.le_of_ble_eq_true rfl, Nat.le_of_ble_eq_true rfl⟩ ⟨Nat.le_of_ble_eq_true rfl, Nat.le_of_ble_eq_true rfl⟩ dX2_neighbourToCopy_56 (fun r33 kd29 ig30 rg31 lg32 H locs hw hH hp34 => ?_)
        obtain ⟨rfl, rfl, rfl, rfl, hzhp34, hrhp34⟩ := hp34
        have hsz := hzhp34.trans hsz
        obtain ⟨z35, rfl, hz35⟩ := hrhp34
        have k3 : (z35.toInt = 1 ∧ strN ζ x.toInt (x.toInt - 12) (x.toInt + 12)) ∨ (z35.toInt = 0 ∧ ¬ strN ζ x.toInt (x.toInt - 12) (x.toInt + 12)) := by rw [show x.toInt - 12 = z26.toInt by omega, show x.toInt + 12 = z28.toInt by omega]; exact hz35
        refine z_eq (tgt := 69) hx hb dX2_neighbourToCopy_59 (by decide) (fun c59 => ?_) (fun c59 => ?_)
        · refine lv_iconst (v := (-1)) hx hb dX2_neighbourToCopy_69 (by decide) (ti_c (-1) (by decide) fun z36 hz36 => ?_)
          exact r_iret C hw hr hlk rfl (Nat.le_of_ble_eq_true rfl) (Nat.le_of_ble_eq_true rfl) dX2_neighbourToCopy_70 ⟨rfl, rfl, rfl, rfl, hsz, ⟨_, rfl, Or.inr ⟨by omega, Or.inr (Or.inr ⟨na, by0 k3 (by omega), by omega⟩)⟩⟩⟩
        · refine lv_iload_n hx hb dX2_neighbourToCopy_62 rfl (lv_at hl 2 rfl) ?_
          refine lv_bipush (v := 12) hx hb dX2_neighbourToCopy_63 (by decide) (ti_c 12 (by decide) fun z37 hz37 => ?_)
          refine lv_isub hx hb dX2_neighbourToCopy_65 (tc_sub fun z38 hz38 => ?_)
          first | replace hz38 := hz38 (by omega) | clear hz38
          refine lv_goto (tgt := 70) hx hb dX2_neighbourToCopy_66 (by decide) ?_
          exact r_iret C hw hr hlk rfl (Nat.le_of_ble_eq_true rfl) (Nat.le_of_ble_eq_true rfl) dX2_neighbourToCopy_70 ⟨rfl, rfl, rfl, rfl, hsz, ⟨_, rfl, Or.inr ⟨by omega, Or.inr (Or.inl ⟨na, by1 k3 (by omega), by omega⟩)⟩⟩⟩
      · refine lv_aload_n hx hb dX2_neighbourToCopy_28 rfl (lv_at hl 1 rfl) ?_
        refine lv_iload_n hx hb dX2_neighbourToCopy_29 rfl (lv_at hl 2 rfl) ?_
        refine lv_iload_n hx hb dX2_neighbourToCopy_30 rfl (lv_at hl 2 rfl) ?_
        refine lv_iconst (v := 1) hx hb dX2_neighbourToCopy_31 (by decide) (ti_c 1 (by decide) fun z39 hz39 => ?_)
        refine lv_isub hx hb dX2_neighbourToCopy_32 (tc_sub fun z40 hz40 => ?_)
        first | replace hz40 := hz40 (by omega) | clear hz40
        refine lv_iload_n hx hb dX2_neighbourToCopy_33 rfl (lv_at hl 2 rfl) ?_
        refine lv_iconst (v := 1) hx hb dX2_neighbourToCopy_34 (by decide) (ti_c 1 (by decide) fun z41 hz41 => ?_)
        refine lv_iadd hx hb dX2_neighbourToCopy_35 (tc_add fun z42 hz42 => ?_)
        first | replace hz42 := hz42 (by omega) | clear hz42
        refine r_callV (As := [.int x, .int z40, .int z42]) (rest := []) C hw (t_X2_isStrangerE l B D cA kd ig rg lg _ x z40 z42 ζ hζ hI) sv_X2_54 (hsh 29 _ rfl) rfl hl.1 rfl (Nat.le_of_ble_eq_true rfl) ⟨Nat.le_of_ble_eq_true rfl, Nat.le_of_ble_eq_true rfl⟩ ⟨Nat.le_of_ble_eq_true rfl, Nat.le_of_ble_eq_true rfl⟩ dX2_neighbourToCopy_36 (fun r47 kd43 ig44 rg45 lg46 H locs hw hH hp48 => ?_)
        obtain ⟨rfl, rfl, rfl, rfl, hzhp48, hrhp48⟩ := hp48
        have hsz := hzhp48.trans hsz
        obtain ⟨z49, rfl, hz49⟩ := hrhp48
        have k2 : (z49.toInt = 1 ∧ strN ζ x.toInt (x.toInt - 1) (x.toInt + 1)) ∨ (z49.toInt = 0 ∧ ¬ strN ζ x.toInt (x.toInt - 1) (x.toInt + 1)) := by rw [show x.toInt - 1 = z40.toInt by omega, show x.toInt + 1 = z42.toInt by omega]; exact hz49
        refine z_eq (tgt := 46) hx hb dX2_neighbourToCopy_39 (by decide) (fun c39 => ?_) (fun c39 => ?_)
        · have na : ¬ oddA ζ x.toInt := fun w => by0 k2 (by omega) w.2
          refine lv_aload_n hx hb dX2_neighbourToCopy_46 rfl (lv_at hl 1 rfl) ?_
          refine lv_iload_n hx hb dX2_neighbourToCopy_47 rfl (lv_at hl 2 rfl) ?_
          refine lv_iload_n hx hb dX2_neighbourToCopy_48 rfl (lv_at hl 2 rfl) ?_
          refine lv_bipush (v := 12) hx hb dX2_neighbourToCopy_49 (by decide) (ti_c 12 (by decide) fun z50 hz50 => ?_)
          refine lv_isub hx hb dX2_neighbourToCopy_51 (tc_sub fun z51 hz51 => ?_)
          first | replace hz51 := hz51 (by omega) | clear hz51
          refine lv_iload_n hx hb dX2_neighbourToCopy_52 rfl (lv_at hl 2 rfl) ?_
          refine lv_bipush (v := 12) hx hb dX2_neighbourToCopy_53 (by decide) (ti_c 12 (by decide) fun z52 hz52 => ?_)
          refine lv_iadd hx hb dX2_neighbourToCopy_55 (tc_add fun z53 hz53 => ?_)
          first | replace hz53 := hz53 (by omega) | clear hz53
          refine r_callV (As := [.int x, .int z51, .int z53]) (rest := []) C hw (t_X2_isStrangerE l B D cA kd ig rg lg _ x z51 z53 ζ hζ hI) sv_X2_54 (hsh 29 _ rfl) rfl hl.1 rfl (Nat.le_of_ble_eq_true rfl) ⟨Nat.le_of_ble_eq_true rfl, Nat.le_of_ble_eq_true rfl⟩ ⟨Nat.le_of_ble_eq_true rfl, Nat.le_of_ble_eq_true rfl⟩ dX2_neighbourToCopy_56 (fun r58 kd54 ig55 rg56 lg57 H locs hw hH hp59 => ?_)
          obtain ⟨rfl, rfl, rfl, rfl, hzhp59, hrhp59⟩ := hp59
          have hsz := hzhp59.trans hsz
          obtain ⟨z60, rfl, hz60⟩ := hrhp59
          have k3 : (z60.toInt = 1 ∧ strN ζ x.toInt (x.toInt - 12) (x.toInt + 12)) ∨ (z60.toInt = 0 ∧ ¬ strN ζ x.toInt (x.toInt - 12) (x.toInt + 12)) := by rw [show x.toInt - 12 = z51.toInt by omega, show x.toInt + 12 = z53.toInt by omega]; exact hz60
          refine z_eq (tgt := 69) hx hb dX2_neighbourToCopy_59 (by decide) (fun c59 => ?_) (fun c59 => ?_)
          · refine lv_iconst (v := (-1)) hx hb dX2_neighbourToCopy_69 (by decide) (ti_c (-1) (by decide) fun z61 hz61 => ?_)
            exact r_iret C hw hr hlk rfl (Nat.le_of_ble_eq_true rfl) (Nat.le_of_ble_eq_true rfl) dX2_neighbourToCopy_70 ⟨rfl, rfl, rfl, rfl, hsz, ⟨_, rfl, Or.inr ⟨by omega, Or.inr (Or.inr ⟨na, by0 k3 (by omega), by omega⟩)⟩⟩⟩
          · refine lv_iload_n hx hb dX2_neighbourToCopy_62 rfl (lv_at hl 2 rfl) ?_
            refine lv_bipush (v := 12) hx hb dX2_neighbourToCopy_63 (by decide) (ti_c 12 (by decide) fun z62 hz62 => ?_)
            refine lv_isub hx hb dX2_neighbourToCopy_65 (tc_sub fun z63 hz63 => ?_)
            first | replace hz63 := hz63 (by omega) | clear hz63
            refine lv_goto (tgt := 70) hx hb dX2_neighbourToCopy_66 (by decide) ?_
            exact r_iret C hw hr hlk rfl (Nat.le_of_ble_eq_true rfl) (Nat.le_of_ble_eq_true rfl) dX2_neighbourToCopy_70 ⟨rfl, rfl, rfl, rfl, hsz, ⟨_, rfl, Or.inr ⟨by omega, Or.inr (Or.inl ⟨na, by1 k3 (by omega), by omega⟩)⟩⟩⟩
        · refine lv_iload_n hx hb dX2_neighbourToCopy_42 rfl (lv_at hl 2 rfl) ?_
          refine lv_iconst (v := 1) hx hb dX2_neighbourToCopy_43 (by decide) (ti_c 1 (by decide) fun z64 hz64 => ?_)
          refine lv_isub hx hb dX2_neighbourToCopy_44 (tc_sub fun z65 hz65 => ?_)
          first | replace hz65 := hz65 (by omega) | clear hz65
          exact r_iret C hw hr hlk rfl (Nat.le_of_ble_eq_true rfl) (Nat.le_of_ble_eq_true rfl) dX2_neighbourToCopy_45 ⟨rfl, rfl, rfl, rfl, hsz, ⟨_, rfl, Or.inr ⟨by omega, Or.inl ⟨⟨by omega, by1 k2 (by omega)⟩, by omega⟩⟩⟩⟩
  · refine lv_iconst (v := (-1)) hx hb dX2_neighbourToCopy_11 (by decide) (ti_c (-1) (by decide) fun z66 hz66 => ?_)
    exact r_iret C hw hr hlk rfl (Nat.le_of_ble_eq_true rfl) (Nat.le_of_ble_eq_true rfl) dX2_neighbourToCopy_12 ⟨rfl, rfl, rfl, rfl, hsz, ⟨_, rfl, Or.inl ⟨by omega, by omega⟩⟩⟩

set_option maxHeartbeats 4000000 in
set_option maxRecDepth 100000 in
theorem t_X3_goesOnE {τ : Tp} (l : Launch) (B : Nat) (D : va_G) (cA : Nat → ClassId) (kd : sK) (ig : sI) (rg : sR) (lg : sG) (sz : Nat) (x : Int32) (y : Int32) (u : Int32) (σ : Sg) (π : Ps) (ν : Nat) (hS : SCh B σ π ν kd ig rg) (ζ : Nat → Int) (hζ : FA B ζ ig) (hI : IC τ B kd ig rg) : MC l B D cA yX3_goesOn cX3_goesOn 4 (some .boolean) (rL 2 0 0) [.ref (B + 43), .int x, .int y, .int u] kd ig rg lg sz (Pu kd ig rg lg sz (fun r => ∃ z : Int32, r = some (.int z) ∧ ((z.toInt = 1 ∧ gonN σ ζ x.toInt y.toInt u.toInt) ∨ (z.toInt = 0 ∧ ¬ gonN σ ζ x.toInt y.toInt u.toInt)))) := by
  refine MC.of (own := RX3) (by decide +kernel) rfl (Nat.le_of_ble_eq_true rfl) ?_
  intro p e s m args below meth c ls C hr hlk hnm hw hsz hl
  have hx := C.1.1
  have hb := C.1.2.1
  have hown := C.1.2.2.2.1
  have hts := C.1.2.2.2.2
  have hl : lv_has ls 4 [(0, .ref (B + 43)), (1, .int x), (2, .int y), (3, .int u)] := hl
  have hsh := hI.sh
  have hrs := hI.rs
  refine lv_iload_n hx hb dX3_goesOn_0 rfl (lv_at hl 3 rfl) ?_
  refine lv_iload_n hx hb dX3_goesOn_1 rfl (lv_at hl 1 rfl) ?_
  refine b_eq (tgt := 33) hx hb dX3_goesOn_2 (by decide) (fun c2 => ?_) (fun c2 => ?_)
  · refine lv_iconst (v := 0) hx hb dX3_goesOn_33 (by decide) (ti_c 0 (by decide) fun z1 hz1 => ?_)
    exact r_iret C hw hr hlk (nar_b (by omega)) (Nat.le_of_ble_eq_true rfl) (Nat.le_of_ble_eq_true rfl) dX3_goesOn_34 ⟨rfl, rfl, rfl, rfl, hsz, ⟨_, rfl, Or.inr ⟨by omega, fun w => w.1 (by omega)⟩⟩⟩
  · refine lv_aload_n hx hb dX3_goesOn_5 rfl (lv_at hl 0 rfl) ?_
    refine r_get C hw (hsh 43 _ rfl) fl_X3_9 (oV_r rfl (hrs (43, 0, 9) (by decide))) dX3_goesOn_6 ?_
    refine lv_iload_n hx hb dX3_goesOn_9 rfl (lv_at hl 3 rfl) ?_
    refine r_callV (As := [.int u]) (rest := []) C hw (t_X6_kindAtE l B D cA kd ig rg lg _ u σ π ν hS hI) sv_X3_44 (hsh 9 _ rfl) rfl hl.1 rfl (Nat.le_of_ble_eq_true rfl) ⟨Nat.le_of_ble_eq_true rfl, Nat.le_of_ble_eq_true rfl⟩ ⟨Nat.le_of_ble_eq_true rfl, Nat.le_of_ble_eq_true rfl⟩ dX3_goesOn_10 (fun r6 kd2 ig3 rg4 lg5 H locs hw hH hp7 => ?_)
    obtain ⟨rfl, rfl, rfl, rfl, hzhp7, hrhp7⟩ := hp7
    have hsz := hzhp7.trans hsz
    obtain ⟨z8, rfl, hz8⟩ := hrhp7
    have k1 := hz8
    refine lv_iconst (v := 1) hx hb dX3_goesOn_13 (by decide) (ti_c 1 (by decide) fun z9 hz9 => ?_)
    refine b_eq (tgt := 29) hx hb dX3_goesOn_14 (by decide) (fun c14 => ?_) (fun c14 => ?_)
    · refine lv_iconst (v := 1) hx hb dX3_goesOn_29 (by decide) (ti_c 1 (by decide) fun z10 hz10 => ?_)
      refine lv_goto (tgt := 34) hx hb dX3_goesOn_30 (by decide) ?_
      exact r_iret C hw hr hlk (nar_b (by omega)) (Nat.le_of_ble_eq_true rfl) (Nat.le_of_ble_eq_true rfl) dX3_goesOn_34 ⟨rfl, rfl, rfl, rfl, hsz, ⟨_, rfl, Or.inl ⟨by omega, by omega, Or.inl (by omega)⟩⟩⟩
    · refine lv_aload_n hx hb dX3_goesOn_17 rfl (lv_at hl 0 rfl) ?_
      refine r_get C hw (hsh 43 _ rfl) fl_X3_19 (oV_r rfl (hrs (43, 2, 29) (by decide))) dX3_goesOn_18 ?_
      refine lv_iload_n hx hb dX3_goesOn_21 rfl (lv_at hl 2 rfl) ?_
      refine lv_iload_n hx hb dX3_goesOn_22 rfl (lv_at hl 3 rfl) ?_
      refine r_callV (As := [.int y, .int u]) (rest := []) C hw (t_X2_areKinE l B D cA kd ig rg lg _ y u ζ hζ hI) sv_X3_120 (hsh 29 _ rfl) rfl hl.1 rfl (Nat.le_of_ble_eq_true rfl) ⟨Nat.le_of_ble_eq_true rfl, Nat.le_of_ble_eq_true rfl⟩ ⟨Nat.le_of_ble_eq_true rfl, Nat.le_of_ble_eq_true rfl⟩ dX3_goesOn_23 (fun r15 kd11 ig12 rg13 lg14 H locs hw hH hp16 => ?_)
      obtain ⟨rfl, rfl, rfl, rfl, hzhp16, hrhp16⟩ := hp16
      have hsz := hzhp16.trans hsz
      obtain ⟨z17, rfl, hz17⟩ := hrhp16
      have k2 := hz17
      refine z_eq (tgt := 33) hx hb dX3_goesOn_26 (by decide) (fun c26 => ?_) (fun c26 => ?_)
      · refine lv_iconst (v := 0) hx hb dX3_goesOn_33 (by decide) (ti_c 0 (by decide) fun z18 hz18 => ?_)
        exact r_iret C hw hr hlk (nar_b (by omega)) (Nat.le_of_ble_eq_true rfl) (Nat.le_of_ble_eq_true rfl) dX3_goesOn_34 ⟨rfl, rfl, rfl, rfl, hsz, ⟨_, rfl, Or.inr ⟨by omega, fun w => w.2.elim (fun w => by omega) (by0 k2 (by omega))⟩⟩⟩
      · refine lv_iconst (v := 1) hx hb dX3_goesOn_29 (by decide) (ti_c 1 (by decide) fun z19 hz19 => ?_)
        refine lv_goto (tgt := 34) hx hb dX3_goesOn_30 (by decide) ?_
        exact r_iret C hw hr hlk (nar_b (by omega)) (Nat.le_of_ble_eq_true rfl) (Nat.le_of_ble_eq_true rfl) dX3_goesOn_34 ⟨rfl, rfl, rfl, rfl, hsz, ⟨_, rfl, Or.inl ⟨by omega, by omega, Or.inr (by1 k2 (by omega))⟩⟩⟩

set_option maxHeartbeats 4000000 in
set_option maxRecDepth 100000 in
theorem t_X3_shortBelowE {τ : Tp} (l : Launch) (B : Nat) (D : va_G) (cA : Nat → ClassId) (kd : sK) (ig : sI) (rg : sR) (lg : sG) (sz : Nat) (x : Int32) (g : Nat) (M : Fm) (hM : FnL B kd ig rg g M) (y : Int32) (σ : Sg) (π : Ps) (ν : Nat) (hS : SCh B σ π ν kd ig rg) (ζ : Nat → Int) (hζ : FA B ζ ig) (hx0 : 0 ≤ x.toInt ∧ x.toInt < 288) (hwf : WfL M) (hI : IC τ B kd ig rg) : MC l B D cA yX3_shortBelow cX3_shortBelow 6 (some .int) (rL 3 0 0) [.ref (B + 43), .int x, .ref g, .int y] kd ig rg lg sz (Pu kd ig rg lg sz (fun r => ∃ z : Int32, r = some (.int z) ∧ ((shB σ ζ x.toInt (stp M y.toInt) ∧ z.toInt = lstP (stp M y.toInt) x.toInt + 12) ∨ (¬ shB σ ζ x.toInt (stp M y.toInt) ∧ z.toInt = -1)))) := by
  refine MC.of (own := RX3) (by decide +kernel) rfl (Nat.le_of_ble_eq_true rfl) ?_
  intro p e s m args below meth c ls C hr hlk hnm hw hsz hl
  have hx := C.1.1
  have hb := C.1.2.1
  have hown := C.1.2.2.2.1
  have hts := C.1.2.2.2.2
  have hl : lv_has ls 6 [(0, .ref (B + 43)), (1, .int x), (2, .ref g), (3, .int y)] := hl
  have hsh := hI.sh
  have hrs := hI.rs
  have lng := hM.le
  refine lv_aload_n hx hb dX3_shortBelow_0 rfl (lv_at hl 2 rfl) ?_
  refine lv_iload_n hx hb dX3_shortBelow_1 rfl (lv_at hl 3 rfl) ?_
  refine r_callV (As := [.int y]) (rest := []) C hw (t_X4_stepAtE l B D cA kd ig rg lg _ g M hM y  hI) sv_X3_100 (isFn.k (FnL.F hM)) rfl hl.1 rfl (Nat.le_of_ble_eq_true rfl) ⟨Nat.le_of_ble_eq_true rfl, Nat.le_of_ble_eq_true rfl⟩ ⟨Nat.le_of_ble_eq_true rfl, Nat.le_of_ble_eq_true rfl⟩ dX3_shortBelow_2 (fun r5 kd1 ig2 rg3 lg4 H locs hw hH hp6 => ?_)
  obtain ⟨rfl, rfl, rfl, rfl, hzhp6, hrhp6⟩ := hp6
  have hsz := hzhp6.trans hsz
  obtain ⟨z7, rfl, hz7⟩ := hrhp6
  refine lv_iconst (v := 2) hx hb dX3_shortBelow_5 (by decide) (ti_c 2 (by decide) fun z8 hz8 => ?_)
  refine b_ne (tgt := 24) hx hb dX3_shortBelow_6 (by decide) (fun c6 => ?_) (fun c6 => ?_)
  · refine lv_iconst (v := (-1)) hx hb dX3_shortBelow_24 (by decide) (ti_c (-1) (by decide) fun z9 hz9 => ?_)
    exact r_iret C hw hr hlk rfl (Nat.le_of_ble_eq_true rfl) (Nat.le_of_ble_eq_true rfl) dX3_shortBelow_25 ⟨rfl, rfl, rfl, rfl, hsz, ⟨_, rfl, Or.inr ⟨fun w => by have w1 := w.1; have w2 := w.2.1; omega, by omega⟩⟩⟩
  · have hin := stp_2 (L := M) (x := y.toInt) (by omega)
    have hpk := hwf.at hin.1 hin.2 (Or.inr (by omega))
    have bb1 := colv_b hpk.1 hx0
    have bb2 := colv_b hpk.2 hx0
    have bb3 := rowv_b hpk.1 hx0
    have bb4 := rowv_b hpk.2 hx0
    refine lv_aload_n hx hb dX3_shortBelow_9 rfl (lv_at hl 2 rfl) ?_
    refine lv_iload_n hx hb dX3_shortBelow_10 rfl (lv_at hl 3 rfl) ?_
    refine lv_iload_n hx hb dX3_shortBelow_11 rfl (lv_at hl 1 rfl) ?_
    refine r_callV (As := [.int y, .int x]) (rest := []) C hw (t_X4_leftE l B D cA kd ig rg lg _ g M hM y x (by omega) (by omega) hpk.1 hI) sv_X3_103 (isFn.k (FnL.F hM)) rfl hl.1 rfl (Nat.le_of_ble_eq_true rfl) ⟨Nat.le_of_ble_eq_true rfl, Nat.le_of_ble_eq_true rfl⟩ ⟨Nat.le_of_ble_eq_true rfl, Nat.le_of_ble_eq_true rfl⟩ dX3_shortBelow_12 (fun r14 kd10 ig11 rg12 lg13 H locs hw hH hp15 => ?_)
    obtain ⟨rfl, rfl, rfl, rfl, hzhp15, hrhp15⟩ := hp15
    have hsz := hzhp15.trans hsz
    obtain ⟨z16, rfl, hz16⟩ := hrhp15
    refine lv_aload_n hx hb dX3_shortBelow_15 rfl (lv_at hl 2 rfl) ?_
    refine lv_iload_n hx hb dX3_shortBelow_16 rfl (lv_at hl 3 rfl) ?_
    refine lv_iload_n hx hb dX3_shortBelow_17 rfl (lv_at hl 1 rfl) ?_
    refine r_callV (As := [.int y, .int x]) (rest := [.int z16]) C hw (t_X4_rightE l B D cA kd ig rg lg _ g M hM y x (by omega) (by omega) hpk.2 hI) sv_X3_107 (isFn.k (FnL.F hM)) rfl hl.1 rfl (Nat.le_of_ble_eq_true rfl) ⟨Nat.le_of_ble_eq_true rfl, Nat.le_of_ble_eq_true rfl⟩ ⟨Nat.le_of_ble_eq_true rfl, Nat.le_of_ble_eq_true rfl⟩ dX3_shortBelow_18 (fun r21 kd17 ig18 rg19 lg20 H locs hw hH hp22 => ?_)
    obtain ⟨rfl, rfl, rfl, rfl, hzhp22, hrhp22⟩ := hp22
    have hsz := hzhp22.trans hsz
    obtain ⟨z23, rfl, hz23⟩ := hrhp22
    refine b_eq (tgt := 26) hx hb dX3_shortBelow_21 (by decide) (fun c21 => ?_) (fun c21 => ?_)
    · refine lv_aload_n hx hb dX3_shortBelow_26 rfl (lv_at hl 2 rfl) ?_
      refine lv_iload_n hx hb dX3_shortBelow_27 rfl (lv_at hl 3 rfl) ?_
      refine lv_iload_n hx hb dX3_shortBelow_28 rfl (lv_at hl 1 rfl) ?_
      refine r_callV (As := [.int y, .int x]) (rest := []) C hw (t_X4_bottomE l B D cA kd ig rg lg _ g M hM y x (by omega) (by omega) hpk.2 hI) sv_X3_110 (isFn.k (FnL.F hM)) rfl hl.1 rfl (Nat.le_of_ble_eq_true rfl) ⟨Nat.le_of_ble_eq_true rfl, Nat.le_of_ble_eq_true rfl⟩ ⟨Nat.le_of_ble_eq_true rfl, Nat.le_of_ble_eq_true rfl⟩ dX3_shortBelow_29 (fun r28 kd24 ig25 rg26 lg27 H locs hw hH hp29 => ?_)
      obtain ⟨rfl, rfl, rfl, rfl, hzhp29, hrhp29⟩ := hp29
      have hsz := hzhp29.trans hsz
      obtain ⟨z30, rfl, hz30⟩ := hrhp29
      refine lv_istore (lv' := [(4, .int z30), (0, .ref (B + 43)), (1, .int x), (2, .ref g), (3, .int y)]) hx hb dX3_shortBelow_32 hl (by decide) rfl (fun ls hl => ?_)
      refine lv_iload hx hb dX3_shortBelow_34 (lv_at hl 0 rfl) ?_
      refine lv_bipush (v := 12) hx hb dX3_shortBelow_36 (by decide) (ti_c 12 (by decide) fun z31 hz31 => ?_)
      refine lv_imul hx hb dX3_shortBelow_38 (tc_mulR 12 hz31 fun z32 hz32 => ?_)
      first | replace hz32 := hz32 (by omega) | clear hz32
      refine lv_aload_n hx hb dX3_shortBelow_39 rfl (lv_at hl 3 rfl) ?_
      refine lv_iload_n hx hb dX3_shortBelow_40 rfl (lv_at hl 4 rfl) ?_
      refine lv_iload_n hx hb dX3_shortBelow_41 rfl (lv_at hl 2 rfl) ?_
      refine r_callV (As := [.int y, .int x]) (rest := [.int z32]) C hw (t_X4_rightE l B D cA kd ig rg lg _ g M hM y x (by omega) (by omega) hpk.2 hI) sv_X3_107 (isFn.k (FnL.F hM)) rfl hl.1 rfl (Nat.le_of_ble_eq_true rfl) ⟨Nat.le_of_ble_eq_true rfl, Nat.le_of_ble_eq_true rfl⟩ ⟨Nat.le_of_ble_eq_true rfl, Nat.le_of_ble_eq_true rfl⟩ dX3_shortBelow_42 (fun r37 kd33 ig34 rg35 lg36 H locs hw hH hp38 => ?_)
      obtain ⟨rfl, rfl, rfl, rfl, hzhp38, hrhp38⟩ := hp38
      have hsz := hzhp38.trans hsz
      obtain ⟨z39, rfl, hz39⟩ := hrhp38
      refine lv_iadd hx hb dX3_shortBelow_45 (tc_add fun z40 hz40 => ?_)
      first | replace hz40 := hz40 (by omega) | clear hz40
      refine lv_istore (lv' := [(5, .int z40), (4, .int z30), (0, .ref (B + 43)), (1, .int x), (2, .ref g), (3, .int y)]) hx hb dX3_shortBelow_46 hl (by decide) rfl (fun ls hl => ?_)
      refine lv_iload hx hb dX3_shortBelow_48 (lv_at hl 1 rfl) ?_
      refine lv_bipush (v := 23) hx hb dX3_shortBelow_50 (by decide) (ti_c 23 (by decide) fun z41 hz41 => ?_)
      refine b_ge (tgt := 78) hx hb dX3_shortBelow_52 (by decide) (fun c52 => ?_) (fun c52 => ?_)
      · refine lv_iconst (v := (-1)) hx hb dX3_shortBelow_78 (by decide) (ti_c (-1) (by decide) fun z42 hz42 => ?_)
        exact r_iret C hw hr hlk rfl (Nat.le_of_ble_eq_true rfl) (Nat.le_of_ble_eq_true rfl) dX3_shortBelow_79 ⟨rfl, rfl, rfl, rfl, hsz, ⟨_, rfl, Or.inr ⟨fun w => by have w1 := w.2.2.1; omega, by omega⟩⟩⟩
      · refine lv_aload_n hx hb dX3_shortBelow_55 rfl (lv_at hl 2 rfl) ?_
        refine lv_iload_n hx hb dX3_shortBelow_56 rfl (lv_at hl 3 rfl) ?_
        refine lv_iload hx hb dX3_shortBelow_57 (lv_at hl 0 rfl) ?_
        refine lv_iload hx hb dX3_shortBelow_59 (lv_at hl 0 rfl) ?_
        refine lv_bipush (v := 12) hx hb dX3_shortBelow_61 (by decide) (ti_c 12 (by decide) fun z43 hz43 => ?_)
        refine lv_iadd hx hb dX3_shortBelow_63 (tc_add fun z44 hz44 => ?_)
        first | replace hz44 := hz44 (by omega) | clear hz44
        refine r_callV (As := [.int x, .int z40, .int z44]) (rest := []) C hw (t_X3_goesOnE l B D cA kd ig rg lg _ x z40 z44 σ π ν hS ζ hζ hI) sv_X3_113 (hsh 43 _ rfl) rfl hl.1 rfl (Nat.le_of_ble_eq_true rfl) ⟨Nat.le_of_ble_eq_true rfl, Nat.le_of_ble_eq_true rfl⟩ ⟨Nat.le_of_ble_eq_true rfl, Nat.le_of_ble_eq_true rfl⟩ dX3_shortBelow_64 (fun r49 kd45 ig46 rg47 lg48 H locs hw hH hp50 => ?_)
        obtain ⟨rfl, rfl, rfl, rfl, hzhp50, hrhp50⟩ := hp50
        have hsz := hzhp50.trans hsz
        obtain ⟨z51, rfl, hz51⟩ := hrhp50
        have k2 : (z51.toInt = 1 ∧ gonN σ ζ x.toInt (lstP (stp M y.toInt) x.toInt) (lstP (stp M y.toInt) x.toInt + 12)) ∨ (z51.toInt = 0 ∧ ¬ gonN σ ζ x.toInt (lstP (stp M y.toInt) x.toInt) (lstP (stp M y.toInt) x.toInt + 12)) := by rw [show lstP (stp M y.toInt) x.toInt + 12 = z44.toInt by unfold lstP; omega, show lstP (stp M y.toInt) x.toInt = z40.toInt by unfold lstP; omega]; exact hz51
        refine z_eq (tgt := 78) hx hb dX3_shortBelow_67 (by decide) (fun c67 => ?_) (fun c67 => ?_)
        · refine lv_iconst (v := (-1)) hx hb dX3_shortBelow_78 (by decide) (ti_c (-1) (by decide) fun z52 hz52 => ?_)
          exact r_iret C hw hr hlk rfl (Nat.le_of_ble_eq_true rfl) (Nat.le_of_ble_eq_true rfl) dX3_shortBelow_79 ⟨rfl, rfl, rfl, rfl, hsz, ⟨_, rfl, Or.inr ⟨fun w => by0 k2 (by omega) w.2.2.2, by omega⟩⟩⟩
        · refine lv_iload hx hb dX3_shortBelow_70 (lv_at hl 0 rfl) ?_
          refine lv_bipush (v := 12) hx hb dX3_shortBelow_72 (by decide) (ti_c 12 (by decide) fun z53 hz53 => ?_)
          refine lv_iadd hx hb dX3_shortBelow_74 (tc_add fun z54 hz54 => ?_)
          first | replace hz54 := hz54 (by omega) | clear hz54
          refine lv_goto (tgt := 79) hx hb dX3_shortBelow_75 (by decide) ?_
          exact r_iret C hw hr hlk rfl (Nat.le_of_ble_eq_true rfl) (Nat.le_of_ble_eq_true rfl) dX3_shortBelow_79 ⟨rfl, rfl, rfl, rfl, hsz, ⟨_, rfl, Or.inl ⟨⟨by omega, by omega, by omega, by1 k2 (by omega)⟩, by unfold lstP; omega⟩⟩⟩
    · refine lv_iconst (v := (-1)) hx hb dX3_shortBelow_24 (by decide) (ti_c (-1) (by decide) fun z55 hz55 => ?_)
      exact r_iret C hw hr hlk rfl (Nat.le_of_ble_eq_true rfl) (Nat.le_of_ble_eq_true rfl) dX3_shortBelow_25 ⟨rfl, rfl, rfl, rfl, hsz, ⟨_, rfl, Or.inr ⟨fun w => by have w1 := w.1; have w2 := w.2.1; omega, by omega⟩⟩⟩

set_option maxHeartbeats 4000000 in
set_option maxRecDepth 100000 in
theorem t_X3_shortRightE {τ : Tp} (l : Launch) (B : Nat) (D : va_G) (cA : Nat → ClassId) (kd : sK) (ig : sI) (rg : sR) (lg : sG) (sz : Nat) (x : Int32) (g : Nat) (M : Fm) (hM : FnL B kd ig rg g M) (y : Int32) (σ : Sg) (π : Ps) (ν : Nat) (hS : SCh B σ π ν kd ig rg) (ζ : Nat → Int) (hζ : FA B ζ ig) (hx0 : 0 ≤ x.toInt ∧ x.toInt < 288) (hwf : WfL M) (hI : IC τ B kd ig rg) : MC l B D cA yX3_shortRight cX3_shortRight 6 (some .int) (rL 3 0 0) [.ref (B + 43), .int x, .ref g, .int y] kd ig rg lg sz (Pu kd ig rg lg sz (fun r => ∃ z : Int32, r = some (.int z) ∧ ((shR σ ζ x.toInt (stp M y.toInt) ∧ z.toInt = lstP (stp M y.toInt) x.toInt + 1) ∨ (¬ shR σ ζ x.toInt (stp M y.toInt) ∧ z.toInt = -1)))) := by
  refine MC.of (own := RX3) (by decide +kernel) rfl (Nat.le_of_ble_eq_true rfl) ?_
  intro p e s m args below meth c ls C hr hlk hnm hw hsz hl
  have hx := C.1.1
  have hb := C.1.2.1
  have hown := C.1.2.2.2.1
  have hts := C.1.2.2.2.2
  have hl : lv_has ls 6 [(0, .ref (B + 43)), (1, .int x), (2, .ref g), (3, .int y)] := hl
  have hsh := hI.sh
  have hrs := hI.rs
  have lng := hM.le
  refine lv_aload_n hx hb dX3_shortRight_0 rfl (lv_at hl 2 rfl) ?_
  refine lv_iload_n hx hb dX3_shortRight_1 rfl (lv_at hl 3 rfl) ?_
  refine r_callV (As := [.int y]) (rest := []) C hw (t_X4_stepAtE l B D cA kd ig rg lg _ g M hM y  hI) sv_X3_100 (isFn.k (FnL.F hM)) rfl hl.1 rfl (Nat.le_of_ble_eq_true rfl) ⟨Nat.le_of_ble_eq_true rfl, Nat.le_of_ble_eq_true rfl⟩ ⟨Nat.le_of_ble_eq_true rfl, Nat.le_of_ble_eq_true rfl⟩ dX3_shortRight_2 (fun r5 kd1 ig2 rg3 lg4 H locs hw hH hp6 => ?_)
  obtain ⟨rfl, rfl, rfl, rfl, hzhp6, hrhp6⟩ := hp6
  have hsz := hzhp6.trans hsz
  obtain ⟨z7, rfl, hz7⟩ := hrhp6
  refine lv_iconst (v := 2) hx hb dX3_shortRight_5 (by decide) (ti_c 2 (by decide) fun z8 hz8 => ?_)
  refine b_ne (tgt := 24) hx hb dX3_shortRight_6 (by decide) (fun c6 => ?_) (fun c6 => ?_)
  · refine lv_iconst (v := (-1)) hx hb dX3_shortRight_24 (by decide) (ti_c (-1) (by decide) fun z9 hz9 => ?_)
    exact r_iret C hw hr hlk rfl (Nat.le_of_ble_eq_true rfl) (Nat.le_of_ble_eq_true rfl) dX3_shortRight_25 ⟨rfl, rfl, rfl, rfl, hsz, ⟨_, rfl, Or.inr ⟨fun w => by have w1 := w.1; have w2 := w.2.1; omega, by omega⟩⟩⟩
  · have hin := stp_2 (L := M) (x := y.toInt) (by omega)
    have hpk := hwf.at hin.1 hin.2 (Or.inr (by omega))
    have bb1 := colv_b hpk.1 hx0
    have bb2 := colv_b hpk.2 hx0
    have bb3 := rowv_b hpk.1 hx0
    have bb4 := rowv_b hpk.2 hx0
    refine lv_aload_n hx hb dX3_shortRight_9 rfl (lv_at hl 2 rfl) ?_
    refine lv_iload_n hx hb dX3_shortRight_10 rfl (lv_at hl 3 rfl) ?_
    refine lv_iload_n hx hb dX3_shortRight_11 rfl (lv_at hl 1 rfl) ?_
    refine r_callV (As := [.int y, .int x]) (rest := []) C hw (t_X4_topE l B D cA kd ig rg lg _ g M hM y x (by omega) (by omega) hpk.1 hI) sv_X3_117 (isFn.k (FnL.F hM)) rfl hl.1 rfl (Nat.le_of_ble_eq_true rfl) ⟨Nat.le_of_ble_eq_true rfl, Nat.le_of_ble_eq_true rfl⟩ ⟨Nat.le_of_ble_eq_true rfl, Nat.le_of_ble_eq_true rfl⟩ dX3_shortRight_12 (fun r14 kd10 ig11 rg12 lg13 H locs hw hH hp15 => ?_)
    obtain ⟨rfl, rfl, rfl, rfl, hzhp15, hrhp15⟩ := hp15
    have hsz := hzhp15.trans hsz
    obtain ⟨z16, rfl, hz16⟩ := hrhp15
    refine lv_aload_n hx hb dX3_shortRight_15 rfl (lv_at hl 2 rfl) ?_
    refine lv_iload_n hx hb dX3_shortRight_16 rfl (lv_at hl 3 rfl) ?_
    refine lv_iload_n hx hb dX3_shortRight_17 rfl (lv_at hl 1 rfl) ?_
    refine r_callV (As := [.int y, .int x]) (rest := [.int z16]) C hw (t_X4_bottomE l B D cA kd ig rg lg _ g M hM y x (by omega) (by omega) hpk.2 hI) sv_X3_110 (isFn.k (FnL.F hM)) rfl hl.1 rfl (Nat.le_of_ble_eq_true rfl) ⟨Nat.le_of_ble_eq_true rfl, Nat.le_of_ble_eq_true rfl⟩ ⟨Nat.le_of_ble_eq_true rfl, Nat.le_of_ble_eq_true rfl⟩ dX3_shortRight_18 (fun r21 kd17 ig18 rg19 lg20 H locs hw hH hp22 => ?_)
    obtain ⟨rfl, rfl, rfl, rfl, hzhp22, hrhp22⟩ := hp22
    have hsz := hzhp22.trans hsz
    obtain ⟨z23, rfl, hz23⟩ := hrhp22
    refine b_eq (tgt := 26) hx hb dX3_shortRight_21 (by decide) (fun c21 => ?_) (fun c21 => ?_)
    · refine lv_aload_n hx hb dX3_shortRight_26 rfl (lv_at hl 2 rfl) ?_
      refine lv_iload_n hx hb dX3_shortRight_27 rfl (lv_at hl 3 rfl) ?_
      refine lv_iload_n hx hb dX3_shortRight_28 rfl (lv_at hl 1 rfl) ?_
      refine r_callV (As := [.int y, .int x]) (rest := []) C hw (t_X4_rightE l B D cA kd ig rg lg _ g M hM y x (by omega) (by omega) hpk.2 hI) sv_X3_107 (isFn.k (FnL.F hM)) rfl hl.1 rfl (Nat.le_of_ble_eq_true rfl) ⟨Nat.le_of_ble_eq_true rfl, Nat.le_of_ble_eq_true rfl⟩ ⟨Nat.le_of_ble_eq_true rfl, Nat.le_of_ble_eq_true rfl⟩ dX3_shortRight_29 (fun r28 kd24 ig25 rg26 lg27 H locs hw hH hp29 => ?_)
      obtain ⟨rfl, rfl, rfl, rfl, hzhp29, hrhp29⟩ := hp29
      have hsz := hzhp29.trans hsz
      obtain ⟨z30, rfl, hz30⟩ := hrhp29
      refine lv_istore (lv' := [(4, .int z30), (0, .ref (B + 43)), (1, .int x), (2, .ref g), (3, .int y)]) hx hb dX3_shortRight_32 hl (by decide) rfl (fun ls hl => ?_)
      refine lv_aload_n hx hb dX3_shortRight_34 rfl (lv_at hl 3 rfl) ?_
      refine lv_iload_n hx hb dX3_shortRight_35 rfl (lv_at hl 4 rfl) ?_
      refine lv_iload_n hx hb dX3_shortRight_36 rfl (lv_at hl 2 rfl) ?_
      refine r_callV (As := [.int y, .int x]) (rest := []) C hw (t_X4_bottomE l B D cA kd ig rg lg _ g M hM y x (by omega) (by omega) hpk.2 hI) sv_X3_110 (isFn.k (FnL.F hM)) rfl hl.1 rfl (Nat.le_of_ble_eq_true rfl) ⟨Nat.le_of_ble_eq_true rfl, Nat.le_of_ble_eq_true rfl⟩ ⟨Nat.le_of_ble_eq_true rfl, Nat.le_of_ble_eq_true rfl⟩ dX3_shortRight_37 (fun r35 kd31 ig32 rg33 lg34 H locs hw hH hp36 => ?_)
      obtain ⟨rfl, rfl, rfl, rfl, hzhp36, hrhp36⟩ := hp36
      have hsz := hzhp36.trans hsz
      obtain ⟨z37, rfl, hz37⟩ := hrhp36
      refine lv_bipush (v := 12) hx hb dX3_shortRight_40 (by decide) (ti_c 12 (by decide) fun z38 hz38 => ?_)
      refine lv_imul hx hb dX3_shortRight_42 (tc_mulR 12 hz38 fun z39 hz39 => ?_)
      first | replace hz39 := hz39 (by omega) | clear hz39
      refine lv_iload hx hb dX3_shortRight_43 (lv_at hl 0 rfl) ?_
      refine lv_iadd hx hb dX3_shortRight_45 (tc_add fun z40 hz40 => ?_)
      first | replace hz40 := hz40 (by omega) | clear hz40
      refine lv_istore (lv' := [(5, .int z40), (4, .int z30), (0, .ref (B + 43)), (1, .int x), (2, .ref g), (3, .int y)]) hx hb dX3_shortRight_46 hl (by decide) rfl (fun ls hl => ?_)
      refine lv_iload hx hb dX3_shortRight_48 (lv_at hl 1 rfl) ?_
      refine lv_bipush (v := 11) hx hb dX3_shortRight_50 (by decide) (ti_c 11 (by decide) fun z41 hz41 => ?_)
      refine b_ge (tgt := 76) hx hb dX3_shortRight_52 (by decide) (fun c52 => ?_) (fun c52 => ?_)
      · refine lv_iconst (v := (-1)) hx hb dX3_shortRight_76 (by decide) (ti_c (-1) (by decide) fun z42 hz42 => ?_)
        exact r_iret C hw hr hlk rfl (Nat.le_of_ble_eq_true rfl) (Nat.le_of_ble_eq_true rfl) dX3_shortRight_77 ⟨rfl, rfl, rfl, rfl, hsz, ⟨_, rfl, Or.inr ⟨fun w => by have w1 := w.2.2.1; omega, by omega⟩⟩⟩
      · refine lv_aload_n hx hb dX3_shortRight_55 rfl (lv_at hl 2 rfl) ?_
        refine lv_iload_n hx hb dX3_shortRight_56 rfl (lv_at hl 3 rfl) ?_
        refine lv_iload hx hb dX3_shortRight_57 (lv_at hl 0 rfl) ?_
        refine lv_iload hx hb dX3_shortRight_59 (lv_at hl 0 rfl) ?_
        refine lv_iconst (v := 1) hx hb dX3_shortRight_61 (by decide) (ti_c 1 (by decide) fun z43 hz43 => ?_)
        refine lv_iadd hx hb dX3_shortRight_62 (tc_add fun z44 hz44 => ?_)
        first | replace hz44 := hz44 (by omega) | clear hz44
        refine r_callV (As := [.int x, .int z40, .int z44]) (rest := []) C hw (t_X3_goesOnE l B D cA kd ig rg lg _ x z40 z44 σ π ν hS ζ hζ hI) sv_X3_113 (hsh 43 _ rfl) rfl hl.1 rfl (Nat.le_of_ble_eq_true rfl) ⟨Nat.le_of_ble_eq_true rfl, Nat.le_of_ble_eq_true rfl⟩ ⟨Nat.le_of_ble_eq_true rfl, Nat.le_of_ble_eq_true rfl⟩ dX3_shortRight_63 (fun r49 kd45 ig46 rg47 lg48 H locs hw hH hp50 => ?_)
        obtain ⟨rfl, rfl, rfl, rfl, hzhp50, hrhp50⟩ := hp50
        have hsz := hzhp50.trans hsz
        obtain ⟨z51, rfl, hz51⟩ := hrhp50
        have k2 : (z51.toInt = 1 ∧ gonN σ ζ x.toInt (lstP (stp M y.toInt) x.toInt) (lstP (stp M y.toInt) x.toInt + 1)) ∨ (z51.toInt = 0 ∧ ¬ gonN σ ζ x.toInt (lstP (stp M y.toInt) x.toInt) (lstP (stp M y.toInt) x.toInt + 1)) := by rw [show lstP (stp M y.toInt) x.toInt + 1 = z44.toInt by unfold lstP; omega, show lstP (stp M y.toInt) x.toInt = z40.toInt by unfold lstP; omega]; exact hz51
        refine z_eq (tgt := 76) hx hb dX3_shortRight_66 (by decide) (fun c66 => ?_) (fun c66 => ?_)
        · refine lv_iconst (v := (-1)) hx hb dX3_shortRight_76 (by decide) (ti_c (-1) (by decide) fun z52 hz52 => ?_)
          exact r_iret C hw hr hlk rfl (Nat.le_of_ble_eq_true rfl) (Nat.le_of_ble_eq_true rfl) dX3_shortRight_77 ⟨rfl, rfl, rfl, rfl, hsz, ⟨_, rfl, Or.inr ⟨fun w => by0 k2 (by omega) w.2.2.2, by omega⟩⟩⟩
        · refine lv_iload hx hb dX3_shortRight_69 (lv_at hl 0 rfl) ?_
          refine lv_iconst (v := 1) hx hb dX3_shortRight_71 (by decide) (ti_c 1 (by decide) fun z53 hz53 => ?_)
          refine lv_iadd hx hb dX3_shortRight_72 (tc_add fun z54 hz54 => ?_)
          first | replace hz54 := hz54 (by omega) | clear hz54
          refine lv_goto (tgt := 77) hx hb dX3_shortRight_73 (by decide) ?_
          exact r_iret C hw hr hlk rfl (Nat.le_of_ble_eq_true rfl) (Nat.le_of_ble_eq_true rfl) dX3_shortRight_77 ⟨rfl, rfl, rfl, rfl, hsz, ⟨_, rfl, Or.inl ⟨⟨by omega, by omega, by omega, by1 k2 (by omega)⟩, by unfold lstP; omega⟩⟩⟩
    · refine lv_iconst (v := (-1)) hx hb dX3_shortRight_24 (by decide) (ti_c (-1) (by decide) fun z55 hz55 => ?_)
      exact r_iret C hw hr hlk rfl (Nat.le_of_ble_eq_true rfl) (Nat.le_of_ble_eq_true rfl) dX3_shortRight_25 ⟨rfl, rfl, rfl, rfl, hsz, ⟨_, rfl, Or.inr ⟨fun w => by have w1 := w.1; have w2 := w.2.1; omega, by omega⟩⟩⟩

set_option maxHeartbeats 4000000 in
set_option maxRecDepth 100000 in
theorem t_X2_familyOfE {τ : Tp} (l : Launch) (B : Nat) (D : va_G) (cA : Nat → ClassId) (kd : sK) (ig : sI) (rg : sR) (lg : sG) (sz : Nat) (x : Int32) (g : Nat) (M : Fm) (hM : FnL B kd ig rg g M) (σ : Sg) (π : Ps) (ν : Nat) (hS : SCh B σ π ν kd ig rg) (hx0 : 0 ≤ x.toInt ∧ x.toInt < 288) (hk : kdO (atC σ x.toInt) = 2) (hM2 : M = fmO (atC σ x.toInt)) (hE : ELd B σ x.toInt.toNat ig) (hI : IC τ B kd ig rg) : MC l B D cA yX2_familyOf cX2_familyOf 5 (some .int) (rL 2 0 0) [.ref (B + 29), .int x, .ref g] kd ig rg lg sz (PI 1022 τ B none kd ig rg lg (fun r kd' ig' rg' lg' => ∃ z : Int32, r = some (.int z) ∧ (FmR σ x.toInt.toNat z.toInt ∧ ELd B σ (x.toInt.toNat + 1) ig'))) := by
  refine MC.of (own := RX2) (by decide +kernel) rfl (Nat.le_of_ble_eq_true rfl) ?_
  intro p e s m args below meth c ls C hr hlk hnm hw hsz hl
  have hx := C.1.1
  have hb := C.1.2.1
  have hown := C.1.2.2.2.1
  have hts := C.1.2.2.2.2
  have hl : lv_has ls 5 [(0, .ref (B + 29)), (1, .int x), (2, .ref g)] := hl
  have hN : Nx 1022 B none kd ig rg lg kd ig rg lg := Nx.rf
  have hsh := hI.sh
  have hrs := hI.rs
  have lng := hM.le
  rw [atC_on hx0] at hk hM2
  have hEs := hE.1
  refine lv_iconst (v := 0) hx hb dX2_familyOf_0 (by decide) (ti_c 0 (by decide) fun z1 hz1 => ?_)
  refine lv_istore_n (lv' := [(3, .int z1), (0, .ref (B + 29)), (1, .int x), (2, .ref g)]) hx hb dX2_familyOf_1 rfl hl (by decide) rfl (fun ls hl => ?_)
  have L2 : ∀ (n : Nat) (ls : Array Slot) (H : Heap) (locs : List Loc) (kd3 : sK) (ig4 : sI) (rg5 : sR) (lg6 : sG) (v2 : Int32), lv_has ls 5 [(3, .int v2), (0, .ref (B + 29)), (1, .int x), (2, .ref g)] → WD B D cA s.heap kd3 ig4 rg5 lg6 H locs → IC τ B kd3 ig4 rg5 → Nx 1022 B none kd ig rg lg kd3 ig4 rg5 lg6 → (0 ≤ v2.toInt) → (v2.toInt ≤ 288) → (ELd B σ x.toInt.toNat ig4) → (∀ i e : Nat, (i : Int) < v2.toInt → (ig4 (B + 31) i).toInt = (e : Int) → fmO (σ e) ≠ M) → 288 - v2.toInt < (n : Int) → W p l e (rL 2 0 0) s m args below meth c H locs 0 0 (MQ below (QcW B D cA (PI 1022 τ B none kd ig rg lg (fun r kd' ig' rg' lg' => ∃ z : Int32, r = some (.int z) ∧ (FmR σ x.toInt.toNat z.toInt ∧ ELd B σ (x.toInt.toNat + 1) ig')))) args s 0 0 (fun q => B ≤ q)) (F0 m 2 ls []) := by
    intro n2
    induction n2 with
    | zero => intro ls H locs kd3 ig4 rg5 lg6 v2 hl hw hI hN g2_0 g2_1 g2_2 g2_3 hmu; exact absurd hmu (by omega)
    | succ n2 ih2 =>
      intro ls H locs kd3 ig4 rg5 lg6 v2 hl hw hI hN g2_0 g2_1 g2_2 g2_3 hmu
      have hsh := hI.sh
      have hrs := hI.rs
      have hE := g2_2
      have hEs := hE.1
      refine lv_iload_n hx hb dX2_familyOf_2 rfl (lv_at hl 0 rfl) ?_
      refine lv_aload_n hx hb dX2_familyOf_3 rfl (lv_at hl 1 rfl) ?_
      refine r_get C hw (hsh 29 _ rfl) fl_X2_29 (oV_i rfl) dX2_familyOf_4 (ti_c (ig4 (B + 29) 3).toInt rfl fun z7 hz7 => ?_)
      have k8 : 0 ≤ (ig4 (B + 29) 3).toInt ∧ (ig4 (B + 29) 3).toInt ≤ 288 := hI.i 29 3 (by decide)
      refine b_ge (tgt := 52) hx hb dX2_familyOf_7 (by decide) (fun c7 => ?_) (fun c7 => ?_)
      · refine lv_aload_n hx hb dX2_familyOf_52 rfl (lv_at hl 1 rfl) ?_
        refine r_get C hw (hsh 29 _ rfl) fl_X2_29 (oV_i rfl) dX2_familyOf_53 (ti_c (ig4 (B + 29) 3).toInt rfl fun z9 hz9 => ?_)
        have k10 : 0 ≤ (ig4 (B + 29) 3).toInt ∧ (ig4 (B + 29) 3).toInt ≤ 288 := hI.i 29 3 (by decide)
        refine lv_sipush (v := 288) hx hb dX2_familyOf_56 (by decide) (ti_c 288 (by decide) fun z11 hz11 => ?_)
        refine b_ge (tgt := 82) hx hb dX2_familyOf_59 (by decide) (fun c59 => ?_) (fun c59 => ?_)
        · exact absurd c59 (by omega)
        · refine lv_aload_n hx hb dX2_familyOf_62 rfl (lv_at hl 1 rfl) ?_
          refine r_get C hw (hsh 29 _ rfl) fl_X2_19 (oV_r rfl (hrs (29, 2, 31) (by decide))) dX2_familyOf_63 ?_
          refine lv_aload_n hx hb dX2_familyOf_66 rfl (lv_at hl 1 rfl) ?_
          refine r_get C hw (hsh 29 _ rfl) fl_X2_29 (oV_i rfl) dX2_familyOf_67 (ti_c (ig4 (B + 29) 3).toInt rfl fun z12 hz12 => ?_)
          have k13 : 0 ≤ (ig4 (B + 29) 3).toInt ∧ (ig4 (B + 29) 3).toInt ≤ 288 := hI.i 29 3 (by decide)
          refine lv_iload_n hx hb dX2_familyOf_70 rfl (lv_at hl 2 rfl) ?_
          refine r_iast C hw (hsh 31 _ rfl) (by omega) (by omega) dX2_familyOf_71 (fun H locs hH hw => ?_)
          obtain ⟨ig14, eig14⟩ : ∃ f, f = up2 ig4 (B + 31) z12.toInt.toNat x := ⟨_, rfl⟩
          rw [← eig14] at hw
          have hN : Nx 1022 B none kd ig rg lg kd3 ig14 rg5 lg6 := by rw [eig14]; exact hN.pi (by omega)
          have hI : IC τ B kd3 ig14 rg5 := by rw [eig14]; exact hI.pi (show okR none _ from trivial)
          have wig14_29_3 : (ig14 (B + 29) 3).toInt = (ig4 (B + 29) 3).toInt := by rw [eig14, up2_a (by omega)]
          refine lv_aload_n hx hb dX2_familyOf_72 rfl (lv_at hl 1 rfl) ?_
          refine lv_dup hx hb dX2_familyOf_73 rfl ?_
          refine r_get C hw (hsh 29 _ rfl) fl_X2_29 (oV_i rfl) dX2_familyOf_74 (ti_c (ig14 (B + 29) 3).toInt rfl fun z15 hz15 => ?_)
          have k16 : 0 ≤ (ig14 (B + 29) 3).toInt ∧ (ig14 (B + 29) 3).toInt ≤ 288 := hI.i 29 3 (by decide)
          refine lv_iconst (v := 1) hx hb dX2_familyOf_77 (by decide) (ti_c 1 (by decide) fun z17 hz17 => ?_)
          refine lv_iadd hx hb dX2_familyOf_78 (tc_add fun z18 hz18 => ?_)
          first | replace hz18 := hz18 (by omega) | clear hz18
          refine r_puti C hw (hsh 29 _ rfl) fl_X2_29 rfl rfl rfl dX2_familyOf_79 (fun H locs hH hw => ?_)
          obtain ⟨ig19, eig19⟩ : ∃ f, f = up2 ig14 (B + 29) 3 z18 := ⟨_, rfl⟩
          rw [← eig19] at hw
          have hN : Nx 1022 B none kd ig rg lg kd3 ig19 rg5 lg6 := by rw [eig19]; exact hN.pi (by omega)
          have hI : IC τ B kd3 ig19 rg5 := by rw [eig19]; exact hI.pi (show okR (some (0, 288)) _ from ⟨by show (0 : Int) ≤ _; omega, by show _ ≤ (288 : Int); omega⟩)
          have wig19 : (ig19 (B + 29) 3).toInt = z18.toInt := by rw [eig19, up2_eq]
          have fin := hE.add hk (fun i d i1 i2 => by rw [← hM2]; exact g2_3 i d (by omega) i2) (n := z12.toInt.toNat) (v := x) (w := z18) (by omega) (by omega) (by omega)
          have finE : ELd B σ (x.toInt.toNat + 1) ig19 := by rw [eig19, eig14]; exact fin.2
          refine lv_iload_n hx hb dX2_familyOf_82 rfl (lv_at hl 2 rfl) ?_
          exact r_iret C hw hr hlk rfl (Nat.le_of_ble_eq_true rfl) (Nat.le_of_ble_eq_true rfl) dX2_familyOf_83 ⟨hI, hN, ⟨_, rfl, ⟨fin.1.cast (by omega), finE⟩⟩⟩
      · refine lv_aload_n hx hb dX2_familyOf_10 rfl (lv_at hl 1 rfl) ?_
        refine r_get C hw (hsh 29 _ rfl) fl_X2_9 (oV_r rfl (hrs (29, 0, 9) (by decide))) dX2_familyOf_11 ?_
        refine lv_aload_n hx hb dX2_familyOf_14 rfl (lv_at hl 1 rfl) ?_
        refine r_get C hw (hsh 29 _ rfl) fl_X2_19 (oV_r rfl (hrs (29, 2, 31) (by decide))) dX2_familyOf_15 ?_
        refine lv_iload_n hx hb dX2_familyOf_18 rfl (lv_at hl 0 rfl) ?_
        refine r_iald C hw (hsh 31 _ rfl) (by omega) (by omega) dX2_familyOf_19 (ti_c (ig4 (B + 31) v2.toInt.toNat).toInt rfl fun z20 hz20 => ?_)
        obtain ⟨e, e1, e2, e3, e4⟩ := hE.2.1 v2.toInt.toNat (by omega)
        have za : z20.toInt = (e : Int) := by omega
        have ae : atC σ z20.toInt = σ e := atC_n za (by omega)
        refine r_callV (As := [.int z20]) (rest := []) C hw (t_X6_formulaAtE l B D cA kd3 ig4 rg5 lg6 _ z20 σ π ν (hS.nx hN) hI) sv_X2_32 (hsh 9 _ rfl) rfl hl.1 rfl (Nat.le_of_ble_eq_true rfl) ⟨Nat.le_of_ble_eq_true rfl, Nat.le_of_ble_eq_true rfl⟩ ⟨Nat.le_of_ble_eq_true rfl, Nat.le_of_ble_eq_true rfl⟩ dX2_familyOf_20 (fun r25 kd21 ig22 rg23 lg24 H locs hw hH hp26 => ?_)
        obtain ⟨rfl, rfl, rfl, rfl, hzhp26, hrhp26⟩ := hp26
        rcases hrhp26 with ⟨rfl, nkf27⟩ | ⟨f27, rfl, nkf27, hLf27⟩
        · refine lv_astoreN (lv' := [(4, .null), (3, .int v2), (0, .ref (B + 29)), (1, .int x), (2, .ref g)]) hx hb dX2_familyOf_23 hl (by decide) rfl (fun ls hl => ?_)
          refine lv_aloadN hx hb dX2_familyOf_25 (lv_at hl 0 rfl) ?_
          refine lv_ifnullN (tgt := 46) hx hb dX2_familyOf_27 (by decide) ?_
          refine tc_inc hx hb dX2_familyOf_46 hl (k := 1) rfl (by decide) (by decide) (fun z28 hz28 ls hl => ?_)
          first | replace hz28 := hz28 (by omega) | clear hz28
          have hl : lv_has ls 5 [(3, .int z28), (4, .null), (0, .ref (B + 29)), (1, .int x), (2, .ref g)] := hl
          refine lv_goto (tgt := 2) hx hb dX2_familyOf_49 (by decide) ?_
          exact ih2 ls H locs kd3 ig4 rg5 lg6 z28 (lv_sub hl [0, 2, 3, 4] rfl) hw hI hN (by omega) (by omega) (hE) (fun i d i1 i2 => by by_cases e9 : (i : Int) = v2.toInt; (obtain rfl : i = v2.toInt.toNat := by omega); (obtain rfl : d = e := by omega); exact absurd (by rw [ae]; exact e3) nkf27; exact g2_3 i d (by omega) i2) (by omega)
        · have lf27 := hLf27.le
          refine lv_astore (lv' := [(4, .ref f27), (3, .int v2), (0, .ref (B + 29)), (1, .int x), (2, .ref g)]) hx hb dX2_familyOf_23 hl (by decide) rfl (fun ls hl => ?_)
          refine lv_aload hx hb dX2_familyOf_25 (lv_at hl 0 rfl) ?_
          refine lv_ifnull hx hb dX2_familyOf_27 ?_
          refine lv_aload hx hb dX2_familyOf_30 (lv_at hl 0 rfl) ?_
          refine lv_aload_n hx hb dX2_familyOf_32 rfl (lv_at hl 4 rfl) ?_
          refine r_callV (As := [.ref g]) (rest := []) C hw (t_X4_isKinOfE l B D cA kd3 ig4 rg5 lg6 _ f27 (fmO (atC σ z20.toInt)) hLf27 g M (hM.nx hN)  hI) sv_X2_40 (isFn.k (FnL.F hLf27)) rfl hl.1 rfl (Nat.le_of_ble_eq_true rfl) ⟨Nat.le_of_ble_eq_true rfl, Nat.le_of_ble_eq_true rfl⟩ ⟨Nat.le_of_ble_eq_true rfl, Nat.le_of_ble_eq_true rfl⟩ dX2_familyOf_33 (fun r33 kd29 ig30 rg31 lg32 H locs hw hH hp34 => ?_)
          obtain ⟨rfl, rfl, rfl, rfl, hzhp34, hrhp34⟩ := hp34
          obtain ⟨z35, rfl, hz35⟩ := hrhp34
          have k2 := hz35
          refine z_eq (tgt := 46) hx hb dX2_familyOf_36 (by decide) (fun c36 => ?_) (fun c36 => ?_)
          · have k2n := by0 k2 (by omega)
            rw [ae] at k2n
            refine tc_inc hx hb dX2_familyOf_46 hl (k := 1) rfl (by decide) (by decide) (fun z36 hz36 ls hl => ?_)
            first | replace hz36 := hz36 (by omega) | clear hz36
            have hl : lv_has ls 5 [(3, .int z36), (4, .ref f27), (0, .ref (B + 29)), (1, .int x), (2, .ref g)] := hl
            refine lv_goto (tgt := 2) hx hb dX2_familyOf_49 (by decide) ?_
            exact ih2 ls H locs kd3 ig4 rg5 lg6 z36 (lv_sub hl [0, 2, 3, 4] rfl) hw hI hN (by omega) (by omega) (hE) (fun i d i1 i2 => by by_cases e9 : (i : Int) = v2.toInt; (obtain rfl : i = v2.toInt.toNat := by omega); (obtain rfl : d = e := by omega); exact k2n; exact g2_3 i d (by omega) i2) (by omega)
          · have k2y := by1 k2 (by omega)
            rw [ae] at k2y
            refine lv_aload_n hx hb dX2_familyOf_39 rfl (lv_at hl 2 rfl) ?_
            refine r_get C hw (hsh 29 _ rfl) fl_X2_19 (oV_r rfl (hrs (29, 2, 31) (by decide))) dX2_familyOf_40 ?_
            refine lv_iload_n hx hb dX2_familyOf_43 rfl (lv_at hl 1 rfl) ?_
            refine r_iald C hw (hsh 31 _ rfl) (by omega) (by omega) dX2_familyOf_44 (ti_c (ig4 (B + 31) v2.toInt.toNat).toInt rfl fun z37 hz37 => ?_)
            exact r_iret C hw hr hlk rfl (Nat.le_of_ble_eq_true rfl) (Nat.le_of_ble_eq_true rfl) dX2_familyOf_45 ⟨hI, hN, ⟨_, rfl, (by obtain ⟨f1, f2⟩ := hE.found hk (i := v2.toInt.toNat) (by omega) e2 (k2y.trans hM2); exact ⟨f1.cast (by omega), f2⟩)⟩⟩
  exact L2 ((288 - z1.toInt) + 1).toNat ls s.heap [] kd ig rg lg z1 (lv_sub hl [0, 1, 2, 3] rfl) hw hI hN (by omega) (by omega) (hE) (fun i d i1 => by omega) (by omega)

set_option maxHeartbeats 4000000 in
set_option maxRecDepth 100000 in
theorem t_X2_settleE {τ : Tp} (l : Launch) (B : Nat) (D : va_G) (cA : Nat → ClassId) (kd : sK) (ig : sI) (rg : sR) (lg : sG) (sz : Nat) (σ : Sg) (π : Ps) (ν : Nat) (hS : SCh B σ π ν kd ig rg) (hV : FV B σ ν ig) (hI : IC τ B kd ig rg) : MC l B D cA yX2_settle cX2_settle 3 none (rL 3 0 0) [.ref (B + 29)] kd ig rg lg sz (PI 1018 τ B none kd ig rg lg (fun r kd' ig' rg' lg' => (r = none ∧ ((∀ p, p < 288 → FmR σ p (ig' (B + 30) p).toInt) ∧ (ig' (B + 29) 4).toInt = (ν : Int))))) := by
  refine MC.of (own := RX2) (by decide +kernel) rfl (Nat.le_of_ble_eq_true rfl) ?_
  intro p e s m args below meth c ls C hr hlk hnm hw hsz hl
  have hx := C.1.1
  have hb := C.1.2.1
  have hown := C.1.2.2.2.1
  have hts := C.1.2.2.2.2
  have hl : lv_has ls 3 [(0, .ref (B + 29))] := hl
  have hN : Nx 1018 B none kd ig rg lg kd ig rg lg := Nx.rf
  have hsh := hI.sh
  have hrs := hI.rs
  have hv9 := hS.v
  refine lv_aload_n hx hb dX2_settle_0 rfl (lv_at hl 0 rfl) ?_
  refine r_get C hw (hsh 29 _ rfl) fl_X2_22 (oV_i rfl) dX2_settle_1 (ti_c (ig (B + 29) 4).toInt rfl fun z1 hz1 => ?_)
  refine lv_aload_n hx hb dX2_settle_4 rfl (lv_at hl 0 rfl) ?_
  refine r_get C hw (hsh 29 _ rfl) fl_X2_9 (oV_r rfl (hrs (29, 0, 9) (by decide))) dX2_settle_5 ?_
  refine r_get C hw (hsh 9 _ rfl) fl_X2_26 (oV_i rfl) dX2_settle_8 (ti_c (ig (B + 9) 6).toInt rfl fun z2 hz2 => ?_)
  refine b_ne (tgt := 15) hx hb dX2_settle_11 (by decide) (fun c11 => ?_) (fun c11 => ?_)
  · refine lv_aload_n hx hb dX2_settle_15 rfl (lv_at hl 0 rfl) ?_
    refine lv_aload_n hx hb dX2_settle_16 rfl (lv_at hl 0 rfl) ?_
    refine r_get C hw (hsh 29 _ rfl) fl_X2_9 (oV_r rfl (hrs (29, 0, 9) (by decide))) dX2_settle_17 ?_
    refine r_get C hw (hsh 9 _ rfl) fl_X2_26 (oV_i rfl) dX2_settle_20 (ti_c (ig (B + 9) 6).toInt rfl fun z3 hz3 => ?_)
    refine r_puti C hw (hsh 29 _ rfl) fl_X2_22 rfl rfl rfl dX2_settle_23 (fun H locs hH hw => ?_)
    obtain ⟨ig4, eig4⟩ : ∃ f, f = up2 ig (B + 29) 4 z3 := ⟨_, rfl⟩
    rw [← eig4] at hw
    have hN : Nx 1018 B none kd ig rg lg kd ig4 rg lg := by rw [eig4]; exact hN.pi (by omega)
    have hI : IC τ B kd ig4 rg := by rw [eig4]; exact hI.pi (show okR none _ from trivial)
    have wig4_29_3 : (ig4 (B + 29) 3).toInt = (ig (B + 29) 3).toInt := by rw [eig4, up2_j (by decide)]
    have wig4 : (ig4 (B + 29) 4).toInt = z3.toInt := by rw [eig4, up2_eq]
    refine lv_aload_n hx hb dX2_settle_26 rfl (lv_at hl 0 rfl) ?_
    refine lv_iconst (v := 0) hx hb dX2_settle_27 (by decide) (ti_c 0 (by decide) fun z5 hz5 => ?_)
    refine r_puti C hw (hsh 29 _ rfl) fl_X2_29 rfl rfl rfl dX2_settle_28 (fun H locs hH hw => ?_)
    obtain ⟨ig6, eig6⟩ : ∃ f, f = up2 ig4 (B + 29) 3 z5 := ⟨_, rfl⟩
    rw [← eig6] at hw
    have hN : Nx 1018 B none kd ig rg lg kd ig6 rg lg := by rw [eig6]; exact hN.pi (by omega)
    have hI : IC τ B kd ig6 rg := by rw [eig6]; exact hI.pi (show okR (some (0, 288)) _ from ⟨by show (0 : Int) ≤ _; omega, by show _ ≤ (288 : Int); omega⟩)
    have wig6 : (ig6 (B + 29) 3).toInt = z5.toInt := by rw [eig6, up2_eq]
    have wig6_29_4 : (ig6 (B + 29) 4).toInt = (ig4 (B + 29) 4).toInt := by rw [eig6, up2_j (by decide)]
    refine lv_iconst (v := 0) hx hb dX2_settle_31 (by decide) (ti_c 0 (by decide) fun z7 hz7 => ?_)
    refine lv_istore_n (lv' := [(1, .int z7), (0, .ref (B + 29))]) hx hb dX2_settle_32 rfl hl (by decide) rfl (fun ls hl => ?_)
    have L33 : ∀ (n : Nat) (ls : Array Slot) (H : Heap) (locs : List Loc) (kd9 : sK) (ig10 : sI) (rg11 : sR) (lg12 : sG) (v8 : Int32), lv_has ls 3 [(1, .int v8), (0, .ref (B + 29))] → WD B D cA s.heap kd9 ig10 rg11 lg12 H locs → IC τ B kd9 ig10 rg11 → Nx 1018 B none kd ig rg lg kd9 ig10 rg11 lg12 → (0 ≤ v8.toInt) → (v8.toInt ≤ 288) → (ELd B σ v8.toInt.toNat ig10) → (∀ p, p < v8.toInt.toNat → FmR σ p (ig10 (B + 30) p).toInt) → ((ig10 (B + 29) 4).toInt = (ν : Int)) → 288 - v8.toInt < (n : Int) → W p l e (rL 3 0 0) s m args below meth c H locs 0 0 (MQ below (QcW B D cA (PI 1018 τ B none kd ig rg lg (fun r kd' ig' rg' lg' => (r = none ∧ ((∀ p, p < 288 → FmR σ p (ig' (B + 30) p).toInt) ∧ (ig' (B + 29) 4).toInt = (ν : Int)))))) args s 0 0 (fun q => B ≤ q)) (F0 m 33 ls []) := by
      intro n33
      induction n33 with
      | zero => intro ls H locs kd9 ig10 rg11 lg12 v8 hl hw hI hN g33_0 g33_1 g33_2 g33_3 g33_4 hmu; exact absurd hmu (by omega)
      | succ n33 ih33 =>
        intro ls H locs kd9 ig10 rg11 lg12 v8 hl hw hI hN g33_0 g33_1 g33_2 g33_3 g33_4 hmu
        have hsh := hI.sh
        have hrs := hI.rs
        refine lv_iload_n hx hb dX2_settle_33 rfl (lv_at hl 0 rfl) ?_
        refine lv_sipush (v := 288) hx hb dX2_settle_34 (by decide) (ti_c 288 (by decide) fun z13 hz13 => ?_)
        refine b_ge (tgt := 75) hx hb dX2_settle_37 (by decide) (fun c37 => ?_) (fun c37 => ?_)
        · exact r_vret C hw hr hlk (Nat.le_of_ble_eq_true rfl) (Nat.le_of_ble_eq_true rfl) dX2_settle_75 ⟨hI, hN, ⟨rfl, ⟨fun p hp => g33_3 p (by omega), g33_4⟩⟩⟩
        · refine lv_aload_n hx hb dX2_settle_40 rfl (lv_at hl 1 rfl) ?_
          refine r_get C hw (hsh 29 _ rfl) fl_X2_9 (oV_r rfl (hrs (29, 0, 9) (by decide))) dX2_settle_41 ?_
          refine lv_iload_n hx hb dX2_settle_44 rfl (lv_at hl 0 rfl) ?_
          refine r_callV (As := [.int v8]) (rest := []) C hw (t_X6_formulaAtE l B D cA kd9 ig10 rg11 lg12 _ v8 σ π ν (hS.nx hN) hI) sv_X2_32 (hsh 9 _ rfl) rfl hl.1 rfl (Nat.le_of_ble_eq_true rfl) ⟨Nat.le_of_ble_eq_true rfl, Nat.le_of_ble_eq_true rfl⟩ ⟨Nat.le_of_ble_eq_true rfl, Nat.le_of_ble_eq_true rfl⟩ dX2_settle_45 (fun r18 kd14 ig15 rg16 lg17 H locs hw hH hp19 => ?_)
          obtain ⟨rfl, rfl, rfl, rfl, hzhp19, hrhp19⟩ := hp19
          rcases hrhp19 with ⟨rfl, nkf20⟩ | ⟨f20, rfl, nkf20, hLf20⟩
          · refine lv_astore_nN (lv' := [(2, .null), (1, .int v8), (0, .ref (B + 29))]) hx hb dX2_settle_48 rfl hl (by decide) rfl (fun ls hl => ?_)
            refine lv_aload_n hx hb dX2_settle_49 rfl (lv_at hl 2 rfl) ?_
            refine r_get C hw (hsh 29 _ rfl) fl_X2_15 (oV_r rfl (hrs (29, 1, 30) (by decide))) dX2_settle_50 ?_
            refine lv_iload_n hx hb dX2_settle_53 rfl (lv_at hl 1 rfl) ?_
            refine lv_aload_nN hx hb dX2_settle_54 rfl (lv_at hl 0 rfl) ?_
            refine lv_ifnonnullN hx hb dX2_settle_55 ?_
            refine lv_iconst (v := (-1)) hx hb dX2_settle_58 (by decide) (ti_c (-1) (by decide) fun z21 hz21 => ?_)
            refine lv_goto (tgt := 68) hx hb dX2_settle_59 (by decide) ?_
            have nkk : kdO (σ v8.toInt.toNat) ≠ 2 := by rw [← atC_on (σ := σ) (x := v8.toInt) (by omega)]; exact nkf20
            have fv : FmR σ v8.toInt.toNat z21.toInt := ⟨fun _ => by omega, fun w => (nkk w).elim⟩
            refine r_iast C hw (hsh 30 _ rfl) (by omega) (by omega) dX2_settle_68 (fun H locs hH hw => ?_)
            obtain ⟨ig22, eig22⟩ : ∃ f, f = up2 ig10 (B + 30) v8.toInt.toNat z21 := ⟨_, rfl⟩
            rw [← eig22] at hw
            have hN : Nx 1018 B none kd ig rg lg kd9 ig22 rg11 lg12 := by rw [eig22]; exact hN.pi (by omega)
            have hI : IC τ B kd9 ig22 rg11 := by rw [eig22]; exact hI.pi (show okR none _ from trivial)
            have wig22_29_3 : (ig22 (B + 29) 3).toInt = (ig10 (B + 29) 3).toInt := by rw [eig22, up2_a (by omega)]
            have wig22_29_4 : (ig22 (B + 29) 4).toInt = (ig10 (B + 29) 4).toInt := by rw [eig22, up2_a (by omega)]
            have fam : ∀ p, p < v8.toInt.toNat + 1 → FmR σ p (ig22 (B + 30) p).toInt := by rw [eig22]; exact FmR.up g33_3 fv
            have elN : ELd B σ (v8.toInt.toNat + 1) ig22 := by rw [eig22]; exact (ELd.nof g33_2 nkk).ag (up2_a (by omega)) (fun i => up2_a (by omega))
            have ver : (ig22 (B + 29) 4).toInt = (ν : Int) := by rw [eig22, up2_a (by omega)]; exact g33_4
            refine tc_inc hx hb dX2_settle_69 hl (k := 1) rfl (by decide) (by decide) (fun z23 hz23 ls hl => ?_)
            first | replace hz23 := hz23 (by omega) | clear hz23
            have hl : lv_has ls 3 [(1, .int z23), (2, .null), (0, .ref (B + 29))] := hl
            refine lv_goto (tgt := 33) hx hb dX2_settle_72 (by decide) ?_
            exact ih33 ls H locs kd9 ig22 rg11 lg12 z23 (lv_sub hl [0, 2] rfl) hw hI hN (by omega) (by omega) (by rw [show z23.toInt.toNat = v8.toInt.toNat + 1 by omega]; exact elN) (by rw [show z23.toInt.toNat = v8.toInt.toNat + 1 by omega]; exact fam) (ver) (by omega)
          · have lf20 := hLf20.le
            refine lv_astore_n (lv' := [(2, .ref f20), (1, .int v8), (0, .ref (B + 29))]) hx hb dX2_settle_48 rfl hl (by decide) rfl (fun ls hl => ?_)
            refine lv_aload_n hx hb dX2_settle_49 rfl (lv_at hl 2 rfl) ?_
            refine r_get C hw (hsh 29 _ rfl) fl_X2_15 (oV_r rfl (hrs (29, 1, 30) (by decide))) dX2_settle_50 ?_
            refine lv_iload_n hx hb dX2_settle_53 rfl (lv_at hl 1 rfl) ?_
            refine lv_aload_n hx hb dX2_settle_54 rfl (lv_at hl 0 rfl) ?_
            refine lv_ifnonnull (tgt := 62) hx hb dX2_settle_55 (by decide) ?_
            refine lv_aload_n hx hb dX2_settle_62 rfl (lv_at hl 2 rfl) ?_
            refine lv_iload_n hx hb dX2_settle_63 rfl (lv_at hl 1 rfl) ?_
            refine lv_aload_n hx hb dX2_settle_64 rfl (lv_at hl 0 rfl) ?_
            refine r_callV (As := [.int v8, .ref f20]) (rest := [.int v8, .ref (B + 30)]) C hw (t_X2_familyOfE l B D cA kd9 ig10 rg11 lg12 _ v8 f20 (fmO (atC σ v8.toInt)) hLf20 σ π ν (hS.nx hN) (by omega) nkf20 rfl g33_2 hI) sv_X2_36 (hsh 29 _ rfl) rfl hl.1 rfl (Nat.le_of_ble_eq_true rfl) ⟨Nat.le_of_ble_eq_true rfl, Nat.le_of_ble_eq_true rfl⟩ ⟨Nat.le_of_ble_eq_true rfl, Nat.le_of_ble_eq_true rfl⟩ dX2_settle_65 (fun r28 kd24 ig25 rg26 lg27 H locs hw hH hp29 => ?_)
            obtain ⟨hI, hchp29, hrhp29⟩ := hp29
            have hN := hN.tr hchp29
            have hsh := hI.sh
            have hrs := hI.rs
            obtain ⟨z30, rfl, hz30⟩ := hrhp29
            have fall : ∀ p, p < v8.toInt.toNat → FmR σ p (ig25 (B + 30) p).toInt := fun p hp => by rw [hchp29.ia 30 p (by decide) (by decide)]; exact g33_3 p hp
            have fver : (ig25 (B + 29) 4).toInt = (ν : Int) := by rw [hchp29.i 29 4 (by decide)]; exact g33_4
            refine r_iast C hw (hsh 30 _ rfl) (by omega) (by omega) dX2_settle_68 (fun H locs hH hw => ?_)
            obtain ⟨ig31, eig31⟩ : ∃ f, f = up2 ig25 (B + 30) v8.toInt.toNat z30 := ⟨_, rfl⟩
            rw [← eig31] at hw
            have hN : Nx 1018 B none kd ig rg lg kd24 ig31 rg26 lg27 := by rw [eig31]; exact hN.pi (by omega)
            have hI : IC τ B kd24 ig31 rg26 := by rw [eig31]; exact hI.pi (show okR none _ from trivial)
            have wig31_29_3 : (ig31 (B + 29) 3).toInt = (ig25 (B + 29) 3).toInt := by rw [eig31, up2_a (by omega)]
            have wig31_29_4 : (ig31 (B + 29) 4).toInt = (ig25 (B + 29) 4).toInt := by rw [eig31, up2_a (by omega)]
            have fam : ∀ p, p < v8.toInt.toNat + 1 → FmR σ p (ig31 (B + 30) p).toInt := by rw [eig31]; exact FmR.up fall hz30.1
            have elN : ELd B σ (v8.toInt.toNat + 1) ig31 := by rw [eig31]; exact hz30.2.ag (up2_a (by omega)) (fun i => up2_a (by omega))
            have ver : (ig31 (B + 29) 4).toInt = (ν : Int) := by rw [eig31, up2_a (by omega)]; exact fver
            refine tc_inc hx hb dX2_settle_69 hl (k := 1) rfl (by decide) (by decide) (fun z32 hz32 ls hl => ?_)
            first | replace hz32 := hz32 (by omega) | clear hz32
            have hl : lv_has ls 3 [(1, .int z32), (2, .ref f20), (0, .ref (B + 29))] := hl
            refine lv_goto (tgt := 33) hx hb dX2_settle_72 (by decide) ?_
            exact ih33 ls H locs kd24 ig31 rg26 lg27 z32 (lv_sub hl [0, 2] rfl) hw hI hN (by omega) (by omega) (by rw [show z32.toInt.toNat = v8.toInt.toNat + 1 by omega]; exact elN) (by rw [show z32.toInt.toNat = v8.toInt.toNat + 1 by omega]; exact fam) (ver) (by omega)
    exact L33 ((288 - z7.toInt) + 1).toNat ls H locs kd ig6 rg lg z7 (lv_sub hl [0, 1] rfl) hw hI hN (by omega) (by omega) (by rw [show z7.toInt.toNat = 0 by omega]; exact ELd.zero (by omega)) (fun p hp => by omega) (by omega) (by omega)
  · exact r_vret C hw hr hlk (Nat.le_of_ble_eq_true rfl) (Nat.le_of_ble_eq_true rfl) dX2_settle_14 ⟨hI, hN, ⟨rfl, ⟨hV.2 (by omega), by omega⟩⟩⟩
