/-- the model's families, by their numbers -/
def famZ (B : Nat) (ig : sI) : Nat → Int := fun p => (ig (B + 71) p).toInt
theorem FmR.ge {σ : Sg} {p : Nat} {z : Int} (h : FmR σ p z) : -1 ≤ z ∧ (kdO (σ p) = 2 → 0 ≤ z) ∧ (kdO (σ p) ≠ 2 → z = -1) := by
  by_cases e : kdO (σ p) = 2
  · obtain ⟨q, -, h2, -⟩ := h.2 e
    exact ⟨by omega, fun _ => by omega, fun w => (w e).elim⟩
  · have := h.1 e
    exact ⟨by omega, fun w => (e w).elim, fun _ => this⟩
theorem FMm.ge {B : Nat} {σ : Sg} {ig : sI} (h : FMm B σ ig) {x : Int} (hx : 0 ≤ x ∧ x < 288) : -1 ≤ famZ B ig x.toNat ∧ (kdO (atC σ x) = 2 → 0 ≤ famZ B ig x.toNat) ∧ (kdO (atC σ x) ≠ 2 → famZ B ig x.toNat = -1) := by
  rw [atC_on hx]
  exact (h x.toNat (by omega)).ge
theorem FMm.far {B : Nat} {σ : Sg} {ig : sI} (h : FMm B σ ig) : FaR σ (famZ B ig) := h

set_option maxHeartbeats 4000000 in
set_option maxRecDepth 100000 in
theorem t_X12_copyE {τ : Tp} {φ : Option Int} (l : Launch) (B : Nat) (D : va_G) (cA : Nat → ClassId) (kd : sK) (ig : sI) (rg : sR) (lg : sG) (sz : Nat) (x : Int32) (y : Int32) (σ : Sg) (π : Ps) (hM : SM B σ π ig) (hU : FMm B σ ig) (hW : WS σ π) (hI : IM τ φ none B kd ig rg) : MC l B D cA yX12_copy cX12_copy 3 (some .boolean) (rL 33 0 0) [.ref (B + 49), .int x, .int y] kd ig rg lg sz (PM τ φ none B [49, 54, 55, 56, 57, 58, 59, 60, 61, 63, 64, 65, 66, 67, 68, 69, 70, 71, 72, 73, 74] kd ig rg lg (fun r ig' lg' => ∃ z : Int32, r = some (.int z) ∧ (∃ σ' π', SM B σ' π' ig' ∧ FMm B σ' ig' ∧ stC σ π x.toInt y.toInt z.toInt σ' π'))) := by
  refine MC.of (own := RX12) (by decide +kernel) rfl (Nat.le_of_ble_eq_true rfl) ?_
  intro p e s m args below meth c ls C hr hlk hnm hw hsz hl
  have hx := C.1.1
  have hb := C.1.2.1
  have hown := C.1.2.2.2.1
  have hts := C.1.2.2.2.2
  have hl : lv_has ls 3 [(0, .ref (B + 49)), (1, .int x), (2, .int y)] := hl
  have hF : Ft B [49, 54, 55, 56, 57, 58, 59, 60, 61, 63, 64, 65, 66, 67, 68, 69, 70, 71, 72, 73, 74] ig lg ig lg := Ft.rf
  have hsh := hI.sh
  have hrm := hI.rm
  refine lv_aload_n hx hb dX12_copy_0 rfl (lv_at hl 0 rfl) ?_
  refine lv_iconst (v := 0) hx hb dX12_copy_1 (by decide) (ti_c 0 (by decide) fun z1 hz1 => ?_)
  refine r_puti C hw (hsh 49 _ rfl) fl_X12_1 rfl rfl rfl dX12_copy_2 (fun H locs hH hw => ?_)
  obtain ⟨ig2, eig2⟩ : ∃ f, f = up2 ig (B + 49) 0 z1 := ⟨_, rfl⟩
  rw [← eig2] at hw
  have hF : Ft B [49, 54, 55, 56, 57, 58, 59, 60, 61, 63, 64, 65, 66, 67, 68, 69, 70, 71, 72, 73, 74] ig lg ig2 lg := by rw [eig2]; exact hF.pi (by decide)
  have hI : IM τ φ none B kd ig2 rg := by rw [eig2]; exact hI.pi (by decide) (show okR none _ from trivial)
  have hM : SM B σ π ig2 := by rw [eig2]; exact hM.wr (by decide)
  have hU : FMm B σ ig2 := by rw [eig2]; exact hU.wr (by decide)
  refine lv_iload_n hx hb dX12_copy_5 rfl (lv_at hl 1 rfl) ?_
  refine r_callS (As := [.int x]) (rest := []) C hw (t_X12_isPlace l B D cA kd ig2 rg lg _ x  hI) ss_X12_198 rfl hl.1 rfl (Nat.le_of_ble_eq_true rfl) ⟨Nat.le_of_ble_eq_true rfl, Nat.le_of_ble_eq_true rfl⟩ ⟨Nat.le_of_ble_eq_true rfl, Nat.le_of_ble_eq_true rfl⟩ dX12_copy_6 (fun r7 kd3 ig4 rg5 lg6 H locs hw hH hp8 => ?_)
  obtain ⟨rfl, rfl, rfl, rfl, hzhp8, hrhp8⟩ := hp8
  obtain ⟨z9, rfl, hz9⟩ := hrhp8
  refine z_eq (tgt := 28) hx hb dX12_copy_9 (by decide) (fun c9 => ?_) (fun c9 => ?_)
  · refine lv_iconst (v := 0) hx hb dX12_copy_28 (by decide) (ti_c 0 (by decide) fun z10 hz10 => ?_)
    exact r_iret C hw hr hlk (nar_b (by omega)) (Nat.le_of_ble_eq_true rfl) (Nat.le_of_ble_eq_true rfl) dX12_copy_29 ⟨rfl, rfl, hI, hF, ⟨_, rfl, ⟨_, _, hM, hU, Or.inl ⟨fun q => by have q1 := q.1; have q2 := q.2.1; unfold onS at q1 q2; omega, by omega, rfl, rfl⟩⟩⟩⟩
  · refine lv_iload_n hx hb dX12_copy_12 rfl (lv_at hl 2 rfl) ?_
    refine r_callS (As := [.int y]) (rest := []) C hw (t_X12_isPlace l B D cA kd ig2 rg lg _ y  hI) ss_X12_198 rfl hl.1 rfl (Nat.le_of_ble_eq_true rfl) ⟨Nat.le_of_ble_eq_true rfl, Nat.le_of_ble_eq_true rfl⟩ ⟨Nat.le_of_ble_eq_true rfl, Nat.le_of_ble_eq_true rfl⟩ dX12_copy_13 (fun r15 kd11 ig12 rg13 lg14 H locs hw hH hp16 => ?_)
    obtain ⟨rfl, rfl, rfl, rfl, hzhp16, hrhp16⟩ := hp16
    obtain ⟨z17, rfl, hz17⟩ := hrhp16
    refine z_eq (tgt := 28) hx hb dX12_copy_16 (by decide) (fun c16 => ?_) (fun c16 => ?_)
    · refine lv_iconst (v := 0) hx hb dX12_copy_28 (by decide) (ti_c 0 (by decide) fun z18 hz18 => ?_)
      exact r_iret C hw hr hlk (nar_b (by omega)) (Nat.le_of_ble_eq_true rfl) (Nat.le_of_ble_eq_true rfl) dX12_copy_29 ⟨rfl, rfl, hI, hF, ⟨_, rfl, ⟨_, _, hM, hU, Or.inl ⟨fun q => by have q1 := q.1; have q2 := q.2.1; unfold onS at q1 q2; omega, by omega, rfl, rfl⟩⟩⟩⟩
    · refine lv_aload_n hx hb dX12_copy_19 rfl (lv_at hl 0 rfl) ?_
      refine lv_iload_n hx hb dX12_copy_20 rfl (lv_at hl 1 rfl) ?_
      refine lv_iload_n hx hb dX12_copy_21 rfl (lv_at hl 2 rfl) ?_
      refine r_callV (As := [.int x, .int y]) (rest := []) C hw (t_X12_makesCopyE l B D cA kd ig2 rg lg _ x y (by omega) (by omega) σ π hM hW hI) sv_X12_210 (hsh 49 _ rfl) rfl hl.1 rfl (Nat.le_of_ble_eq_true rfl) ⟨Nat.le_of_ble_eq_true rfl, Nat.le_of_ble_eq_true rfl⟩ ⟨Nat.le_of_ble_eq_true rfl, Nat.le_of_ble_eq_true rfl⟩ dX12_copy_22 (fun r23 kd19 ig20 rg21 lg22 H locs hw hH hp24 => ?_)
      obtain ⟨rfl, rfl, hI, hchp24, hrhp24⟩ := hp24
      have hF : Ft B [49, 54, 55, 56, 57, 58, 59, 60, 61, 63, 64, 65, 66, 67, 68, 69, 70, 71, 72, 73, 74] ig lg ig20 lg22 := Ft.tr hF hchp24 (by decide) (by decide)
      obtain ⟨z25, rfl, hz25⟩ := hrhp24
      obtain ⟨hM, mw, hRf, mb⟩ := hz25
      have hU := hU.ft hchp24 (by decide)
      refine z_ne (tgt := 30) hx hb dX12_copy_25 (by decide) (fun c25 => ?_) (fun c25 => ?_)
      · have hwp : WP B ig20 288 := mw (by omega)
        have hD : RowM B ig20 288 ((y.toInt.toNat : Nat) : Int) (wuC (σ x.toInt.toNat)) := by rw [show ((y.toInt.toNat : Nat) : Int) = y.toInt by omega]; exact hRf
        refine lv_aload_n hx hb dX12_copy_30 rfl (lv_at hl 0 rfl) ?_
        refine lv_iload_n hx hb dX12_copy_31 rfl (lv_at hl 2 rfl) ?_
        refine r_callV (As := [.int y]) (rest := []) C hw (t_X12_putsE l B D cA kd ig20 rg lg22 _ y (by omega) hwp σ π hM _ hD hI) sv_X12_207 (hsh 49 _ rfl) rfl hl.1 rfl (Nat.le_of_ble_eq_true rfl) ⟨Nat.le_of_ble_eq_true rfl, Nat.le_of_ble_eq_true rfl⟩ ⟨Nat.le_of_ble_eq_true rfl, Nat.le_of_ble_eq_true rfl⟩ dX12_copy_32 (fun r30 kd26 ig27 rg28 lg29 H locs hw hH hp31 => ?_)
        obtain ⟨rfl, rfl, hI, hchp31, hrhp31⟩ := hp31
        have hF : Ft B [49, 54, 55, 56, 57, 58, 59, 60, 61, 63, 64, 65, 66, 67, 68, 69, 70, 71, 72, 73, 74] ig lg ig27 lg29 := Ft.tr hF hchp31 (by decide) (by decide)
        obtain ⟨rfl, hvhp31⟩ := hrhp31
        obtain ⟨hM, hU⟩ := hvhp31
        refine lv_iconst (v := 1) hx hb dX12_copy_35 (by decide) (ti_c 1 (by decide) fun z32 hz32 => ?_)
        exact r_iret C hw hr hlk (nar_b (by omega)) (Nat.le_of_ble_eq_true rfl) (Nat.le_of_ble_eq_true rfl) dX12_copy_36 ⟨rfl, rfl, hI, hF, ⟨_, rfl, ⟨_, _, hM, hU, Or.inr ⟨⟨by unfold onS; omega, by unfold onS; omega, by rw [atC_on (by omega)]; exact by1 mb (by omega)⟩, by omega, by rw [atC_on (σ := σ) (x := x.toInt) (by omega)], rfl⟩⟩⟩⟩
      · refine lv_iconst (v := 0) hx hb dX12_copy_28 (by decide) (ti_c 0 (by decide) fun z33 hz33 => ?_)
        exact r_iret C hw hr hlk (nar_b (by omega)) (Nat.le_of_ble_eq_true rfl) (Nat.le_of_ble_eq_true rfl) dX12_copy_29 ⟨rfl, rfl, hI, hF, ⟨_, rfl, ⟨_, _, hM, hU, Or.inl ⟨fun q => by0 mb (by omega) (by have q2 := q.2.2; rw [atC_on (by omega)] at q2; exact q2), by omega, rfl, rfl⟩⟩⟩⟩

set_option maxHeartbeats 4000000 in
set_option maxRecDepth 100000 in
theorem t_X12_familyAtE {τ : Tp} {φ : Option Int} (l : Launch) (B : Nat) (D : va_G) (cA : Nat → ClassId) (kd : sK) (ig : sI) (rg : sR) (lg : sG) (sz : Nat) (x : Int32) (y : Int32) (hI : IM τ φ none B kd ig rg) : MC l B D cA yX12_familyAt cX12_familyAt 3 (some .int) (rL 0 0 0) [.ref (B + 49), .int x, .int y] kd ig rg lg sz (Pu kd ig rg lg sz (fun r => ∃ z : Int32, r = some (.int z) ∧ ((((0 ≤ x.toInt ∧ x.toInt ≤ 11) ∧ 0 ≤ y.toInt ∧ y.toInt ≤ 23) ∧ z.toInt = famZ B ig (12 * y.toInt + x.toInt).toNat) ∨ (¬ ((0 ≤ x.toInt ∧ x.toInt ≤ 11) ∧ 0 ≤ y.toInt ∧ y.toInt ≤ 23) ∧ z.toInt = -1)))) := by
  refine MC.of (own := RX12) (by decide +kernel) rfl (Nat.le_of_ble_eq_true rfl) ?_
  intro p e s m args below meth c ls C hr hlk hnm hw hsz hl
  have hx := C.1.1
  have hb := C.1.2.1
  have hown := C.1.2.2.2.1
  have hts := C.1.2.2.2.2
  have hl : lv_has ls 3 [(0, .ref (B + 49)), (1, .int x), (2, .int y)] := hl
  have hsh := hI.sh
  have hrm := hI.rm
  refine lv_iload_n hx hb dX12_familyAt_0 rfl (lv_at hl 1 rfl) ?_
  refine z_lt (tgt := 20) hx hb dX12_familyAt_1 (by decide) (fun c1 => ?_) (fun c1 => ?_)
  · refine lv_iconst (v := (-1)) hx hb dX12_familyAt_20 (by decide) (ti_c (-1) (by decide) fun z1 hz1 => ?_)
    refine lv_goto (tgt := 35) hx hb dX12_familyAt_21 (by decide) ?_
    exact r_iret C hw hr hlk rfl (Nat.le_of_ble_eq_true rfl) (Nat.le_of_ble_eq_true rfl) dX12_familyAt_35 ⟨rfl, rfl, rfl, rfl, hsz, ⟨_, rfl, Or.inr ⟨by omega, by omega⟩⟩⟩
  · refine lv_iload_n hx hb dX12_familyAt_4 rfl (lv_at hl 1 rfl) ?_
    refine lv_bipush (v := 11) hx hb dX12_familyAt_5 (by decide) (ti_c 11 (by decide) fun z2 hz2 => ?_)
    refine b_gt (tgt := 20) hx hb dX12_familyAt_7 (by decide) (fun c7 => ?_) (fun c7 => ?_)
    · refine lv_iconst (v := (-1)) hx hb dX12_familyAt_20 (by decide) (ti_c (-1) (by decide) fun z3 hz3 => ?_)
      refine lv_goto (tgt := 35) hx hb dX12_familyAt_21 (by decide) ?_
      exact r_iret C hw hr hlk rfl (Nat.le_of_ble_eq_true rfl) (Nat.le_of_ble_eq_true rfl) dX12_familyAt_35 ⟨rfl, rfl, rfl, rfl, hsz, ⟨_, rfl, Or.inr ⟨by omega, by omega⟩⟩⟩
    · refine lv_iload_n hx hb dX12_familyAt_10 rfl (lv_at hl 2 rfl) ?_
      refine z_lt (tgt := 20) hx hb dX12_familyAt_11 (by decide) (fun c11 => ?_) (fun c11 => ?_)
      · refine lv_iconst (v := (-1)) hx hb dX12_familyAt_20 (by decide) (ti_c (-1) (by decide) fun z4 hz4 => ?_)
        refine lv_goto (tgt := 35) hx hb dX12_familyAt_21 (by decide) ?_
        exact r_iret C hw hr hlk rfl (Nat.le_of_ble_eq_true rfl) (Nat.le_of_ble_eq_true rfl) dX12_familyAt_35 ⟨rfl, rfl, rfl, rfl, hsz, ⟨_, rfl, Or.inr ⟨by omega, by omega⟩⟩⟩
      · refine lv_iload_n hx hb dX12_familyAt_14 rfl (lv_at hl 2 rfl) ?_
        refine lv_bipush (v := 23) hx hb dX12_familyAt_15 (by decide) (ti_c 23 (by decide) fun z5 hz5 => ?_)
        refine b_le (tgt := 24) hx hb dX12_familyAt_17 (by decide) (fun c17 => ?_) (fun c17 => ?_)
        · refine lv_aload_n hx hb dX12_familyAt_24 rfl (lv_at hl 0 rfl) ?_
          refine r_get C hw (hsh 49 _ rfl) fl_X12_117 (oV_r rfl (hrm (49, 28, 71) (by decide))) dX12_familyAt_25 ?_
          refine lv_bipush (v := 12) hx hb dX12_familyAt_28 (by decide) (ti_c 12 (by decide) fun z6 hz6 => ?_)
          refine lv_iload_n hx hb dX12_familyAt_30 rfl (lv_at hl 2 rfl) ?_
          refine lv_imul hx hb dX12_familyAt_31 (tc_mulL 12 hz6 fun z7 hz7 => ?_)
          first | replace hz7 := hz7 (by omega) | clear hz7
          refine lv_iload_n hx hb dX12_familyAt_32 rfl (lv_at hl 1 rfl) ?_
          refine lv_iadd hx hb dX12_familyAt_33 (tc_add fun z8 hz8 => ?_)
          first | replace hz8 := hz8 (by omega) | clear hz8
          refine r_iald C hw (hsh 71 _ rfl) (by omega) (by omega) dX12_familyAt_34 (ti_c (ig (B + 71) z8.toInt.toNat).toInt rfl fun z9 hz9 => ?_)
          exact r_iret C hw hr hlk rfl (Nat.le_of_ble_eq_true rfl) (Nat.le_of_ble_eq_true rfl) dX12_familyAt_35 ⟨rfl, rfl, rfl, rfl, hsz, ⟨_, rfl, Or.inl ⟨by omega, by rw [hz9, show z8.toInt.toNat = (12 * y.toInt + x.toInt).toNat by omega]; rfl⟩⟩⟩
        · refine lv_iconst (v := (-1)) hx hb dX12_familyAt_20 (by decide) (ti_c (-1) (by decide) fun z11 hz11 => ?_)
          refine lv_goto (tgt := 35) hx hb dX12_familyAt_21 (by decide) ?_
          exact r_iret C hw hr hlk rfl (Nat.le_of_ble_eq_true rfl) (Nat.le_of_ble_eq_true rfl) dX12_familyAt_35 ⟨rfl, rfl, rfl, rfl, hsz, ⟨_, rfl, Or.inr ⟨by omega, by omega⟩⟩⟩

set_option maxHeartbeats 4000000 in
set_option maxRecDepth 100000 in
theorem t_X12_oddByE {τ : Tp} {φ : Option Int} (l : Launch) (B : Nat) (D : va_G) (cA : Nat → ClassId) (kd : sK) (ig : sI) (rg : sR) (lg : sG) (sz : Nat) (x : Int32) (hx0 : 0 ≤ x.toInt ∧ x.toInt < 288) (σ : Sg) (π : Ps) (hM : SM B σ π ig) (hU : FMm B σ ig) (hI : IM τ φ none B kd ig rg) : MC l B D cA yX12_oddBy cX12_oddBy 6 (some .int) (rL 1 0 0) [.ref (B + 49), .int x] kd ig rg lg sz (Pu kd ig rg lg sz (fun r => ∃ z : Int32, r = some (.int z) ∧ OddR σ (famZ B ig) x.toInt z.toInt)) := by
  refine MC.of (own := RX12) (by decide +kernel) rfl (Nat.le_of_ble_eq_true rfl) ?_
  intro p e s m args below meth c ls C hr hlk hnm hw hsz hl
  have hx := C.1.1
  have hb := C.1.2.1
  have hown := C.1.2.2.2.1
  have hts := C.1.2.2.2.2
  have hl : lv_has ls 6 [(0, .ref (B + 49)), (1, .int x)] := hl
  have hsh := hI.sh
  have hrm := hI.rm
  have gx := (hU.ge (x := x.toInt) (by omega)).1
  have ga := fun w => (hU.ge (x := x.toInt + -1) w).1
  have gb := fun w => (hU.ge (x := x.toInt + -12) w).1
  refine lv_aload_n hx hb dX12_oddBy_0 rfl (lv_at hl 0 rfl) ?_
  refine r_get C hw (hsh 49 _ rfl) fl_X12_80 (oV_r rfl (hrm (49, 15, 59) (by decide))) dX12_oddBy_1 ?_
  refine lv_iload_n hx hb dX12_oddBy_4 rfl (lv_at hl 1 rfl) ?_
  refine r_iald C hw (hsh 59 _ rfl) (by omega) (by omega) dX12_oddBy_5 (ti_c (ig (B + 59) x.toInt.toNat).toInt rfl fun z1 hz1 => ?_)
  have kd9 : z1.toInt = kdO (atC σ x.toInt) := by rw [hz1]; first | exact hM.kdx (x := x.toInt) (by omega) | exact hM0.kdx (x := x.toInt) (by omega)
  refine z_ne (tgt := 11) hx hb dX12_oddBy_6 (by decide) (fun c6 => ?_) (fun c6 => ?_)
  · refine lv_iload_n hx hb dX12_oddBy_11 rfl (lv_at hl 1 rfl) ?_
    refine lv_bipush (v := 12) hx hb dX12_oddBy_12 (by decide) (ti_c 12 (by decide) fun z3 hz3 => ?_)
    refine lv_irem hx hb dX12_oddBy_14 (ne0_of (by omega)) (tc_rem 12 hz3 (by decide) fun z4 bz4 hz4 => ?_)
    first | replace hz4 := hz4 (by omega) | clear hz4
    refine lv_istore_n (lv' := [(2, .int z4), (0, .ref (B + 49)), (1, .int x)]) hx hb dX12_oddBy_15 rfl hl (by decide) rfl (fun ls hl => ?_)
    refine lv_iload_n hx hb dX12_oddBy_16 rfl (lv_at hl 2 rfl) ?_
    refine lv_bipush (v := 12) hx hb dX12_oddBy_17 (by decide) (ti_c 12 (by decide) fun z5 hz5 => ?_)
    refine lv_idiv hx hb dX12_oddBy_19 (ne0_of (by omega)) (tc_div 12 hz5 (by decide) fun z6 bz6 hz6 => ?_)
    first | replace hz6 := hz6 (by omega) | clear hz6
    refine lv_istore_n (lv' := [(3, .int z6), (2, .int z4), (0, .ref (B + 49)), (1, .int x)]) hx hb dX12_oddBy_20 rfl hl (by decide) rfl (fun ls hl => ?_)
    refine lv_aload_n hx hb dX12_oddBy_21 rfl (lv_at hl 2 rfl) ?_
    refine lv_iload_n hx hb dX12_oddBy_22 rfl (lv_at hl 1 rfl) ?_
    refine lv_iconst (v := 1) hx hb dX12_oddBy_23 (by decide) (ti_c 1 (by decide) fun z7 hz7 => ?_)
    refine lv_isub hx hb dX12_oddBy_24 (tc_sub fun z8 hz8 => ?_)
    first | replace hz8 := hz8 (by omega) | clear hz8
    refine lv_iload_n hx hb dX12_oddBy_25 rfl (lv_at hl 0 rfl) ?_
    refine r_callV (As := [.int z8, .int z6]) (rest := []) C hw (t_X12_familyAtE l B D cA kd ig rg lg _ z8 z6  hI) sv_X12_317 (hsh 49 _ rfl) rfl hl.1 rfl (Nat.le_of_ble_eq_true rfl) ⟨Nat.le_of_ble_eq_true rfl, Nat.le_of_ble_eq_true rfl⟩ ⟨Nat.le_of_ble_eq_true rfl, Nat.le_of_ble_eq_true rfl⟩ dX12_oddBy_26 (fun r13 kd9 ig10 rg11 lg12 H locs hw hH hp14 => ?_)
    obtain ⟨rfl, rfl, rfl, rfl, hzhp14, hrhp14⟩ := hp14
    have hsz := hzhp14.trans hsz
    obtain ⟨z15, rfl, hz15⟩ := hrhp14
    have f1 : (0 < x.toInt % 12 ∧ z15.toInt = famZ B ig (x.toInt + -1).toNat) ∨ (¬ 0 < x.toInt % 12 ∧ z15.toInt = -1) := by
      have q := hz15
      rw [show 12 * z6.toInt + z8.toInt = x.toInt + -1 by omega] at q
      omega
    refine lv_istore (lv' := [(4, .int z15), (3, .int z6), (2, .int z4), (0, .ref (B + 49)), (1, .int x)]) hx hb dX12_oddBy_29 hl (by decide) rfl (fun ls hl => ?_)
    refine lv_iload hx hb dX12_oddBy_31 (lv_at hl 0 rfl) ?_
    refine z_lt (tgt := 64) hx hb dX12_oddBy_33 (by decide) (fun c33 => ?_) (fun c33 => ?_)
    · have na : ¬ oddA (famZ B ig) x.toInt := by unfold oddA strN kinN; rw [show x.toInt - 1 = x.toInt + -1 by omega]; omega
      refine lv_aload_n hx hb dX12_oddBy_64 rfl (lv_at hl 3 rfl) ?_
      refine lv_iload_n hx hb dX12_oddBy_65 rfl (lv_at hl 2 rfl) ?_
      refine lv_iload_n hx hb dX12_oddBy_66 rfl (lv_at hl 1 rfl) ?_
      refine lv_iconst (v := 1) hx hb dX12_oddBy_67 (by decide) (ti_c 1 (by decide) fun z16 hz16 => ?_)
      refine lv_isub hx hb dX12_oddBy_68 (tc_sub fun z17 hz17 => ?_)
      first | replace hz17 := hz17 (by omega) | clear hz17
      refine r_callV (As := [.int z4, .int z17]) (rest := []) C hw (t_X12_familyAtE l B D cA kd ig rg lg _ z4 z17  hI) sv_X12_317 (hsh 49 _ rfl) rfl hl.1 rfl (Nat.le_of_ble_eq_true rfl) ⟨Nat.le_of_ble_eq_true rfl, Nat.le_of_ble_eq_true rfl⟩ ⟨Nat.le_of_ble_eq_true rfl, Nat.le_of_ble_eq_true rfl⟩ dX12_oddBy_69 (fun r22 kd18 ig19 rg20 lg21 H locs hw hH hp23 => ?_)
      obtain ⟨rfl, rfl, rfl, rfl, hzhp23, hrhp23⟩ := hp23
      have hsz := hzhp23.trans hsz
      obtain ⟨z24, rfl, hz24⟩ := hrhp23
      have f4 : (0 < x.toInt / 12 ∧ z24.toInt = famZ B ig (x.toInt + -12).toNat) ∨ (¬ 0 < x.toInt / 12 ∧ z24.toInt = -1) := by
        have q := hz24
        rw [show 12 * z17.toInt + z4.toInt = x.toInt + -12 by omega] at q
        omega
      refine lv_istore (lv' := [(5, .int z24), (4, .int z15), (3, .int z6), (2, .int z4), (0, .ref (B + 49)), (1, .int x)]) hx hb dX12_oddBy_72 hl (by decide) rfl (fun ls hl => ?_)
      refine lv_iload hx hb dX12_oddBy_74 (lv_at hl 0 rfl) ?_
      refine z_lt (tgt := 110) hx hb dX12_oddBy_76 (by decide) (fun c76 => ?_) (fun c76 => ?_)
      · refine lv_iconst (v := (-1)) hx hb dX12_oddBy_110 (by decide) (ti_c (-1) (by decide) fun z25 hz25 => ?_)
        exact r_iret C hw hr hlk rfl (Nat.le_of_ble_eq_true rfl) (Nat.le_of_ble_eq_true rfl) dX12_oddBy_111 ⟨rfl, rfl, rfl, rfl, hsz, ⟨_, rfl, Or.inr ⟨by omega, Or.inr (Or.inr ⟨na, by unfold oddB strN kinN; rw [show x.toInt - 12 = x.toInt + -12 by omega]; omega, by omega⟩)⟩⟩⟩
      · refine lv_iload hx hb dX12_oddBy_79 (lv_at hl 0 rfl) ?_
        refine lv_aload_n hx hb dX12_oddBy_81 rfl (lv_at hl 4 rfl) ?_
        refine lv_iload_n hx hb dX12_oddBy_82 rfl (lv_at hl 3 rfl) ?_
        refine lv_iload_n hx hb dX12_oddBy_83 rfl (lv_at hl 2 rfl) ?_
        refine lv_iconst (v := 1) hx hb dX12_oddBy_84 (by decide) (ti_c 1 (by decide) fun z26 hz26 => ?_)
        refine lv_iadd hx hb dX12_oddBy_85 (tc_add fun z27 hz27 => ?_)
        first | replace hz27 := hz27 (by omega) | clear hz27
        refine r_callV (As := [.int z4, .int z27]) (rest := [.int z24]) C hw (t_X12_familyAtE l B D cA kd ig rg lg _ z4 z27  hI) sv_X12_317 (hsh 49 _ rfl) rfl hl.1 rfl (Nat.le_of_ble_eq_true rfl) ⟨Nat.le_of_ble_eq_true rfl, Nat.le_of_ble_eq_true rfl⟩ ⟨Nat.le_of_ble_eq_true rfl, Nat.le_of_ble_eq_true rfl⟩ dX12_oddBy_86 (fun r32 kd28 ig29 rg30 lg31 H locs hw hH hp33 => ?_)
        obtain ⟨rfl, rfl, rfl, rfl, hzhp33, hrhp33⟩ := hp33
        have hsz := hzhp33.trans hsz
        obtain ⟨z34, rfl, hz34⟩ := hrhp33
        have f5 : (x.toInt / 12 < 23 ∧ z34.toInt = famZ B ig (x.toInt + 12).toNat) ∨ (¬ x.toInt / 12 < 23 ∧ z34.toInt = -1) := by
          have q := hz34
          rw [show 12 * z27.toInt + z4.toInt = x.toInt + 12 by omega] at q
          omega
        refine b_ne (tgt := 110) hx hb dX12_oddBy_89 (by decide) (fun c89 => ?_) (fun c89 => ?_)
        · refine lv_iconst (v := (-1)) hx hb dX12_oddBy_110 (by decide) (ti_c (-1) (by decide) fun z35 hz35 => ?_)
          exact r_iret C hw hr hlk rfl (Nat.le_of_ble_eq_true rfl) (Nat.le_of_ble_eq_true rfl) dX12_oddBy_111 ⟨rfl, rfl, rfl, rfl, hsz, ⟨_, rfl, Or.inr ⟨by omega, Or.inr (Or.inr ⟨na, by unfold oddB strN kinN; rw [show x.toInt - 12 = x.toInt + -12 by omega]; omega, by omega⟩)⟩⟩⟩
        · refine lv_iload hx hb dX12_oddBy_92 (lv_at hl 0 rfl) ?_
          refine lv_aload_n hx hb dX12_oddBy_94 rfl (lv_at hl 4 rfl) ?_
          refine r_get C hw (hsh 49 _ rfl) fl_X12_117 (oV_r rfl (hrm (49, 28, 71) (by decide))) dX12_oddBy_95 ?_
          refine lv_iload_n hx hb dX12_oddBy_98 rfl (lv_at hl 5 rfl) ?_
          refine r_iald C hw (hsh 71 _ rfl) (by omega) (by omega) dX12_oddBy_99 (ti_c (ig (B + 71) x.toInt.toNat).toInt rfl fun z36 hz36 => ?_)
          have f6 : z36.toInt = famZ B ig x.toInt.toNat := hz36
          refine b_eq (tgt := 110) hx hb dX12_oddBy_100 (by decide) (fun c100 => ?_) (fun c100 => ?_)
          · refine lv_iconst (v := (-1)) hx hb dX12_oddBy_110 (by decide) (ti_c (-1) (by decide) fun z38 hz38 => ?_)
            exact r_iret C hw hr hlk rfl (Nat.le_of_ble_eq_true rfl) (Nat.le_of_ble_eq_true rfl) dX12_oddBy_111 ⟨rfl, rfl, rfl, rfl, hsz, ⟨_, rfl, Or.inr ⟨by omega, Or.inr (Or.inr ⟨na, by unfold oddB strN kinN; rw [show x.toInt - 12 = x.toInt + -12 by omega]; omega, by omega⟩)⟩⟩⟩
          · refine lv_iload_n hx hb dX12_oddBy_103 rfl (lv_at hl 5 rfl) ?_
            refine lv_bipush (v := 12) hx hb dX12_oddBy_104 (by decide) (ti_c 12 (by decide) fun z39 hz39 => ?_)
            refine lv_isub hx hb dX12_oddBy_106 (tc_sub fun z40 hz40 => ?_)
            first | replace hz40 := hz40 (by omega) | clear hz40
            refine lv_goto (tgt := 111) hx hb dX12_oddBy_107 (by decide) ?_
            exact r_iret C hw hr hlk rfl (Nat.le_of_ble_eq_true rfl) (Nat.le_of_ble_eq_true rfl) dX12_oddBy_111 ⟨rfl, rfl, rfl, rfl, hsz, ⟨_, rfl, Or.inr ⟨by omega, Or.inr (Or.inl ⟨na, by unfold oddB strN kinN; rw [show x.toInt - 12 = x.toInt + -12 by omega]; omega, by omega⟩)⟩⟩⟩
    · refine lv_iload hx hb dX12_oddBy_36 (lv_at hl 0 rfl) ?_
      refine lv_aload_n hx hb dX12_oddBy_38 rfl (lv_at hl 3 rfl) ?_
      refine lv_iload_n hx hb dX12_oddBy_39 rfl (lv_at hl 2 rfl) ?_
      refine lv_iconst (v := 1) hx hb dX12_oddBy_40 (by decide) (ti_c 1 (by decide) fun z41 hz41 => ?_)
      refine lv_iadd hx hb dX12_oddBy_41 (tc_add fun z42 hz42 => ?_)
      first | replace hz42 := hz42 (by omega) | clear hz42
      refine lv_iload_n hx hb dX12_oddBy_42 rfl (lv_at hl 1 rfl) ?_
      refine r_callV (As := [.int z42, .int z6]) (rest := [.int z15]) C hw (t_X12_familyAtE l B D cA kd ig rg lg _ z42 z6  hI) sv_X12_317 (hsh 49 _ rfl) rfl hl.1 rfl (Nat.le_of_ble_eq_true rfl) ⟨Nat.le_of_ble_eq_true rfl, Nat.le_of_ble_eq_true rfl⟩ ⟨Nat.le_of_ble_eq_true rfl, Nat.le_of_ble_eq_true rfl⟩ dX12_oddBy_43 (fun r47 kd43 ig44 rg45 lg46 H locs hw hH hp48 => ?_)
      obtain ⟨rfl, rfl, rfl, rfl, hzhp48, hrhp48⟩ := hp48
      have hsz := hzhp48.trans hsz
      obtain ⟨z49, rfl, hz49⟩ := hrhp48
      have f2 : (x.toInt % 12 < 11 ∧ z49.toInt = famZ B ig (x.toInt + 1).toNat) ∨ (¬ x.toInt % 12 < 11 ∧ z49.toInt = -1) := by
        have q := hz49
        rw [show 12 * z6.toInt + z42.toInt = x.toInt + 1 by omega] at q
        omega
      refine b_ne (tgt := 64) hx hb dX12_oddBy_46 (by decide) (fun c46 => ?_) (fun c46 => ?_)
      · have na : ¬ oddA (famZ B ig) x.toInt := by unfold oddA strN kinN; rw [show x.toInt - 1 = x.toInt + -1 by omega]; omega
        refine lv_aload_n hx hb dX12_oddBy_64 rfl (lv_at hl 3 rfl) ?_
        refine lv_iload_n hx hb dX12_oddBy_65 rfl (lv_at hl 2 rfl) ?_
        refine lv_iload_n hx hb dX12_oddBy_66 rfl (lv_at hl 1 rfl) ?_
        refine lv_iconst (v := 1) hx hb dX12_oddBy_67 (by decide) (ti_c 1 (by decide) fun z50 hz50 => ?_)
        refine lv_isub hx hb dX12_oddBy_68 (tc_sub fun z51 hz51 => ?_)
        first | replace hz51 := hz51 (by omega) | clear hz51
        refine r_callV (As := [.int z4, .int z51]) (rest := []) C hw (t_X12_familyAtE l B D cA kd ig rg lg _ z4 z51  hI) sv_X12_317 (hsh 49 _ rfl) rfl hl.1 rfl (Nat.le_of_ble_eq_true rfl) ⟨Nat.le_of_ble_eq_true rfl, Nat.le_of_ble_eq_true rfl⟩ ⟨Nat.le_of_ble_eq_true rfl, Nat.le_of_ble_eq_true rfl⟩ dX12_oddBy_69 (fun r56 kd52 ig53 rg54 lg55 H locs hw hH hp57 => ?_)
        obtain ⟨rfl, rfl, rfl, rfl, hzhp57, hrhp57⟩ := hp57
        have hsz := hzhp57.trans hsz
        obtain ⟨z58, rfl, hz58⟩ := hrhp57
        have f4 : (0 < x.toInt / 12 ∧ z58.toInt = famZ B ig (x.toInt + -12).toNat) ∨ (¬ 0 < x.toInt / 12 ∧ z58.toInt = -1) := by
          have q := hz58
          rw [show 12 * z51.toInt + z4.toInt = x.toInt + -12 by omega] at q
          omega
        refine lv_istore (lv' := [(5, .int z58), (4, .int z15), (3, .int z6), (2, .int z4), (0, .ref (B + 49)), (1, .int x)]) hx hb dX12_oddBy_72 hl (by decide) rfl (fun ls hl => ?_)
        refine lv_iload hx hb dX12_oddBy_74 (lv_at hl 0 rfl) ?_
        refine z_lt (tgt := 110) hx hb dX12_oddBy_76 (by decide) (fun c76 => ?_) (fun c76 => ?_)
        · refine lv_iconst (v := (-1)) hx hb dX12_oddBy_110 (by decide) (ti_c (-1) (by decide) fun z59 hz59 => ?_)
          exact r_iret C hw hr hlk rfl (Nat.le_of_ble_eq_true rfl) (Nat.le_of_ble_eq_true rfl) dX12_oddBy_111 ⟨rfl, rfl, rfl, rfl, hsz, ⟨_, rfl, Or.inr ⟨by omega, Or.inr (Or.inr ⟨na, by unfold oddB strN kinN; rw [show x.toInt - 12 = x.toInt + -12 by omega]; omega, by omega⟩)⟩⟩⟩
        · refine lv_iload hx hb dX12_oddBy_79 (lv_at hl 0 rfl) ?_
          refine lv_aload_n hx hb dX12_oddBy_81 rfl (lv_at hl 4 rfl) ?_
          refine lv_iload_n hx hb dX12_oddBy_82 rfl (lv_at hl 3 rfl) ?_
          refine lv_iload_n hx hb dX12_oddBy_83 rfl (lv_at hl 2 rfl) ?_
          refine lv_iconst (v := 1) hx hb dX12_oddBy_84 (by decide) (ti_c 1 (by decide) fun z60 hz60 => ?_)
          refine lv_iadd hx hb dX12_oddBy_85 (tc_add fun z61 hz61 => ?_)
          first | replace hz61 := hz61 (by omega) | clear hz61
          refine r_callV (As := [.int z4, .int z61]) (rest := [.int z58]) C hw (t_X12_familyAtE l B D cA kd ig rg lg _ z4 z61  hI) sv_X12_317 (hsh 49 _ rfl) rfl hl.1 rfl (Nat.le_of_ble_eq_true rfl) ⟨Nat.le_of_ble_eq_true rfl, Nat.le_of_ble_eq_true rfl⟩ ⟨Nat.le_of_ble_eq_true rfl, Nat.le_of_ble_eq_true rfl⟩ dX12_oddBy_86 (fun r66 kd62 ig63 rg64 lg65 H locs hw hH hp67 => ?_)
          obtain ⟨rfl, rfl, rfl, rfl, hzhp67, hrhp67⟩ := hp67
          have hsz := hzhp67.trans hsz
          obtain ⟨z68, rfl, hz68⟩ := hrhp67
          have f5 : (x.toInt / 12 < 23 ∧ z68.toInt = famZ B ig (x.toInt + 12).toNat) ∨ (¬ x.toInt / 12 < 23 ∧ z68.toInt = -1) := by
            have q := hz68
            rw [show 12 * z61.toInt + z4.toInt = x.toInt + 12 by omega] at q
            omega
          refine b_ne (tgt := 110) hx hb dX12_oddBy_89 (by decide) (fun c89 => ?_) (fun c89 => ?_)
          · refine lv_iconst (v := (-1)) hx hb dX12_oddBy_110 (by decide) (ti_c (-1) (by decide) fun z69 hz69 => ?_)
            exact r_iret C hw hr hlk rfl (Nat.le_of_ble_eq_true rfl) (Nat.le_of_ble_eq_true rfl) dX12_oddBy_111 ⟨rfl, rfl, rfl, rfl, hsz, ⟨_, rfl, Or.inr ⟨by omega, Or.inr (Or.inr ⟨na, by unfold oddB strN kinN; rw [show x.toInt - 12 = x.toInt + -12 by omega]; omega, by omega⟩)⟩⟩⟩
          · refine lv_iload hx hb dX12_oddBy_92 (lv_at hl 0 rfl) ?_
            refine lv_aload_n hx hb dX12_oddBy_94 rfl (lv_at hl 4 rfl) ?_
            refine r_get C hw (hsh 49 _ rfl) fl_X12_117 (oV_r rfl (hrm (49, 28, 71) (by decide))) dX12_oddBy_95 ?_
            refine lv_iload_n hx hb dX12_oddBy_98 rfl (lv_at hl 5 rfl) ?_
            refine r_iald C hw (hsh 71 _ rfl) (by omega) (by omega) dX12_oddBy_99 (ti_c (ig (B + 71) x.toInt.toNat).toInt rfl fun z70 hz70 => ?_)
            have f6 : z70.toInt = famZ B ig x.toInt.toNat := hz70
            refine b_eq (tgt := 110) hx hb dX12_oddBy_100 (by decide) (fun c100 => ?_) (fun c100 => ?_)
            · refine lv_iconst (v := (-1)) hx hb dX12_oddBy_110 (by decide) (ti_c (-1) (by decide) fun z72 hz72 => ?_)
              exact r_iret C hw hr hlk rfl (Nat.le_of_ble_eq_true rfl) (Nat.le_of_ble_eq_true rfl) dX12_oddBy_111 ⟨rfl, rfl, rfl, rfl, hsz, ⟨_, rfl, Or.inr ⟨by omega, Or.inr (Or.inr ⟨na, by unfold oddB strN kinN; rw [show x.toInt - 12 = x.toInt + -12 by omega]; omega, by omega⟩)⟩⟩⟩
            · refine lv_iload_n hx hb dX12_oddBy_103 rfl (lv_at hl 5 rfl) ?_
              refine lv_bipush (v := 12) hx hb dX12_oddBy_104 (by decide) (ti_c 12 (by decide) fun z73 hz73 => ?_)
              refine lv_isub hx hb dX12_oddBy_106 (tc_sub fun z74 hz74 => ?_)
              first | replace hz74 := hz74 (by omega) | clear hz74
              refine lv_goto (tgt := 111) hx hb dX12_oddBy_107 (by decide) ?_
              exact r_iret C hw hr hlk rfl (Nat.le_of_ble_eq_true rfl) (Nat.le_of_ble_eq_true rfl) dX12_oddBy_111 ⟨rfl, rfl, rfl, rfl, hsz, ⟨_, rfl, Or.inr ⟨by omega, Or.inr (Or.inl ⟨na, by unfold oddB strN kinN; rw [show x.toInt - 12 = x.toInt + -12 by omega]; omega, by omega⟩)⟩⟩⟩
      · refine lv_iload hx hb dX12_oddBy_49 (lv_at hl 0 rfl) ?_
        refine lv_aload_n hx hb dX12_oddBy_51 rfl (lv_at hl 3 rfl) ?_
        refine r_get C hw (hsh 49 _ rfl) fl_X12_117 (oV_r rfl (hrm (49, 28, 71) (by decide))) dX12_oddBy_52 ?_
        refine lv_iload_n hx hb dX12_oddBy_55 rfl (lv_at hl 4 rfl) ?_
        refine r_iald C hw (hsh 71 _ rfl) (by omega) (by omega) dX12_oddBy_56 (ti_c (ig (B + 71) x.toInt.toNat).toInt rfl fun z75 hz75 => ?_)
        have f3 : z75.toInt = famZ B ig x.toInt.toNat := hz75
        refine b_eq (tgt := 64) hx hb dX12_oddBy_57 (by decide) (fun c57 => ?_) (fun c57 => ?_)
        · have na : ¬ oddA (famZ B ig) x.toInt := by unfold oddA strN kinN; rw [show x.toInt - 1 = x.toInt + -1 by omega]; omega
          refine lv_aload_n hx hb dX12_oddBy_64 rfl (lv_at hl 3 rfl) ?_
          refine lv_iload_n hx hb dX12_oddBy_65 rfl (lv_at hl 2 rfl) ?_
          refine lv_iload_n hx hb dX12_oddBy_66 rfl (lv_at hl 1 rfl) ?_
          refine lv_iconst (v := 1) hx hb dX12_oddBy_67 (by decide) (ti_c 1 (by decide) fun z77 hz77 => ?_)
          refine lv_isub hx hb dX12_oddBy_68 (tc_sub fun z78 hz78 => ?_)
          first | replace hz78 := hz78 (by omega) | clear hz78
          refine r_callV (As := [.int z4, .int z78]) (rest := []) C hw (t_X12_familyAtE l B D cA kd ig rg lg _ z4 z78  hI) sv_X12_317 (hsh 49 _ rfl) rfl hl.1 rfl (Nat.le_of_ble_eq_true rfl) ⟨Nat.le_of_ble_eq_true rfl, Nat.le_of_ble_eq_true rfl⟩ ⟨Nat.le_of_ble_eq_true rfl, Nat.le_of_ble_eq_true rfl⟩ dX12_oddBy_69 (fun r83 kd79 ig80 rg81 lg82 H locs hw hH hp84 => ?_)
          obtain ⟨rfl, rfl, rfl, rfl, hzhp84, hrhp84⟩ := hp84
          have hsz := hzhp84.trans hsz
          obtain ⟨z85, rfl, hz85⟩ := hrhp84
          have f4 : (0 < x.toInt / 12 ∧ z85.toInt = famZ B ig (x.toInt + -12).toNat) ∨ (¬ 0 < x.toInt / 12 ∧ z85.toInt = -1) := by
            have q := hz85
            rw [show 12 * z78.toInt + z4.toInt = x.toInt + -12 by omega] at q
            omega
          refine lv_istore (lv' := [(5, .int z85), (4, .int z15), (3, .int z6), (2, .int z4), (0, .ref (B + 49)), (1, .int x)]) hx hb dX12_oddBy_72 hl (by decide) rfl (fun ls hl => ?_)
          refine lv_iload hx hb dX12_oddBy_74 (lv_at hl 0 rfl) ?_
          refine z_lt (tgt := 110) hx hb dX12_oddBy_76 (by decide) (fun c76 => ?_) (fun c76 => ?_)
          · refine lv_iconst (v := (-1)) hx hb dX12_oddBy_110 (by decide) (ti_c (-1) (by decide) fun z86 hz86 => ?_)
            exact r_iret C hw hr hlk rfl (Nat.le_of_ble_eq_true rfl) (Nat.le_of_ble_eq_true rfl) dX12_oddBy_111 ⟨rfl, rfl, rfl, rfl, hsz, ⟨_, rfl, Or.inr ⟨by omega, Or.inr (Or.inr ⟨na, by unfold oddB strN kinN; rw [show x.toInt - 12 = x.toInt + -12 by omega]; omega, by omega⟩)⟩⟩⟩
          · refine lv_iload hx hb dX12_oddBy_79 (lv_at hl 0 rfl) ?_
            refine lv_aload_n hx hb dX12_oddBy_81 rfl (lv_at hl 4 rfl) ?_
            refine lv_iload_n hx hb dX12_oddBy_82 rfl (lv_at hl 3 rfl) ?_
            refine lv_iload_n hx hb dX12_oddBy_83 rfl (lv_at hl 2 rfl) ?_
            refine lv_iconst (v := 1) hx hb dX12_oddBy_84 (by decide) (ti_c 1 (by decide) fun z87 hz87 => ?_)
            refine lv_iadd hx hb dX12_oddBy_85 (tc_add fun z88 hz88 => ?_)
            first | replace hz88 := hz88 (by omega) | clear hz88
            refine r_callV (As := [.int z4, .int z88]) (rest := [.int z85]) C hw (t_X12_familyAtE l B D cA kd ig rg lg _ z4 z88  hI) sv_X12_317 (hsh 49 _ rfl) rfl hl.1 rfl (Nat.le_of_ble_eq_true rfl) ⟨Nat.le_of_ble_eq_true rfl, Nat.le_of_ble_eq_true rfl⟩ ⟨Nat.le_of_ble_eq_true rfl, Nat.le_of_ble_eq_true rfl⟩ dX12_oddBy_86 (fun r93 kd89 ig90 rg91 lg92 H locs hw hH hp94 => ?_)
            obtain ⟨rfl, rfl, rfl, rfl, hzhp94, hrhp94⟩ := hp94
            have hsz := hzhp94.trans hsz
            obtain ⟨z95, rfl, hz95⟩ := hrhp94
            have f5 : (x.toInt / 12 < 23 ∧ z95.toInt = famZ B ig (x.toInt + 12).toNat) ∨ (¬ x.toInt / 12 < 23 ∧ z95.toInt = -1) := by
              have q := hz95
              rw [show 12 * z88.toInt + z4.toInt = x.toInt + 12 by omega] at q
              omega
            refine b_ne (tgt := 110) hx hb dX12_oddBy_89 (by decide) (fun c89 => ?_) (fun c89 => ?_)
            · refine lv_iconst (v := (-1)) hx hb dX12_oddBy_110 (by decide) (ti_c (-1) (by decide) fun z96 hz96 => ?_)
              exact r_iret C hw hr hlk rfl (Nat.le_of_ble_eq_true rfl) (Nat.le_of_ble_eq_true rfl) dX12_oddBy_111 ⟨rfl, rfl, rfl, rfl, hsz, ⟨_, rfl, Or.inr ⟨by omega, Or.inr (Or.inr ⟨na, by unfold oddB strN kinN; rw [show x.toInt - 12 = x.toInt + -12 by omega]; omega, by omega⟩)⟩⟩⟩
            · refine lv_iload hx hb dX12_oddBy_92 (lv_at hl 0 rfl) ?_
              refine lv_aload_n hx hb dX12_oddBy_94 rfl (lv_at hl 4 rfl) ?_
              refine r_get C hw (hsh 49 _ rfl) fl_X12_117 (oV_r rfl (hrm (49, 28, 71) (by decide))) dX12_oddBy_95 ?_
              refine lv_iload_n hx hb dX12_oddBy_98 rfl (lv_at hl 5 rfl) ?_
              refine r_iald C hw (hsh 71 _ rfl) (by omega) (by omega) dX12_oddBy_99 (ti_c (ig (B + 71) x.toInt.toNat).toInt rfl fun z97 hz97 => ?_)
              have f6 : z97.toInt = famZ B ig x.toInt.toNat := hz97
              refine b_eq (tgt := 110) hx hb dX12_oddBy_100 (by decide) (fun c100 => ?_) (fun c100 => ?_)
              · refine lv_iconst (v := (-1)) hx hb dX12_oddBy_110 (by decide) (ti_c (-1) (by decide) fun z99 hz99 => ?_)
                exact r_iret C hw hr hlk rfl (Nat.le_of_ble_eq_true rfl) (Nat.le_of_ble_eq_true rfl) dX12_oddBy_111 ⟨rfl, rfl, rfl, rfl, hsz, ⟨_, rfl, Or.inr ⟨by omega, Or.inr (Or.inr ⟨na, by unfold oddB strN kinN; rw [show x.toInt - 12 = x.toInt + -12 by omega]; omega, by omega⟩)⟩⟩⟩
              · refine lv_iload_n hx hb dX12_oddBy_103 rfl (lv_at hl 5 rfl) ?_
                refine lv_bipush (v := 12) hx hb dX12_oddBy_104 (by decide) (ti_c 12 (by decide) fun z100 hz100 => ?_)
                refine lv_isub hx hb dX12_oddBy_106 (tc_sub fun z101 hz101 => ?_)
                first | replace hz101 := hz101 (by omega) | clear hz101
                refine lv_goto (tgt := 111) hx hb dX12_oddBy_107 (by decide) ?_
                exact r_iret C hw hr hlk rfl (Nat.le_of_ble_eq_true rfl) (Nat.le_of_ble_eq_true rfl) dX12_oddBy_111 ⟨rfl, rfl, rfl, rfl, hsz, ⟨_, rfl, Or.inr ⟨by omega, Or.inr (Or.inl ⟨na, by unfold oddB strN kinN; rw [show x.toInt - 12 = x.toInt + -12 by omega]; omega, by omega⟩)⟩⟩⟩
        · refine lv_iload_n hx hb dX12_oddBy_60 rfl (lv_at hl 4 rfl) ?_
          refine lv_iconst (v := 1) hx hb dX12_oddBy_61 (by decide) (ti_c 1 (by decide) fun z102 hz102 => ?_)
          refine lv_isub hx hb dX12_oddBy_62 (tc_sub fun z103 hz103 => ?_)
          first | replace hz103 := hz103 (by omega) | clear hz103
          exact r_iret C hw hr hlk rfl (Nat.le_of_ble_eq_true rfl) (Nat.le_of_ble_eq_true rfl) dX12_oddBy_63 ⟨rfl, rfl, rfl, rfl, hsz, ⟨_, rfl, Or.inr ⟨by omega, Or.inl ⟨⟨⟨by omega, by omega⟩, by unfold strN kinN; rw [show x.toInt - 1 = x.toInt + -1 by omega]; omega⟩, by omega⟩⟩⟩⟩
  · refine lv_iconst (v := (-1)) hx hb dX12_oddBy_9 (by decide) (ti_c (-1) (by decide) fun z104 hz104 => ?_)
    exact r_iret C hw hr hlk rfl (Nat.le_of_ble_eq_true rfl) (Nat.le_of_ble_eq_true rfl) dX12_oddBy_10 ⟨rfl, rfl, rfl, rfl, hsz, ⟨_, rfl, Or.inl ⟨by omega, by omega⟩⟩⟩

set_option maxHeartbeats 4000000 in
set_option maxRecDepth 100000 in
theorem t_X12_mendE {τ : Tp} {φ : Option Int} (l : Launch) (B : Nat) (D : va_G) (cA : Nat → ClassId) (kd : sK) (ig : sI) (rg : sR) (lg : sG) (sz : Nat) (x : Int32) (σ : Sg) (π : Ps) (hM : SM B σ π ig) (hU : FMm B σ ig) (hW : WS σ π) (hI : IM τ φ none B kd ig rg) : MC l B D cA yX12_mend cX12_mend 3 (some .int) (rL 33 0 0) [.ref (B + 49), .int x] kd ig rg lg sz (PM τ φ none B [49, 54, 55, 56, 57, 58, 59, 60, 61, 63, 64, 65, 66, 67, 68, 69, 70, 71, 72, 73, 74, 76, 77, 78] kd ig rg lg (fun r ig' lg' => ∃ z : Int32, r = some (.int z) ∧ (∃ σ' π', SM B σ' π' ig' ∧ FMm B σ' ig' ∧ stM σ π x.toInt σ' π'))) := by
  refine MC.of (own := RX12) (by decide +kernel) rfl (Nat.le_of_ble_eq_true rfl) ?_
  intro p e s m args below meth c ls C hr hlk hnm hw hsz hl
  have hx := C.1.1
  have hb := C.1.2.1
  have hown := C.1.2.2.2.1
  have hts := C.1.2.2.2.2
  have hl : lv_has ls 3 [(0, .ref (B + 49)), (1, .int x)] := hl
  have hF : Ft B [49, 54, 55, 56, 57, 58, 59, 60, 61, 63, 64, 65, 66, 67, 68, 69, 70, 71, 72, 73, 74, 76, 77, 78] ig lg ig lg := Ft.rf
  have hsh := hI.sh
  have hrm := hI.rm
  refine lv_aload_n hx hb dX12_mend_0 rfl (lv_at hl 0 rfl) ?_
  refine lv_iconst (v := 0) hx hb dX12_mend_1 (by decide) (ti_c 0 (by decide) fun z1 hz1 => ?_)
  refine r_puti C hw (hsh 49 _ rfl) fl_X12_1 rfl rfl rfl dX12_mend_2 (fun H locs hH hw => ?_)
  obtain ⟨ig2, eig2⟩ : ∃ f, f = up2 ig (B + 49) 0 z1 := ⟨_, rfl⟩
  rw [← eig2] at hw
  have hF : Ft B [49, 54, 55, 56, 57, 58, 59, 60, 61, 63, 64, 65, 66, 67, 68, 69, 70, 71, 72, 73, 74, 76, 77, 78] ig lg ig2 lg := by rw [eig2]; exact hF.pi (by decide)
  have hI : IM τ φ none B kd ig2 rg := by rw [eig2]; exact hI.pi (by decide) (show okR none _ from trivial)
  have hM : SM B σ π ig2 := by rw [eig2]; exact hM.wr (by decide)
  have hU : FMm B σ ig2 := by rw [eig2]; exact hU.wr (by decide)
  refine lv_iload_n hx hb dX12_mend_5 rfl (lv_at hl 1 rfl) ?_
  refine r_callS (As := [.int x]) (rest := []) C hw (t_X12_isPlace l B D cA kd ig2 rg lg _ x  hI) ss_X12_198 rfl hl.1 rfl (Nat.le_of_ble_eq_true rfl) ⟨Nat.le_of_ble_eq_true rfl, Nat.le_of_ble_eq_true rfl⟩ ⟨Nat.le_of_ble_eq_true rfl, Nat.le_of_ble_eq_true rfl⟩ dX12_mend_6 (fun r7 kd3 ig4 rg5 lg6 H locs hw hH hp8 => ?_)
  obtain ⟨rfl, rfl, rfl, rfl, hzhp8, hrhp8⟩ := hp8
  obtain ⟨z9, rfl, hz9⟩ := hrhp8
  refine z_eq (tgt := 20) hx hb dX12_mend_9 (by decide) (fun c9 => ?_) (fun c9 => ?_)
  · refine lv_iconst (v := (-1)) hx hb dX12_mend_20 (by decide) (ti_c (-1) (by decide) fun z10 hz10 => ?_)
    refine lv_istore_n (lv' := [(2, .int z10), (0, .ref (B + 49)), (1, .int x)]) hx hb dX12_mend_21 rfl hl (by decide) rfl (fun ls hl => ?_)
    refine lv_iload_n hx hb dX12_mend_22 rfl (lv_at hl 0 rfl) ?_
    refine z_lt (tgt := 35) hx hb dX12_mend_23 (by decide) (fun c23 => ?_) (fun c23 => ?_)
    · refine lv_iconst (v := (-1)) hx hb dX12_mend_35 (by decide) (ti_c (-1) (by decide) fun z11 hz11 => ?_)
      exact r_iret C hw hr hlk rfl (Nat.le_of_ble_eq_true rfl) (Nat.le_of_ble_eq_true rfl) dX12_mend_36 ⟨rfl, rfl, hI, hF, ⟨_, rfl, ⟨_, _, hM, hU, ⟨famZ B ig2, -1, hU.far, Or.inl ⟨by rw [atC_off (by omega)]; rfl, rfl⟩, Or.inl ⟨fun w => w.1 rfl, rfl, rfl⟩⟩⟩⟩⟩
    · refine lv_aload_n hx hb dX12_mend_26 rfl (lv_at hl 1 rfl) ?_
      refine lv_iload_n hx hb dX12_mend_27 rfl (lv_at hl 0 rfl) ?_
      refine lv_iload_n hx hb dX12_mend_28 rfl (lv_at hl 2 rfl) ?_
      refine r_callV (As := [.int z10, .int x]) (rest := []) C hw (t_X12_makesCopyE l B D cA kd ig2 rg lg _ z10 x (by omega) (by omega) σ π hM hW hI) sv_X12_210 (hsh 49 _ rfl) rfl hl.1 rfl (Nat.le_of_ble_eq_true rfl) ⟨Nat.le_of_ble_eq_true rfl, Nat.le_of_ble_eq_true rfl⟩ ⟨Nat.le_of_ble_eq_true rfl, Nat.le_of_ble_eq_true rfl⟩ dX12_mend_29 (fun r16 kd12 ig13 rg14 lg15 H locs hw hH hp17 => ?_)
      obtain ⟨rfl, rfl, hI, hchp17, hrhp17⟩ := hp17
      have hF : Ft B [49, 54, 55, 56, 57, 58, 59, 60, 61, 63, 64, 65, 66, 67, 68, 69, 70, 71, 72, 73, 74, 76, 77, 78] ig lg ig13 lg15 := Ft.tr hF hchp17 (by decide) (by decide)
      obtain ⟨z18, rfl, hz18⟩ := hrhp17
      obtain ⟨hM, mw, hRf, mb⟩ := hz18
      have hU := hU.ft hchp17 (by decide)
      refine z_ne (tgt := 37) hx hb dX12_mend_32 (by decide) (fun c32 => ?_) (fun c32 => ?_)
      · have hwp : WP B ig13 288 := mw (by omega)
        have hD : RowM B ig13 288 ((x.toInt.toNat : Nat) : Int) (wuC (σ z10.toInt.toNat)) := by rw [show ((x.toInt.toNat : Nat) : Int) = x.toInt by omega]; exact hRf
        refine lv_aload_n hx hb dX12_mend_37 rfl (lv_at hl 1 rfl) ?_
        have hI := hI.su (f := (ig13 (B + 49) 19).toInt) rfl
        refine r_callV (As := []) (rest := []) C hw (t_X12_remembers l B D cA kd ig13 rg lg15 _   hI) sv_X12_342 (hsh 49 _ rfl) rfl hl.1 rfl (Nat.le_of_ble_eq_true rfl) ⟨Nat.le_of_ble_eq_true rfl, Nat.le_of_ble_eq_true rfl⟩ ⟨Nat.le_of_ble_eq_true rfl, Nat.le_of_ble_eq_true rfl⟩ dX12_mend_38 (fun r23 kd19 ig20 rg21 lg22 H locs hw hH hp24 => ?_)
        obtain ⟨rfl, rfl, hI, hchp24, hrhp24⟩ := hp24
        have hF : Ft B [49, 54, 55, 56, 57, 58, 59, 60, 61, 63, 64, 65, 66, 67, 68, 69, 70, 71, 72, 73, 74, 76, 77, 78] ig lg ig20 lg22 := Ft.tr hF hchp24 (by decide) (by decide)
        obtain rfl := hrhp24
        have e19 := hI.u
        have hI := hI.nu
        have hM := hM.ft hchp24 (by decide) e19
        have hU := hU.ft hchp24 (by decide)
        have hwp : WP B ig20 288 := WP.ft hwp hchp24 (by decide) (by decide) (by decide) (by decide) (by decide)
        have hD := hD.ft hchp24 (by decide)
        refine lv_aload_n hx hb dX12_mend_41 rfl (lv_at hl 1 rfl) ?_
        refine lv_iload_n hx hb dX12_mend_42 rfl (lv_at hl 2 rfl) ?_
        refine r_callV (As := [.int x]) (rest := []) C hw (t_X12_putsE l B D cA kd ig20 rg lg22 _ x (by omega) hwp σ π hM _ hD hI) sv_X12_207 (hsh 49 _ rfl) rfl hl.1 rfl (Nat.le_of_ble_eq_true rfl) ⟨Nat.le_of_ble_eq_true rfl, Nat.le_of_ble_eq_true rfl⟩ ⟨Nat.le_of_ble_eq_true rfl, Nat.le_of_ble_eq_true rfl⟩ dX12_mend_43 (fun r29 kd25 ig26 rg27 lg28 H locs hw hH hp30 => ?_)
        obtain ⟨rfl, rfl, hI, hchp30, hrhp30⟩ := hp30
        have hF : Ft B [49, 54, 55, 56, 57, 58, 59, 60, 61, 63, 64, 65, 66, 67, 68, 69, 70, 71, 72, 73, 74, 76, 77, 78] ig lg ig26 lg28 := Ft.tr hF hchp30 (by decide) (by decide)
        obtain ⟨rfl, hvhp30⟩ := hrhp30
        obtain ⟨hM, hU⟩ := hvhp30
        refine lv_aload_n hx hb dX12_mend_46 rfl (lv_at hl 1 rfl) ?_
        have hI := hI.su (f := (ig26 (B + 49) 19).toInt) rfl
        refine r_callV (As := []) (rest := []) C hw (t_X12_tells l B D cA kd ig26 rg lg28 _   hI) sv_X12_345 (hsh 49 _ rfl) rfl hl.1 rfl (Nat.le_of_ble_eq_true rfl) ⟨Nat.le_of_ble_eq_true rfl, Nat.le_of_ble_eq_true rfl⟩ ⟨Nat.le_of_ble_eq_true rfl, Nat.le_of_ble_eq_true rfl⟩ dX12_mend_47 (fun r35 kd31 ig32 rg33 lg34 H locs hw hH hp36 => ?_)
        obtain ⟨rfl, rfl, hI, hchp36, hrhp36⟩ := hp36
        have hF : Ft B [49, 54, 55, 56, 57, 58, 59, 60, 61, 63, 64, 65, 66, 67, 68, 69, 70, 71, 72, 73, 74, 76, 77, 78] ig lg ig32 lg34 := Ft.tr hF hchp36 (by decide) (by decide)
        obtain ⟨z37, rfl, hz37⟩ := hrhp36
        have e19 := hI.u
        have hI := hI.nu
        have hM := hM.ft hchp36 (by decide) e19
        have hU := hU.ft hchp36 (by decide)
        exact r_iret C hw hr hlk rfl (Nat.le_of_ble_eq_true rfl) (Nat.le_of_ble_eq_true rfl) dX12_mend_50 ⟨rfl, rfl, hI, hF, ⟨_, rfl, (by exfalso; omega)⟩⟩
      · refine lv_iconst (v := (-1)) hx hb dX12_mend_35 (by decide) (ti_c (-1) (by decide) fun z38 hz38 => ?_)
        exact r_iret C hw hr hlk rfl (Nat.le_of_ble_eq_true rfl) (Nat.le_of_ble_eq_true rfl) dX12_mend_36 ⟨rfl, rfl, hI, hF, ⟨_, rfl, (by exfalso; omega)⟩⟩
  · refine lv_aload_n hx hb dX12_mend_12 rfl (lv_at hl 0 rfl) ?_
    refine lv_iload_n hx hb dX12_mend_13 rfl (lv_at hl 1 rfl) ?_
    refine r_callV (As := [.int x]) (rest := []) C hw (t_X12_oddByE l B D cA kd ig2 rg lg _ x (by omega) σ π hM hU hI) sv_X12_327 (hsh 49 _ rfl) rfl hl.1 rfl (Nat.le_of_ble_eq_true rfl) ⟨Nat.le_of_ble_eq_true rfl, Nat.le_of_ble_eq_true rfl⟩ ⟨Nat.le_of_ble_eq_true rfl, Nat.le_of_ble_eq_true rfl⟩ dX12_mend_14 (fun r43 kd39 ig40 rg41 lg42 H locs hw hH hp44 => ?_)
    obtain ⟨rfl, rfl, rfl, rfl, hzhp44, hrhp44⟩ := hp44
    obtain ⟨z45, rfl, hz45⟩ := hrhp44
    have odd9 := hz45
    have faz := hU.far
    have odb : z45.toInt = -1 ∨ (0 ≤ z45.toInt ∧ z45.toInt < 288) := (by rcases odd9 with ⟨-, q⟩ | ⟨-, ⟨q1, q⟩ | ⟨-, q1, q⟩ | ⟨-, -, q⟩⟩; omega; (have w := q1.2.1.1; omega); (have w := q1.1.1; omega); omega)
    refine lv_goto (tgt := 21) hx hb dX12_mend_17 (by decide) ?_
    refine lv_istore_n (lv' := [(2, .int z45), (0, .ref (B + 49)), (1, .int x)]) hx hb dX12_mend_21 rfl hl (by decide) rfl (fun ls hl => ?_)
    refine lv_iload_n hx hb dX12_mend_22 rfl (lv_at hl 0 rfl) ?_
    refine z_lt (tgt := 35) hx hb dX12_mend_23 (by decide) (fun c23 => ?_) (fun c23 => ?_)
    · refine lv_iconst (v := (-1)) hx hb dX12_mend_35 (by decide) (ti_c (-1) (by decide) fun z46 hz46 => ?_)
      exact r_iret C hw hr hlk rfl (Nat.le_of_ble_eq_true rfl) (Nat.le_of_ble_eq_true rfl) dX12_mend_36 ⟨rfl, rfl, hI, hF, ⟨_, rfl, ⟨_, _, hM, hU, ⟨(famZ B ig2), _, faz, odd9, Or.inl ⟨fun w => by have w1 := w.1; omega, rfl, rfl⟩⟩⟩⟩⟩
    · refine lv_aload_n hx hb dX12_mend_26 rfl (lv_at hl 1 rfl) ?_
      refine lv_iload_n hx hb dX12_mend_27 rfl (lv_at hl 0 rfl) ?_
      refine lv_iload_n hx hb dX12_mend_28 rfl (lv_at hl 2 rfl) ?_
      refine r_callV (As := [.int z45, .int x]) (rest := []) C hw (t_X12_makesCopyE l B D cA kd ig2 rg lg _ z45 x (by omega) (by omega) σ π hM hW hI) sv_X12_210 (hsh 49 _ rfl) rfl hl.1 rfl (Nat.le_of_ble_eq_true rfl) ⟨Nat.le_of_ble_eq_true rfl, Nat.le_of_ble_eq_true rfl⟩ ⟨Nat.le_of_ble_eq_true rfl, Nat.le_of_ble_eq_true rfl⟩ dX12_mend_29 (fun r51 kd47 ig48 rg49 lg50 H locs hw hH hp52 => ?_)
      obtain ⟨rfl, rfl, hI, hchp52, hrhp52⟩ := hp52
      have hF : Ft B [49, 54, 55, 56, 57, 58, 59, 60, 61, 63, 64, 65, 66, 67, 68, 69, 70, 71, 72, 73, 74, 76, 77, 78] ig lg ig48 lg50 := Ft.tr hF hchp52 (by decide) (by decide)
      obtain ⟨z53, rfl, hz53⟩ := hrhp52
      obtain ⟨hM, mw, hRf, mb⟩ := hz53
      have hU := hU.ft hchp52 (by decide)
      refine z_ne (tgt := 37) hx hb dX12_mend_32 (by decide) (fun c32 => ?_) (fun c32 => ?_)
      · have hwp : WP B ig48 288 := mw (by omega)
        have hD : RowM B ig48 288 ((x.toInt.toNat : Nat) : Int) (wuC (σ z45.toInt.toNat)) := by rw [show ((x.toInt.toNat : Nat) : Int) = x.toInt by omega]; exact hRf
        refine lv_aload_n hx hb dX12_mend_37 rfl (lv_at hl 1 rfl) ?_
        have hI := hI.su (f := (ig48 (B + 49) 19).toInt) rfl
        refine r_callV (As := []) (rest := []) C hw (t_X12_remembers l B D cA kd ig48 rg lg50 _   hI) sv_X12_342 (hsh 49 _ rfl) rfl hl.1 rfl (Nat.le_of_ble_eq_true rfl) ⟨Nat.le_of_ble_eq_true rfl, Nat.le_of_ble_eq_true rfl⟩ ⟨Nat.le_of_ble_eq_true rfl, Nat.le_of_ble_eq_true rfl⟩ dX12_mend_38 (fun r58 kd54 ig55 rg56 lg57 H locs hw hH hp59 => ?_)
        obtain ⟨rfl, rfl, hI, hchp59, hrhp59⟩ := hp59
        have hF : Ft B [49, 54, 55, 56, 57, 58, 59, 60, 61, 63, 64, 65, 66, 67, 68, 69, 70, 71, 72, 73, 74, 76, 77, 78] ig lg ig55 lg57 := Ft.tr hF hchp59 (by decide) (by decide)
        obtain rfl := hrhp59
        have e19 := hI.u
        have hI := hI.nu
        have hM := hM.ft hchp59 (by decide) e19
        have hU := hU.ft hchp59 (by decide)
        have hwp : WP B ig55 288 := WP.ft hwp hchp59 (by decide) (by decide) (by decide) (by decide) (by decide)
        have hD := hD.ft hchp59 (by decide)
        refine lv_aload_n hx hb dX12_mend_41 rfl (lv_at hl 1 rfl) ?_
        refine lv_iload_n hx hb dX12_mend_42 rfl (lv_at hl 2 rfl) ?_
        refine r_callV (As := [.int x]) (rest := []) C hw (t_X12_putsE l B D cA kd ig55 rg lg57 _ x (by omega) hwp σ π hM _ hD hI) sv_X12_207 (hsh 49 _ rfl) rfl hl.1 rfl (Nat.le_of_ble_eq_true rfl) ⟨Nat.le_of_ble_eq_true rfl, Nat.le_of_ble_eq_true rfl⟩ ⟨Nat.le_of_ble_eq_true rfl, Nat.le_of_ble_eq_true rfl⟩ dX12_mend_43 (fun r64 kd60 ig61 rg62 lg63 H locs hw hH hp65 => ?_)
        obtain ⟨rfl, rfl, hI, hchp65, hrhp65⟩ := hp65
        have hF : Ft B [49, 54, 55, 56, 57, 58, 59, 60, 61, 63, 64, 65, 66, 67, 68, 69, 70, 71, 72, 73, 74, 76, 77, 78] ig lg ig61 lg63 := Ft.tr hF hchp65 (by decide) (by decide)
        obtain ⟨rfl, hvhp65⟩ := hrhp65
        obtain ⟨hM, hU⟩ := hvhp65
        refine lv_aload_n hx hb dX12_mend_46 rfl (lv_at hl 1 rfl) ?_
        have hI := hI.su (f := (ig61 (B + 49) 19).toInt) rfl
        refine r_callV (As := []) (rest := []) C hw (t_X12_tells l B D cA kd ig61 rg lg63 _   hI) sv_X12_345 (hsh 49 _ rfl) rfl hl.1 rfl (Nat.le_of_ble_eq_true rfl) ⟨Nat.le_of_ble_eq_true rfl, Nat.le_of_ble_eq_true rfl⟩ ⟨Nat.le_of_ble_eq_true rfl, Nat.le_of_ble_eq_true rfl⟩ dX12_mend_47 (fun r70 kd66 ig67 rg68 lg69 H locs hw hH hp71 => ?_)
        obtain ⟨rfl, rfl, hI, hchp71, hrhp71⟩ := hp71
        have hF : Ft B [49, 54, 55, 56, 57, 58, 59, 60, 61, 63, 64, 65, 66, 67, 68, 69, 70, 71, 72, 73, 74, 76, 77, 78] ig lg ig67 lg69 := Ft.tr hF hchp71 (by decide) (by decide)
        obtain ⟨z72, rfl, hz72⟩ := hrhp71
        have e19 := hI.u
        have hI := hI.nu
        have hM := hM.ft hchp71 (by decide) e19
        have hU := hU.ft hchp71 (by decide)
        exact r_iret C hw hr hlk rfl (Nat.le_of_ble_eq_true rfl) (Nat.le_of_ble_eq_true rfl) dX12_mend_50 ⟨rfl, rfl, hI, hF, ⟨_, rfl, ⟨_, _, hM, hU, ⟨(famZ B ig2), _, faz, odd9, Or.inr ⟨⟨by omega, by rw [atC_on (by omega)]; exact by1 mb (by omega)⟩, by rw [atC_on (σ := σ) (x := z45.toInt) (by omega)], rfl⟩⟩⟩⟩⟩
      · refine lv_iconst (v := (-1)) hx hb dX12_mend_35 (by decide) (ti_c (-1) (by decide) fun z73 hz73 => ?_)
        exact r_iret C hw hr hlk rfl (Nat.le_of_ble_eq_true rfl) (Nat.le_of_ble_eq_true rfl) dX12_mend_36 ⟨rfl, rfl, hI, hF, ⟨_, rfl, ⟨_, _, hM, hU, ⟨(famZ B ig2), _, faz, odd9, Or.inl ⟨fun w => by0 mb (by omega) (by have w2 := w.2; rw [atC_on (by omega)] at w2; exact w2), rfl, rfl⟩⟩⟩⟩⟩
