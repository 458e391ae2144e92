def RXgoPartV (τ : Tp) (φ υ : Option Int) (l : Launch) (B : Nat) (D : va_G) (cA : Nat → ClassId) (d : Nat) : Prop := ∀ (kd : sK) (ig : sI) (rg : sR) (lg : sG) (sz : Nat) (q n8 a b : Nat) (R : Rw) (vv ee : Vl) (X9 : Fm), GoS B q n8 R vv ee ig → iP R d a b X9 → b ≤ n8 → (ig (B + 49) 31).toInt = 120 * (q : Int) + (a : Int) → (ig (B + 49) 32).toInt = 120 * (q : Int) + (n8 : Int) → IM τ φ υ B kd ig rg → MC l B D cA yX12_goPart cX12_goPart 3 (some .int) (rL (3 * d + 3) 0 0) [.ref (B + 49)] kd ig rg lg sz (PM τ φ υ B [49] kd ig rg lg (fun r ig' lg' => ∃ z : Int32, r = some (.int z) ∧ (((ig' (B + 49) 31).toInt = 120 * (q : Int) + (b : Int) ∧ (ig' (B + 49) 32).toInt = (ig (B + 49) 32).toInt) ∧ EvP vv ee (q : Int) X9 (ig (B + 49) 33) z (ig' (B + 49) 33))))
def RXgoProductV (τ : Tp) (φ υ : Option Int) (l : Launch) (B : Nat) (D : va_G) (cA : Nat → ClassId) (d : Nat) : Prop := ∀ (kd : sK) (ig : sI) (rg : sR) (lg : sG) (sz : Nat) (q n8 a b : Nat) (R : Rw) (vv ee : Vl) (X9 : Fm), GoS B q n8 R vv ee ig → iPd R d a b X9 → b ≤ n8 → (ig (B + 49) 31).toInt = 120 * (q : Int) + (a : Int) → (ig (B + 49) 32).toInt = 120 * (q : Int) + (n8 : Int) → IM τ φ υ B kd ig rg → MC l B D cA yX12_goProduct cX12_goProduct 4 (some .int) (rL (3 * d + 4) 0 0) [.ref (B + 49)] kd ig rg lg sz (PM τ φ υ B [49] kd ig rg lg (fun r ig' lg' => ∃ z : Int32, r = some (.int z) ∧ (((ig' (B + 49) 31).toInt = 120 * (q : Int) + (b : Int) ∧ (ig' (B + 49) 32).toInt = (ig (B + 49) 32).toInt) ∧ EvP vv ee (q : Int) X9 (ig (B + 49) 33) z (ig' (B + 49) 33))))
def RXgoEV (τ : Tp) (φ υ : Option Int) (l : Launch) (B : Nat) (D : va_G) (cA : Nat → ClassId) (d : Nat) : Prop := ∀ (kd : sK) (ig : sI) (rg : sR) (lg : sG) (sz : Nat) (q n8 a b : Nat) (R : Rw) (vv ee : Vl) (X9 : Fm), GoS B q n8 R vv ee ig → iE R d a b X9 → b ≤ n8 → (ig (B + 49) 31).toInt = 120 * (q : Int) + (a : Int) → (ig (B + 49) 32).toInt = 120 * (q : Int) + (n8 : Int) → IM τ φ υ B kd ig rg → MC l B D cA yX12_goE cX12_goE 4 (some .int) (rL (3 * d + 5) 0 0) [.ref (B + 49)] kd ig rg lg sz (PM τ φ υ B [49] kd ig rg lg (fun r ig' lg' => ∃ z : Int32, r = some (.int z) ∧ (((ig' (B + 49) 31).toInt = 120 * (q : Int) + (b : Int) ∧ (ig' (B + 49) 32).toInt = (ig (B + 49) 32).toInt) ∧ EvP vv ee (q : Int) X9 (ig (B + 49) 33) z (ig' (B + 49) 33))))

set_option maxHeartbeats 4000000 in
set_option maxRecDepth 100000 in
theorem t_X12_goPartV {υ : Option Int} {τ : Tp} {φ : Option Int} (l : Launch) (B : Nat) (D : va_G) (cA : Nat → ClassId) (kd : sK) (ig : sI) (rg : sR) (lg : sG) (sz : Nat) (d q n8 a b : Nat) (R : Rw) (vv ee : Vl) (X9 : Fm) (hrec : ∀ d1, d = d1 + 1 → RXgoPartV τ φ υ l B D cA d1 ∧ RXgoEV τ φ υ l B D cA d1) (hG : GoS B q n8 R vv ee ig) (hP : iP R d a b X9) (hbn : b ≤ n8) (hgo : (ig (B + 49) 31).toInt = 120 * (q : Int) + (a : Int)) (hen : (ig (B + 49) 32).toInt = 120 * (q : Int) + (n8 : Int)) (hI : IM τ φ υ B kd ig rg) : MC l B D cA yX12_goPart cX12_goPart 3 (some .int) (rL (3 * d + 3) 0 0) [.ref (B + 49)] kd ig rg lg sz (PM τ φ υ B [49] kd ig rg lg (fun r ig' lg' => ∃ z : Int32, r = some (.int z) ∧ (((ig' (B + 49) 31).toInt = 120 * (q : Int) + (b : Int) ∧ (ig' (B + 49) 32).toInt = (ig (B + 49) 32).toInt) ∧ EvP vv ee (q : Int) X9 (ig (B + 49) 33) z (ig' (B + 49) 33)))) := by
  refine MC.of (own := RX12) (by decide +kernel) rfl (Nat.le_of_ble_eq_true rfl) ?_
  intro p e s m args below meth c ls C hr hlk hnm hw hsz hl
  have hx := C.1.1
  have hb := C.1.2.1
  have hown := C.1.2.2.2.1
  have hts := C.1.2.2.2.2
  have hl : lv_has ls 3 [(0, .ref (B + 49))] := hl
  have hF : Ft B [49] ig lg ig lg := Ft.rf
  have hsh := hI.sh
  have hrm := hI.rm
  refine lv_aload_n hx hb dX12_goPart_0 rfl (lv_at hl 0 rfl) ?_
  refine r_get C hw (hsh 49 _ rfl) fl_X12_241 (oV_i rfl) dX12_goPart_1 (ti_c (ig (B + 49) 31).toInt rfl fun z1 hz1 => ?_)
  refine lv_istore_n (lv' := [(1, .int z1), (0, .ref (B + 49))]) hx hb dX12_goPart_4 rfl hl (by decide) rfl (fun ls hl => ?_)
  have ei : z1.toInt.toNat = 120 * q + a := by omega
  have ltP := iP.lt d _ _ _ hP
  have hRa := hG.ri (a := a) (by omega)
  have hO9 := hG.2.2.2.2 a (by omega)
  have hq9 := hG.2.2.2.1
  have hka : (R a).1 = (ig (B + 54) (120 * q + a)).toInt := by rw [hRa, itR_k]; rfl
  refine lv_aload_n hx hb dX12_goPart_5 rfl (lv_at hl 1 rfl) ?_
  refine lv_dup hx hb dX12_goPart_6 rfl ?_
  refine r_get C hw (hsh 49 _ rfl) fl_X12_241 (oV_i rfl) dX12_goPart_7 (ti_c (ig (B + 49) 31).toInt rfl fun z2 hz2 => ?_)
  refine lv_iconst (v := 1) hx hb dX12_goPart_10 (by decide) (ti_c 1 (by decide) fun z3 hz3 => ?_)
  refine lv_iadd hx hb dX12_goPart_11 (tc_add fun z4 hz4 => ?_)
  first | replace hz4 := hz4 (by omega) | clear hz4
  refine r_puti C hw (hsh 49 _ rfl) fl_X12_241 rfl rfl rfl dX12_goPart_12 (fun H locs hH hw => ?_)
  obtain ⟨ig5, eig5⟩ : ∃ f, f = up2 ig (B + 49) 31 z4 := ⟨_, rfl⟩
  rw [← eig5] at hw
  have hF : Ft B [49] ig lg ig5 lg := by rw [eig5]; exact hF.pi (by decide)
  have hI : IM τ φ υ B kd ig5 rg := by rw [eig5]; exact hI.pi (by decide) (show okR none _ from trivial)
  have wig5 : (ig5 (B + 49) 31).toInt = z4.toInt := by rw [eig5, up2_eq]
  have wig5_49_32 : (ig5 (B + 49) 32).toInt = (ig (B + 49) 32).toInt := by rw [eig5, up2_j (by decide)]
  refine lv_aload_n hx hb dX12_goPart_15 rfl (lv_at hl 1 rfl) ?_
  refine r_get C hw (hsh 49 _ rfl) fl_X12_65 (oV_r rfl (hrm (49, 9, 54) (by decide))) dX12_goPart_16 ?_
  refine lv_iload_n hx hb dX12_goPart_19 rfl (lv_at hl 0 rfl) ?_
  refine r_iald C hw (hsh 54 _ rfl) (by omega) (by omega) dX12_goPart_20 (ti_c (ig5 (B + 54) z1.toInt.toNat).toInt rfl fun z6 hz6 => ?_)
  rw [Ft.i hF 54 _ (by decide)] at hz6
  try simp only [ei] at hz6
  refine z_ne (tgt := 31) hx hb dX12_goPart_21 (by decide) (fun c21 => ?_) (fun c21 => ?_)
  · refine lv_aload_n hx hb dX12_goPart_31 rfl (lv_at hl 1 rfl) ?_
    refine r_get C hw (hsh 49 _ rfl) fl_X12_65 (oV_r rfl (hrm (49, 9, 54) (by decide))) dX12_goPart_32 ?_
    refine lv_iload_n hx hb dX12_goPart_35 rfl (lv_at hl 0 rfl) ?_
    refine r_iald C hw (hsh 54 _ rfl) (by omega) (by omega) dX12_goPart_36 (ti_c (ig5 (B + 54) z1.toInt.toNat).toInt rfl fun z8 hz8 => ?_)
    rw [Ft.i hF 54 _ (by decide)] at hz8
    try simp only [ei] at hz8
    refine lv_iconst (v := 3) hx hb dX12_goPart_37 (by decide) (ti_c 3 (by decide) fun z10 hz10 => ?_)
    refine b_ne (tgt := 62) hx hb dX12_goPart_38 (by decide) (fun c38 => ?_) (fun c38 => ?_)
    · refine lv_aload_n hx hb dX12_goPart_62 rfl (lv_at hl 1 rfl) ?_
      refine r_get C hw (hsh 49 _ rfl) fl_X12_65 (oV_r rfl (hrm (49, 9, 54) (by decide))) dX12_goPart_63 ?_
      refine lv_iload_n hx hb dX12_goPart_66 rfl (lv_at hl 0 rfl) ?_
      refine r_iald C hw (hsh 54 _ rfl) (by omega) (by omega) dX12_goPart_67 (ti_c (ig5 (B + 54) z1.toInt.toNat).toInt rfl fun z11 hz11 => ?_)
      rw [Ft.i hF 54 _ (by decide)] at hz11
      try simp only [ei] at hz11
      refine lv_iconst (v := 2) hx hb dX12_goPart_68 (by decide) (ti_c 2 (by decide) fun z13 hz13 => ?_)
      refine b_ne (tgt := 91) hx hb dX12_goPart_69 (by decide) (fun c69 => ?_) (fun c69 => ?_)
      · refine lv_aload_n hx hb dX12_goPart_91 rfl (lv_at hl 1 rfl) ?_
        refine r_get C hw (hsh 49 _ rfl) fl_X12_68 (oV_r rfl (hrm (49, 10, 55) (by decide))) dX12_goPart_92 ?_
        refine lv_iload_n hx hb dX12_goPart_95 rfl (lv_at hl 0 rfl) ?_
        refine r_iald C hw (hsh 55 _ rfl) (by omega) (by omega) dX12_goPart_96 (ti_c (ig5 (B + 55) z1.toInt.toNat).toInt rfl fun z14 hz14 => ?_)
        rw [Ft.i hF 55 _ (by decide)] at hz14
        try simp only [ei] at hz14
        refine lv_bipush (v := 45) hx hb dX12_goPart_97 (by decide) (ti_c 45 (by decide) fun z16 hz16 => ?_)
        refine b_ne (tgt := 108) hx hb dX12_goPart_99 (by decide) (fun c99 => ?_) (fun c99 => ?_)
        · have hra2 : z14.toInt = (R a).2 := by rw [hRa, itR_a (show mK B ig (120 * q + a) ≠ 3 by show (ig (B + 54) (120 * q + a)).toInt ≠ 3; omega) (show mK B ig (120 * q + a) ≠ 2 by show (ig (B + 54) (120 * q + a)).toInt ≠ 2; omega)]; exact hz14
          obtain ⟨d1, b9, y9, hd1, hp9, rb9, ec9, ex9⟩ := iP.inv40 hP (by rw [hka]; omega) (by rw [hka]; omega) (by rw [hka]; omega) (by rw [← hra2]; omega)
          subst hd1
          obtain ⟨hP1, hE1⟩ := hrec d1 rfl
          have lt9 := iE.lt hp9
          refine lv_aload_n hx hb dX12_goPart_108 rfl (lv_at hl 1 rfl) ?_
          refine r_callV (As := []) (rest := []) C hw (hE1 kd ig5 rg lg _  q n8 (a + 1) b9 R vv ee y9 (hG.ft hF) hp9 (by omega) (by omega) (by omega) hI) sv_X12_250 (hsh 49 _ rfl) rfl hl.1 rfl (Nat.le_of_ble_eq_true rfl) ⟨by simp only [rL]; omega, by simp only [rL]; omega⟩ ⟨Nat.le_of_ble_eq_true rfl, Nat.le_of_ble_eq_true rfl⟩ dX12_goPart_109 (fun r21 kd17 ig18 rg19 lg20 H locs hw hH hp22 => ?_)
          obtain ⟨rfl, rfl, hI, hchp22, hrhp22⟩ := hp22
          have hF : Ft B [49] ig lg ig18 lg20 := Ft.tr hF hchp22 (by decide) (by decide)
          obtain ⟨z23, rfl, hz23⟩ := hrhp22
          have rv9 := hz23
          have rv1 := rv9.1
          refine lv_istore_n (lv' := [(2, .int z23), (1, .int z1), (0, .ref (B + 49))]) hx hb dX12_goPart_112 rfl hl (by decide) rfl (fun ls hl => ?_)
          refine lv_aload_n hx hb dX12_goPart_113 rfl (lv_at hl 2 rfl) ?_
          refine lv_dup hx hb dX12_goPart_114 rfl ?_
          refine r_get C hw (hsh 49 _ rfl) fl_X12_241 (oV_i rfl) dX12_goPart_115 (ti_c (ig18 (B + 49) 31).toInt rfl fun z24 hz24 => ?_)
          refine lv_iconst (v := 1) hx hb dX12_goPart_118 (by decide) (ti_c 1 (by decide) fun z25 hz25 => ?_)
          refine lv_iadd hx hb dX12_goPart_119 (tc_add fun z26 hz26 => ?_)
          first | replace hz26 := hz26 (by omega) | clear hz26
          refine r_puti C hw (hsh 49 _ rfl) fl_X12_241 rfl rfl rfl dX12_goPart_120 (fun H locs hH hw => ?_)
          obtain ⟨ig27, eig27⟩ : ∃ f, f = up2 ig18 (B + 49) 31 z26 := ⟨_, rfl⟩
          rw [← eig27] at hw
          have hF : Ft B [49] ig lg ig27 lg20 := by rw [eig27]; exact hF.pi (by decide)
          have hI : IM τ φ υ B kd ig27 rg := by rw [eig27]; exact hI.pi (by decide) (show okR none _ from trivial)
          have wig27 : (ig27 (B + 49) 31).toInt = z26.toInt := by rw [eig27, up2_eq]
          have wig27_49_32 : (ig27 (B + 49) 32).toInt = (ig18 (B + 49) 32).toInt := by rw [eig27, up2_j (by decide)]
          refine lv_iload_n hx hb dX12_goPart_123 rfl (lv_at hl 0 rfl) ?_
          exact r_iret C hw hr hlk rfl (Nat.le_of_ble_eq_true rfl) (Nat.le_of_ble_eq_true rfl) dX12_goPart_124 ⟨rfl, rfl, hI, hF, ⟨_, rfl, ⟨⟨by omega, by omega⟩, (by have q9 := rv9.2; rw [show ig5 (B + 49) 33 = ig (B + 49) 33 by rw [eig5, up2_j (by decide)]] at q9; rw [ex9, eig27, up2_j (by decide)]; exact EvP.par q9)⟩⟩⟩
        · have hra2 : z14.toInt = (R a).2 := by rw [hRa, itR_a (show mK B ig (120 * q + a) ≠ 3 by show (ig (B + 54) (120 * q + a)).toInt ≠ 3; omega) (show mK B ig (120 * q + a) ≠ 2 by show (ig (B + 54) (120 * q + a)).toInt ≠ 2; omega)]; exact hz14
          obtain ⟨d1, y9, hd1, hp9, ex9⟩ := iP.inv45 hP (by rw [hka]; omega) (by rw [hka]; omega) (by rw [hka]; omega) (by rw [← hra2]; omega)
          subst hd1
          obtain ⟨hP1, hE1⟩ := hrec d1 rfl
          have lt9 := iP.lt d1 _ _ _ hp9
          refine lv_aload_n hx hb dX12_goPart_102 rfl (lv_at hl 1 rfl) ?_
          refine r_callV (As := []) (rest := []) C hw (hP1 kd ig5 rg lg _  q n8 (a + 1) b R vv ee y9 (hG.ft hF) hp9 (by omega) (by omega) (by omega) hI) sv_X12_276 (hsh 49 _ rfl) rfl hl.1 rfl (Nat.le_of_ble_eq_true rfl) ⟨by simp only [rL]; omega, by simp only [rL]; omega⟩ ⟨Nat.le_of_ble_eq_true rfl, Nat.le_of_ble_eq_true rfl⟩ dX12_goPart_103 (fun r32 kd28 ig29 rg30 lg31 H locs hw hH hp33 => ?_)
          obtain ⟨rfl, rfl, hI, hchp33, hrhp33⟩ := hp33
          have hF : Ft B [49] ig lg ig29 lg31 := Ft.tr hF hchp33 (by decide) (by decide)
          obtain ⟨z34, rfl, hz34⟩ := hrhp33
          have rv9 := hz34
          have rv1 := rv9.1
          refine lv_ineg hx hb dX12_goPart_106 (lv_topi fun z35 hz35 => ?_)
          exact r_iret C hw hr hlk rfl (Nat.le_of_ble_eq_true rfl) (Nat.le_of_ble_eq_true rfl) dX12_goPart_107 ⟨rfl, rfl, hI, hF, ⟨_, rfl, ⟨⟨by omega, by omega⟩, (by have q9 := rv9.2; rw [show ig5 (B + 49) 33 = ig (B + 49) 33 by rw [eig5, up2_j (by decide)]] at q9; rw [ex9, hz35]; exact EvP.neg q9)⟩⟩⟩
      · obtain ⟨w9, u9, r2, r4, ec9, ex9⟩ := iP.inv2 hP (by rw [hka]; omega)
        have hR2 := hG.ri (a := a + 2) (by omega)
        have hR4 := hG.ri (a := a + 4) (by omega)
        have o2 := hG.2.2.2.2 (a + 2) (by omega)
        have o4 := hG.2.2.2.2 (a + 4) (by omega)
        obtain ⟨k2, fw9⟩ := itm_3 (by omega) o2.1 o2.2 (hR2.symm.trans r2)
        obtain ⟨k4, fu9⟩ := itm_3 (by omega) o4.1 o4.2 (hR4.symm.trans r4)
        have ra9 : ((0 ≤ (ig (B + 55) (120 * q + (a + 2))).toInt ∧ (ig (B + 55) (120 * q + (a + 2))).toInt < 12) ∧ 0 ≤ (ig (B + 56) (120 * q + (a + 2))).toInt ∧ (ig (B + 56) (120 * q + (a + 2))).toInt < 24) := o2.2 k2
        have rb9 : ((0 ≤ (ig (B + 55) (120 * q + (a + 4))).toInt ∧ (ig (B + 55) (120 * q + (a + 4))).toInt < 12) ∧ 0 ≤ (ig (B + 56) (120 * q + (a + 4))).toInt ∧ (ig (B + 56) (120 * q + (a + 4))).toInt < 24) := o4.2 k4
        refine lv_aload_n hx hb dX12_goPart_72 rfl (lv_at hl 1 rfl) ?_
        refine lv_iload_n hx hb dX12_goPart_73 rfl (lv_at hl 0 rfl) ?_
        refine lv_bipush (v := 6) hx hb dX12_goPart_74 (by decide) (ti_c 6 (by decide) fun z36 hz36 => ?_)
        refine lv_iadd hx hb dX12_goPart_76 (tc_add fun z37 hz37 => ?_)
        first | replace hz37 := hz37 (by omega) | clear hz37
        refine r_puti C hw (hsh 49 _ rfl) fl_X12_241 rfl rfl rfl dX12_goPart_77 (fun H locs hH hw => ?_)
        obtain ⟨ig38, eig38⟩ : ∃ f, f = up2 ig5 (B + 49) 31 z37 := ⟨_, rfl⟩
        rw [← eig38] at hw
        have hF : Ft B [49] ig lg ig38 lg := by rw [eig38]; exact hF.pi (by decide)
        have hI : IM τ φ υ B kd ig38 rg := by rw [eig38]; exact hI.pi (by decide) (show okR none _ from trivial)
        have wig38 : (ig38 (B + 49) 31).toInt = z37.toInt := by rw [eig38, up2_eq]
        have wig38_49_32 : (ig38 (B + 49) 32).toInt = (ig5 (B + 49) 32).toInt := by rw [eig38, up2_j (by decide)]
        refine lv_aload_n hx hb dX12_goPart_80 rfl (lv_at hl 1 rfl) ?_
        refine lv_iload_n hx hb dX12_goPart_81 rfl (lv_at hl 0 rfl) ?_
        refine lv_iconst (v := 2) hx hb dX12_goPart_82 (by decide) (ti_c 2 (by decide) fun z39 hz39 => ?_)
        refine lv_iadd hx hb dX12_goPart_83 (tc_add fun z40 hz40 => ?_)
        first | replace hz40 := hz40 (by omega) | clear hz40
        refine lv_iload_n hx hb dX12_goPart_84 rfl (lv_at hl 0 rfl) ?_
        refine lv_iconst (v := 4) hx hb dX12_goPart_85 (by decide) (ti_c 4 (by decide) fun z41 hz41 => ?_)
        refine lv_iadd hx hb dX12_goPart_86 (tc_add fun z42 hz42 => ?_)
        first | replace hz42 := hz42 (by omega) | clear hz42
        have hF0 := hF
        refine r_callV (As := [.int z40, .int z42]) (rest := []) C hw (t_X12_sumOfE l B D cA kd ig38 rg lg _ z40 z42 (by omega) (by omega) (by rw [show z40.toInt.toNat = 120 * q + (a + 2) by omega, Ft.i hF 55 _ (by decide), Ft.i hF 56 _ (by decide)]; exact ra9) (by rw [show z42.toInt.toNat = 120 * q + (a + 4) by omega, Ft.i hF 55 _ (by decide), Ft.i hF 56 _ (by decide)]; exact rb9) (q : Int) w9 u9 (by rw [show z40.toInt.toNat = 120 * q + (a + 2) by omega]; exact RfI.ft fw9 hF) (by rw [show z42.toInt.toNat = 120 * q + (a + 4) by omega]; exact RfI.ft fu9 hF) hI) sv_X12_283 (hsh 49 _ rfl) rfl hl.1 rfl (Nat.le_of_ble_eq_true rfl) ⟨by simp only [rL]; omega, by simp only [rL]; omega⟩ ⟨Nat.le_of_ble_eq_true rfl, Nat.le_of_ble_eq_true rfl⟩ dX12_goPart_87 (fun r47 kd43 ig44 rg45 lg46 H locs hw hH hp48 => ?_)
        obtain ⟨rfl, rfl, hI, hchp48, hrhp48⟩ := hp48
        have hF : Ft B [49] ig lg ig44 lg46 := Ft.tr hF hchp48 (by decide) (by decide)
        obtain ⟨z49, rfl, hz49⟩ := hrhp48
        have sm9 := hz49.1
        have kp9 := hz49.2
        have gv9 := (hG.ft hF0).2.1
        rw [gv9.1, gv9.2] at sm9
        exact r_iret C hw hr hlk rfl (Nat.le_of_ble_eq_true rfl) (Nat.le_of_ble_eq_true rfl) dX12_goPart_90 ⟨rfl, rfl, hI, hF, ⟨_, rfl, ⟨⟨by omega, by omega⟩, (by have q9 := EvP.rd (v := vv) (e := ee) (h := (q : Int)) (m := ig (B + 49) 33) (a := w9) (b := u9) (s := 2) (Or.inr rfl); have q8 := sm9; rw [show ig38 (B + 49) 33 = ig (B + 49) 33 by rw [eig38, up2_j (by decide), eig5, up2_j (by decide)]] at q8; rw [← q8] at q9; rw [ex9]; exact q9)⟩⟩⟩
    · obtain ⟨ec9, ex9⟩ := iP.inv3 hP (by rw [hka]; omega)
      obtain ⟨k3, fr9⟩ := itm_3 (by omega) hO9.1 hO9.2 (show itR B ig (q : Int) (120 * q + a) = (3, (R a).2) by rw [← hRa]; exact Prod.ext (by rw [hka]; omega) rfl)
      have fr1 := fr9.1
      have fr2 := fr9.2
      have rr9 : ((0 ≤ (ig (B + 55) (120 * q + a)).toInt ∧ (ig (B + 55) (120 * q + a)).toInt < 12) ∧ 0 ≤ (ig (B + 56) (120 * q + a)).toInt ∧ (ig (B + 56) (120 * q + a)).toInt < 24) := hO9.2 k3
      refine lv_aload_n hx hb dX12_goPart_41 rfl (lv_at hl 1 rfl) ?_
      refine lv_bipush (v := 12) hx hb dX12_goPart_42 (by decide) (ti_c 12 (by decide) fun z50 hz50 => ?_)
      refine lv_aload_n hx hb dX12_goPart_44 rfl (lv_at hl 1 rfl) ?_
      refine r_get C hw (hsh 49 _ rfl) fl_X12_71 (oV_r rfl (hrm (49, 11, 56) (by decide))) dX12_goPart_45 ?_
      refine lv_iload_n hx hb dX12_goPart_48 rfl (lv_at hl 0 rfl) ?_
      refine r_iald C hw (hsh 56 _ rfl) (by omega) (by omega) dX12_goPart_49 (ti_c (ig5 (B + 56) z1.toInt.toNat).toInt rfl fun z51 hz51 => ?_)
      rw [Ft.i hF 56 _ (by decide)] at hz51
      try simp only [ei] at hz51
      refine lv_imul hx hb dX12_goPart_50 (tc_mulL 12 hz50 fun z53 hz53 => ?_)
      first | replace hz53 := hz53 (by omega) | clear hz53
      refine lv_aload_n hx hb dX12_goPart_51 rfl (lv_at hl 1 rfl) ?_
      refine r_get C hw (hsh 49 _ rfl) fl_X12_68 (oV_r rfl (hrm (49, 10, 55) (by decide))) dX12_goPart_52 ?_
      refine lv_iload_n hx hb dX12_goPart_55 rfl (lv_at hl 0 rfl) ?_
      refine r_iald C hw (hsh 55 _ rfl) (by omega) (by omega) dX12_goPart_56 (ti_c (ig5 (B + 55) z1.toInt.toNat).toInt rfl fun z54 hz54 => ?_)
      rw [Ft.i hF 55 _ (by decide)] at hz54
      try simp only [ei] at hz54
      refine lv_iadd hx hb dX12_goPart_57 (tc_add fun z56 hz56 => ?_)
      first | replace hz56 := hz56 (by omega) | clear hz56
      have hF0 := hF
      refine r_callV (As := [.int z56]) (rest := []) C hw (t_X12_meetsE l B D cA kd ig5 rg lg _ z56 (by omega) hI) sv_X12_279 (hsh 49 _ rfl) rfl hl.1 rfl (Nat.le_of_ble_eq_true rfl) ⟨by simp only [rL]; omega, by simp only [rL]; omega⟩ ⟨Nat.le_of_ble_eq_true rfl, Nat.le_of_ble_eq_true rfl⟩ dX12_goPart_58 (fun r61 kd57 ig58 rg59 lg60 H locs hw hH hp62 => ?_)
      obtain ⟨rfl, rfl, hI, hchp62, hrhp62⟩ := hp62
      have hF : Ft B [49] ig lg ig58 lg60 := Ft.tr hF hchp62 (by decide) (by decide)
      obtain ⟨z63, rfl, hz63⟩ := hrhp62
      have mt9 := hz63.1
      have kp9 := hz63.2
      have gv9 := (hG.ft hF0).2.1
      rw [gv9.1, gv9.2, show z56.toInt.toNat = (rowv (R a).2 (q : Int) * 12 + colv (R a).2 (q : Int)).toNat by omega] at mt9
      exact r_iret C hw hr hlk rfl (Nat.le_of_ble_eq_true rfl) (Nat.le_of_ble_eq_true rfl) dX12_goPart_61 ⟨rfl, rfl, hI, hF, ⟨_, rfl, ⟨⟨by omega, by omega⟩, (by have q9 := EvP.rd (v := vv) (e := ee) (h := (q : Int)) (m := ig (B + 49) 33) (a := (R a).2) (b := (R a).2) (s := 1) (Or.inl rfl); rw [spS_one] at q9; rw [ex9, mt9.1, mt9.2, show ig5 (B + 49) 33 = ig (B + 49) 33 by rw [eig5, up2_j (by decide)]]; exact q9)⟩⟩⟩
  · obtain ⟨ec9, ex9⟩ := iP.inv0 hP (by rw [hka]; omega)
    refine lv_aload_n hx hb dX12_goPart_24 rfl (lv_at hl 1 rfl) ?_
    refine r_get C hw (hsh 49 _ rfl) fl_X12_68 (oV_r rfl (hrm (49, 10, 55) (by decide))) dX12_goPart_25 ?_
    refine lv_iload_n hx hb dX12_goPart_28 rfl (lv_at hl 0 rfl) ?_
    refine r_iald C hw (hsh 55 _ rfl) (by omega) (by omega) dX12_goPart_29 (ti_c (ig5 (B + 55) z1.toInt.toNat).toInt rfl fun z64 hz64 => ?_)
    rw [Ft.i hF 55 _ (by decide)] at hz64
    try simp only [ei] at hz64
    have hra2 : z64.toInt = (R a).2 := by rw [hRa, itR_a (show mK B ig (120 * q + a) ≠ 3 by show (ig (B + 54) (120 * q + a)).toInt ≠ 3; omega) (show mK B ig (120 * q + a) ≠ 2 by show (ig (B + 54) (120 * q + a)).toInt ≠ 2; omega)]; exact hz64
    exact r_iret C hw hr hlk rfl (Nat.le_of_ble_eq_true rfl) (Nat.le_of_ble_eq_true rfl) dX12_goPart_30 ⟨rfl, rfl, hI, hF, ⟨_, rfl, ⟨⟨by omega, by omega⟩, (by rw [ex9, i32_of hra2, eig5, up2_j (by decide)]; exact EvP.num)⟩⟩⟩

set_option maxHeartbeats 4000000 in
set_option maxRecDepth 100000 in
theorem t_X12_goProductV {υ : Option Int} {τ : Tp} {φ : Option Int} (l : Launch) (B : Nat) (D : va_G) (cA : Nat → ClassId) (kd : sK) (ig : sI) (rg : sR) (lg : sG) (sz : Nat) (d q n8 a b : Nat) (R : Rw) (vv ee : Vl) (X9 : Fm) (hP9 : RXgoPartV τ φ υ l B D cA d) (hG : GoS B q n8 R vv ee ig) (hP : iPd R d a b X9) (hbn : b ≤ n8) (hgo : (ig (B + 49) 31).toInt = 120 * (q : Int) + (a : Int)) (hen : (ig (B + 49) 32).toInt = 120 * (q : Int) + (n8 : Int)) (hI : IM τ φ υ B kd ig rg) : MC l B D cA yX12_goProduct cX12_goProduct 4 (some .int) (rL (3 * d + 4) 0 0) [.ref (B + 49)] kd ig rg lg sz (PM τ φ υ B [49] kd ig rg lg (fun r ig' lg' => ∃ z : Int32, r = some (.int z) ∧ (((ig' (B + 49) 31).toInt = 120 * (q : Int) + (b : Int) ∧ (ig' (B + 49) 32).toInt = (ig (B + 49) 32).toInt) ∧ EvP vv ee (q : Int) X9 (ig (B + 49) 33) z (ig' (B + 49) 33)))) := by
  refine MC.of (own := RX12) (by decide +kernel) rfl (Nat.le_of_ble_eq_true rfl) ?_
  intro p e s m args below meth c ls C hr hlk hnm hw hsz hl
  have hx := C.1.1
  have hb := C.1.2.1
  have hown := C.1.2.2.2.1
  have hts := C.1.2.2.2.2
  have hl : lv_has ls 4 [(0, .ref (B + 49))] := hl
  have hF : Ft B [49] ig lg ig lg := Ft.rf
  have hsh := hI.sh
  have hrm := hI.rm
  obtain ⟨n0, m0, y0, hp0, hc0⟩ := hP
  have lt0 := iP.lt d _ _ _ hp0
  have le0 := hCt.le (fun _ _ _ w => iP.lt d _ _ _ w) _ _ _ _ _ hc0
  have hq9 := hG.2.2.2.1
  refine lv_aload_n hx hb dX12_goProduct_0 rfl (lv_at hl 0 rfl) ?_
  refine r_callV (As := []) (rest := []) C hw (hP9 kd ig rg lg _  q n8 a m0 R vv ee y0 (hG.ft hF) hp0 (by omega) (by omega) (by omega) hI) sv_X12_276 (hsh 49 _ rfl) rfl hl.1 rfl (Nat.le_of_ble_eq_true rfl) ⟨by simp only [rL]; omega, by simp only [rL]; omega⟩ ⟨Nat.le_of_ble_eq_true rfl, Nat.le_of_ble_eq_true rfl⟩ dX12_goProduct_1 (fun r5 kd1 ig2 rg3 lg4 H locs hw hH hp6 => ?_)
  obtain ⟨rfl, rfl, hI, hchp6, hrhp6⟩ := hp6
  have hF : Ft B [49] ig lg ig2 lg4 := Ft.tr hF hchp6 (by decide) (by decide)
  obtain ⟨z7, rfl, hz7⟩ := hrhp6
  have rv0 := hz7
  have rv1 := rv0.1
  refine lv_istore_n (lv' := [(1, .int z7), (0, .ref (B + 49))]) hx hb dX12_goProduct_4 rfl hl (by decide) rfl (fun ls hl => ?_)
  have L5 : ∀ (n : Nat) (ls : Array Slot) (H : Heap) (locs : List Loc) (ig9 : sI) (lg10 : sG) (v8 : Int32), lv_has ls 4 [(1, .int v8), (0, .ref (B + 49))] → WD B D cA s.heap kd ig9 rg lg10 H locs → IM τ φ υ B kd ig9 rg → Ft B [49] ig lg ig9 lg10 → (∃ (k m1 : Nat) (acc : Fm), (ig9 (B + 49) 31).toInt = 120 * (q : Int) + (m1 : Int) ∧ hCt (iP R d) (hMu (iS R)) k acc m1 b X9 ∧ EvP vv ee (q : Int) acc (ig (B + 49) 33) v8 (ig9 (B + 49) 33) ∧ a < m1 ∧ m1 ≤ b) → ((ig9 (B + 49) 32).toInt = 120 * (q : Int) + (n8 : Int)) → 120 * (q : Int) + (b : Int) - (ig9 (B + 49) 31).toInt < (n : Int) → W p l e (rL (3 * d + 4) 0 0) s m args below meth c H locs 0 0 (MQ below (QcW B D cA (PM τ φ υ B [49] kd ig rg lg (fun r ig' lg' => ∃ z : Int32, r = some (.int z) ∧ (((ig' (B + 49) 31).toInt = 120 * (q : Int) + (b : Int) ∧ (ig' (B + 49) 32).toInt = (ig (B + 49) 32).toInt) ∧ EvP vv ee (q : Int) X9 (ig (B + 49) 33) z (ig' (B + 49) 33))))) args s 0 0 (fun q => B ≤ q)) (F0 m 5 ls []) := by
    intro n5
    induction n5 with
    | zero => intro ls H locs ig9 lg10 v8 hl hw hI hF g5_0 g5_1 hmu; exact absurd hmu (by omega)
    | succ n5 ih5 =>
      intro ls H locs ig9 lg10 v8 hl hw hI hF g5_0 g5_1 hmu
      obtain ⟨k9, m1, acc, hgm, hct, hev, hm1, hm2⟩ := g5_0
      have hGn := hG.ft hF
      refine lv_aload_n hx hb dX12_goProduct_5 rfl (lv_at hl 1 rfl) ?_
      refine lv_bipush (v := 42) hx hb dX12_goProduct_6 (by decide) (ti_c 42 (by decide) fun z11 hz11 => ?_)
      refine r_callV (As := [.int z11]) (rest := []) C hw (t_X12_isNext l B D cA kd ig9 rg lg10 _ z11 (by omega) hI) sv_X12_273 (hsh 49 _ rfl) rfl hl.1 rfl (Nat.le_of_ble_eq_true rfl) ⟨by simp only [rL]; omega, by simp only [rL]; omega⟩ ⟨Nat.le_of_ble_eq_true rfl, Nat.le_of_ble_eq_true rfl⟩ dX12_goProduct_8 (fun r16 kd12 ig13 rg14 lg15 H locs hw hH hp17 => ?_)
      obtain ⟨rfl, rfl, rfl, rfl, hzhp17, hrhp17⟩ := hp17
      obtain ⟨z18, rfl, hz18⟩ := hrhp17
      have na9 := GoS.nc (o := 42) (a := m1) hGn (by omega) (by omega) (by omega) hz11 hz18
      refine z_ne (tgt := 23) hx hb dX12_goProduct_11 (by decide) (fun c11 => ?_) (fun c11 => ?_)
      · have hs9 : R m1 = (1, 42) := by1 na9 (by omega)
        have hcm := hCt.on hct (fun _ _ => mu_d) (o := 42) ⟨hs9, Or.inl rfl⟩
        obtain ⟨k1, m2, y2, hp2, hc2⟩ := hcm
        have lt2 := iP.lt d _ _ _ hp2
        have le2 := hCt.le (fun _ _ _ w => iP.lt d _ _ _ w) _ _ _ _ _ hc2
        refine lv_aload_n hx hb dX12_goProduct_23 rfl (lv_at hl 1 rfl) ?_
        refine lv_bipush (v := 42) hx hb dX12_goProduct_24 (by decide) (ti_c 42 (by decide) fun z19 hz19 => ?_)
        refine r_callV (As := [.int z19]) (rest := []) C hw (t_X12_isNext l B D cA kd ig9 rg lg10 _ z19 (by omega) hI) sv_X12_273 (hsh 49 _ rfl) rfl hl.1 rfl (Nat.le_of_ble_eq_true rfl) ⟨by simp only [rL]; omega, by simp only [rL]; omega⟩ ⟨Nat.le_of_ble_eq_true rfl, Nat.le_of_ble_eq_true rfl⟩ dX12_goProduct_26 (fun r24 kd20 ig21 rg22 lg23 H locs hw hH hp25 => ?_)
        obtain ⟨rfl, rfl, rfl, rfl, hzhp25, hrhp25⟩ := hp25
        obtain ⟨z26, rfl, hz26⟩ := hrhp25
        have nd9 := GoS.nc (o := 42) (a := m1) hGn (by omega) (by omega) (by omega) hz19 hz26
        have t9 : z26.toInt = 1 := (by rcases nd9 with ⟨q, -⟩ | ⟨-, q⟩; exact q; exact absurd hs9 q)
        refine lv_istore_n (lv' := [(2, .int z26), (1, .int v8), (0, .ref (B + 49))]) hx hb dX12_goProduct_29 rfl hl (by decide) rfl (fun ls hl => ?_)
        refine lv_aload_n hx hb dX12_goProduct_30 rfl (lv_at hl 2 rfl) ?_
        refine lv_dup hx hb dX12_goProduct_31 rfl ?_
        refine r_get C hw (hsh 49 _ rfl) fl_X12_241 (oV_i rfl) dX12_goProduct_32 (ti_c (ig9 (B + 49) 31).toInt rfl fun z27 hz27 => ?_)
        refine lv_iconst (v := 1) hx hb dX12_goProduct_35 (by decide) (ti_c 1 (by decide) fun z28 hz28 => ?_)
        refine lv_iadd hx hb dX12_goProduct_36 (tc_add fun z29 hz29 => ?_)
        first | replace hz29 := hz29 (by omega) | clear hz29
        refine r_puti C hw (hsh 49 _ rfl) fl_X12_241 rfl rfl rfl dX12_goProduct_37 (fun H locs hH hw => ?_)
        obtain ⟨ig30, eig30⟩ : ∃ f, f = up2 ig9 (B + 49) 31 z29 := ⟨_, rfl⟩
        rw [← eig30] at hw
        have hF : Ft B [49] ig lg ig30 lg10 := by rw [eig30]; exact hF.pi (by decide)
        have hI : IM τ φ υ B kd ig30 rg := by rw [eig30]; exact hI.pi (by decide) (show okR none _ from trivial)
        have wig30 : (ig30 (B + 49) 31).toInt = z29.toInt := by rw [eig30, up2_eq]
        have wig30_49_32 : (ig30 (B + 49) 32).toInt = (ig9 (B + 49) 32).toInt := by rw [eig30, up2_j (by decide)]
        refine lv_aload_n hx hb dX12_goProduct_40 rfl (lv_at hl 2 rfl) ?_
        refine r_callV (As := []) (rest := []) C hw (hP9 kd ig30 rg lg10 _  q n8 (m1 + 1) m2 R vv ee y2 (hG.ft hF) hp2 (by omega) (by omega) (by omega) hI) sv_X12_276 (hsh 49 _ rfl) rfl hl.1 rfl (Nat.le_of_ble_eq_true rfl) ⟨by simp only [rL]; omega, by simp only [rL]; omega⟩ ⟨Nat.le_of_ble_eq_true rfl, Nat.le_of_ble_eq_true rfl⟩ dX12_goProduct_41 (fun r35 kd31 ig32 rg33 lg34 H locs hw hH hp36 => ?_)
        obtain ⟨rfl, rfl, hI, hchp36, hrhp36⟩ := hp36
        have hF : Ft B [49] ig lg ig32 lg34 := Ft.tr hF hchp36 (by decide) (by decide)
        obtain ⟨z37, rfl, hz37⟩ := hrhp36
        have rv2 := hz37.2
        have rv3 := hz37.1
        rw [show ig30 (B + 49) 33 = ig9 (B + 49) 33 by rw [eig30, up2_j (by decide)]] at rv2
        refine lv_istore_n (lv' := [(3, .int z37), (2, .int z26), (1, .int v8), (0, .ref (B + 49))]) hx hb dX12_goProduct_44 rfl hl (by decide) rfl (fun ls hl => ?_)
        refine lv_iload_n hx hb dX12_goProduct_45 rfl (lv_at hl 1 rfl) ?_
        refine z_ne (tgt := 65) hx hb dX12_goProduct_46 (by decide) (fun c46 => ?_) (fun c46 => ?_)
        · refine lv_iload_n hx hb dX12_goProduct_65 rfl (lv_at hl 1 rfl) ?_
          refine z_eq (tgt := 75) hx hb dX12_goProduct_66 (by decide) (fun c66 => ?_) (fun c66 => ?_)
          · refine lv_iload_n hx hb dX12_goProduct_75 rfl (lv_at hl 0 rfl) ?_
            refine z_ne (tgt := 83) hx hb dX12_goProduct_76 (by decide) (fun c76 => ?_) (fun c76 => ?_)
            · refine lv_iload_n hx hb dX12_goProduct_83 rfl (lv_at hl 2 rfl) ?_
              refine lv_iload_n hx hb dX12_goProduct_84 rfl (lv_at hl 0 rfl) ?_
              refine lv_idiv hx hb dX12_goProduct_85 (ne0_of (by omega)) (lv_topi fun z38 hz38 => ?_)
              refine lv_istore_n (lv' := [(1, .int z38), (3, .int z37), (2, .int z26), (0, .ref (B + 49))]) hx hb dX12_goProduct_86 rfl hl (by decide) rfl (fun ls hl => ?_)
              refine lv_goto (tgt := 5) hx hb dX12_goProduct_87 (by decide) ?_
              exact ih5 ls H locs ig32 lg34 z38 (lv_sub hl [0, 3] rfl) hw hI hF (absurd t9 (by omega)) (by omega) (by omega)
            · refine lv_iconst (v := 0) hx hb dX12_goProduct_79 (by decide) (ti_c 0 (by decide) fun z39 hz39 => ?_)
              refine lv_goto (tgt := 86) hx hb dX12_goProduct_80 (by decide) ?_
              refine lv_istore_n (lv' := [(1, .int z39), (3, .int z37), (2, .int z26), (0, .ref (B + 49))]) hx hb dX12_goProduct_86 rfl hl (by decide) rfl (fun ls hl => ?_)
              refine lv_goto (tgt := 5) hx hb dX12_goProduct_87 (by decide) ?_
              exact ih5 ls H locs ig32 lg34 z39 (lv_sub hl [0, 3] rfl) hw hI hF (absurd t9 (by omega)) (by omega) (by omega)
          · refine lv_iload_n hx hb dX12_goProduct_69 rfl (lv_at hl 2 rfl) ?_
            refine lv_iload_n hx hb dX12_goProduct_70 rfl (lv_at hl 0 rfl) ?_
            refine lv_imul hx hb dX12_goProduct_71 (lv_topi fun z40 hz40 => ?_)
            refine lv_goto (tgt := 86) hx hb dX12_goProduct_72 (by decide) ?_
            refine lv_istore_n (lv' := [(1, .int z40), (3, .int z37), (2, .int z26), (0, .ref (B + 49))]) hx hb dX12_goProduct_86 rfl hl (by decide) rfl (fun ls hl => ?_)
            refine lv_goto (tgt := 5) hx hb dX12_goProduct_87 (by decide) ?_
            exact ih5 ls H locs ig32 lg34 z40 (lv_sub hl [0, 3] rfl) hw hI hF (⟨k1, m2, acc ++ (y2 ++ [(opS 42, 0, 0)]), by omega, hc2, (by have q9 := EvP.turn (o := 42) hev rv2; rw [opV_42, opM_42, ← hz40] at q9; exact q9), by omega, by omega⟩) (by omega) (by omega)
        · refine lv_iload_n hx hb dX12_goProduct_49 rfl (lv_at hl 0 rfl) ?_
          refine z_ne (tgt := 65) hx hb dX12_goProduct_50 (by decide) (fun c50 => ?_) (fun c50 => ?_)
          · refine lv_iload_n hx hb dX12_goProduct_65 rfl (lv_at hl 1 rfl) ?_
            refine z_eq (tgt := 75) hx hb dX12_goProduct_66 (by decide) (fun c66 => ?_) (fun c66 => ?_)
            · refine lv_iload_n hx hb dX12_goProduct_75 rfl (lv_at hl 0 rfl) ?_
              refine z_ne (tgt := 83) hx hb dX12_goProduct_76 (by decide) (fun c76 => ?_) (fun c76 => ?_)
              · refine lv_iload_n hx hb dX12_goProduct_83 rfl (lv_at hl 2 rfl) ?_
                refine lv_iload_n hx hb dX12_goProduct_84 rfl (lv_at hl 0 rfl) ?_
                refine lv_idiv hx hb dX12_goProduct_85 (ne0_of (by omega)) (lv_topi fun z41 hz41 => ?_)
                refine lv_istore_n (lv' := [(1, .int z41), (3, .int z37), (2, .int z26), (0, .ref (B + 49))]) hx hb dX12_goProduct_86 rfl hl (by decide) rfl (fun ls hl => ?_)
                refine lv_goto (tgt := 5) hx hb dX12_goProduct_87 (by decide) ?_
                exact ih5 ls H locs ig32 lg34 z41 (lv_sub hl [0, 3] rfl) hw hI hF (absurd t9 (by omega)) (by omega) (by omega)
              · refine lv_iconst (v := 0) hx hb dX12_goProduct_79 (by decide) (ti_c 0 (by decide) fun z42 hz42 => ?_)
                refine lv_goto (tgt := 86) hx hb dX12_goProduct_80 (by decide) ?_
                refine lv_istore_n (lv' := [(1, .int z42), (3, .int z37), (2, .int z26), (0, .ref (B + 49))]) hx hb dX12_goProduct_86 rfl hl (by decide) rfl (fun ls hl => ?_)
                refine lv_goto (tgt := 5) hx hb dX12_goProduct_87 (by decide) ?_
                exact ih5 ls H locs ig32 lg34 z42 (lv_sub hl [0, 3] rfl) hw hI hF (absurd t9 (by omega)) (by omega) (by omega)
            · refine lv_iload_n hx hb dX12_goProduct_69 rfl (lv_at hl 2 rfl) ?_
              refine lv_iload_n hx hb dX12_goProduct_70 rfl (lv_at hl 0 rfl) ?_
              refine lv_imul hx hb dX12_goProduct_71 (lv_topi fun z43 hz43 => ?_)
              refine lv_goto (tgt := 86) hx hb dX12_goProduct_72 (by decide) ?_
              refine lv_istore_n (lv' := [(1, .int z43), (3, .int z37), (2, .int z26), (0, .ref (B + 49))]) hx hb dX12_goProduct_86 rfl hl (by decide) rfl (fun ls hl => ?_)
              refine lv_goto (tgt := 5) hx hb dX12_goProduct_87 (by decide) ?_
              exact ih5 ls H locs ig32 lg34 z43 (lv_sub hl [0, 3] rfl) hw hI hF (⟨k1, m2, acc ++ (y2 ++ [(opS 42, 0, 0)]), by omega, hc2, (by have q9 := EvP.turn (o := 42) hev rv2; rw [opV_42, opM_42, ← hz43] at q9; exact q9), by omega, by omega⟩) (by omega) (by omega)
          · refine lv_aload_n hx hb dX12_goProduct_53 rfl (lv_at hl 3 rfl) ?_
            refine r_get C hw (hsh 49 _ rfl) fl_X12_247 (oV_i rfl) dX12_goProduct_54 (ti_c (ig32 (B + 49) 33).toInt rfl fun z44 hz44 => ?_)
            refine z_ne (tgt := 65) hx hb dX12_goProduct_57 (by decide) (fun c57 => ?_) (fun c57 => ?_)
            · refine lv_iload_n hx hb dX12_goProduct_65 rfl (lv_at hl 1 rfl) ?_
              refine z_eq (tgt := 75) hx hb dX12_goProduct_66 (by decide) (fun c66 => ?_) (fun c66 => ?_)
              · refine lv_iload_n hx hb dX12_goProduct_75 rfl (lv_at hl 0 rfl) ?_
                refine z_ne (tgt := 83) hx hb dX12_goProduct_76 (by decide) (fun c76 => ?_) (fun c76 => ?_)
                · refine lv_iload_n hx hb dX12_goProduct_83 rfl (lv_at hl 2 rfl) ?_
                  refine lv_iload_n hx hb dX12_goProduct_84 rfl (lv_at hl 0 rfl) ?_
                  refine lv_idiv hx hb dX12_goProduct_85 (ne0_of (by omega)) (lv_topi fun z45 hz45 => ?_)
                  refine lv_istore_n (lv' := [(1, .int z45), (3, .int z37), (2, .int z26), (0, .ref (B + 49))]) hx hb dX12_goProduct_86 rfl hl (by decide) rfl (fun ls hl => ?_)
                  refine lv_goto (tgt := 5) hx hb dX12_goProduct_87 (by decide) ?_
                  exact ih5 ls H locs ig32 lg34 z45 (lv_sub hl [0, 3] rfl) hw hI hF (absurd t9 (by omega)) (by omega) (by omega)
                · refine lv_iconst (v := 0) hx hb dX12_goProduct_79 (by decide) (ti_c 0 (by decide) fun z46 hz46 => ?_)
                  refine lv_goto (tgt := 86) hx hb dX12_goProduct_80 (by decide) ?_
                  refine lv_istore_n (lv' := [(1, .int z46), (3, .int z37), (2, .int z26), (0, .ref (B + 49))]) hx hb dX12_goProduct_86 rfl hl (by decide) rfl (fun ls hl => ?_)
                  refine lv_goto (tgt := 5) hx hb dX12_goProduct_87 (by decide) ?_
                  exact ih5 ls H locs ig32 lg34 z46 (lv_sub hl [0, 3] rfl) hw hI hF (absurd t9 (by omega)) (by omega) (by omega)
              · refine lv_iload_n hx hb dX12_goProduct_69 rfl (lv_at hl 2 rfl) ?_
                refine lv_iload_n hx hb dX12_goProduct_70 rfl (lv_at hl 0 rfl) ?_
                refine lv_imul hx hb dX12_goProduct_71 (lv_topi fun z47 hz47 => ?_)
                refine lv_goto (tgt := 86) hx hb dX12_goProduct_72 (by decide) ?_
                refine lv_istore_n (lv' := [(1, .int z47), (3, .int z37), (2, .int z26), (0, .ref (B + 49))]) hx hb dX12_goProduct_86 rfl hl (by decide) rfl (fun ls hl => ?_)
                refine lv_goto (tgt := 5) hx hb dX12_goProduct_87 (by decide) ?_
                exact ih5 ls H locs ig32 lg34 z47 (lv_sub hl [0, 3] rfl) hw hI hF (⟨k1, m2, acc ++ (y2 ++ [(opS 42, 0, 0)]), by omega, hc2, (by have q9 := EvP.turn (o := 42) hev rv2; rw [opV_42, opM_42, ← hz47] at q9; exact q9), by omega, by omega⟩) (by omega) (by omega)
            · refine lv_aload_n hx hb dX12_goProduct_60 rfl (lv_at hl 3 rfl) ?_
              refine lv_iconst (v := 1) hx hb dX12_goProduct_61 (by decide) (ti_c 1 (by decide) fun z48 hz48 => ?_)
              refine r_puti C hw (hsh 49 _ rfl) fl_X12_247 rfl rfl rfl dX12_goProduct_62 (fun H locs hH hw => ?_)
              obtain ⟨ig49, eig49⟩ : ∃ f, f = up2 ig32 (B + 49) 33 z48 := ⟨_, rfl⟩
              rw [← eig49] at hw
              have hF : Ft B [49] ig lg ig49 lg34 := by rw [eig49]; exact hF.pi (by decide)
              have hI : IM τ φ υ B kd ig49 rg := by rw [eig49]; exact hI.pi (by decide) (show okR none _ from trivial)
              have wig49_49_31 : (ig49 (B + 49) 31).toInt = (ig32 (B + 49) 31).toInt := by rw [eig49, up2_j (by decide)]
              have wig49_49_32 : (ig49 (B + 49) 32).toInt = (ig32 (B + 49) 32).toInt := by rw [eig49, up2_j (by decide)]
              refine lv_iload_n hx hb dX12_goProduct_65 rfl (lv_at hl 1 rfl) ?_
              refine z_eq (tgt := 75) hx hb dX12_goProduct_66 (by decide) (fun c66 => ?_) (fun c66 => ?_)
              · refine lv_iload_n hx hb dX12_goProduct_75 rfl (lv_at hl 0 rfl) ?_
                refine z_ne (tgt := 83) hx hb dX12_goProduct_76 (by decide) (fun c76 => ?_) (fun c76 => ?_)
                · refine lv_iload_n hx hb dX12_goProduct_83 rfl (lv_at hl 2 rfl) ?_
                  refine lv_iload_n hx hb dX12_goProduct_84 rfl (lv_at hl 0 rfl) ?_
                  refine lv_idiv hx hb dX12_goProduct_85 (ne0_of (by omega)) (lv_topi fun z50 hz50 => ?_)
                  refine lv_istore_n (lv' := [(1, .int z50), (3, .int z37), (2, .int z26), (0, .ref (B + 49))]) hx hb dX12_goProduct_86 rfl hl (by decide) rfl (fun ls hl => ?_)
                  refine lv_goto (tgt := 5) hx hb dX12_goProduct_87 (by decide) ?_
                  exact ih5 ls H locs ig49 lg34 z50 (lv_sub hl [0, 3] rfl) hw hI hF (absurd t9 (by omega)) (by omega) (by omega)
                · refine lv_iconst (v := 0) hx hb dX12_goProduct_79 (by decide) (ti_c 0 (by decide) fun z51 hz51 => ?_)
                  refine lv_goto (tgt := 86) hx hb dX12_goProduct_80 (by decide) ?_
                  refine lv_istore_n (lv' := [(1, .int z51), (3, .int z37), (2, .int z26), (0, .ref (B + 49))]) hx hb dX12_goProduct_86 rfl hl (by decide) rfl (fun ls hl => ?_)
                  refine lv_goto (tgt := 5) hx hb dX12_goProduct_87 (by decide) ?_
                  exact ih5 ls H locs ig49 lg34 z51 (lv_sub hl [0, 3] rfl) hw hI hF (absurd t9 (by omega)) (by omega) (by omega)
              · refine lv_iload_n hx hb dX12_goProduct_69 rfl (lv_at hl 2 rfl) ?_
                refine lv_iload_n hx hb dX12_goProduct_70 rfl (lv_at hl 0 rfl) ?_
                refine lv_imul hx hb dX12_goProduct_71 (lv_topi fun z52 hz52 => ?_)
                refine lv_goto (tgt := 86) hx hb dX12_goProduct_72 (by decide) ?_
                refine lv_istore_n (lv' := [(1, .int z52), (3, .int z37), (2, .int z26), (0, .ref (B + 49))]) hx hb dX12_goProduct_86 rfl hl (by decide) rfl (fun ls hl => ?_)
                refine lv_goto (tgt := 5) hx hb dX12_goProduct_87 (by decide) ?_
                exact ih5 ls H locs ig49 lg34 z52 (lv_sub hl [0, 3] rfl) hw hI hF (absurd t9 (by omega)) (by omega) (by omega)
      · refine lv_aload_n hx hb dX12_goProduct_14 rfl (lv_at hl 1 rfl) ?_
        refine lv_bipush (v := 47) hx hb dX12_goProduct_15 (by decide) (ti_c 47 (by decide) fun z53 hz53 => ?_)
        refine r_callV (As := [.int z53]) (rest := []) C hw (t_X12_isNext l B D cA kd ig9 rg lg10 _ z53 (by omega) hI) sv_X12_273 (hsh 49 _ rfl) rfl hl.1 rfl (Nat.le_of_ble_eq_true rfl) ⟨by simp only [rL]; omega, by simp only [rL]; omega⟩ ⟨Nat.le_of_ble_eq_true rfl, Nat.le_of_ble_eq_true rfl⟩ dX12_goProduct_17 (fun r58 kd54 ig55 rg56 lg57 H locs hw hH hp59 => ?_)
        obtain ⟨rfl, rfl, rfl, rfl, hzhp59, hrhp59⟩ := hp59
        obtain ⟨z60, rfl, hz60⟩ := hrhp59
        have nb9 := GoS.nc (o := 47) (a := m1) hGn (by omega) (by omega) (by omega) hz53 hz60
        refine z_eq (tgt := 90) hx hb dX12_goProduct_20 (by decide) (fun c20 => ?_) (fun c20 => ?_)
        · obtain ⟨eb9, ex9⟩ := hCt.off hct (fun o9 w9 => by rcases w9.2 with q9 | q9; (rw [q9] at w9; exact by0 na9 (by omega) w9.1); (rw [q9] at w9; exact by0 nb9 (by omega) w9.1))
          refine lv_iload_n hx hb dX12_goProduct_90 rfl (lv_at hl 0 rfl) ?_
          exact r_iret C hw hr hlk rfl (Nat.le_of_ble_eq_true rfl) (Nat.le_of_ble_eq_true rfl) dX12_goProduct_91 ⟨rfl, rfl, hI, hF, ⟨_, rfl, ⟨⟨by omega, by omega⟩, (by rw [ex9]; exact hev)⟩⟩⟩
        · have hs9 : R m1 = (1, 47) := by1 nb9 (by omega)
          have hcm := hCt.on hct (fun _ _ => mu_d) (o := 47) ⟨hs9, Or.inr rfl⟩
          obtain ⟨k1, m2, y2, hp2, hc2⟩ := hcm
          have lt2 := iP.lt d _ _ _ hp2
          have le2 := hCt.le (fun _ _ _ w => iP.lt d _ _ _ w) _ _ _ _ _ hc2
          refine lv_aload_n hx hb dX12_goProduct_23 rfl (lv_at hl 1 rfl) ?_
          refine lv_bipush (v := 42) hx hb dX12_goProduct_24 (by decide) (ti_c 42 (by decide) fun z61 hz61 => ?_)
          refine r_callV (As := [.int z61]) (rest := []) C hw (t_X12_isNext l B D cA kd ig9 rg lg10 _ z61 (by omega) hI) sv_X12_273 (hsh 49 _ rfl) rfl hl.1 rfl (Nat.le_of_ble_eq_true rfl) ⟨by simp only [rL]; omega, by simp only [rL]; omega⟩ ⟨Nat.le_of_ble_eq_true rfl, Nat.le_of_ble_eq_true rfl⟩ dX12_goProduct_26 (fun r66 kd62 ig63 rg64 lg65 H locs hw hH hp67 => ?_)
          obtain ⟨rfl, rfl, rfl, rfl, hzhp67, hrhp67⟩ := hp67
          obtain ⟨z68, rfl, hz68⟩ := hrhp67
          have nd9 := GoS.nc (o := 42) (a := m1) hGn (by omega) (by omega) (by omega) hz61 hz68
          have t9 : z68.toInt = 0 := (by rcases nd9 with ⟨-, q⟩ | ⟨q, -⟩; (rw [hs9] at q; exact absurd (Prod.mk.inj q).2 (by decide)); exact q)
          refine lv_istore_n (lv' := [(2, .int z68), (1, .int v8), (0, .ref (B + 49))]) hx hb dX12_goProduct_29 rfl hl (by decide) rfl (fun ls hl => ?_)
          refine lv_aload_n hx hb dX12_goProduct_30 rfl (lv_at hl 2 rfl) ?_
          refine lv_dup hx hb dX12_goProduct_31 rfl ?_
          refine r_get C hw (hsh 49 _ rfl) fl_X12_241 (oV_i rfl) dX12_goProduct_32 (ti_c (ig9 (B + 49) 31).toInt rfl fun z69 hz69 => ?_)
          refine lv_iconst (v := 1) hx hb dX12_goProduct_35 (by decide) (ti_c 1 (by decide) fun z70 hz70 => ?_)
          refine lv_iadd hx hb dX12_goProduct_36 (tc_add fun z71 hz71 => ?_)
          first | replace hz71 := hz71 (by omega) | clear hz71
          refine r_puti C hw (hsh 49 _ rfl) fl_X12_241 rfl rfl rfl dX12_goProduct_37 (fun H locs hH hw => ?_)
          obtain ⟨ig72, eig72⟩ : ∃ f, f = up2 ig9 (B + 49) 31 z71 := ⟨_, rfl⟩
          rw [← eig72] at hw
          have hF : Ft B [49] ig lg ig72 lg10 := by rw [eig72]; exact hF.pi (by decide)
          have hI : IM τ φ υ B kd ig72 rg := by rw [eig72]; exact hI.pi (by decide) (show okR none _ from trivial)
          have wig72 : (ig72 (B + 49) 31).toInt = z71.toInt := by rw [eig72, up2_eq]
          have wig72_49_32 : (ig72 (B + 49) 32).toInt = (ig9 (B + 49) 32).toInt := by rw [eig72, up2_j (by decide)]
          refine lv_aload_n hx hb dX12_goProduct_40 rfl (lv_at hl 2 rfl) ?_
          refine r_callV (As := []) (rest := []) C hw (hP9 kd ig72 rg lg10 _  q n8 (m1 + 1) m2 R vv ee y2 (hG.ft hF) hp2 (by omega) (by omega) (by omega) hI) sv_X12_276 (hsh 49 _ rfl) rfl hl.1 rfl (Nat.le_of_ble_eq_true rfl) ⟨by simp only [rL]; omega, by simp only [rL]; omega⟩ ⟨Nat.le_of_ble_eq_true rfl, Nat.le_of_ble_eq_true rfl⟩ dX12_goProduct_41 (fun r77 kd73 ig74 rg75 lg76 H locs hw hH hp78 => ?_)
          obtain ⟨rfl, rfl, hI, hchp78, hrhp78⟩ := hp78
          have hF : Ft B [49] ig lg ig74 lg76 := Ft.tr hF hchp78 (by decide) (by decide)
          obtain ⟨z79, rfl, hz79⟩ := hrhp78
          have rv2 := hz79.2
          have rv3 := hz79.1
          rw [show ig72 (B + 49) 33 = ig9 (B + 49) 33 by rw [eig72, up2_j (by decide)]] at rv2
          refine lv_istore_n (lv' := [(3, .int z79), (2, .int z68), (1, .int v8), (0, .ref (B + 49))]) hx hb dX12_goProduct_44 rfl hl (by decide) rfl (fun ls hl => ?_)
          refine lv_iload_n hx hb dX12_goProduct_45 rfl (lv_at hl 1 rfl) ?_
          refine z_ne (tgt := 65) hx hb dX12_goProduct_46 (by decide) (fun c46 => ?_) (fun c46 => ?_)
          · refine lv_iload_n hx hb dX12_goProduct_65 rfl (lv_at hl 1 rfl) ?_
            refine z_eq (tgt := 75) hx hb dX12_goProduct_66 (by decide) (fun c66 => ?_) (fun c66 => ?_)
            · refine lv_iload_n hx hb dX12_goProduct_75 rfl (lv_at hl 0 rfl) ?_
              refine z_ne (tgt := 83) hx hb dX12_goProduct_76 (by decide) (fun c76 => ?_) (fun c76 => ?_)
              · refine lv_iload_n hx hb dX12_goProduct_83 rfl (lv_at hl 2 rfl) ?_
                refine lv_iload_n hx hb dX12_goProduct_84 rfl (lv_at hl 0 rfl) ?_
                refine lv_idiv hx hb dX12_goProduct_85 (ne0_of (by omega)) (lv_topi fun z80 hz80 => ?_)
                refine lv_istore_n (lv' := [(1, .int z80), (3, .int z79), (2, .int z68), (0, .ref (B + 49))]) hx hb dX12_goProduct_86 rfl hl (by decide) rfl (fun ls hl => ?_)
                refine lv_goto (tgt := 5) hx hb dX12_goProduct_87 (by decide) ?_
                exact ih5 ls H locs ig74 lg76 z80 (lv_sub hl [0, 3] rfl) hw hI hF (⟨k1, m2, acc ++ (y2 ++ [(opS 47, 0, 0)]), by omega, hc2, (by have q9 := EvP.turn (o := 47) hev rv2; rw [opQ_1 (x := v8) (y := z79) (by omega), opN_1 (y := z79) (m := ig74 (B + 49) 33) (by omega)] at q9; rw [hz80]; exact q9), by omega, by omega⟩) (by omega) (by omega)
              · refine lv_iconst (v := 0) hx hb dX12_goProduct_79 (by decide) (ti_c 0 (by decide) fun z81 hz81 => ?_)
                refine lv_goto (tgt := 86) hx hb dX12_goProduct_80 (by decide) ?_
                refine lv_istore_n (lv' := [(1, .int z81), (3, .int z79), (2, .int z68), (0, .ref (B + 49))]) hx hb dX12_goProduct_86 rfl hl (by decide) rfl (fun ls hl => ?_)
                refine lv_goto (tgt := 5) hx hb dX12_goProduct_87 (by decide) ?_
                exact ih5 ls H locs ig74 lg76 z81 (lv_sub hl [0, 3] rfl) hw hI hF (⟨k1, m2, acc ++ (y2 ++ [(opS 47, 0, 0)]), by omega, hc2, (by have q9 := EvP.turn (o := 47) hev rv2; rw [opQ_0 (x := v8) (y := z79) (by omega), opN_2 (y := z79) (m := ig74 (B + 49) 33) (by omega)] at q9; rw [show z81 = 0 from i32_z (by omega)]; exact q9), by omega, by omega⟩) (by omega) (by omega)
            · refine lv_iload_n hx hb dX12_goProduct_69 rfl (lv_at hl 2 rfl) ?_
              refine lv_iload_n hx hb dX12_goProduct_70 rfl (lv_at hl 0 rfl) ?_
              refine lv_imul hx hb dX12_goProduct_71 (lv_topi fun z82 hz82 => ?_)
              refine lv_goto (tgt := 86) hx hb dX12_goProduct_72 (by decide) ?_
              refine lv_istore_n (lv' := [(1, .int z82), (3, .int z79), (2, .int z68), (0, .ref (B + 49))]) hx hb dX12_goProduct_86 rfl hl (by decide) rfl (fun ls hl => ?_)
              refine lv_goto (tgt := 5) hx hb dX12_goProduct_87 (by decide) ?_
              exact ih5 ls H locs ig74 lg76 z82 (lv_sub hl [0, 3] rfl) hw hI hF (absurd t9 (by omega)) (by omega) (by omega)
          · refine lv_iload_n hx hb dX12_goProduct_49 rfl (lv_at hl 0 rfl) ?_
            refine z_ne (tgt := 65) hx hb dX12_goProduct_50 (by decide) (fun c50 => ?_) (fun c50 => ?_)
            · refine lv_iload_n hx hb dX12_goProduct_65 rfl (lv_at hl 1 rfl) ?_
              refine z_eq (tgt := 75) hx hb dX12_goProduct_66 (by decide) (fun c66 => ?_) (fun c66 => ?_)
              · refine lv_iload_n hx hb dX12_goProduct_75 rfl (lv_at hl 0 rfl) ?_
                refine z_ne (tgt := 83) hx hb dX12_goProduct_76 (by decide) (fun c76 => ?_) (fun c76 => ?_)
                · refine lv_iload_n hx hb dX12_goProduct_83 rfl (lv_at hl 2 rfl) ?_
                  refine lv_iload_n hx hb dX12_goProduct_84 rfl (lv_at hl 0 rfl) ?_
                  refine lv_idiv hx hb dX12_goProduct_85 (ne0_of (by omega)) (lv_topi fun z83 hz83 => ?_)
                  refine lv_istore_n (lv' := [(1, .int z83), (3, .int z79), (2, .int z68), (0, .ref (B + 49))]) hx hb dX12_goProduct_86 rfl hl (by decide) rfl (fun ls hl => ?_)
                  refine lv_goto (tgt := 5) hx hb dX12_goProduct_87 (by decide) ?_
                  exact ih5 ls H locs ig74 lg76 z83 (lv_sub hl [0, 3] rfl) hw hI hF (⟨k1, m2, acc ++ (y2 ++ [(opS 47, 0, 0)]), by omega, hc2, (by have q9 := EvP.turn (o := 47) hev rv2; rw [opQ_1 (x := v8) (y := z79) (by omega), opN_1 (y := z79) (m := ig74 (B + 49) 33) (by omega)] at q9; rw [hz83]; exact q9), by omega, by omega⟩) (by omega) (by omega)
                · refine lv_iconst (v := 0) hx hb dX12_goProduct_79 (by decide) (ti_c 0 (by decide) fun z84 hz84 => ?_)
                  refine lv_goto (tgt := 86) hx hb dX12_goProduct_80 (by decide) ?_
                  refine lv_istore_n (lv' := [(1, .int z84), (3, .int z79), (2, .int z68), (0, .ref (B + 49))]) hx hb dX12_goProduct_86 rfl hl (by decide) rfl (fun ls hl => ?_)
                  refine lv_goto (tgt := 5) hx hb dX12_goProduct_87 (by decide) ?_
                  exact ih5 ls H locs ig74 lg76 z84 (lv_sub hl [0, 3] rfl) hw hI hF (⟨k1, m2, acc ++ (y2 ++ [(opS 47, 0, 0)]), by omega, hc2, (by have q9 := EvP.turn (o := 47) hev rv2; rw [opQ_0 (x := v8) (y := z79) (by omega), opN_2 (y := z79) (m := ig74 (B + 49) 33) (by omega)] at q9; rw [show z84 = 0 from i32_z (by omega)]; exact q9), by omega, by omega⟩) (by omega) (by omega)
              · refine lv_iload_n hx hb dX12_goProduct_69 rfl (lv_at hl 2 rfl) ?_
                refine lv_iload_n hx hb dX12_goProduct_70 rfl (lv_at hl 0 rfl) ?_
                refine lv_imul hx hb dX12_goProduct_71 (lv_topi fun z85 hz85 => ?_)
                refine lv_goto (tgt := 86) hx hb dX12_goProduct_72 (by decide) ?_
                refine lv_istore_n (lv' := [(1, .int z85), (3, .int z79), (2, .int z68), (0, .ref (B + 49))]) hx hb dX12_goProduct_86 rfl hl (by decide) rfl (fun ls hl => ?_)
                refine lv_goto (tgt := 5) hx hb dX12_goProduct_87 (by decide) ?_
                exact ih5 ls H locs ig74 lg76 z85 (lv_sub hl [0, 3] rfl) hw hI hF (absurd t9 (by omega)) (by omega) (by omega)
            · refine lv_aload_n hx hb dX12_goProduct_53 rfl (lv_at hl 3 rfl) ?_
              refine r_get C hw (hsh 49 _ rfl) fl_X12_247 (oV_i rfl) dX12_goProduct_54 (ti_c (ig74 (B + 49) 33).toInt rfl fun z86 hz86 => ?_)
              refine z_ne (tgt := 65) hx hb dX12_goProduct_57 (by decide) (fun c57 => ?_) (fun c57 => ?_)
              · refine lv_iload_n hx hb dX12_goProduct_65 rfl (lv_at hl 1 rfl) ?_
                refine z_eq (tgt := 75) hx hb dX12_goProduct_66 (by decide) (fun c66 => ?_) (fun c66 => ?_)
                · refine lv_iload_n hx hb dX12_goProduct_75 rfl (lv_at hl 0 rfl) ?_
                  refine z_ne (tgt := 83) hx hb dX12_goProduct_76 (by decide) (fun c76 => ?_) (fun c76 => ?_)
                  · refine lv_iload_n hx hb dX12_goProduct_83 rfl (lv_at hl 2 rfl) ?_
                    refine lv_iload_n hx hb dX12_goProduct_84 rfl (lv_at hl 0 rfl) ?_
                    refine lv_idiv hx hb dX12_goProduct_85 (ne0_of (by omega)) (lv_topi fun z87 hz87 => ?_)
                    refine lv_istore_n (lv' := [(1, .int z87), (3, .int z79), (2, .int z68), (0, .ref (B + 49))]) hx hb dX12_goProduct_86 rfl hl (by decide) rfl (fun ls hl => ?_)
                    refine lv_goto (tgt := 5) hx hb dX12_goProduct_87 (by decide) ?_
                    exact ih5 ls H locs ig74 lg76 z87 (lv_sub hl [0, 3] rfl) hw hI hF (⟨k1, m2, acc ++ (y2 ++ [(opS 47, 0, 0)]), by omega, hc2, (by have q9 := EvP.turn (o := 47) hev rv2; rw [opQ_1 (x := v8) (y := z79) (by omega), opN_1 (y := z79) (m := ig74 (B + 49) 33) (by omega)] at q9; rw [hz87]; exact q9), by omega, by omega⟩) (by omega) (by omega)
                  · refine lv_iconst (v := 0) hx hb dX12_goProduct_79 (by decide) (ti_c 0 (by decide) fun z88 hz88 => ?_)
                    refine lv_goto (tgt := 86) hx hb dX12_goProduct_80 (by decide) ?_
                    refine lv_istore_n (lv' := [(1, .int z88), (3, .int z79), (2, .int z68), (0, .ref (B + 49))]) hx hb dX12_goProduct_86 rfl hl (by decide) rfl (fun ls hl => ?_)
                    refine lv_goto (tgt := 5) hx hb dX12_goProduct_87 (by decide) ?_
                    exact ih5 ls H locs ig74 lg76 z88 (lv_sub hl [0, 3] rfl) hw hI hF (⟨k1, m2, acc ++ (y2 ++ [(opS 47, 0, 0)]), by omega, hc2, (by have q9 := EvP.turn (o := 47) hev rv2; rw [opQ_0 (x := v8) (y := z79) (by omega), opN_2 (y := z79) (m := ig74 (B + 49) 33) (by omega)] at q9; rw [show z88 = 0 from i32_z (by omega)]; exact q9), by omega, by omega⟩) (by omega) (by omega)
                · refine lv_iload_n hx hb dX12_goProduct_69 rfl (lv_at hl 2 rfl) ?_
                  refine lv_iload_n hx hb dX12_goProduct_70 rfl (lv_at hl 0 rfl) ?_
                  refine lv_imul hx hb dX12_goProduct_71 (lv_topi fun z89 hz89 => ?_)
                  refine lv_goto (tgt := 86) hx hb dX12_goProduct_72 (by decide) ?_
                  refine lv_istore_n (lv' := [(1, .int z89), (3, .int z79), (2, .int z68), (0, .ref (B + 49))]) hx hb dX12_goProduct_86 rfl hl (by decide) rfl (fun ls hl => ?_)
                  refine lv_goto (tgt := 5) hx hb dX12_goProduct_87 (by decide) ?_
                  exact ih5 ls H locs ig74 lg76 z89 (lv_sub hl [0, 3] rfl) hw hI hF (absurd t9 (by omega)) (by omega) (by omega)
              · refine lv_aload_n hx hb dX12_goProduct_60 rfl (lv_at hl 3 rfl) ?_
                refine lv_iconst (v := 1) hx hb dX12_goProduct_61 (by decide) (ti_c 1 (by decide) fun z90 hz90 => ?_)
                refine r_puti C hw (hsh 49 _ rfl) fl_X12_247 rfl rfl rfl dX12_goProduct_62 (fun H locs hH hw => ?_)
                obtain ⟨ig91, eig91⟩ : ∃ f, f = up2 ig74 (B + 49) 33 z90 := ⟨_, rfl⟩
                rw [← eig91] at hw
                have hF : Ft B [49] ig lg ig91 lg76 := by rw [eig91]; exact hF.pi (by decide)
                have hI : IM τ φ υ B kd ig91 rg := by rw [eig91]; exact hI.pi (by decide) (show okR none _ from trivial)
                have wig91_49_31 : (ig91 (B + 49) 31).toInt = (ig74 (B + 49) 31).toInt := by rw [eig91, up2_j (by decide)]
                have wig91_49_32 : (ig91 (B + 49) 32).toInt = (ig74 (B + 49) 32).toInt := by rw [eig91, up2_j (by decide)]
                refine lv_iload_n hx hb dX12_goProduct_65 rfl (lv_at hl 1 rfl) ?_
                refine z_eq (tgt := 75) hx hb dX12_goProduct_66 (by decide) (fun c66 => ?_) (fun c66 => ?_)
                · refine lv_iload_n hx hb dX12_goProduct_75 rfl (lv_at hl 0 rfl) ?_
                  refine z_ne (tgt := 83) hx hb dX12_goProduct_76 (by decide) (fun c76 => ?_) (fun c76 => ?_)
                  · refine lv_iload_n hx hb dX12_goProduct_83 rfl (lv_at hl 2 rfl) ?_
                    refine lv_iload_n hx hb dX12_goProduct_84 rfl (lv_at hl 0 rfl) ?_
                    refine lv_idiv hx hb dX12_goProduct_85 (ne0_of (by omega)) (lv_topi fun z92 hz92 => ?_)
                    refine lv_istore_n (lv' := [(1, .int z92), (3, .int z79), (2, .int z68), (0, .ref (B + 49))]) hx hb dX12_goProduct_86 rfl hl (by decide) rfl (fun ls hl => ?_)
                    refine lv_goto (tgt := 5) hx hb dX12_goProduct_87 (by decide) ?_
                    exact ih5 ls H locs ig91 lg76 z92 (lv_sub hl [0, 3] rfl) hw hI hF (⟨k1, m2, acc ++ (y2 ++ [(opS 47, 0, 0)]), by omega, hc2, (by have q9 := EvP.turn (o := 47) hev rv2; rw [opQ_1 (x := v8) (y := z79) (by omega), opN_0 (y := z79) (m := ig74 (B + 49) 33) (by omega) (by omega)] at q9; rw [eig91, up2_eq, show z90 = 1 from i32_inj (show z90.toInt = 1 by omega)]; rw [hz92]; exact q9), by omega, by omega⟩) (by omega) (by omega)
                  · refine lv_iconst (v := 0) hx hb dX12_goProduct_79 (by decide) (ti_c 0 (by decide) fun z93 hz93 => ?_)
                    refine lv_goto (tgt := 86) hx hb dX12_goProduct_80 (by decide) ?_
                    refine lv_istore_n (lv' := [(1, .int z93), (3, .int z79), (2, .int z68), (0, .ref (B + 49))]) hx hb dX12_goProduct_86 rfl hl (by decide) rfl (fun ls hl => ?_)
                    refine lv_goto (tgt := 5) hx hb dX12_goProduct_87 (by decide) ?_
                    exact ih5 ls H locs ig91 lg76 z93 (lv_sub hl [0, 3] rfl) hw hI hF (⟨k1, m2, acc ++ (y2 ++ [(opS 47, 0, 0)]), by omega, hc2, (by have q9 := EvP.turn (o := 47) hev rv2; rw [opQ_0 (x := v8) (y := z79) (by omega), opN_0 (y := z79) (m := ig74 (B + 49) 33) (by omega) (by omega)] at q9; rw [eig91, up2_eq, show z90 = 1 from i32_inj (show z90.toInt = 1 by omega)]; rw [show z93 = 0 from i32_z (by omega)]; exact q9), by omega, by omega⟩) (by omega) (by omega)
                · refine lv_iload_n hx hb dX12_goProduct_69 rfl (lv_at hl 2 rfl) ?_
                  refine lv_iload_n hx hb dX12_goProduct_70 rfl (lv_at hl 0 rfl) ?_
                  refine lv_imul hx hb dX12_goProduct_71 (lv_topi fun z94 hz94 => ?_)
                  refine lv_goto (tgt := 86) hx hb dX12_goProduct_72 (by decide) ?_
                  refine lv_istore_n (lv' := [(1, .int z94), (3, .int z79), (2, .int z68), (0, .ref (B + 49))]) hx hb dX12_goProduct_86 rfl hl (by decide) rfl (fun ls hl => ?_)
                  refine lv_goto (tgt := 5) hx hb dX12_goProduct_87 (by decide) ?_
                  exact ih5 ls H locs ig91 lg76 z94 (lv_sub hl [0, 3] rfl) hw hI hF (absurd t9 (by omega)) (by omega) (by omega)
  exact L5 ((120 * (q : Int) + (b : Int) - (ig2 (B + 49) 31).toInt) + 1).toNat ls H locs ig2 lg4 z7 (lv_sub hl [0, 1] rfl) hw hI hF (⟨n0, m0, y0, by omega, hc0, rv0.2, by omega, by omega⟩) (by omega) (by omega)

set_option maxHeartbeats 4000000 in
set_option maxRecDepth 100000 in
theorem t_X12_goEV {υ : Option Int} {τ : Tp} {φ : Option Int} (l : Launch) (B : Nat) (D : va_G) (cA : Nat → ClassId) (kd : sK) (ig : sI) (rg : sR) (lg : sG) (sz : Nat) (d q n8 a b : Nat) (R : Rw) (vv ee : Vl) (X9 : Fm) (hQ9 : RXgoProductV τ φ υ l B D cA d) (hG : GoS B q n8 R vv ee ig) (hP : iE R d a b X9) (hbn : b ≤ n8) (hgo : (ig (B + 49) 31).toInt = 120 * (q : Int) + (a : Int)) (hen : (ig (B + 49) 32).toInt = 120 * (q : Int) + (n8 : Int)) (hI : IM τ φ υ B kd ig rg) : MC l B D cA yX12_goE cX12_goE 4 (some .int) (rL (3 * d + 5) 0 0) [.ref (B + 49)] kd ig rg lg sz (PM τ φ υ B [49] kd ig rg lg (fun r ig' lg' => ∃ z : Int32, r = some (.int z) ∧ (((ig' (B + 49) 31).toInt = 120 * (q : Int) + (b : Int) ∧ (ig' (B + 49) 32).toInt = (ig (B + 49) 32).toInt) ∧ EvP vv ee (q : Int) X9 (ig (B + 49) 33) z (ig' (B + 49) 33)))) := by
  refine MC.of (own := RX12) (by decide +kernel) rfl (Nat.le_of_ble_eq_true rfl) ?_
  intro p e s m args below meth c ls C hr hlk hnm hw hsz hl
  have hx := C.1.1
  have hb := C.1.2.1
  have hown := C.1.2.2.2.1
  have hts := C.1.2.2.2.2
  have hl : lv_has ls 4 [(0, .ref (B + 49))] := hl
  have hF : Ft B [49] ig lg ig lg := Ft.rf
  have hsh := hI.sh
  have hrm := hI.rm
  obtain ⟨n0, m0, y0, hp0, hc0⟩ := hP
  have lt0 := iPd.lt hp0
  have le0 := hCt.le (fun _ _ _ w => iPd.lt w) _ _ _ _ _ hc0
  have hq9 := hG.2.2.2.1
  refine lv_aload_n hx hb dX12_goE_0 rfl (lv_at hl 0 rfl) ?_
  refine r_callV (As := []) (rest := []) C hw (hQ9 kd ig rg lg _  q n8 a m0 R vv ee y0 (hG.ft hF) hp0 (by omega) (by omega) (by omega) hI) sv_X12_270 (hsh 49 _ rfl) rfl hl.1 rfl (Nat.le_of_ble_eq_true rfl) ⟨by simp only [rL]; omega, by simp only [rL]; omega⟩ ⟨Nat.le_of_ble_eq_true rfl, Nat.le_of_ble_eq_true rfl⟩ dX12_goE_1 (fun r5 kd1 ig2 rg3 lg4 H locs hw hH hp6 => ?_)
  obtain ⟨rfl, rfl, hI, hchp6, hrhp6⟩ := hp6
  have hF : Ft B [49] ig lg ig2 lg4 := Ft.tr hF hchp6 (by decide) (by decide)
  obtain ⟨z7, rfl, hz7⟩ := hrhp6
  have rv0 := hz7
  have rv1 := rv0.1
  refine lv_istore_n (lv' := [(1, .int z7), (0, .ref (B + 49))]) hx hb dX12_goE_4 rfl hl (by decide) rfl (fun ls hl => ?_)
  have L5 : ∀ (n : Nat) (ls : Array Slot) (H : Heap) (locs : List Loc) (ig9 : sI) (lg10 : sG) (v8 : Int32), lv_has ls 4 [(1, .int v8), (0, .ref (B + 49))] → WD B D cA s.heap kd ig9 rg lg10 H locs → IM τ φ υ B kd ig9 rg → Ft B [49] ig lg ig9 lg10 → (∃ (k m1 : Nat) (acc : Fm), (ig9 (B + 49) 31).toInt = 120 * (q : Int) + (m1 : Int) ∧ hCt (iPd R d) (hAd (iS R)) k acc m1 b X9 ∧ EvP vv ee (q : Int) acc (ig (B + 49) 33) v8 (ig9 (B + 49) 33) ∧ a < m1 ∧ m1 ≤ b) → ((ig9 (B + 49) 32).toInt = 120 * (q : Int) + (n8 : Int)) → 120 * (q : Int) + (b : Int) - (ig9 (B + 49) 31).toInt < (n : Int) → W p l e (rL (3 * d + 5) 0 0) s m args below meth c H locs 0 0 (MQ below (QcW B D cA (PM τ φ υ B [49] kd ig rg lg (fun r ig' lg' => ∃ z : Int32, r = some (.int z) ∧ (((ig' (B + 49) 31).toInt = 120 * (q : Int) + (b : Int) ∧ (ig' (B + 49) 32).toInt = (ig (B + 49) 32).toInt) ∧ EvP vv ee (q : Int) X9 (ig (B + 49) 33) z (ig' (B + 49) 33))))) args s 0 0 (fun q => B ≤ q)) (F0 m 5 ls []) := by
    intro n5
    induction n5 with
    | zero => intro ls H locs ig9 lg10 v8 hl hw hI hF g5_0 g5_1 hmu; exact absurd hmu (by omega)
    | succ n5 ih5 =>
      intro ls H locs ig9 lg10 v8 hl hw hI hF g5_0 g5_1 hmu
      obtain ⟨k9, m1, acc, hgm, hct, hev, hm1, hm2⟩ := g5_0
      have hGn := hG.ft hF
      refine lv_aload_n hx hb dX12_goE_5 rfl (lv_at hl 1 rfl) ?_
      refine lv_bipush (v := 43) hx hb dX12_goE_6 (by decide) (ti_c 43 (by decide) fun z11 hz11 => ?_)
      refine r_callV (As := [.int z11]) (rest := []) C hw (t_X12_isNext l B D cA kd ig9 rg lg10 _ z11 (by omega) hI) sv_X12_273 (hsh 49 _ rfl) rfl hl.1 rfl (Nat.le_of_ble_eq_true rfl) ⟨by simp only [rL]; omega, by simp only [rL]; omega⟩ ⟨Nat.le_of_ble_eq_true rfl, Nat.le_of_ble_eq_true rfl⟩ dX12_goE_8 (fun r16 kd12 ig13 rg14 lg15 H locs hw hH hp17 => ?_)
      obtain ⟨rfl, rfl, rfl, rfl, hzhp17, hrhp17⟩ := hp17
      obtain ⟨z18, rfl, hz18⟩ := hrhp17
      have na9 := GoS.nc (o := 43) (a := m1) hGn (by omega) (by omega) (by omega) hz11 hz18
      refine z_ne (tgt := 23) hx hb dX12_goE_11 (by decide) (fun c11 => ?_) (fun c11 => ?_)
      · have hs9 : R m1 = (1, 43) := by1 na9 (by omega)
        have hcm := hCt.on hct (fun _ _ => ad_d) (o := 43) ⟨hs9, Or.inl rfl⟩
        obtain ⟨k1, m2, y2, hp2, hc2⟩ := hcm
        have lt2 := iPd.lt hp2
        have le2 := hCt.le (fun _ _ _ w => iPd.lt w) _ _ _ _ _ hc2
        refine lv_aload_n hx hb dX12_goE_23 rfl (lv_at hl 1 rfl) ?_
        refine lv_bipush (v := 43) hx hb dX12_goE_24 (by decide) (ti_c 43 (by decide) fun z19 hz19 => ?_)
        refine r_callV (As := [.int z19]) (rest := []) C hw (t_X12_isNext l B D cA kd ig9 rg lg10 _ z19 (by omega) hI) sv_X12_273 (hsh 49 _ rfl) rfl hl.1 rfl (Nat.le_of_ble_eq_true rfl) ⟨by simp only [rL]; omega, by simp only [rL]; omega⟩ ⟨Nat.le_of_ble_eq_true rfl, Nat.le_of_ble_eq_true rfl⟩ dX12_goE_26 (fun r24 kd20 ig21 rg22 lg23 H locs hw hH hp25 => ?_)
        obtain ⟨rfl, rfl, rfl, rfl, hzhp25, hrhp25⟩ := hp25
        obtain ⟨z26, rfl, hz26⟩ := hrhp25
        have nd9 := GoS.nc (o := 43) (a := m1) hGn (by omega) (by omega) (by omega) hz19 hz26
        have t9 : z26.toInt = 1 := (by rcases nd9 with ⟨q, -⟩ | ⟨-, q⟩; exact q; exact absurd hs9 q)
        refine lv_istore_n (lv' := [(2, .int z26), (1, .int v8), (0, .ref (B + 49))]) hx hb dX12_goE_29 rfl hl (by decide) rfl (fun ls hl => ?_)
        refine lv_aload_n hx hb dX12_goE_30 rfl (lv_at hl 2 rfl) ?_
        refine lv_dup hx hb dX12_goE_31 rfl ?_
        refine r_get C hw (hsh 49 _ rfl) fl_X12_241 (oV_i rfl) dX12_goE_32 (ti_c (ig9 (B + 49) 31).toInt rfl fun z27 hz27 => ?_)
        refine lv_iconst (v := 1) hx hb dX12_goE_35 (by decide) (ti_c 1 (by decide) fun z28 hz28 => ?_)
        refine lv_iadd hx hb dX12_goE_36 (tc_add fun z29 hz29 => ?_)
        first | replace hz29 := hz29 (by omega) | clear hz29
        refine r_puti C hw (hsh 49 _ rfl) fl_X12_241 rfl rfl rfl dX12_goE_37 (fun H locs hH hw => ?_)
        obtain ⟨ig30, eig30⟩ : ∃ f, f = up2 ig9 (B + 49) 31 z29 := ⟨_, rfl⟩
        rw [← eig30] at hw
        have hF : Ft B [49] ig lg ig30 lg10 := by rw [eig30]; exact hF.pi (by decide)
        have hI : IM τ φ υ B kd ig30 rg := by rw [eig30]; exact hI.pi (by decide) (show okR none _ from trivial)
        have wig30 : (ig30 (B + 49) 31).toInt = z29.toInt := by rw [eig30, up2_eq]
        have wig30_49_32 : (ig30 (B + 49) 32).toInt = (ig9 (B + 49) 32).toInt := by rw [eig30, up2_j (by decide)]
        refine lv_aload_n hx hb dX12_goE_40 rfl (lv_at hl 2 rfl) ?_
        refine r_callV (As := []) (rest := []) C hw (hQ9 kd ig30 rg lg10 _  q n8 (m1 + 1) m2 R vv ee y2 (hG.ft hF) hp2 (by omega) (by omega) (by omega) hI) sv_X12_270 (hsh 49 _ rfl) rfl hl.1 rfl (Nat.le_of_ble_eq_true rfl) ⟨by simp only [rL]; omega, by simp only [rL]; omega⟩ ⟨Nat.le_of_ble_eq_true rfl, Nat.le_of_ble_eq_true rfl⟩ dX12_goE_41 (fun r35 kd31 ig32 rg33 lg34 H locs hw hH hp36 => ?_)
        obtain ⟨rfl, rfl, hI, hchp36, hrhp36⟩ := hp36
        have hF : Ft B [49] ig lg ig32 lg34 := Ft.tr hF hchp36 (by decide) (by decide)
        obtain ⟨z37, rfl, hz37⟩ := hrhp36
        have rv2 := hz37.2
        have rv3 := hz37.1
        rw [show ig30 (B + 49) 33 = ig9 (B + 49) 33 by rw [eig30, up2_j (by decide)]] at rv2
        refine lv_istore_n (lv' := [(3, .int z37), (2, .int z26), (1, .int v8), (0, .ref (B + 49))]) hx hb dX12_goE_44 rfl hl (by decide) rfl (fun ls hl => ?_)
        refine lv_iload_n hx hb dX12_goE_45 rfl (lv_at hl 1 rfl) ?_
        refine z_eq (tgt := 55) hx hb dX12_goE_46 (by decide) (fun c46 => ?_) (fun c46 => ?_)
        · refine lv_iload_n hx hb dX12_goE_55 rfl (lv_at hl 2 rfl) ?_
          refine lv_iload_n hx hb dX12_goE_56 rfl (lv_at hl 0 rfl) ?_
          refine lv_isub hx hb dX12_goE_57 (lv_topi fun z38 hz38 => ?_)
          refine lv_istore_n (lv' := [(1, .int z38), (3, .int z37), (2, .int z26), (0, .ref (B + 49))]) hx hb dX12_goE_58 rfl hl (by decide) rfl (fun ls hl => ?_)
          refine lv_goto (tgt := 5) hx hb dX12_goE_59 (by decide) ?_
          exact ih5 ls H locs ig32 lg34 z38 (lv_sub hl [0, 3] rfl) hw hI hF (absurd t9 (by omega)) (by omega) (by omega)
        · refine lv_iload_n hx hb dX12_goE_49 rfl (lv_at hl 2 rfl) ?_
          refine lv_iload_n hx hb dX12_goE_50 rfl (lv_at hl 0 rfl) ?_
          refine lv_iadd hx hb dX12_goE_51 (lv_topi fun z39 hz39 => ?_)
          refine lv_goto (tgt := 58) hx hb dX12_goE_52 (by decide) ?_
          refine lv_istore_n (lv' := [(1, .int z39), (3, .int z37), (2, .int z26), (0, .ref (B + 49))]) hx hb dX12_goE_58 rfl hl (by decide) rfl (fun ls hl => ?_)
          refine lv_goto (tgt := 5) hx hb dX12_goE_59 (by decide) ?_
          exact ih5 ls H locs ig32 lg34 z39 (lv_sub hl [0, 3] rfl) hw hI hF (⟨k1, m2, acc ++ (y2 ++ [(opS 43, 0, 0)]), by omega, hc2, (by have q9 := EvP.turn (o := 43) hev rv2; rw [opV_43, opM_43, ← hz39] at q9; exact q9), by omega, by omega⟩) (by omega) (by omega)
      · refine lv_aload_n hx hb dX12_goE_14 rfl (lv_at hl 1 rfl) ?_
        refine lv_bipush (v := 45) hx hb dX12_goE_15 (by decide) (ti_c 45 (by decide) fun z40 hz40 => ?_)
        refine r_callV (As := [.int z40]) (rest := []) C hw (t_X12_isNext l B D cA kd ig9 rg lg10 _ z40 (by omega) hI) sv_X12_273 (hsh 49 _ rfl) rfl hl.1 rfl (Nat.le_of_ble_eq_true rfl) ⟨by simp only [rL]; omega, by simp only [rL]; omega⟩ ⟨Nat.le_of_ble_eq_true rfl, Nat.le_of_ble_eq_true rfl⟩ dX12_goE_17 (fun r45 kd41 ig42 rg43 lg44 H locs hw hH hp46 => ?_)
        obtain ⟨rfl, rfl, rfl, rfl, hzhp46, hrhp46⟩ := hp46
        obtain ⟨z47, rfl, hz47⟩ := hrhp46
        have nb9 := GoS.nc (o := 45) (a := m1) hGn (by omega) (by omega) (by omega) hz40 hz47
        refine z_eq (tgt := 62) hx hb dX12_goE_20 (by decide) (fun c20 => ?_) (fun c20 => ?_)
        · obtain ⟨eb9, ex9⟩ := hCt.off hct (fun o9 w9 => by rcases w9.2 with q9 | q9; (rw [q9] at w9; exact by0 na9 (by omega) w9.1); (rw [q9] at w9; exact by0 nb9 (by omega) w9.1))
          refine lv_iload_n hx hb dX12_goE_62 rfl (lv_at hl 0 rfl) ?_
          exact r_iret C hw hr hlk rfl (Nat.le_of_ble_eq_true rfl) (Nat.le_of_ble_eq_true rfl) dX12_goE_63 ⟨rfl, rfl, hI, hF, ⟨_, rfl, ⟨⟨by omega, by omega⟩, (by rw [ex9]; exact hev)⟩⟩⟩
        · have hs9 : R m1 = (1, 45) := by1 nb9 (by omega)
          have hcm := hCt.on hct (fun _ _ => ad_d) (o := 45) ⟨hs9, Or.inr rfl⟩
          obtain ⟨k1, m2, y2, hp2, hc2⟩ := hcm
          have lt2 := iPd.lt hp2
          have le2 := hCt.le (fun _ _ _ w => iPd.lt w) _ _ _ _ _ hc2
          refine lv_aload_n hx hb dX12_goE_23 rfl (lv_at hl 1 rfl) ?_
          refine lv_bipush (v := 43) hx hb dX12_goE_24 (by decide) (ti_c 43 (by decide) fun z48 hz48 => ?_)
          refine r_callV (As := [.int z48]) (rest := []) C hw (t_X12_isNext l B D cA kd ig9 rg lg10 _ z48 (by omega) hI) sv_X12_273 (hsh 49 _ rfl) rfl hl.1 rfl (Nat.le_of_ble_eq_true rfl) ⟨by simp only [rL]; omega, by simp only [rL]; omega⟩ ⟨Nat.le_of_ble_eq_true rfl, Nat.le_of_ble_eq_true rfl⟩ dX12_goE_26 (fun r53 kd49 ig50 rg51 lg52 H locs hw hH hp54 => ?_)
          obtain ⟨rfl, rfl, rfl, rfl, hzhp54, hrhp54⟩ := hp54
          obtain ⟨z55, rfl, hz55⟩ := hrhp54
          have nd9 := GoS.nc (o := 43) (a := m1) hGn (by omega) (by omega) (by omega) hz48 hz55
          have t9 : z55.toInt = 0 := (by rcases nd9 with ⟨-, q⟩ | ⟨q, -⟩; (rw [hs9] at q; exact absurd (Prod.mk.inj q).2 (by decide)); exact q)
          refine lv_istore_n (lv' := [(2, .int z55), (1, .int v8), (0, .ref (B + 49))]) hx hb dX12_goE_29 rfl hl (by decide) rfl (fun ls hl => ?_)
          refine lv_aload_n hx hb dX12_goE_30 rfl (lv_at hl 2 rfl) ?_
          refine lv_dup hx hb dX12_goE_31 rfl ?_
          refine r_get C hw (hsh 49 _ rfl) fl_X12_241 (oV_i rfl) dX12_goE_32 (ti_c (ig9 (B + 49) 31).toInt rfl fun z56 hz56 => ?_)
          refine lv_iconst (v := 1) hx hb dX12_goE_35 (by decide) (ti_c 1 (by decide) fun z57 hz57 => ?_)
          refine lv_iadd hx hb dX12_goE_36 (tc_add fun z58 hz58 => ?_)
          first | replace hz58 := hz58 (by omega) | clear hz58
          refine r_puti C hw (hsh 49 _ rfl) fl_X12_241 rfl rfl rfl dX12_goE_37 (fun H locs hH hw => ?_)
          obtain ⟨ig59, eig59⟩ : ∃ f, f = up2 ig9 (B + 49) 31 z58 := ⟨_, rfl⟩
          rw [← eig59] at hw
          have hF : Ft B [49] ig lg ig59 lg10 := by rw [eig59]; exact hF.pi (by decide)
          have hI : IM τ φ υ B kd ig59 rg := by rw [eig59]; exact hI.pi (by decide) (show okR none _ from trivial)
          have wig59 : (ig59 (B + 49) 31).toInt = z58.toInt := by rw [eig59, up2_eq]
          have wig59_49_32 : (ig59 (B + 49) 32).toInt = (ig9 (B + 49) 32).toInt := by rw [eig59, up2_j (by decide)]
          refine lv_aload_n hx hb dX12_goE_40 rfl (lv_at hl 2 rfl) ?_
          refine r_callV (As := []) (rest := []) C hw (hQ9 kd ig59 rg lg10 _  q n8 (m1 + 1) m2 R vv ee y2 (hG.ft hF) hp2 (by omega) (by omega) (by omega) hI) sv_X12_270 (hsh 49 _ rfl) rfl hl.1 rfl (Nat.le_of_ble_eq_true rfl) ⟨by simp only [rL]; omega, by simp only [rL]; omega⟩ ⟨Nat.le_of_ble_eq_true rfl, Nat.le_of_ble_eq_true rfl⟩ dX12_goE_41 (fun r64 kd60 ig61 rg62 lg63 H locs hw hH hp65 => ?_)
          obtain ⟨rfl, rfl, hI, hchp65, hrhp65⟩ := hp65
          have hF : Ft B [49] ig lg ig61 lg63 := Ft.tr hF hchp65 (by decide) (by decide)
          obtain ⟨z66, rfl, hz66⟩ := hrhp65
          have rv2 := hz66.2
          have rv3 := hz66.1
          rw [show ig59 (B + 49) 33 = ig9 (B + 49) 33 by rw [eig59, up2_j (by decide)]] at rv2
          refine lv_istore_n (lv' := [(3, .int z66), (2, .int z55), (1, .int v8), (0, .ref (B + 49))]) hx hb dX12_goE_44 rfl hl (by decide) rfl (fun ls hl => ?_)
          refine lv_iload_n hx hb dX12_goE_45 rfl (lv_at hl 1 rfl) ?_
          refine z_eq (tgt := 55) hx hb dX12_goE_46 (by decide) (fun c46 => ?_) (fun c46 => ?_)
          · refine lv_iload_n hx hb dX12_goE_55 rfl (lv_at hl 2 rfl) ?_
            refine lv_iload_n hx hb dX12_goE_56 rfl (lv_at hl 0 rfl) ?_
            refine lv_isub hx hb dX12_goE_57 (lv_topi fun z67 hz67 => ?_)
            refine lv_istore_n (lv' := [(1, .int z67), (3, .int z66), (2, .int z55), (0, .ref (B + 49))]) hx hb dX12_goE_58 rfl hl (by decide) rfl (fun ls hl => ?_)
            refine lv_goto (tgt := 5) hx hb dX12_goE_59 (by decide) ?_
            exact ih5 ls H locs ig61 lg63 z67 (lv_sub hl [0, 3] rfl) hw hI hF (⟨k1, m2, acc ++ (y2 ++ [(opS 45, 0, 0)]), by omega, hc2, (by have q9 := EvP.turn (o := 45) hev rv2; rw [opV_45, opM_45, ← hz67] at q9; exact q9), by omega, by omega⟩) (by omega) (by omega)
          · refine lv_iload_n hx hb dX12_goE_49 rfl (lv_at hl 2 rfl) ?_
            refine lv_iload_n hx hb dX12_goE_50 rfl (lv_at hl 0 rfl) ?_
            refine lv_iadd hx hb dX12_goE_51 (lv_topi fun z68 hz68 => ?_)
            refine lv_goto (tgt := 58) hx hb dX12_goE_52 (by decide) ?_
            refine lv_istore_n (lv' := [(1, .int z68), (3, .int z66), (2, .int z55), (0, .ref (B + 49))]) hx hb dX12_goE_58 rfl hl (by decide) rfl (fun ls hl => ?_)
            refine lv_goto (tgt := 5) hx hb dX12_goE_59 (by decide) ?_
            exact ih5 ls H locs ig61 lg63 z68 (lv_sub hl [0, 3] rfl) hw hI hF (absurd t9 (by omega)) (by omega) (by omega)
  exact L5 ((120 * (q : Int) + (b : Int) - (ig2 (B + 49) 31).toInt) + 1).toNat ls H locs ig2 lg4 z7 (lv_sub hl [0, 1] rfl) hw hI hF (⟨n0, m0, y0, by omega, hc0, rv0.2, by omega, by omega⟩) (by omega) (by omega)

theorem t_X12_goV_all {τ : Tp} {φ υ : Option Int} (l : Launch) (B : Nat) (D : va_G) (cA : Nat → ClassId) : ∀ d, RXgoPartV τ φ υ l B D cA d ∧ RXgoProductV τ φ υ l B D cA d ∧ RXgoEV τ φ υ l B D cA d := by
  intro d
  induction d with
  | zero =>
    have h1 : RXgoPartV τ φ υ l B D cA 0 := fun kd ig rg lg sz q n a b R vv ee X9 q1 q2 q3 q4 q5 hI => t_X12_goPartV l B D cA kd ig rg lg sz 0 q n a b R vv ee X9 (fun d1 h => by omega) q1 q2 q3 q4 q5 hI
    have h2 : RXgoProductV τ φ υ l B D cA 0 := fun kd ig rg lg sz q n a b R vv ee X9 q1 q2 q3 q4 q5 hI => t_X12_goProductV l B D cA kd ig rg lg sz 0 q n a b R vv ee X9 h1 q1 q2 q3 q4 q5 hI
    exact ⟨h1, h2, fun kd ig rg lg sz q n a b R vv ee X9 q1 q2 q3 q4 q5 hI => t_X12_goEV l B D cA kd ig rg lg sz 0 q n a b R vv ee X9 h2 q1 q2 q3 q4 q5 hI⟩
  | succ d ih =>
    have h1 : RXgoPartV τ φ υ l B D cA (d + 1) := fun kd ig rg lg sz q n a b R vv ee X9 q1 q2 q3 q4 q5 hI => t_X12_goPartV l B D cA kd ig rg lg sz (d + 1) q n a b R vv ee X9 (fun d1 h => by cases h; exact ⟨ih.1, ih.2.2⟩) q1 q2 q3 q4 q5 hI
    have h2 : RXgoProductV τ φ υ l B D cA (d + 1) := fun kd ig rg lg sz q n a b R vv ee X9 q1 q2 q3 q4 q5 hI => t_X12_goProductV l B D cA kd ig rg lg sz (d + 1) q n a b R vv ee X9 h1 q1 q2 q3 q4 q5 hI
    exact ⟨h1, h2, fun kd ig rg lg sz q n a b R vv ee X9 q1 q2 q3 q4 q5 hI => t_X12_goEV l B D cA kd ig rg lg sz (d + 1) q n a b R vv ee X9 h2 q1 q2 q3 q4 q5 hI⟩
