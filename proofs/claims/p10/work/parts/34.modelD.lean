set_option maxHeartbeats 4000000 in
set_option maxRecDepth 100000 in
theorem t_X12_work {υ : Option Int} {τ : Tp} {φ : Option Int} (l : Launch) (B : Nat) (D : va_G) (cA : Nat → ClassId) (kd : sK) (ig : sI) (rg : sR) (lg : sG) (sz : Nat) (x : Int32) (hx0 : 0 ≤ x.toInt ∧ x.toInt < 288) (hkd : (ig (B + 59) x.toInt.toNat).toInt = 2) (hI : IM τ φ υ B kd ig rg) : MC l B D cA yX12_work cX12_work 4 none (rL 30 0 0) [.ref (B + 49), .int x] kd ig rg lg sz (PM τ φ υ B [49, 66, 67, 68, 69, 70, 72, 74] kd ig rg lg (fun r ig' lg' => r = none)) := by
  refine MC.of (own := RX12) (by decide +kernel) rfl (Nat.le_of_ble_eq_true rfl) ?_
  intro p e s m args below meth c ls C hr hlk hnm hw hsz hl
  have hx := C.1.1
  have hb := C.1.2.1
  have hown := C.1.2.2.2.1
  have hts := C.1.2.2.2.2
  have hl : lv_has ls 4 [(0, .ref (B + 49)), (1, .int x)] := hl
  have hF : Ft B [49, 66, 67, 68, 69, 70, 72, 74] ig lg ig lg := Ft.rf
  have hsh := hI.sh
  have hrm := hI.rm
  obtain ⟨n, e1, e2, e3, e4⟩ := hI.row (p := x.toInt.toNat) (by omega) (by omega) hkd
  have hlt := e3.lt
  refine lv_aload_n hx hb dX12_work_0 rfl (lv_at hl 0 rfl) ?_
  refine lv_bipush (v := 120) hx hb dX12_work_1 (by decide) (ti_c 120 (by decide) fun z1 hz1 => ?_)
  refine lv_iload_n hx hb dX12_work_3 rfl (lv_at hl 1 rfl) ?_
  refine lv_imul hx hb dX12_work_4 (tc_mulL 120 hz1 fun z2 hz2 => ?_)
  first | replace hz2 := hz2 (by omega) | clear hz2
  refine r_puti C hw (hsh 49 _ rfl) fl_X12_241 rfl rfl rfl dX12_work_5 (fun H locs hH hw => ?_)
  obtain ⟨ig3, eig3⟩ : ∃ f, f = up2 ig (B + 49) 31 z2 := ⟨_, rfl⟩
  rw [← eig3] at hw
  have hF : Ft B [49, 66, 67, 68, 69, 70, 72, 74] ig lg ig3 lg := by rw [eig3]; exact hF.pi (by decide)
  have hI : IM τ φ υ B kd ig3 rg := by rw [eig3]; exact hI.pi (by decide) (show okR none _ from trivial)
  have wig3 : (ig3 (B + 49) 31).toInt = z2.toInt := by rw [eig3, up2_eq]
  have wig3_49_32 : (ig3 (B + 49) 32).toInt = (ig (B + 49) 32).toInt := by rw [eig3, up2_j (by decide)]
  have wig3_49_33 : (ig3 (B + 49) 33).toInt = (ig (B + 49) 33).toInt := by rw [eig3, up2_j (by decide)]
  have wig3_49_34 : (ig3 (B + 49) 34).toInt = (ig (B + 49) 34).toInt := by rw [eig3, up2_j (by decide)]
  have wig3_49_35 : (ig3 (B + 49) 35).toInt = (ig (B + 49) 35).toInt := by rw [eig3, up2_j (by decide)]
  refine lv_aload_n hx hb dX12_work_8 rfl (lv_at hl 0 rfl) ?_
  refine lv_aload_n hx hb dX12_work_9 rfl (lv_at hl 0 rfl) ?_
  refine r_get C hw (hsh 49 _ rfl) fl_X12_241 (oV_i rfl) dX12_work_10 (ti_c (ig3 (B + 49) 31).toInt rfl fun z4 hz4 => ?_)
  refine lv_aload_n hx hb dX12_work_13 rfl (lv_at hl 0 rfl) ?_
  refine r_get C hw (hsh 49 _ rfl) fl_X12_77 (oV_r rfl (hrm (49, 13, 58) (by decide))) dX12_work_14 ?_
  refine lv_iload_n hx hb dX12_work_17 rfl (lv_at hl 1 rfl) ?_
  refine r_iald C hw (hsh 58 _ rfl) (by omega) (by omega) dX12_work_18 (ti_c (ig3 (B + 58) x.toInt.toNat).toInt rfl fun z5 hz5 => ?_)
  have k6 := hI.its (j := (x.toInt.toNat)) (by omega)
  rw [Ft.i hF 58 _ (by decide)] at hz5 k6
  refine lv_iadd hx hb dX12_work_19 (tc_add fun z7 hz7 => ?_)
  first | replace hz7 := hz7 (by omega) | clear hz7
  refine r_puti C hw (hsh 49 _ rfl) fl_X12_244 rfl rfl rfl dX12_work_20 (fun H locs hH hw => ?_)
  obtain ⟨ig8, eig8⟩ : ∃ f, f = up2 ig3 (B + 49) 32 z7 := ⟨_, rfl⟩
  rw [← eig8] at hw
  have hF : Ft B [49, 66, 67, 68, 69, 70, 72, 74] ig lg ig8 lg := by rw [eig8]; exact hF.pi (by decide)
  have hI : IM τ φ υ B kd ig8 rg := by rw [eig8]; exact hI.pi (by decide) (show okR none _ from trivial)
  have wig8_49_31 : (ig8 (B + 49) 31).toInt = (ig3 (B + 49) 31).toInt := by rw [eig8, up2_j (by decide)]
  have wig8 : (ig8 (B + 49) 32).toInt = z7.toInt := by rw [eig8, up2_eq]
  have wig8_49_33 : (ig8 (B + 49) 33).toInt = (ig3 (B + 49) 33).toInt := by rw [eig8, up2_j (by decide)]
  have wig8_49_34 : (ig8 (B + 49) 34).toInt = (ig3 (B + 49) 34).toInt := by rw [eig8, up2_j (by decide)]
  have wig8_49_35 : (ig8 (B + 49) 35).toInt = (ig3 (B + 49) 35).toInt := by rw [eig8, up2_j (by decide)]
  refine lv_aload_n hx hb dX12_work_23 rfl (lv_at hl 0 rfl) ?_
  refine lv_iconst (v := 0) hx hb dX12_work_24 (by decide) (ti_c 0 (by decide) fun z9 hz9 => ?_)
  refine r_puti C hw (hsh 49 _ rfl) fl_X12_247 rfl rfl rfl dX12_work_25 (fun H locs hH hw => ?_)
  obtain ⟨ig10, eig10⟩ : ∃ f, f = up2 ig8 (B + 49) 33 z9 := ⟨_, rfl⟩
  rw [← eig10] at hw
  have hF : Ft B [49, 66, 67, 68, 69, 70, 72, 74] ig lg ig10 lg := by rw [eig10]; exact hF.pi (by decide)
  have hI : IM τ φ υ B kd ig10 rg := by rw [eig10]; exact hI.pi (by decide) (show okR none _ from trivial)
  have wig10_49_31 : (ig10 (B + 49) 31).toInt = (ig8 (B + 49) 31).toInt := by rw [eig10, up2_j (by decide)]
  have wig10_49_32 : (ig10 (B + 49) 32).toInt = (ig8 (B + 49) 32).toInt := by rw [eig10, up2_j (by decide)]
  have wig10 : (ig10 (B + 49) 33).toInt = z9.toInt := by rw [eig10, up2_eq]
  have wig10_49_34 : (ig10 (B + 49) 34).toInt = (ig8 (B + 49) 34).toInt := by rw [eig10, up2_j (by decide)]
  have wig10_49_35 : (ig10 (B + 49) 35).toInt = (ig8 (B + 49) 35).toInt := by rw [eig10, up2_j (by decide)]
  refine lv_aload_n hx hb dX12_work_28 rfl (lv_at hl 0 rfl) ?_
  refine r_callV (As := []) (rest := []) C hw ((t_X12_goE_all l B D cA 8).2.2 kd ig10 rg lg _  (120 * x.toInt.toNat) (120 * x.toInt.toNat + n) (by rw [Ft.K hF (by decide), Ft.A hF (by decide)]; exact e3) (by omega) (fun k q1 q2 => Ft.R hF (by decide) (by decide) (by decide) (e4 k q1 q2)) (by omega) (Or.inl (by omega)) hI) sv_X12_250 (hsh 49 _ rfl) rfl hl.1 rfl (Nat.le_of_ble_eq_true rfl) ⟨Nat.le_of_ble_eq_true rfl, Nat.le_of_ble_eq_true rfl⟩ ⟨Nat.le_of_ble_eq_true rfl, Nat.le_of_ble_eq_true rfl⟩ dX12_work_29 (fun r15 kd11 ig12 rg13 lg14 H locs hw hH hp16 => ?_)
  obtain ⟨rfl, rfl, hI, hchp16, hrhp16⟩ := hp16
  have hF : Ft B [49, 66, 67, 68, 69, 70, 72, 74] ig lg ig12 lg14 := Ft.tr hF hchp16 (by decide) (by decide)
  obtain ⟨z17, rfl, hz17⟩ := hrhp16
  refine lv_istore_n (lv' := [(2, .int z17), (0, .ref (B + 49)), (1, .int x)]) hx hb dX12_work_32 rfl hl (by decide) rfl (fun ls hl => ?_)
  refine lv_aload_n hx hb dX12_work_33 rfl (lv_at hl 1 rfl) ?_
  refine r_get C hw (hsh 49 _ rfl) fl_X12_102 (oV_r rfl (hrm (49, 23, 66) (by decide))) dX12_work_34 ?_
  refine lv_iload_n hx hb dX12_work_37 rfl (lv_at hl 2 rfl) ?_
  refine lv_aload_n hx hb dX12_work_38 rfl (lv_at hl 1 rfl) ?_
  refine r_get C hw (hsh 49 _ rfl) fl_X12_247 (oV_i rfl) dX12_work_39 (ti_c (ig12 (B + 49) 33).toInt rfl fun z18 hz18 => ?_)
  refine z_le (tgt := 49) hx hb dX12_work_42 (by decide) (fun c42 => ?_) (fun c42 => ?_)
  · refine lv_iload_n hx hb dX12_work_49 rfl (lv_at hl 0 rfl) ?_
    refine r_iast C hw (hsh 66 _ rfl) (by omega) (by omega) dX12_work_50 (fun H locs hH hw => ?_)
    obtain ⟨ig19, eig19⟩ : ∃ f, f = up2 ig12 (B + 66) x.toInt.toNat z17 := ⟨_, rfl⟩
    rw [← eig19] at hw
    have hF : Ft B [49, 66, 67, 68, 69, 70, 72, 74] ig lg ig19 lg14 := by rw [eig19]; exact hF.pi (by decide)
    have hI : IM τ φ υ B kd ig19 rg := by rw [eig19]; exact hI.pi (by decide) (show okR none _ from trivial)
    have wig19_49_31 : (ig19 (B + 49) 31).toInt = (ig12 (B + 49) 31).toInt := by rw [eig19, up2_a (by omega)]
    have wig19_49_32 : (ig19 (B + 49) 32).toInt = (ig12 (B + 49) 32).toInt := by rw [eig19, up2_a (by omega)]
    have wig19_49_33 : (ig19 (B + 49) 33).toInt = (ig12 (B + 49) 33).toInt := by rw [eig19, up2_a (by omega)]
    have wig19_49_34 : (ig19 (B + 49) 34).toInt = (ig12 (B + 49) 34).toInt := by rw [eig19, up2_a (by omega)]
    have wig19_49_35 : (ig19 (B + 49) 35).toInt = (ig12 (B + 49) 35).toInt := by rw [eig19, up2_a (by omega)]
    refine lv_aload_n hx hb dX12_work_51 rfl (lv_at hl 1 rfl) ?_
    refine r_get C hw (hsh 49 _ rfl) fl_X12_105 (oV_r rfl (hrm (49, 24, 67) (by decide))) dX12_work_52 ?_
    refine lv_iload_n hx hb dX12_work_55 rfl (lv_at hl 2 rfl) ?_
    refine lv_aload_n hx hb dX12_work_56 rfl (lv_at hl 1 rfl) ?_
    refine r_get C hw (hsh 49 _ rfl) fl_X12_247 (oV_i rfl) dX12_work_57 (ti_c (ig19 (B + 49) 33).toInt rfl fun z20 hz20 => ?_)
    refine r_iast C hw (hsh 67 _ rfl) (by omega) (by omega) dX12_work_60 (fun H locs hH hw => ?_)
    obtain ⟨ig21, eig21⟩ : ∃ f, f = up2 ig19 (B + 67) x.toInt.toNat z20 := ⟨_, rfl⟩
    rw [← eig21] at hw
    have hF : Ft B [49, 66, 67, 68, 69, 70, 72, 74] ig lg ig21 lg14 := by rw [eig21]; exact hF.pi (by decide)
    have hI : IM τ φ υ B kd ig21 rg := by rw [eig21]; exact hI.pi (by decide) (show okR none _ from trivial)
    have wig21_49_31 : (ig21 (B + 49) 31).toInt = (ig19 (B + 49) 31).toInt := by rw [eig21, up2_a (by omega)]
    have wig21_49_32 : (ig21 (B + 49) 32).toInt = (ig19 (B + 49) 32).toInt := by rw [eig21, up2_a (by omega)]
    have wig21_49_33 : (ig21 (B + 49) 33).toInt = (ig19 (B + 49) 33).toInt := by rw [eig21, up2_a (by omega)]
    have wig21_49_34 : (ig21 (B + 49) 34).toInt = (ig19 (B + 49) 34).toInt := by rw [eig21, up2_a (by omega)]
    have wig21_49_35 : (ig21 (B + 49) 35).toInt = (ig19 (B + 49) 35).toInt := by rw [eig21, up2_a (by omega)]
    refine lv_aload_n hx hb dX12_work_61 rfl (lv_at hl 1 rfl) ?_
    refine lv_bipush (v := 120) hx hb dX12_work_62 (by decide) (ti_c 120 (by decide) fun z22 hz22 => ?_)
    refine lv_iload_n hx hb dX12_work_64 rfl (lv_at hl 2 rfl) ?_
    refine lv_imul hx hb dX12_work_65 (tc_mulL 120 hz22 fun z23 hz23 => ?_)
    first | replace hz23 := hz23 (by omega) | clear hz23
    refine r_puti C hw (hsh 49 _ rfl) fl_X12_241 rfl rfl rfl dX12_work_66 (fun H locs hH hw => ?_)
    obtain ⟨ig24, eig24⟩ : ∃ f, f = up2 ig21 (B + 49) 31 z23 := ⟨_, rfl⟩
    rw [← eig24] at hw
    have hF : Ft B [49, 66, 67, 68, 69, 70, 72, 74] ig lg ig24 lg14 := by rw [eig24]; exact hF.pi (by decide)
    have hI : IM τ φ υ B kd ig24 rg := by rw [eig24]; exact hI.pi (by decide) (show okR none _ from trivial)
    have wig24 : (ig24 (B + 49) 31).toInt = z23.toInt := by rw [eig24, up2_eq]
    have wig24_49_32 : (ig24 (B + 49) 32).toInt = (ig21 (B + 49) 32).toInt := by rw [eig24, up2_j (by decide)]
    have wig24_49_33 : (ig24 (B + 49) 33).toInt = (ig21 (B + 49) 33).toInt := by rw [eig24, up2_j (by decide)]
    have wig24_49_34 : (ig24 (B + 49) 34).toInt = (ig21 (B + 49) 34).toInt := by rw [eig24, up2_j (by decide)]
    have wig24_49_35 : (ig24 (B + 49) 35).toInt = (ig21 (B + 49) 35).toInt := by rw [eig24, up2_j (by decide)]
    refine lv_aload_n hx hb dX12_work_69 rfl (lv_at hl 1 rfl) ?_
    refine lv_iconst (v := 0) hx hb dX12_work_70 (by decide) (ti_c 0 (by decide) fun z25 hz25 => ?_)
    refine r_puti C hw (hsh 49 _ rfl) fl_X12_254 rfl (nar_b (by omega)) (fit_b (by omega)) dX12_work_71 (fun H locs hH hw => ?_)
    obtain ⟨ig26, eig26⟩ : ∃ f, f = up2 ig24 (B + 49) 34 z25 := ⟨_, rfl⟩
    rw [← eig26] at hw
    have hF : Ft B [49, 66, 67, 68, 69, 70, 72, 74] ig lg ig26 lg14 := by rw [eig26]; exact hF.pi (by decide)
    have hI : IM τ φ υ B kd ig26 rg := by rw [eig26]; exact hI.pi (by decide) (show okR (some (0, 1)) _ from ⟨by show (0 : Int) ≤ _; omega, by show _ ≤ (1 : Int); omega⟩)
    have wig26_49_31 : (ig26 (B + 49) 31).toInt = (ig24 (B + 49) 31).toInt := by rw [eig26, up2_j (by decide)]
    have wig26_49_32 : (ig26 (B + 49) 32).toInt = (ig24 (B + 49) 32).toInt := by rw [eig26, up2_j (by decide)]
    have wig26_49_33 : (ig26 (B + 49) 33).toInt = (ig24 (B + 49) 33).toInt := by rw [eig26, up2_j (by decide)]
    have wig26 : (ig26 (B + 49) 34).toInt = z25.toInt := by rw [eig26, up2_eq]
    have wig26_49_35 : (ig26 (B + 49) 35).toInt = (ig24 (B + 49) 35).toInt := by rw [eig26, up2_j (by decide)]
    refine lv_aload_n hx hb dX12_work_74 rfl (lv_at hl 1 rfl) ?_
    refine lv_iconst (v := 0) hx hb dX12_work_75 (by decide) (ti_c 0 (by decide) fun z27 hz27 => ?_)
    refine r_puti C hw (hsh 49 _ rfl) fl_X12_258 rfl rfl rfl dX12_work_76 (fun H locs hH hw => ?_)
    obtain ⟨ig28, eig28⟩ : ∃ f, f = up2 ig26 (B + 49) 35 z27 := ⟨_, rfl⟩
    rw [← eig28] at hw
    have hF : Ft B [49, 66, 67, 68, 69, 70, 72, 74] ig lg ig28 lg14 := by rw [eig28]; exact hF.pi (by decide)
    have hI : IM τ φ υ B kd ig28 rg := by rw [eig28]; exact hI.pi (by decide) (show okR none _ from trivial)
    have wig28_49_31 : (ig28 (B + 49) 31).toInt = (ig26 (B + 49) 31).toInt := by rw [eig28, up2_j (by decide)]
    have wig28_49_32 : (ig28 (B + 49) 32).toInt = (ig26 (B + 49) 32).toInt := by rw [eig28, up2_j (by decide)]
    have wig28_49_33 : (ig28 (B + 49) 33).toInt = (ig26 (B + 49) 33).toInt := by rw [eig28, up2_j (by decide)]
    have wig28_49_34 : (ig28 (B + 49) 34).toInt = (ig26 (B + 49) 34).toInt := by rw [eig28, up2_j (by decide)]
    have wig28 : (ig28 (B + 49) 35).toInt = z27.toInt := by rw [eig28, up2_eq]
    refine lv_aload_n hx hb dX12_work_79 rfl (lv_at hl 1 rfl) ?_
    refine r_callV (As := []) (rest := []) C hw ((t_X12_unitE_all l B D cA 8).2.2 kd ig28 rg lg14 _  (120 * x.toInt.toNat) (120 * x.toInt.toNat + n) (by rw [Ft.K hF (by decide), Ft.A hF (by decide)]; exact e3) (by omega) (fun k q1 q2 => Ft.R hF (by decide) (by decide) (by decide) (e4 k q1 q2)) (by omega) (Or.inl (by omega)) (by omega) hI) sv_X12_261 (hsh 49 _ rfl) rfl hl.1 rfl (Nat.le_of_ble_eq_true rfl) ⟨Nat.le_of_ble_eq_true rfl, Nat.le_of_ble_eq_true rfl⟩ ⟨Nat.le_of_ble_eq_true rfl, Nat.le_of_ble_eq_true rfl⟩ dX12_work_80 (fun r33 kd29 ig30 rg31 lg32 H locs hw hH hp34 => ?_)
    obtain ⟨rfl, rfl, hI, hchp34, hrhp34⟩ := hp34
    have hF : Ft B [49, 66, 67, 68, 69, 70, 72, 74] ig lg ig30 lg32 := Ft.tr hF hchp34 (by decide) (by decide)
    obtain ⟨rfl, hvhp34⟩ := hrhp34
    refine lv_iconst (v := 0) hx hb dX12_work_83 (by decide) (ti_c 0 (by decide) fun z35 hz35 => ?_)
    refine lv_istore_n (lv' := [(3, .int z35), (2, .int z17), (0, .ref (B + 49)), (1, .int x)]) hx hb dX12_work_84 rfl hl (by decide) rfl (fun ls hl => ?_)
    have L85 : ∀ (n : Nat) (ls : Array Slot) (H : Heap) (locs : List Loc) (ig37 : sI) (lg38 : sG) (v36 : Int32), lv_has ls 4 [(3, .int v36), (0, .ref (B + 49)), (1, .int x)] → WD B D cA s.heap kd ig37 rg lg38 H locs → IM τ φ υ B kd ig37 rg → Ft B [49, 66, 67, 68, 69, 70, 72, 74] ig lg ig37 lg38 → (0 ≤ v36.toInt) → (v36.toInt ≤ 3) → 3 - v36.toInt < (n : Int) → W p l e (rL 30 0 0) s m args below meth c H locs 0 0 (MQ below (QcW B D cA (PM τ φ υ B [49, 66, 67, 68, 69, 70, 72, 74] kd ig rg lg (fun r ig' lg' => r = none))) args s 0 0 (fun q => B ≤ q)) (F0 m 85 ls []) := by
      intro n85
      induction n85 with
      | zero => intro ls H locs ig37 lg38 v36 hl hw hI hF g85_0 g85_1 hmu; exact absurd hmu (by omega)
      | succ n85 ih85 =>
        intro ls H locs ig37 lg38 v36 hl hw hI hF g85_0 g85_1 hmu
        refine lv_iload_n hx hb dX12_work_85 rfl (lv_at hl 0 rfl) ?_
        refine lv_iconst (v := 3) hx hb dX12_work_86 (by decide) (ti_c 3 (by decide) fun z39 hz39 => ?_)
        refine b_ge (tgt := 112) hx hb dX12_work_87 (by decide) (fun c87 => ?_) (fun c87 => ?_)
        · refine lv_aload_n hx hb dX12_work_112 rfl (lv_at hl 1 rfl) ?_
          refine r_get C hw (hsh 49 _ rfl) fl_X12_111 (oV_r rfl (hrm (49, 26, 69) (by decide))) dX12_work_113 ?_
          refine lv_iload_n hx hb dX12_work_116 rfl (lv_at hl 2 rfl) ?_
          refine lv_aload_n hx hb dX12_work_117 rfl (lv_at hl 1 rfl) ?_
          refine r_get C hw (hsh 49 _ rfl) fl_X12_254 (oV_i rfl) dX12_work_118 (ti_c (ig37 (B + 49) 34).toInt rfl fun z40 hz40 => ?_)
          have k41 : 0 ≤ (ig37 (B + 49) 34).toInt ∧ (ig37 (B + 49) 34).toInt ≤ 1 := hI.i 49 34 (by decide) (by decide)
          refine r_zast C hw (hsh 69 _ rfl) (by omega) (by omega) (nar_b (by omega)) dX12_work_121 (fun H locs hH hw => ?_)
          obtain ⟨ig42, eig42⟩ : ∃ f, f = up2 ig37 (B + 69) x.toInt.toNat z40 := ⟨_, rfl⟩
          rw [← eig42] at hw
          have hF : Ft B [49, 66, 67, 68, 69, 70, 72, 74] ig lg ig42 lg38 := by rw [eig42]; exact hF.pi (by decide)
          have hI : IM τ φ υ B kd ig42 rg := by rw [eig42]; exact hI.pi (by decide) (show okR none _ from trivial)
          have wig42_49_31 : (ig42 (B + 49) 31).toInt = (ig37 (B + 49) 31).toInt := by rw [eig42, up2_a (by omega)]
          have wig42_49_32 : (ig42 (B + 49) 32).toInt = (ig37 (B + 49) 32).toInt := by rw [eig42, up2_a (by omega)]
          have wig42_49_33 : (ig42 (B + 49) 33).toInt = (ig37 (B + 49) 33).toInt := by rw [eig42, up2_a (by omega)]
          have wig42_49_34 : (ig42 (B + 49) 34).toInt = (ig37 (B + 49) 34).toInt := by rw [eig42, up2_a (by omega)]
          have wig42_49_35 : (ig42 (B + 49) 35).toInt = (ig37 (B + 49) 35).toInt := by rw [eig42, up2_a (by omega)]
          refine lv_aload_n hx hb dX12_work_122 rfl (lv_at hl 1 rfl) ?_
          refine r_get C hw (hsh 49 _ rfl) fl_X12_114 (oV_r rfl (hrm (49, 27, 70) (by decide))) dX12_work_123 ?_
          refine lv_iload_n hx hb dX12_work_126 rfl (lv_at hl 2 rfl) ?_
          refine lv_aload_n hx hb dX12_work_127 rfl (lv_at hl 1 rfl) ?_
          refine lv_iload_n hx hb dX12_work_128 rfl (lv_at hl 2 rfl) ?_
          refine r_callV (As := [.int x]) (rest := [.int x, .ref (B + 70)]) C hw (t_X12_looksTotal l B D cA kd ig42 rg lg38 _ x (by omega) (by rw [Ft.i hF 59 _ (by decide)]; omega) hI) sv_X12_264 (hsh 49 _ rfl) rfl hl.1 rfl (Nat.le_of_ble_eq_true rfl) ⟨Nat.le_of_ble_eq_true rfl, Nat.le_of_ble_eq_true rfl⟩ ⟨Nat.le_of_ble_eq_true rfl, Nat.le_of_ble_eq_true rfl⟩ dX12_work_129 (fun r47 kd43 ig44 rg45 lg46 H locs hw hH hp48 => ?_)
          obtain ⟨rfl, rfl, rfl, rfl, hzhp48, hrhp48⟩ := hp48
          obtain ⟨z49, rfl, hz49⟩ := hrhp48
          refine r_zast C hw (hsh 70 _ rfl) (by omega) (by omega) (nar_b (by omega)) dX12_work_132 (fun H locs hH hw => ?_)
          obtain ⟨ig50, eig50⟩ : ∃ f, f = up2 ig42 (B + 70) x.toInt.toNat z49 := ⟨_, rfl⟩
          rw [← eig50] at hw
          have hF : Ft B [49, 66, 67, 68, 69, 70, 72, 74] ig lg ig50 lg38 := by rw [eig50]; exact hF.pi (by decide)
          have hI : IM τ φ υ B kd ig50 rg := by rw [eig50]; exact hI.pi (by decide) (show okR none _ from trivial)
          have wig50_49_31 : (ig50 (B + 49) 31).toInt = (ig42 (B + 49) 31).toInt := by rw [eig50, up2_a (by omega)]
          have wig50_49_32 : (ig50 (B + 49) 32).toInt = (ig42 (B + 49) 32).toInt := by rw [eig50, up2_a (by omega)]
          have wig50_49_33 : (ig50 (B + 49) 33).toInt = (ig42 (B + 49) 33).toInt := by rw [eig50, up2_a (by omega)]
          have wig50_49_34 : (ig50 (B + 49) 34).toInt = (ig42 (B + 49) 34).toInt := by rw [eig50, up2_a (by omega)]
          have wig50_49_35 : (ig50 (B + 49) 35).toInt = (ig42 (B + 49) 35).toInt := by rw [eig50, up2_a (by omega)]
          refine lv_aload_n hx hb dX12_work_133 rfl (lv_at hl 1 rfl) ?_
          refine r_get C hw (hsh 49 _ rfl) fl_X12_114 (oV_r rfl (hrm (49, 27, 70) (by decide))) dX12_work_134 ?_
          refine lv_iload_n hx hb dX12_work_137 rfl (lv_at hl 2 rfl) ?_
          refine r_zald C hw (hsh 70 _ rfl) (by omega) (by omega) dX12_work_138 (ti_c (ig50 (B + 70) x.toInt.toNat).toInt rfl fun z51 hz51 => ?_)
          refine z_eq (tgt := 147) hx hb dX12_work_139 (by decide) (fun c139 => ?_) (fun c139 => ?_)
          · exact r_vret C hw hr hlk (Nat.le_of_ble_eq_true rfl) (Nat.le_of_ble_eq_true rfl) dX12_work_147 ⟨rfl, rfl, hI, hF, rfl⟩
          · refine lv_aload_n hx hb dX12_work_142 rfl (lv_at hl 1 rfl) ?_
            refine lv_iload_n hx hb dX12_work_143 rfl (lv_at hl 2 rfl) ?_
            refine r_callV (As := [.int x]) (rest := []) C hw (t_X12_countWays l B D cA kd ig50 rg lg38 _ x (by omega) (by rw [Ft.i hF 59 _ (by decide)]; omega) hI) sv_X12_267 (hsh 49 _ rfl) rfl hl.1 rfl (Nat.le_of_ble_eq_true rfl) ⟨Nat.le_of_ble_eq_true rfl, Nat.le_of_ble_eq_true rfl⟩ ⟨Nat.le_of_ble_eq_true rfl, Nat.le_of_ble_eq_true rfl⟩ dX12_work_144 (fun r57 kd53 ig54 rg55 lg56 H locs hw hH hp58 => ?_)
            obtain ⟨rfl, rfl, hI, hchp58, hrhp58⟩ := hp58
            have hF : Ft B [49, 66, 67, 68, 69, 70, 72, 74] ig lg ig54 lg56 := Ft.tr hF hchp58 (by decide) (by decide)
            obtain rfl := hrhp58
            exact r_vret C hw hr hlk (Nat.le_of_ble_eq_true rfl) (Nat.le_of_ble_eq_true rfl) dX12_work_147 ⟨rfl, rfl, hI, hF, rfl⟩
        · refine lv_aload_n hx hb dX12_work_90 rfl (lv_at hl 1 rfl) ?_
          refine r_get C hw (hsh 49 _ rfl) fl_X12_108 (oV_r rfl (hrm (49, 25, 68) (by decide))) dX12_work_91 ?_
          refine lv_iconst (v := 3) hx hb dX12_work_94 (by decide) (ti_c 3 (by decide) fun z59 hz59 => ?_)
          refine lv_iload_n hx hb dX12_work_95 rfl (lv_at hl 2 rfl) ?_
          refine lv_imul hx hb dX12_work_96 (tc_mulL 3 hz59 fun z60 hz60 => ?_)
          first | replace hz60 := hz60 (by omega) | clear hz60
          refine lv_iload_n hx hb dX12_work_97 rfl (lv_at hl 0 rfl) ?_
          refine lv_iadd hx hb dX12_work_98 (tc_add fun z61 hz61 => ?_)
          first | replace hz61 := hz61 (by omega) | clear hz61
          refine lv_aload_n hx hb dX12_work_99 rfl (lv_at hl 1 rfl) ?_
          refine r_get C hw (hsh 49 _ rfl) fl_X12_127 (oV_r rfl (hrm (49, 36, 74) (by decide))) dX12_work_100 ?_
          refine lv_iload_n hx hb dX12_work_103 rfl (lv_at hl 0 rfl) ?_
          refine r_iald C hw (hsh 74 _ rfl) (by omega) (by omega) dX12_work_104 (ti_c (ig37 (B + 74) v36.toInt.toNat).toInt rfl fun z62 hz62 => ?_)
          refine r_iast C hw (hsh 68 _ rfl) (by omega) (by omega) dX12_work_105 (fun H locs hH hw => ?_)
          obtain ⟨ig64, eig64⟩ : ∃ f, f = up2 ig37 (B + 68) z61.toInt.toNat z62 := ⟨_, rfl⟩
          rw [← eig64] at hw
          have hF : Ft B [49, 66, 67, 68, 69, 70, 72, 74] ig lg ig64 lg38 := by rw [eig64]; exact hF.pi (by decide)
          have hI : IM τ φ υ B kd ig64 rg := by rw [eig64]; exact hI.pi (by decide) (show okR none _ from trivial)
          have wig64_49_31 : (ig64 (B + 49) 31).toInt = (ig37 (B + 49) 31).toInt := by rw [eig64, up2_a (by omega)]
          have wig64_49_32 : (ig64 (B + 49) 32).toInt = (ig37 (B + 49) 32).toInt := by rw [eig64, up2_a (by omega)]
          have wig64_49_33 : (ig64 (B + 49) 33).toInt = (ig37 (B + 49) 33).toInt := by rw [eig64, up2_a (by omega)]
          have wig64_49_34 : (ig64 (B + 49) 34).toInt = (ig37 (B + 49) 34).toInt := by rw [eig64, up2_a (by omega)]
          have wig64_49_35 : (ig64 (B + 49) 35).toInt = (ig37 (B + 49) 35).toInt := by rw [eig64, up2_a (by omega)]
          refine tc_inc hx hb dX12_work_106 hl (k := 0) rfl (by decide) (by decide) (fun z65 hz65 ls hl => ?_)
          first | replace hz65 := hz65 (by omega) | clear hz65
          have hl : lv_has ls 4 [(3, .int z65), (0, .ref (B + 49)), (1, .int x)] := hl
          refine lv_goto (tgt := 85) hx hb dX12_work_109 (by decide) ?_
          exact ih85 ls H locs ig64 lg38 z65 (lv_sub hl [0, 1, 2] rfl) hw hI hF (by omega) (by omega) (by omega)
    exact L85 ((3 - z35.toInt) + 1).toNat ls H locs ig30 lg32 z35 (lv_sub hl [0, 2, 3] rfl) hw hI hF (by omega) (by omega) (by omega)
  · refine lv_iconst (v := 0) hx hb dX12_work_45 (by decide) (ti_c 0 (by decide) fun z66 hz66 => ?_)
    refine lv_goto (tgt := 50) hx hb dX12_work_46 (by decide) ?_
    refine r_iast C hw (hsh 66 _ rfl) (by omega) (by omega) dX12_work_50 (fun H locs hH hw => ?_)
    obtain ⟨ig67, eig67⟩ : ∃ f, f = up2 ig12 (B + 66) x.toInt.toNat z66 := ⟨_, rfl⟩
    rw [← eig67] at hw
    have hF : Ft B [49, 66, 67, 68, 69, 70, 72, 74] ig lg ig67 lg14 := by rw [eig67]; exact hF.pi (by decide)
    have hI : IM τ φ υ B kd ig67 rg := by rw [eig67]; exact hI.pi (by decide) (show okR none _ from trivial)
    have wig67_49_31 : (ig67 (B + 49) 31).toInt = (ig12 (B + 49) 31).toInt := by rw [eig67, up2_a (by omega)]
    have wig67_49_32 : (ig67 (B + 49) 32).toInt = (ig12 (B + 49) 32).toInt := by rw [eig67, up2_a (by omega)]
    have wig67_49_33 : (ig67 (B + 49) 33).toInt = (ig12 (B + 49) 33).toInt := by rw [eig67, up2_a (by omega)]
    have wig67_49_34 : (ig67 (B + 49) 34).toInt = (ig12 (B + 49) 34).toInt := by rw [eig67, up2_a (by omega)]
    have wig67_49_35 : (ig67 (B + 49) 35).toInt = (ig12 (B + 49) 35).toInt := by rw [eig67, up2_a (by omega)]
    refine lv_aload_n hx hb dX12_work_51 rfl (lv_at hl 1 rfl) ?_
    refine r_get C hw (hsh 49 _ rfl) fl_X12_105 (oV_r rfl (hrm (49, 24, 67) (by decide))) dX12_work_52 ?_
    refine lv_iload_n hx hb dX12_work_55 rfl (lv_at hl 2 rfl) ?_
    refine lv_aload_n hx hb dX12_work_56 rfl (lv_at hl 1 rfl) ?_
    refine r_get C hw (hsh 49 _ rfl) fl_X12_247 (oV_i rfl) dX12_work_57 (ti_c (ig67 (B + 49) 33).toInt rfl fun z68 hz68 => ?_)
    refine r_iast C hw (hsh 67 _ rfl) (by omega) (by omega) dX12_work_60 (fun H locs hH hw => ?_)
    obtain ⟨ig69, eig69⟩ : ∃ f, f = up2 ig67 (B + 67) x.toInt.toNat z68 := ⟨_, rfl⟩
    rw [← eig69] at hw
    have hF : Ft B [49, 66, 67, 68, 69, 70, 72, 74] ig lg ig69 lg14 := by rw [eig69]; exact hF.pi (by decide)
    have hI : IM τ φ υ B kd ig69 rg := by rw [eig69]; exact hI.pi (by decide) (show okR none _ from trivial)
    have wig69_49_31 : (ig69 (B + 49) 31).toInt = (ig67 (B + 49) 31).toInt := by rw [eig69, up2_a (by omega)]
    have wig69_49_32 : (ig69 (B + 49) 32).toInt = (ig67 (B + 49) 32).toInt := by rw [eig69, up2_a (by omega)]
    have wig69_49_33 : (ig69 (B + 49) 33).toInt = (ig67 (B + 49) 33).toInt := by rw [eig69, up2_a (by omega)]
    have wig69_49_34 : (ig69 (B + 49) 34).toInt = (ig67 (B + 49) 34).toInt := by rw [eig69, up2_a (by omega)]
    have wig69_49_35 : (ig69 (B + 49) 35).toInt = (ig67 (B + 49) 35).toInt := by rw [eig69, up2_a (by omega)]
    refine lv_aload_n hx hb dX12_work_61 rfl (lv_at hl 1 rfl) ?_
    refine lv_bipush (v := 120) hx hb dX12_work_62 (by decide) (ti_c 120 (by decide) fun z70 hz70 => ?_)
    refine lv_iload_n hx hb dX12_work_64 rfl (lv_at hl 2 rfl) ?_
    refine lv_imul hx hb dX12_work_65 (tc_mulL 120 hz70 fun z71 hz71 => ?_)
    first | replace hz71 := hz71 (by omega) | clear hz71
    refine r_puti C hw (hsh 49 _ rfl) fl_X12_241 rfl rfl rfl dX12_work_66 (fun H locs hH hw => ?_)
    obtain ⟨ig72, eig72⟩ : ∃ f, f = up2 ig69 (B + 49) 31 z71 := ⟨_, rfl⟩
    rw [← eig72] at hw
    have hF : Ft B [49, 66, 67, 68, 69, 70, 72, 74] ig lg ig72 lg14 := by rw [eig72]; exact hF.pi (by decide)
    have hI : IM τ φ υ B kd ig72 rg := by rw [eig72]; exact hI.pi (by decide) (show okR none _ from trivial)
    have wig72 : (ig72 (B + 49) 31).toInt = z71.toInt := by rw [eig72, up2_eq]
    have wig72_49_32 : (ig72 (B + 49) 32).toInt = (ig69 (B + 49) 32).toInt := by rw [eig72, up2_j (by decide)]
    have wig72_49_33 : (ig72 (B + 49) 33).toInt = (ig69 (B + 49) 33).toInt := by rw [eig72, up2_j (by decide)]
    have wig72_49_34 : (ig72 (B + 49) 34).toInt = (ig69 (B + 49) 34).toInt := by rw [eig72, up2_j (by decide)]
    have wig72_49_35 : (ig72 (B + 49) 35).toInt = (ig69 (B + 49) 35).toInt := by rw [eig72, up2_j (by decide)]
    refine lv_aload_n hx hb dX12_work_69 rfl (lv_at hl 1 rfl) ?_
    refine lv_iconst (v := 0) hx hb dX12_work_70 (by decide) (ti_c 0 (by decide) fun z73 hz73 => ?_)
    refine r_puti C hw (hsh 49 _ rfl) fl_X12_254 rfl (nar_b (by omega)) (fit_b (by omega)) dX12_work_71 (fun H locs hH hw => ?_)
    obtain ⟨ig74, eig74⟩ : ∃ f, f = up2 ig72 (B + 49) 34 z73 := ⟨_, rfl⟩
    rw [← eig74] at hw
    have hF : Ft B [49, 66, 67, 68, 69, 70, 72, 74] ig lg ig74 lg14 := by rw [eig74]; exact hF.pi (by decide)
    have hI : IM τ φ υ B kd ig74 rg := by rw [eig74]; exact hI.pi (by decide) (show okR (some (0, 1)) _ from ⟨by show (0 : Int) ≤ _; omega, by show _ ≤ (1 : Int); omega⟩)
    have wig74_49_31 : (ig74 (B + 49) 31).toInt = (ig72 (B + 49) 31).toInt := by rw [eig74, up2_j (by decide)]
    have wig74_49_32 : (ig74 (B + 49) 32).toInt = (ig72 (B + 49) 32).toInt := by rw [eig74, up2_j (by decide)]
    have wig74_49_33 : (ig74 (B + 49) 33).toInt = (ig72 (B + 49) 33).toInt := by rw [eig74, up2_j (by decide)]
    have wig74 : (ig74 (B + 49) 34).toInt = z73.toInt := by rw [eig74, up2_eq]
    have wig74_49_35 : (ig74 (B + 49) 35).toInt = (ig72 (B + 49) 35).toInt := by rw [eig74, up2_j (by decide)]
    refine lv_aload_n hx hb dX12_work_74 rfl (lv_at hl 1 rfl) ?_
    refine lv_iconst (v := 0) hx hb dX12_work_75 (by decide) (ti_c 0 (by decide) fun z75 hz75 => ?_)
    refine r_puti C hw (hsh 49 _ rfl) fl_X12_258 rfl rfl rfl dX12_work_76 (fun H locs hH hw => ?_)
    obtain ⟨ig76, eig76⟩ : ∃ f, f = up2 ig74 (B + 49) 35 z75 := ⟨_, rfl⟩
    rw [← eig76] at hw
    have hF : Ft B [49, 66, 67, 68, 69, 70, 72, 74] ig lg ig76 lg14 := by rw [eig76]; exact hF.pi (by decide)
    have hI : IM τ φ υ B kd ig76 rg := by rw [eig76]; exact hI.pi (by decide) (show okR none _ from trivial)
    have wig76_49_31 : (ig76 (B + 49) 31).toInt = (ig74 (B + 49) 31).toInt := by rw [eig76, up2_j (by decide)]
    have wig76_49_32 : (ig76 (B + 49) 32).toInt = (ig74 (B + 49) 32).toInt := by rw [eig76, up2_j (by decide)]
    have wig76_49_33 : (ig76 (B + 49) 33).toInt = (ig74 (B + 49) 33).toInt := by rw [eig76, up2_j (by decide)]
    have wig76_49_34 : (ig76 (B + 49) 34).toInt = (ig74 (B + 49) 34).toInt := by rw [eig76, up2_j (by decide)]
    have wig76 : (ig76 (B + 49) 35).toInt = z75.toInt := by rw [eig76, up2_eq]
    refine lv_aload_n hx hb dX12_work_79 rfl (lv_at hl 1 rfl) ?_
    refine r_callV (As := []) (rest := []) C hw ((t_X12_unitE_all l B D cA 8).2.2 kd ig76 rg lg14 _  (120 * x.toInt.toNat) (120 * x.toInt.toNat + n) (by rw [Ft.K hF (by decide), Ft.A hF (by decide)]; exact e3) (by omega) (fun k q1 q2 => Ft.R hF (by decide) (by decide) (by decide) (e4 k q1 q2)) (by omega) (Or.inl (by omega)) (by omega) hI) sv_X12_261 (hsh 49 _ rfl) rfl hl.1 rfl (Nat.le_of_ble_eq_true rfl) ⟨Nat.le_of_ble_eq_true rfl, Nat.le_of_ble_eq_true rfl⟩ ⟨Nat.le_of_ble_eq_true rfl, Nat.le_of_ble_eq_true rfl⟩ dX12_work_80 (fun r81 kd77 ig78 rg79 lg80 H locs hw hH hp82 => ?_)
    obtain ⟨rfl, rfl, hI, hchp82, hrhp82⟩ := hp82
    have hF : Ft B [49, 66, 67, 68, 69, 70, 72, 74] ig lg ig78 lg80 := Ft.tr hF hchp82 (by decide) (by decide)
    obtain ⟨rfl, hvhp82⟩ := hrhp82
    refine lv_iconst (v := 0) hx hb dX12_work_83 (by decide) (ti_c 0 (by decide) fun z83 hz83 => ?_)
    refine lv_istore_n (lv' := [(3, .int z83), (2, .int z17), (0, .ref (B + 49)), (1, .int x)]) hx hb dX12_work_84 rfl hl (by decide) rfl (fun ls hl => ?_)
    have L85 : ∀ (n : Nat) (ls : Array Slot) (H : Heap) (locs : List Loc) (ig85 : sI) (lg86 : sG) (v84 : Int32), lv_has ls 4 [(3, .int v84), (0, .ref (B + 49)), (1, .int x)] → WD B D cA s.heap kd ig85 rg lg86 H locs → IM τ φ υ B kd ig85 rg → Ft B [49, 66, 67, 68, 69, 70, 72, 74] ig lg ig85 lg86 → (0 ≤ v84.toInt) → (v84.toInt ≤ 3) → 3 - v84.toInt < (n : Int) → W p l e (rL 30 0 0) s m args below meth c H locs 0 0 (MQ below (QcW B D cA (PM τ φ υ B [49, 66, 67, 68, 69, 70, 72, 74] kd ig rg lg (fun r ig' lg' => r = none))) args s 0 0 (fun q => B ≤ q)) (F0 m 85 ls []) := by
      intro n85
      induction n85 with
      | zero => intro ls H locs ig85 lg86 v84 hl hw hI hF g85_0 g85_1 hmu; exact absurd hmu (by omega)
      | succ n85 ih85 =>
        intro ls H locs ig85 lg86 v84 hl hw hI hF g85_0 g85_1 hmu
        refine lv_iload_n hx hb dX12_work_85 rfl (lv_at hl 0 rfl) ?_
        refine lv_iconst (v := 3) hx hb dX12_work_86 (by decide) (ti_c 3 (by decide) fun z87 hz87 => ?_)
        refine b_ge (tgt := 112) hx hb dX12_work_87 (by decide) (fun c87 => ?_) (fun c87 => ?_)
        · refine lv_aload_n hx hb dX12_work_112 rfl (lv_at hl 1 rfl) ?_
          refine r_get C hw (hsh 49 _ rfl) fl_X12_111 (oV_r rfl (hrm (49, 26, 69) (by decide))) dX12_work_113 ?_
          refine lv_iload_n hx hb dX12_work_116 rfl (lv_at hl 2 rfl) ?_
          refine lv_aload_n hx hb dX12_work_117 rfl (lv_at hl 1 rfl) ?_
          refine r_get C hw (hsh 49 _ rfl) fl_X12_254 (oV_i rfl) dX12_work_118 (ti_c (ig85 (B + 49) 34).toInt rfl fun z88 hz88 => ?_)
          have k89 : 0 ≤ (ig85 (B + 49) 34).toInt ∧ (ig85 (B + 49) 34).toInt ≤ 1 := hI.i 49 34 (by decide) (by decide)
          refine r_zast C hw (hsh 69 _ rfl) (by omega) (by omega) (nar_b (by omega)) dX12_work_121 (fun H locs hH hw => ?_)
          obtain ⟨ig90, eig90⟩ : ∃ f, f = up2 ig85 (B + 69) x.toInt.toNat z88 := ⟨_, rfl⟩
          rw [← eig90] at hw
          have hF : Ft B [49, 66, 67, 68, 69, 70, 72, 74] ig lg ig90 lg86 := by rw [eig90]; exact hF.pi (by decide)
          have hI : IM τ φ υ B kd ig90 rg := by rw [eig90]; exact hI.pi (by decide) (show okR none _ from trivial)
          have wig90_49_31 : (ig90 (B + 49) 31).toInt = (ig85 (B + 49) 31).toInt := by rw [eig90, up2_a (by omega)]
          have wig90_49_32 : (ig90 (B + 49) 32).toInt = (ig85 (B + 49) 32).toInt := by rw [eig90, up2_a (by omega)]
          have wig90_49_33 : (ig90 (B + 49) 33).toInt = (ig85 (B + 49) 33).toInt := by rw [eig90, up2_a (by omega)]
          have wig90_49_34 : (ig90 (B + 49) 34).toInt = (ig85 (B + 49) 34).toInt := by rw [eig90, up2_a (by omega)]
          have wig90_49_35 : (ig90 (B + 49) 35).toInt = (ig85 (B + 49) 35).toInt := by rw [eig90, up2_a (by omega)]
          refine lv_aload_n hx hb dX12_work_122 rfl (lv_at hl 1 rfl) ?_
          refine r_get C hw (hsh 49 _ rfl) fl_X12_114 (oV_r rfl (hrm (49, 27, 70) (by decide))) dX12_work_123 ?_
          refine lv_iload_n hx hb dX12_work_126 rfl (lv_at hl 2 rfl) ?_
          refine lv_aload_n hx hb dX12_work_127 rfl (lv_at hl 1 rfl) ?_
          refine lv_iload_n hx hb dX12_work_128 rfl (lv_at hl 2 rfl) ?_
          refine r_callV (As := [.int x]) (rest := [.int x, .ref (B + 70)]) C hw (t_X12_looksTotal l B D cA kd ig90 rg lg86 _ x (by omega) (by rw [Ft.i hF 59 _ (by decide)]; omega) hI) sv_X12_264 (hsh 49 _ rfl) rfl hl.1 rfl (Nat.le_of_ble_eq_true rfl) ⟨Nat.le_of_ble_eq_true rfl, Nat.le_of_ble_eq_true rfl⟩ ⟨Nat.le_of_ble_eq_true rfl, Nat.le_of_ble_eq_true rfl⟩ dX12_work_129 (fun r95 kd91 ig92 rg93 lg94 H locs hw hH hp96 => ?_)
          obtain ⟨rfl, rfl, rfl, rfl, hzhp96, hrhp96⟩ := hp96
          obtain ⟨z97, rfl, hz97⟩ := hrhp96
          refine r_zast C hw (hsh 70 _ rfl) (by omega) (by omega) (nar_b (by omega)) dX12_work_132 (fun H locs hH hw => ?_)
          obtain ⟨ig98, eig98⟩ : ∃ f, f = up2 ig90 (B + 70) x.toInt.toNat z97 := ⟨_, rfl⟩
          rw [← eig98] at hw
          have hF : Ft B [49, 66, 67, 68, 69, 70, 72, 74] ig lg ig98 lg86 := by rw [eig98]; exact hF.pi (by decide)
          have hI : IM τ φ υ B kd ig98 rg := by rw [eig98]; exact hI.pi (by decide) (show okR none _ from trivial)
          have wig98_49_31 : (ig98 (B + 49) 31).toInt = (ig90 (B + 49) 31).toInt := by rw [eig98, up2_a (by omega)]
          have wig98_49_32 : (ig98 (B + 49) 32).toInt = (ig90 (B + 49) 32).toInt := by rw [eig98, up2_a (by omega)]
          have wig98_49_33 : (ig98 (B + 49) 33).toInt = (ig90 (B + 49) 33).toInt := by rw [eig98, up2_a (by omega)]
          have wig98_49_34 : (ig98 (B + 49) 34).toInt = (ig90 (B + 49) 34).toInt := by rw [eig98, up2_a (by omega)]
          have wig98_49_35 : (ig98 (B + 49) 35).toInt = (ig90 (B + 49) 35).toInt := by rw [eig98, up2_a (by omega)]
          refine lv_aload_n hx hb dX12_work_133 rfl (lv_at hl 1 rfl) ?_
          refine r_get C hw (hsh 49 _ rfl) fl_X12_114 (oV_r rfl (hrm (49, 27, 70) (by decide))) dX12_work_134 ?_
          refine lv_iload_n hx hb dX12_work_137 rfl (lv_at hl 2 rfl) ?_
          refine r_zald C hw (hsh 70 _ rfl) (by omega) (by omega) dX12_work_138 (ti_c (ig98 (B + 70) x.toInt.toNat).toInt rfl fun z99 hz99 => ?_)
          refine z_eq (tgt := 147) hx hb dX12_work_139 (by decide) (fun c139 => ?_) (fun c139 => ?_)
          · exact r_vret C hw hr hlk (Nat.le_of_ble_eq_true rfl) (Nat.le_of_ble_eq_true rfl) dX12_work_147 ⟨rfl, rfl, hI, hF, rfl⟩
          · refine lv_aload_n hx hb dX12_work_142 rfl (lv_at hl 1 rfl) ?_
            refine lv_iload_n hx hb dX12_work_143 rfl (lv_at hl 2 rfl) ?_
            refine r_callV (As := [.int x]) (rest := []) C hw (t_X12_countWays l B D cA kd ig98 rg lg86 _ x (by omega) (by rw [Ft.i hF 59 _ (by decide)]; omega) hI) sv_X12_267 (hsh 49 _ rfl) rfl hl.1 rfl (Nat.le_of_ble_eq_true rfl) ⟨Nat.le_of_ble_eq_true rfl, Nat.le_of_ble_eq_true rfl⟩ ⟨Nat.le_of_ble_eq_true rfl, Nat.le_of_ble_eq_true rfl⟩ dX12_work_144 (fun r105 kd101 ig102 rg103 lg104 H locs hw hH hp106 => ?_)
            obtain ⟨rfl, rfl, hI, hchp106, hrhp106⟩ := hp106
            have hF : Ft B [49, 66, 67, 68, 69, 70, 72, 74] ig lg ig102 lg104 := Ft.tr hF hchp106 (by decide) (by decide)
            obtain rfl := hrhp106
            exact r_vret C hw hr hlk (Nat.le_of_ble_eq_true rfl) (Nat.le_of_ble_eq_true rfl) dX12_work_147 ⟨rfl, rfl, hI, hF, rfl⟩
        · refine lv_aload_n hx hb dX12_work_90 rfl (lv_at hl 1 rfl) ?_
          refine r_get C hw (hsh 49 _ rfl) fl_X12_108 (oV_r rfl (hrm (49, 25, 68) (by decide))) dX12_work_91 ?_
          refine lv_iconst (v := 3) hx hb dX12_work_94 (by decide) (ti_c 3 (by decide) fun z107 hz107 => ?_)
          refine lv_iload_n hx hb dX12_work_95 rfl (lv_at hl 2 rfl) ?_
          refine lv_imul hx hb dX12_work_96 (tc_mulL 3 hz107 fun z108 hz108 => ?_)
          first | replace hz108 := hz108 (by omega) | clear hz108
          refine lv_iload_n hx hb dX12_work_97 rfl (lv_at hl 0 rfl) ?_
          refine lv_iadd hx hb dX12_work_98 (tc_add fun z109 hz109 => ?_)
          first | replace hz109 := hz109 (by omega) | clear hz109
          refine lv_aload_n hx hb dX12_work_99 rfl (lv_at hl 1 rfl) ?_
          refine r_get C hw (hsh 49 _ rfl) fl_X12_127 (oV_r rfl (hrm (49, 36, 74) (by decide))) dX12_work_100 ?_
          refine lv_iload_n hx hb dX12_work_103 rfl (lv_at hl 0 rfl) ?_
          refine r_iald C hw (hsh 74 _ rfl) (by omega) (by omega) dX12_work_104 (ti_c (ig85 (B + 74) v84.toInt.toNat).toInt rfl fun z110 hz110 => ?_)
          refine r_iast C hw (hsh 68 _ rfl) (by omega) (by omega) dX12_work_105 (fun H locs hH hw => ?_)
          obtain ⟨ig112, eig112⟩ : ∃ f, f = up2 ig85 (B + 68) z109.toInt.toNat z110 := ⟨_, rfl⟩
          rw [← eig112] at hw
          have hF : Ft B [49, 66, 67, 68, 69, 70, 72, 74] ig lg ig112 lg86 := by rw [eig112]; exact hF.pi (by decide)
          have hI : IM τ φ υ B kd ig112 rg := by rw [eig112]; exact hI.pi (by decide) (show okR none _ from trivial)
          have wig112_49_31 : (ig112 (B + 49) 31).toInt = (ig85 (B + 49) 31).toInt := by rw [eig112, up2_a (by omega)]
          have wig112_49_32 : (ig112 (B + 49) 32).toInt = (ig85 (B + 49) 32).toInt := by rw [eig112, up2_a (by omega)]
          have wig112_49_33 : (ig112 (B + 49) 33).toInt = (ig85 (B + 49) 33).toInt := by rw [eig112, up2_a (by omega)]
          have wig112_49_34 : (ig112 (B + 49) 34).toInt = (ig85 (B + 49) 34).toInt := by rw [eig112, up2_a (by omega)]
          have wig112_49_35 : (ig112 (B + 49) 35).toInt = (ig85 (B + 49) 35).toInt := by rw [eig112, up2_a (by omega)]
          refine tc_inc hx hb dX12_work_106 hl (k := 0) rfl (by decide) (by decide) (fun z113 hz113 ls hl => ?_)
          first | replace hz113 := hz113 (by omega) | clear hz113
          have hl : lv_has ls 4 [(3, .int z113), (0, .ref (B + 49)), (1, .int x)] := hl
          refine lv_goto (tgt := 85) hx hb dX12_work_109 (by decide) ?_
          exact ih85 ls H locs ig112 lg86 z113 (lv_sub hl [0, 1, 2] rfl) hw hI hF (by omega) (by omega) (by omega)
    exact L85 ((3 - z83.toInt) + 1).toNat ls H locs ig78 lg80 z83 (lv_sub hl [0, 2, 3] rfl) hw hI hF (by omega) (by omega) (by omega)

/-- how many of the first n are not done -/
def ucnt (f : Nat → Int32) : Nat → Nat
  | 0 => 0
  | n + 1 => ucnt f n + (if (f n).toInt = 0 then 1 else 0)
theorem ucnt_same {f g : Nat → Int32} : ∀ n, (∀ k, k < n → f k = g k) → ucnt f n = ucnt g n
  | 0, _ => rfl
  | n + 1, h => by simp only [ucnt, ucnt_same n (fun k hk => h k (by omega)), h n (by omega)]
theorem ucnt_set {f g : Nat → Int32} {p : Nat} (h0 : (f p).toInt = 0) (h1 : (g p).toInt ≠ 0) (hs : ∀ k, k ≠ p → g k = f k) : ∀ n, p < n → ucnt g n + 1 = ucnt f n
  | 0, h => by omega
  | n + 1, h => by
    by_cases e : p = n
    · subst e
      have := ucnt_same (f := g) (g := f) p (fun k hk => hs k (by omega))
      simp only [ucnt, this, if_pos h0, if_neg h1]
    · have := ucnt_set h0 h1 hs n (by omega)
      simp only [ucnt, hs n (Ne.symm e)]
      omega

set_option maxHeartbeats 4000000 in
set_option maxRecDepth 100000 in
theorem t_X12_works {υ : Option Int} {τ : Tp} {φ : Option Int} (l : Launch) (B : Nat) (D : va_G) (cA : Nat → ClassId) (kd : sK) (ig : sI) (rg : sR) (lg : sG) (sz : Nat)  (hI : IM τ φ υ B kd ig rg) : MC l B D cA yX12_works cX12_works 3 none (rL 31 0 0) [.ref (B + 49)] kd ig rg lg sz (PM τ φ υ B [49, 64, 65, 66, 67, 68, 69, 70, 71, 72, 73, 74] kd ig rg lg (fun r ig' lg' => r = none)) := by
  refine MC.of (own := RX12) (by decide +kernel) rfl (Nat.le_of_ble_eq_true rfl) ?_
  intro p e s m args below meth c ls C hr hlk hnm hw hsz hl
  have hx := C.1.1
  have hb := C.1.2.1
  have hown := C.1.2.2.2.1
  have hts := C.1.2.2.2.2
  have hl : lv_has ls 3 [(0, .ref (B + 49))] := hl
  have hF : Ft B [49, 64, 65, 66, 67, 68, 69, 70, 71, 72, 73, 74] ig lg ig lg := Ft.rf
  have hsh := hI.sh
  have hrm := hI.rm
  refine lv_aload_n hx hb dX12_works_0 rfl (lv_at hl 0 rfl) ?_
  refine r_callV (As := []) (rest := []) C hw (t_X12_findReads l B D cA kd ig rg lg _   hI) sv_X12_226 (hsh 49 _ rfl) rfl hl.1 rfl (Nat.le_of_ble_eq_true rfl) ⟨Nat.le_of_ble_eq_true rfl, Nat.le_of_ble_eq_true rfl⟩ ⟨Nat.le_of_ble_eq_true rfl, Nat.le_of_ble_eq_true rfl⟩ dX12_works_1 (fun r5 kd1 ig2 rg3 lg4 H locs hw hH hp6 => ?_)
  obtain ⟨rfl, rfl, hI, hchp6, hrhp6⟩ := hp6
  have hF : Ft B [49, 64, 65, 66, 67, 68, 69, 70, 71, 72, 73, 74] ig lg ig2 lg4 := Ft.tr hF hchp6 (by decide) (by decide)
  obtain rfl := hrhp6
  refine lv_iconst (v := 0) hx hb dX12_works_4 (by decide) (ti_c 0 (by decide) fun z7 hz7 => ?_)
  refine lv_istore_n (lv' := [(1, .int z7), (0, .ref (B + 49))]) hx hb dX12_works_5 rfl hl (by decide) rfl (fun ls hl => ?_)
  have L6 : ∀ (n : Nat) (ls : Array Slot) (H : Heap) (locs : List Loc) (ig9 : sI) (lg10 : sG) (v8 : Int32), lv_has ls 3 [(1, .int v8), (0, .ref (B + 49))] → WD B D cA s.heap kd ig9 rg lg10 H locs → IM τ φ υ B kd ig9 rg → Ft B [49, 64, 65, 66, 67, 68, 69, 70, 71, 72, 73, 74] ig lg ig9 lg10 → (0 ≤ v8.toInt) → (v8.toInt ≤ 288) → (∀ q : Nat, (q : Int) < v8.toInt → (ig9 (B + 73) q).toInt = 0 → (ig (B + 59) q).toInt = 2) → 288 - v8.toInt < (n : Int) → W p l e (rL 31 0 0) s m args below meth c H locs 0 0 (MQ below (QcW B D cA (PM τ φ υ B [49, 64, 65, 66, 67, 68, 69, 70, 71, 72, 73, 74] kd ig rg lg (fun r ig' lg' => r = none))) args s 0 0 (fun q => B ≤ q)) (F0 m 6 ls []) := by
    intro n6
    induction n6 with
    | zero => intro ls H locs ig9 lg10 v8 hl hw hI hF g6_0 g6_1 g6_2 hmu; exact absurd hmu (by omega)
    | succ n6 ih6 =>
      intro ls H locs ig9 lg10 v8 hl hw hI hF g6_0 g6_1 g6_2 hmu
      have dn6 := g6_2
      refine lv_iload_n hx hb dX12_works_6 rfl (lv_at hl 0 rfl) ?_
      refine lv_sipush (v := 288) hx hb dX12_works_7 (by decide) (ti_c 288 (by decide) fun z11 hz11 => ?_)
      refine b_ge (tgt := 164) hx hb dX12_works_10 (by decide) (fun c10 => ?_) (fun c10 => ?_)
      · refine lv_iconst (v := 1) hx hb dX12_works_164 (by decide) (ti_c 1 (by decide) fun z12 hz12 => ?_)
        refine lv_istore_n (lv' := [(1, .int z12), (0, .ref (B + 49))]) hx hb dX12_works_165 rfl hl (by decide) rfl (fun ls hl => ?_)
        have L166 : ∀ (n : Nat) (ls : Array Slot) (H : Heap) (locs : List Loc) (ig14 : sI) (lg15 : sG) (v13 : Int32), lv_has ls 3 [(1, .int v13), (0, .ref (B + 49))] → WD B D cA s.heap kd ig14 rg lg15 H locs → IM τ φ υ B kd ig14 rg → Ft B [49, 64, 65, 66, 67, 68, 69, 70, 71, 72, 73, 74] ig lg ig14 lg15 → (v13.toInt = 0 ∨ v13.toInt = 1) → (∀ q : Nat, (q : Int) < 288 → (ig14 (B + 73) q).toInt = 0 → (ig (B + 59) q).toInt = 2) → 2 * (ucnt (ig14 (B + 73)) 288 : Int) + v13.toInt < (n : Int) → W p l e (rL 31 0 0) s m args below meth c H locs 0 0 (MQ below (QcW B D cA (PM τ φ υ B [49, 64, 65, 66, 67, 68, 69, 70, 71, 72, 73, 74] kd ig rg lg (fun r ig' lg' => r = none))) args s 0 0 (fun q => B ≤ q)) (F0 m 166 ls []) := by
          intro n166
          induction n166 with
          | zero => intro ls H locs ig14 lg15 v13 hl hw hI hF g166_0 g166_1 hmu; exact absurd hmu (by omega)
          | succ n166 ih166 =>
            intro ls H locs ig14 lg15 v13 hl hw hI hF g166_0 g166_1 hmu
            have dna := g166_1
            obtain ⟨igo, eigo⟩ : ∃ f, f = ig14 := ⟨_, rfl⟩
            have ecn : ucnt (igo (B + 73)) 288 = ucnt (ig14 (B + 73)) 288 := by rw [eigo]
            refine lv_iload_n hx hb dX12_works_166 rfl (lv_at hl 0 rfl) ?_
            refine z_eq (tgt := 221) hx hb dX12_works_167 (by decide) (fun c167 => ?_) (fun c167 => ?_)
            · refine lv_aload_n hx hb dX12_works_221 rfl (lv_at hl 1 rfl) ?_
              refine r_callV (As := []) (rest := []) C hw (t_X12_findFamilies l B D cA kd ig14 rg lg15 _   hI) sv_X12_238 (hsh 49 _ rfl) rfl hl.1 rfl (Nat.le_of_ble_eq_true rfl) ⟨Nat.le_of_ble_eq_true rfl, Nat.le_of_ble_eq_true rfl⟩ ⟨Nat.le_of_ble_eq_true rfl, Nat.le_of_ble_eq_true rfl⟩ dX12_works_222 (fun r20 kd16 ig17 rg18 lg19 H locs hw hH hp21 => ?_)
              obtain ⟨rfl, rfl, hI, hchp21, hrhp21⟩ := hp21
              have hF : Ft B [49, 64, 65, 66, 67, 68, 69, 70, 71, 72, 73, 74] ig lg ig17 lg19 := Ft.tr hF hchp21 (by decide) (by decide)
              obtain rfl := hrhp21
              exact r_vret C hw hr hlk (Nat.le_of_ble_eq_true rfl) (Nat.le_of_ble_eq_true rfl) dX12_works_225 ⟨rfl, rfl, hI, hF, rfl⟩
            · refine lv_iconst (v := 0) hx hb dX12_works_170 (by decide) (ti_c 0 (by decide) fun z22 hz22 => ?_)
              refine lv_istore_n (lv' := [(1, .int z22), (0, .ref (B + 49))]) hx hb dX12_works_171 rfl hl (by decide) rfl (fun ls hl => ?_)
              refine lv_iconst (v := 0) hx hb dX12_works_172 (by decide) (ti_c 0 (by decide) fun z23 hz23 => ?_)
              refine lv_istore_n (lv' := [(2, .int z23), (1, .int z22), (0, .ref (B + 49))]) hx hb dX12_works_173 rfl hl (by decide) rfl (fun ls hl => ?_)
              have L174 : ∀ (n : Nat) (ls : Array Slot) (H : Heap) (locs : List Loc) (ig26 : sI) (lg27 : sG) (v24 : Int32) (v25 : Int32), lv_has ls 3 [(2, .int v24), (1, .int v25), (0, .ref (B + 49))] → WD B D cA s.heap kd ig26 rg lg27 H locs → IM τ φ υ B kd ig26 rg → Ft B [49, 64, 65, 66, 67, 68, 69, 70, 71, 72, 73, 74] ig lg ig26 lg27 → (0 ≤ v24.toInt) → (v24.toInt ≤ 288) → (v25.toInt = 0 ∨ v25.toInt = 1) → (∀ q : Nat, (q : Int) < 288 → (ig26 (B + 73) q).toInt = 0 → (ig (B + 59) q).toInt = 2) → ((ucnt (ig26 (B + 73)) 288 : Int) + v25.toInt ≤ (ucnt (igo (B + 73)) 288 : Int)) → 288 - v24.toInt < (n : Int) → W p l e (rL 31 0 0) s m args below meth c H locs 0 0 (MQ below (QcW B D cA (PM τ φ υ B [49, 64, 65, 66, 67, 68, 69, 70, 71, 72, 73, 74] kd ig rg lg (fun r ig' lg' => r = none))) args s 0 0 (fun q => B ≤ q)) (F0 m 174 ls []) := by
                intro n174
                induction n174 with
                | zero => intro ls H locs ig26 lg27 v24 v25 hl hw hI hF g174_0 g174_1 g174_2 g174_3 g174_4 hmu; exact absurd hmu (by omega)
                | succ n174 ih174 =>
                  intro ls H locs ig26 lg27 v24 v25 hl hw hI hF g174_0 g174_1 g174_2 g174_3 g174_4 hmu
                  have dna := g174_3
                  refine lv_iload_n hx hb dX12_works_174 rfl (lv_at hl 0 rfl) ?_
                  refine lv_sipush (v := 288) hx hb dX12_works_175 (by decide) (ti_c 288 (by decide) fun z28 hz28 => ?_)
                  refine b_ge (tgt := 218) hx hb dX12_works_178 (by decide) (fun c178 => ?_) (fun c178 => ?_)
                  · refine lv_goto (tgt := 166) hx hb dX12_works_218 (by decide) ?_
                    exact ih166 ls H locs ig26 lg27 v25 (lv_sub hl [1, 2] rfl) hw hI hF (by omega) (dna) (by omega)
                  · refine lv_aload_n hx hb dX12_works_181 rfl (lv_at hl 2 rfl) ?_
                    refine r_get C hw (hsh 49 _ rfl) fl_X12_124 (oV_r rfl (hrm (49, 30, 73) (by decide))) dX12_works_182 ?_
                    refine lv_iload_n hx hb dX12_works_185 rfl (lv_at hl 0 rfl) ?_
                    refine r_zald C hw (hsh 73 _ rfl) (by omega) (by omega) dX12_works_186 (ti_c (ig26 (B + 73) v24.toInt.toNat).toInt rfl fun z29 hz29 => ?_)
                    refine z_ne (tgt := 212) hx hb dX12_works_187 (by decide) (fun c187 => ?_) (fun c187 => ?_)
                    · refine tc_inc hx hb dX12_works_212 hl (k := 0) rfl (by decide) (by decide) (fun z31 hz31 ls hl => ?_)
                      first | replace hz31 := hz31 (by omega) | clear hz31
                      have hl : lv_has ls 3 [(2, .int z31), (1, .int v25), (0, .ref (B + 49))] := hl
                      refine lv_goto (tgt := 174) hx hb dX12_works_215 (by decide) ?_
                      exact ih174 ls H locs ig26 lg27 z31 v25 (lv_sub hl [0, 1, 2] rfl) hw hI hF (by omega) (by omega) (by omega) (dna) (by omega) (by omega)
                    · refine lv_aload_n hx hb dX12_works_190 rfl (lv_at hl 2 rfl) ?_
                      refine lv_iload_n hx hb dX12_works_191 rfl (lv_at hl 0 rfl) ?_
                      refine r_callV (As := [.int v24]) (rest := []) C hw (t_X12_isReady l B D cA kd ig26 rg lg27 _ v24 (by omega) hI) sv_X12_232 (hsh 49 _ rfl) rfl hl.1 rfl (Nat.le_of_ble_eq_true rfl) ⟨Nat.le_of_ble_eq_true rfl, Nat.le_of_ble_eq_true rfl⟩ ⟨Nat.le_of_ble_eq_true rfl, Nat.le_of_ble_eq_true rfl⟩ dX12_works_192 (fun r36 kd32 ig33 rg34 lg35 H locs hw hH hp37 => ?_)
                      obtain ⟨rfl, rfl, rfl, rfl, hzhp37, hrhp37⟩ := hp37
                      obtain ⟨z38, rfl, hz38⟩ := hrhp37
                      refine z_eq (tgt := 212) hx hb dX12_works_195 (by decide) (fun c195 => ?_) (fun c195 => ?_)
                      · refine tc_inc hx hb dX12_works_212 hl (k := 0) rfl (by decide) (by decide) (fun z39 hz39 ls hl => ?_)
                        first | replace hz39 := hz39 (by omega) | clear hz39
                        have hl : lv_has ls 3 [(2, .int z39), (1, .int v25), (0, .ref (B + 49))] := hl
                        refine lv_goto (tgt := 174) hx hb dX12_works_215 (by decide) ?_
                        exact ih174 ls H locs ig26 lg27 z39 v25 (lv_sub hl [0, 1, 2] rfl) hw hI hF (by omega) (by omega) (by omega) (dna) (by omega) (by omega)
                      · refine lv_aload_n hx hb dX12_works_198 rfl (lv_at hl 2 rfl) ?_
                        refine lv_iload_n hx hb dX12_works_199 rfl (lv_at hl 0 rfl) ?_
                        have hkw := dna v24.toInt.toNat (by omega) (by omega)
                        refine r_callV (As := [.int v24]) (rest := []) C hw (t_X12_work l B D cA kd ig26 rg lg27 _ v24 (by omega) (by rw [Ft.i hF 59 _ (by decide)]; exact hkw) hI) sv_X12_235 (hsh 49 _ rfl) rfl hl.1 rfl (Nat.le_of_ble_eq_true rfl) ⟨Nat.le_of_ble_eq_true rfl, Nat.le_of_ble_eq_true rfl⟩ ⟨Nat.le_of_ble_eq_true rfl, Nat.le_of_ble_eq_true rfl⟩ dX12_works_200 (fun r44 kd40 ig41 rg42 lg43 H locs hw hH hp45 => ?_)
                        obtain ⟨rfl, rfl, hI, hchp45, hrhp45⟩ := hp45
                        have hF : Ft B [49, 64, 65, 66, 67, 68, 69, 70, 71, 72, 73, 74] ig lg ig41 lg43 := Ft.tr hF hchp45 (by decide) (by decide)
                        obtain rfl := hrhp45
                        have e73 : ∀ k, ig41 (B + 73) k = ig26 (B + 73) k := fun k => hchp45.i 73 k (by decide)
                        have u73 := ucnt_same 288 (fun k _ => e73 k)
                        have z73 := e73 v24.toInt.toNat
                        have dna : ∀ q : Nat, (q : Int) < 288 → (ig41 (B + 73) q).toInt = 0 → (ig (B + 59) q).toInt = 2 := fun q h1 h2 => dna q h1 (by rw [← e73]; exact h2)
                        have zz73 : (ig41 (B + 73) v24.toInt.toNat).toInt = 0 := by rw [z73]; omega
                        refine lv_aload_n hx hb dX12_works_203 rfl (lv_at hl 2 rfl) ?_
                        refine r_get C hw (hsh 49 _ rfl) fl_X12_124 (oV_r rfl (hrm (49, 30, 73) (by decide))) dX12_works_204 ?_
                        refine lv_iload_n hx hb dX12_works_207 rfl (lv_at hl 0 rfl) ?_
                        refine lv_iconst (v := 1) hx hb dX12_works_208 (by decide) (ti_c 1 (by decide) fun z46 hz46 => ?_)
                        refine r_zast C hw (hsh 73 _ rfl) (by omega) (by omega) (nar_b (by omega)) dX12_works_209 (fun H locs hH hw => ?_)
                        obtain ⟨ig47, eig47⟩ : ∃ f, f = up2 ig41 (B + 73) v24.toInt.toNat z46 := ⟨_, rfl⟩
                        rw [← eig47] at hw
                        have hF : Ft B [49, 64, 65, 66, 67, 68, 69, 70, 71, 72, 73, 74] ig lg ig47 lg43 := by rw [eig47]; exact hF.pi (by decide)
                        have hI : IM τ φ υ B kd ig47 rg := by rw [eig47]; exact hI.pi (by decide) (show okR none _ from trivial)
                        have ucn := ucnt_set (f := ig41 (B + 73)) (g := ig47 (B + 73)) (p := v24.toInt.toNat) (by omega) (by rw [eig47, up2_eq]; omega) (fun k hk => by rw [eig47, up2_j hk]) 288 (by omega)
                        have dna : ∀ q : Nat, (q : Int) < 288 → (ig47 (B + 73) q).toInt = 0 → (ig (B + 59) q).toInt = 2 := fun q h1 h2 => dna q h1 (by by_cases hq : q = v24.toInt.toNat; (subst hq; rw [eig47, up2_eq] at h2; omega); (rw [eig47, up2_j hq] at h2; exact h2))
                        refine lv_iconst (v := 1) hx hb dX12_works_210 (by decide) (ti_c 1 (by decide) fun z48 hz48 => ?_)
                        refine lv_istore_n (lv' := [(1, .int z48), (2, .int v24), (0, .ref (B + 49))]) hx hb dX12_works_211 rfl hl (by decide) rfl (fun ls hl => ?_)
                        refine tc_inc hx hb dX12_works_212 hl (k := 1) rfl (by decide) (by decide) (fun z49 hz49 ls hl => ?_)
                        first | replace hz49 := hz49 (by omega) | clear hz49
                        have hl : lv_has ls 3 [(2, .int z49), (1, .int z48), (0, .ref (B + 49))] := hl
                        refine lv_goto (tgt := 174) hx hb dX12_works_215 (by decide) ?_
                        exact ih174 ls H locs ig47 lg43 z49 z48 (lv_sub hl [0, 1, 2] rfl) hw hI hF (by omega) (by omega) (by omega) (dna) (by omega) (by omega)
              exact L174 ((288 - z23.toInt) + 1).toNat ls H locs ig14 lg15 z23 z22 (lv_sub hl [0, 1, 2] rfl) hw hI hF (by omega) (by omega) (by omega) (dna) (by rw [eigo]; omega) (by omega)
        exact L166 ((2 * (ucnt (ig9 (B + 73)) 288 : Int) + z12.toInt) + 1).toNat ls H locs ig9 lg10 z12 (lv_sub hl [0, 1] rfl) hw hI hF (by omega) (fun q h1 h2 => dn6 q (by omega) h2) (by omega)
      · refine lv_aload_n hx hb dX12_works_13 rfl (lv_at hl 1 rfl) ?_
        refine r_get C hw (hsh 49 _ rfl) fl_X12_124 (oV_r rfl (hrm (49, 30, 73) (by decide))) dX12_works_14 ?_
        refine lv_iload_n hx hb dX12_works_17 rfl (lv_at hl 0 rfl) ?_
        refine lv_aload_n hx hb dX12_works_18 rfl (lv_at hl 1 rfl) ?_
        refine r_get C hw (hsh 49 _ rfl) fl_X12_80 (oV_r rfl (hrm (49, 15, 59) (by decide))) dX12_works_19 ?_
        refine lv_iload_n hx hb dX12_works_22 rfl (lv_at hl 0 rfl) ?_
        refine r_iald C hw (hsh 59 _ rfl) (by omega) (by omega) dX12_works_23 (ti_c (ig9 (B + 59) v8.toInt.toNat).toInt rfl fun z50 hz50 => ?_)
        rw [Ft.i hF 59 _ (by decide)] at hz50
        refine lv_iconst (v := 2) hx hb dX12_works_24 (by decide) (ti_c 2 (by decide) fun z52 hz52 => ?_)
        have J41 : ∀ (ls : Array Slot) (H : Heap) (locs : List Loc) (ig54 : sI) (lg55 : sG) (u53 : Int32), lv_has ls 3 [(1, .int v8), (0, .ref (B + 49))] → WD B D cA s.heap kd ig54 rg lg55 H locs → IM τ φ υ B kd ig54 rg → Ft B [49, 64, 65, 66, 67, 68, 69, 70, 71, 72, 73, 74] ig lg ig54 lg55 → (u53.toInt = 0 ∨ u53.toInt = 1) → (u53.toInt = 0 → (ig (B + 59) v8.toInt.toNat).toInt = 2) → (∀ q : Nat, (q : Int) < v8.toInt → (ig54 (B + 73) q).toInt = 0 → (ig (B + 59) q).toInt = 2) → W p l e (rL 31 0 0) s m args below meth c H locs 0 0 (MQ below (QcW B D cA (PM τ φ υ B [49, 64, 65, 66, 67, 68, 69, 70, 71, 72, 73, 74] kd ig rg lg (fun r ig' lg' => r = none))) args s 0 0 (fun q => B ≤ q)) (F0 m 41 ls [.int u53, .int v8, .ref (B + 73)]) := by
          intro ls H locs ig54 lg55 u53 hl hw hI hF g41_0 g41_1 g41_2
          refine r_zast C hw (hsh 73 _ rfl) (by omega) (by omega) (nar_b (by omega)) dX12_works_41 (fun H locs hH hw => ?_)
          obtain ⟨ig56, eig56⟩ : ∃ f, f = up2 ig54 (B + 73) v8.toInt.toNat u53 := ⟨_, rfl⟩
          rw [← eig56] at hw
          have hF : Ft B [49, 64, 65, 66, 67, 68, 69, 70, 71, 72, 73, 74] ig lg ig56 lg55 := by rw [eig56]; exact hF.pi (by decide)
          have hI : IM τ φ υ B kd ig56 rg := by rw [eig56]; exact hI.pi (by decide) (show okR none _ from trivial)
          have dn : ∀ q : Nat, (q : Int) < v8.toInt + 1 → (ig56 (B + 73) q).toInt = 0 → (ig (B + 59) q).toInt = 2 := by
            intro q h1 h2
            by_cases hq : q = v8.toInt.toNat
            · subst hq
              rw [eig56, up2_eq] at h2
              exact g41_1 h2
            · rw [eig56, up2_j hq] at h2
              exact g41_2 q (by omega) h2
          refine lv_aload_n hx hb dX12_works_42 rfl (lv_at hl 1 rfl) ?_
          refine r_get C hw (hsh 49 _ rfl) fl_X12_102 (oV_r rfl (hrm (49, 23, 66) (by decide))) dX12_works_43 ?_
          refine lv_iload_n hx hb dX12_works_46 rfl (lv_at hl 0 rfl) ?_
          refine lv_aload_n hx hb dX12_works_47 rfl (lv_at hl 1 rfl) ?_
          refine r_get C hw (hsh 49 _ rfl) fl_X12_80 (oV_r rfl (hrm (49, 15, 59) (by decide))) dX12_works_48 ?_
          refine lv_iload_n hx hb dX12_works_51 rfl (lv_at hl 0 rfl) ?_
          refine r_iald C hw (hsh 59 _ rfl) (by omega) (by omega) dX12_works_52 (ti_c (ig56 (B + 59) v8.toInt.toNat).toInt rfl fun z57 hz57 => ?_)
          rw [Ft.i hF 59 _ (by decide)] at hz57
          refine lv_iconst (v := 1) hx hb dX12_works_53 (by decide) (ti_c 1 (by decide) fun z59 hz59 => ?_)
          have J67 : ∀ (ls : Array Slot) (H : Heap) (locs : List Loc) (ig61 : sI) (lg62 : sG) (u60 : Int32), lv_has ls 3 [(1, .int v8), (0, .ref (B + 49))] → WD B D cA s.heap kd ig61 rg lg62 H locs → IM τ φ υ B kd ig61 rg → Ft B [49, 64, 65, 66, 67, 68, 69, 70, 71, 72, 73, 74] ig lg ig61 lg62 → (∀ q : Nat, (q : Int) < v8.toInt + 1 → (ig61 (B + 73) q).toInt = 0 → (ig (B + 59) q).toInt = 2) → W p l e (rL 31 0 0) s m args below meth c H locs 0 0 (MQ below (QcW B D cA (PM τ φ υ B [49, 64, 65, 66, 67, 68, 69, 70, 71, 72, 73, 74] kd ig rg lg (fun r ig' lg' => r = none))) args s 0 0 (fun q => B ≤ q)) (F0 m 67 ls [.int u60, .int v8, .ref (B + 66)]) := by
            intro ls H locs ig61 lg62 u60 hl hw hI hF g67_0
            have dn := g67_0
            refine r_iast C hw (hsh 66 _ rfl) (by omega) (by omega) dX12_works_67 (fun H locs hH hw => ?_)
            obtain ⟨ig63, eig63⟩ : ∃ f, f = up2 ig61 (B + 66) v8.toInt.toNat u60 := ⟨_, rfl⟩
            rw [← eig63] at hw
            have hF : Ft B [49, 64, 65, 66, 67, 68, 69, 70, 71, 72, 73, 74] ig lg ig63 lg62 := by rw [eig63]; exact hF.pi (by decide)
            have hI : IM τ φ υ B kd ig63 rg := by rw [eig63]; exact hI.pi (by decide) (show okR none _ from trivial)
            have dn : ∀ q : Nat, (q : Int) < v8.toInt + 1 → (ig63 (B + 73) q).toInt = 0 → (ig (B + 59) q).toInt = 2 := fun q h1 h2 => dn q h1 (by rw [eig63, up2_a (by omega)] at h2; exact h2)
            refine lv_aload_n hx hb dX12_works_68 rfl (lv_at hl 1 rfl) ?_
            refine r_get C hw (hsh 49 _ rfl) fl_X12_105 (oV_r rfl (hrm (49, 24, 67) (by decide))) dX12_works_69 ?_
            refine lv_iload_n hx hb dX12_works_72 rfl (lv_at hl 0 rfl) ?_
            refine lv_aload_n hx hb dX12_works_73 rfl (lv_at hl 1 rfl) ?_
            refine r_get C hw (hsh 49 _ rfl) fl_X12_80 (oV_r rfl (hrm (49, 15, 59) (by decide))) dX12_works_74 ?_
            refine lv_iload_n hx hb dX12_works_77 rfl (lv_at hl 0 rfl) ?_
            refine r_iald C hw (hsh 59 _ rfl) (by omega) (by omega) dX12_works_78 (ti_c (ig63 (B + 59) v8.toInt.toNat).toInt rfl fun z64 hz64 => ?_)
            rw [Ft.i hF 59 _ (by decide)] at hz64
            refine lv_iconst (v := 2) hx hb dX12_works_79 (by decide) (ti_c 2 (by decide) fun z66 hz66 => ?_)
            have J96 : ∀ (ls : Array Slot) (H : Heap) (locs : List Loc) (ig68 : sI) (lg69 : sG) (u67 : Int32), lv_has ls 3 [(1, .int v8), (0, .ref (B + 49))] → WD B D cA s.heap kd ig68 rg lg69 H locs → IM τ φ υ B kd ig68 rg → Ft B [49, 64, 65, 66, 67, 68, 69, 70, 71, 72, 73, 74] ig lg ig68 lg69 → (∀ q : Nat, (q : Int) < v8.toInt + 1 → (ig68 (B + 73) q).toInt = 0 → (ig (B + 59) q).toInt = 2) → W p l e (rL 31 0 0) s m args below meth c H locs 0 0 (MQ below (QcW B D cA (PM τ φ υ B [49, 64, 65, 66, 67, 68, 69, 70, 71, 72, 73, 74] kd ig rg lg (fun r ig' lg' => r = none))) args s 0 0 (fun q => B ≤ q)) (F0 m 96 ls [.int u67, .int v8, .ref (B + 67)]) := by
              intro ls H locs ig68 lg69 u67 hl hw hI hF g96_0
              have dn := g96_0
              refine r_iast C hw (hsh 67 _ rfl) (by omega) (by omega) dX12_works_96 (fun H locs hH hw => ?_)
              obtain ⟨ig70, eig70⟩ : ∃ f, f = up2 ig68 (B + 67) v8.toInt.toNat u67 := ⟨_, rfl⟩
              rw [← eig70] at hw
              have hF : Ft B [49, 64, 65, 66, 67, 68, 69, 70, 71, 72, 73, 74] ig lg ig70 lg69 := by rw [eig70]; exact hF.pi (by decide)
              have hI : IM τ φ υ B kd ig70 rg := by rw [eig70]; exact hI.pi (by decide) (show okR none _ from trivial)
              have dn : ∀ q : Nat, (q : Int) < v8.toInt + 1 → (ig70 (B + 73) q).toInt = 0 → (ig (B + 59) q).toInt = 2 := fun q h1 h2 => dn q h1 (by rw [eig70, up2_a (by omega)] at h2; exact h2)
              refine lv_aload_n hx hb dX12_works_97 rfl (lv_at hl 1 rfl) ?_
              refine r_get C hw (hsh 49 _ rfl) fl_X12_111 (oV_r rfl (hrm (49, 26, 69) (by decide))) dX12_works_98 ?_
              refine lv_iload_n hx hb dX12_works_101 rfl (lv_at hl 0 rfl) ?_
              refine lv_iconst (v := 0) hx hb dX12_works_102 (by decide) (ti_c 0 (by decide) fun z71 hz71 => ?_)
              refine r_zast C hw (hsh 69 _ rfl) (by omega) (by omega) (nar_b (by omega)) dX12_works_103 (fun H locs hH hw => ?_)
              obtain ⟨ig72, eig72⟩ : ∃ f, f = up2 ig70 (B + 69) v8.toInt.toNat z71 := ⟨_, rfl⟩
              rw [← eig72] at hw
              have hF : Ft B [49, 64, 65, 66, 67, 68, 69, 70, 71, 72, 73, 74] ig lg ig72 lg69 := by rw [eig72]; exact hF.pi (by decide)
              have hI : IM τ φ υ B kd ig72 rg := by rw [eig72]; exact hI.pi (by decide) (show okR none _ from trivial)
              have dn : ∀ q : Nat, (q : Int) < v8.toInt + 1 → (ig72 (B + 73) q).toInt = 0 → (ig (B + 59) q).toInt = 2 := fun q h1 h2 => dn q h1 (by rw [eig72, up2_a (by omega)] at h2; exact h2)
              refine lv_aload_n hx hb dX12_works_104 rfl (lv_at hl 1 rfl) ?_
              refine r_get C hw (hsh 49 _ rfl) fl_X12_114 (oV_r rfl (hrm (49, 27, 70) (by decide))) dX12_works_105 ?_
              refine lv_iload_n hx hb dX12_works_108 rfl (lv_at hl 0 rfl) ?_
              refine lv_iconst (v := 0) hx hb dX12_works_109 (by decide) (ti_c 0 (by decide) fun z73 hz73 => ?_)
              refine r_zast C hw (hsh 70 _ rfl) (by omega) (by omega) (nar_b (by omega)) dX12_works_110 (fun H locs hH hw => ?_)
              obtain ⟨ig74, eig74⟩ : ∃ f, f = up2 ig72 (B + 70) v8.toInt.toNat z73 := ⟨_, rfl⟩
              rw [← eig74] at hw
              have hF : Ft B [49, 64, 65, 66, 67, 68, 69, 70, 71, 72, 73, 74] ig lg ig74 lg69 := by rw [eig74]; exact hF.pi (by decide)
              have hI : IM τ φ υ B kd ig74 rg := by rw [eig74]; exact hI.pi (by decide) (show okR none _ from trivial)
              have dn : ∀ q : Nat, (q : Int) < v8.toInt + 1 → (ig74 (B + 73) q).toInt = 0 → (ig (B + 59) q).toInt = 2 := fun q h1 h2 => dn q h1 (by rw [eig74, up2_a (by omega)] at h2; exact h2)
              refine lv_iconst (v := 0) hx hb dX12_works_111 (by decide) (ti_c 0 (by decide) fun z75 hz75 => ?_)
              refine lv_istore_n (lv' := [(2, .int z75), (1, .int v8), (0, .ref (B + 49))]) hx hb dX12_works_112 rfl hl (by decide) rfl (fun ls hl => ?_)
              have L113 : ∀ (n : Nat) (ls : Array Slot) (H : Heap) (locs : List Loc) (ig77 : sI) (lg78 : sG) (v76 : Int32), lv_has ls 3 [(2, .int v76), (1, .int v8), (0, .ref (B + 49))] → WD B D cA s.heap kd ig77 rg lg78 H locs → IM τ φ υ B kd ig77 rg → Ft B [49, 64, 65, 66, 67, 68, 69, 70, 71, 72, 73, 74] ig lg ig77 lg78 → (0 ≤ v76.toInt) → (v76.toInt ≤ 3) → (∀ q : Nat, (q : Int) < v8.toInt + 1 → (ig77 (B + 73) q).toInt = 0 → (ig (B + 59) q).toInt = 2) → 3 - v76.toInt < (n : Int) → W p l e (rL 31 0 0) s m args below meth c H locs 0 0 (MQ below (QcW B D cA (PM τ φ υ B [49, 64, 65, 66, 67, 68, 69, 70, 71, 72, 73, 74] kd ig rg lg (fun r ig' lg' => r = none))) args s 0 0 (fun q => B ≤ q)) (F0 m 113 ls []) := by
                intro n113
                induction n113 with
                | zero => intro ls H locs ig77 lg78 v76 hl hw hI hF g113_0 g113_1 g113_2 hmu; exact absurd hmu (by omega)
                | succ n113 ih113 =>
                  intro ls H locs ig77 lg78 v76 hl hw hI hF g113_0 g113_1 g113_2 hmu
                  have dn := g113_2
                  refine lv_iload_n hx hb dX12_works_113 rfl (lv_at hl 0 rfl) ?_
                  refine lv_iconst (v := 3) hx hb dX12_works_114 (by decide) (ti_c 3 (by decide) fun z79 hz79 => ?_)
                  refine b_ge (tgt := 158) hx hb dX12_works_115 (by decide) (fun c115 => ?_) (fun c115 => ?_)
                  · refine tc_inc hx hb dX12_works_158 hl (k := 1) rfl (by decide) (by decide) (fun z80 hz80 ls hl => ?_)
                    first | replace hz80 := hz80 (by omega) | clear hz80
                    have hl : lv_has ls 3 [(1, .int z80), (2, .int v76), (0, .ref (B + 49))] := hl
                    refine lv_goto (tgt := 6) hx hb dX12_works_161 (by decide) ?_
                    exact ih6 ls H locs ig77 lg78 z80 (lv_sub hl [0, 2] rfl) hw hI hF (by omega) (by omega) (fun q h1 h2 => dn q (by omega) h2) (by omega)
                  · refine lv_aload_n hx hb dX12_works_118 rfl (lv_at hl 2 rfl) ?_
                    refine r_get C hw (hsh 49 _ rfl) fl_X12_108 (oV_r rfl (hrm (49, 25, 68) (by decide))) dX12_works_119 ?_
                    refine lv_iconst (v := 3) hx hb dX12_works_122 (by decide) (ti_c 3 (by decide) fun z81 hz81 => ?_)
                    refine lv_iload_n hx hb dX12_works_123 rfl (lv_at hl 1 rfl) ?_
                    refine lv_imul hx hb dX12_works_124 (tc_mulL 3 hz81 fun z82 hz82 => ?_)
                    first | replace hz82 := hz82 (by omega) | clear hz82
                    refine lv_iload_n hx hb dX12_works_125 rfl (lv_at hl 0 rfl) ?_
                    refine lv_iadd hx hb dX12_works_126 (tc_add fun z83 hz83 => ?_)
                    first | replace hz83 := hz83 (by omega) | clear hz83
                    refine lv_aload_n hx hb dX12_works_127 rfl (lv_at hl 2 rfl) ?_
                    refine r_get C hw (hsh 49 _ rfl) fl_X12_80 (oV_r rfl (hrm (49, 15, 59) (by decide))) dX12_works_128 ?_
                    refine lv_iload_n hx hb dX12_works_131 rfl (lv_at hl 1 rfl) ?_
                    refine r_iald C hw (hsh 59 _ rfl) (by omega) (by omega) dX12_works_132 (ti_c (ig77 (B + 59) v8.toInt.toNat).toInt rfl fun z84 hz84 => ?_)
                    rw [Ft.i hF 59 _ (by decide)] at hz84
                    refine lv_iconst (v := 1) hx hb dX12_works_133 (by decide) (ti_c 1 (by decide) fun z86 hz86 => ?_)
                    have J151 : ∀ (ls : Array Slot) (H : Heap) (locs : List Loc) (ig88 : sI) (lg89 : sG) (u87 : Int32), lv_has ls 3 [(2, .int v76), (1, .int v8), (0, .ref (B + 49))] → WD B D cA s.heap kd ig88 rg lg89 H locs → IM τ φ υ B kd ig88 rg → Ft B [49, 64, 65, 66, 67, 68, 69, 70, 71, 72, 73, 74] ig lg ig88 lg89 → (∀ q : Nat, (q : Int) < v8.toInt + 1 → (ig88 (B + 73) q).toInt = 0 → (ig (B + 59) q).toInt = 2) → W p l e (rL 31 0 0) s m args below meth c H locs 0 0 (MQ below (QcW B D cA (PM τ φ υ B [49, 64, 65, 66, 67, 68, 69, 70, 71, 72, 73, 74] kd ig rg lg (fun r ig' lg' => r = none))) args s 0 0 (fun q => B ≤ q)) (F0 m 151 ls [.int u87, .int z83, .ref (B + 68)]) := by
                      intro ls H locs ig88 lg89 u87 hl hw hI hF g151_0
                      have dn := g151_0
                      refine r_iast C hw (hsh 68 _ rfl) (by omega) (by omega) dX12_works_151 (fun H locs hH hw => ?_)
                      obtain ⟨ig90, eig90⟩ : ∃ f, f = up2 ig88 (B + 68) z83.toInt.toNat u87 := ⟨_, rfl⟩
                      rw [← eig90] at hw
                      have hF : Ft B [49, 64, 65, 66, 67, 68, 69, 70, 71, 72, 73, 74] ig lg ig90 lg89 := by rw [eig90]; exact hF.pi (by decide)
                      have hI : IM τ φ υ B kd ig90 rg := by rw [eig90]; exact hI.pi (by decide) (show okR none _ from trivial)
                      have dn : ∀ q : Nat, (q : Int) < v8.toInt + 1 → (ig90 (B + 73) q).toInt = 0 → (ig (B + 59) q).toInt = 2 := fun q h1 h2 => dn q h1 (by rw [eig90, up2_a (by omega)] at h2; exact h2)
                      refine tc_inc hx hb dX12_works_152 hl (k := 0) rfl (by decide) (by decide) (fun z91 hz91 ls hl => ?_)
                      first | replace hz91 := hz91 (by omega) | clear hz91
                      have hl : lv_has ls 3 [(2, .int z91), (1, .int v8), (0, .ref (B + 49))] := hl
                      refine lv_goto (tgt := 113) hx hb dX12_works_155 (by decide) ?_
                      exact ih113 ls H locs ig90 lg89 z91 (lv_sub hl [0, 1, 2] rfl) hw hI hF (by omega) (by omega) (dn) (by omega)
                    refine b_ne (tgt := 150) hx hb dX12_works_134 (by decide) (fun c134 => ?_) (fun c134 => ?_)
                    · refine lv_iconst (v := 0) hx hb dX12_works_150 (by decide) (ti_c 0 (by decide) fun z92 hz92 => ?_)
                      exact J151 ls H locs ig77 lg78 z92 (lv_sub hl [0, 1, 2] rfl) hw hI hF (dn)
                    · refine lv_aload_n hx hb dX12_works_137 rfl (lv_at hl 2 rfl) ?_
                      refine r_get C hw (hsh 49 _ rfl) fl_X12_86 (oV_r rfl (hrm (49, 17, 61) (by decide))) dX12_works_138 ?_
                      refine lv_iconst (v := 3) hx hb dX12_works_141 (by decide) (ti_c 3 (by decide) fun z93 hz93 => ?_)
                      refine lv_iload_n hx hb dX12_works_142 rfl (lv_at hl 1 rfl) ?_
                      refine lv_imul hx hb dX12_works_143 (tc_mulL 3 hz93 fun z94 hz94 => ?_)
                      first | replace hz94 := hz94 (by omega) | clear hz94
                      refine lv_iload_n hx hb dX12_works_144 rfl (lv_at hl 0 rfl) ?_
                      refine lv_iadd hx hb dX12_works_145 (tc_add fun z95 hz95 => ?_)
                      first | replace hz95 := hz95 (by omega) | clear hz95
                      refine r_iald C hw (hsh 61 _ rfl) (by omega) (by omega) dX12_works_146 (ti_c (ig77 (B + 61) z95.toInt.toNat).toInt rfl fun z96 hz96 => ?_)
                      rw [Ft.i hF 61 _ (by decide)] at hz96
                      refine lv_goto (tgt := 151) hx hb dX12_works_147 (by decide) ?_
                      exact J151 ls H locs ig77 lg78 z96 (lv_sub hl [0, 1, 2] rfl) hw hI hF (dn)
              exact L113 ((3 - z75.toInt) + 1).toNat ls H locs ig74 lg69 z75 (lv_sub hl [0, 1, 2] rfl) hw hI hF (by omega) (by omega) (dn) (by omega)
            refine b_ne (tgt := 95) hx hb dX12_works_80 (by decide) (fun c80 => ?_) (fun c80 => ?_)
            · refine lv_iconst (v := 0) hx hb dX12_works_95 (by decide) (ti_c 0 (by decide) fun z98 hz98 => ?_)
              exact J96 ls H locs ig63 lg62 z98 (lv_sub hl [0, 1] rfl) hw hI hF (dn)
            · refine lv_aload_n hx hb dX12_works_83 rfl (lv_at hl 1 rfl) ?_
              refine lv_iload_n hx hb dX12_works_84 rfl (lv_at hl 0 rfl) ?_
              refine r_callV (As := [.int v8]) (rest := [.int v8, .ref (B + 67)]) C hw (t_X12_isRing l B D cA kd ig63 rg lg62 _ v8 (by omega) hI) sv_X12_229 (hsh 49 _ rfl) rfl hl.1 rfl (Nat.le_of_ble_eq_true rfl) ⟨Nat.le_of_ble_eq_true rfl, Nat.le_of_ble_eq_true rfl⟩ ⟨Nat.le_of_ble_eq_true rfl, Nat.le_of_ble_eq_true rfl⟩ dX12_works_85 (fun r103 kd99 ig100 rg101 lg102 H locs hw hH hp104 => ?_)
              obtain ⟨rfl, rfl, rfl, rfl, hzhp104, hrhp104⟩ := hp104
              obtain ⟨z105, rfl, hz105⟩ := hrhp104
              refine z_eq (tgt := 95) hx hb dX12_works_88 (by decide) (fun c88 => ?_) (fun c88 => ?_)
              · refine lv_iconst (v := 0) hx hb dX12_works_95 (by decide) (ti_c 0 (by decide) fun z106 hz106 => ?_)
                exact J96 ls H locs ig63 lg62 z106 (lv_sub hl [0, 1] rfl) hw hI hF (dn)
              · refine lv_iconst (v := 2) hx hb dX12_works_91 (by decide) (ti_c 2 (by decide) fun z107 hz107 => ?_)
                refine lv_goto (tgt := 96) hx hb dX12_works_92 (by decide) ?_
                exact J96 ls H locs ig63 lg62 z107 (lv_sub hl [0, 1] rfl) hw hI hF (dn)
          refine b_ne (tgt := 66) hx hb dX12_works_54 (by decide) (fun c54 => ?_) (fun c54 => ?_)
          · refine lv_iconst (v := 0) hx hb dX12_works_66 (by decide) (ti_c 0 (by decide) fun z108 hz108 => ?_)
            exact J67 ls H locs ig56 lg55 z108 (lv_sub hl [0, 1] rfl) hw hI hF (dn)
          · refine lv_aload_n hx hb dX12_works_57 rfl (lv_at hl 1 rfl) ?_
            refine r_get C hw (hsh 49 _ rfl) fl_X12_83 (oV_r rfl (hrm (49, 16, 60) (by decide))) dX12_works_58 ?_
            refine lv_iload_n hx hb dX12_works_61 rfl (lv_at hl 0 rfl) ?_
            refine r_iald C hw (hsh 60 _ rfl) (by omega) (by omega) dX12_works_62 (ti_c (ig56 (B + 60) v8.toInt.toNat).toInt rfl fun z109 hz109 => ?_)
            rw [Ft.i hF 60 _ (by decide)] at hz109
            refine lv_goto (tgt := 67) hx hb dX12_works_63 (by decide) ?_
            exact J67 ls H locs ig56 lg55 z109 (lv_sub hl [0, 1] rfl) hw hI hF (dn)
        refine b_ne (tgt := 36) hx hb dX12_works_25 (by decide) (fun c25 => ?_) (fun c25 => ?_)
        · refine lv_iconst (v := 1) hx hb dX12_works_36 (by decide) (ti_c 1 (by decide) fun z111 hz111 => ?_)
          refine lv_goto (tgt := 41) hx hb dX12_works_37 (by decide) ?_
          exact J41 ls H locs ig9 lg10 z111 (lv_sub hl [0, 1] rfl) hw hI hF (by omega) (fun h => by omega) (dn6)
        · refine lv_aload_n hx hb dX12_works_28 rfl (lv_at hl 1 rfl) ?_
          refine lv_iload_n hx hb dX12_works_29 rfl (lv_at hl 0 rfl) ?_
          refine r_callV (As := [.int v8]) (rest := [.int v8, .ref (B + 73)]) C hw (t_X12_isRing l B D cA kd ig9 rg lg10 _ v8 (by omega) hI) sv_X12_229 (hsh 49 _ rfl) rfl hl.1 rfl (Nat.le_of_ble_eq_true rfl) ⟨Nat.le_of_ble_eq_true rfl, Nat.le_of_ble_eq_true rfl⟩ ⟨Nat.le_of_ble_eq_true rfl, Nat.le_of_ble_eq_true rfl⟩ dX12_works_30 (fun r116 kd112 ig113 rg114 lg115 H locs hw hH hp117 => ?_)
          obtain ⟨rfl, rfl, rfl, rfl, hzhp117, hrhp117⟩ := hp117
          obtain ⟨z118, rfl, hz118⟩ := hrhp117
          refine z_eq (tgt := 40) hx hb dX12_works_33 (by decide) (fun c33 => ?_) (fun c33 => ?_)
          · refine lv_iconst (v := 0) hx hb dX12_works_40 (by decide) (ti_c 0 (by decide) fun z119 hz119 => ?_)
            exact J41 ls H locs ig9 lg10 z119 (lv_sub hl [0, 1] rfl) hw hI hF (by omega) (fun h => by omega) (dn6)
          · refine lv_iconst (v := 1) hx hb dX12_works_36 (by decide) (ti_c 1 (by decide) fun z120 hz120 => ?_)
            refine lv_goto (tgt := 41) hx hb dX12_works_37 (by decide) ?_
            exact J41 ls H locs ig9 lg10 z120 (lv_sub hl [0, 1] rfl) hw hI hF (by omega) (fun h => by omega) (dn6)
  exact L6 ((288 - z7.toInt) + 1).toNat ls H locs ig2 lg4 z7 (lv_sub hl [0, 1] rfl) hw hI hF (by omega) (by omega) (fun q h1 h2 => absurd h1 (by omega)) (by omega)
