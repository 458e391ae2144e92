set_option maxHeartbeats 4000000 in
set_option maxRecDepth 100000 in
theorem t_X12_sumAtE {τ : Tp} {φ : Option Int} (l : Launch) (B : Nat) (D : va_G) (cA : Nat → ClassId) (kd : sK) (ig : sI) (rg : sR) (lg : sG) (sz : Nat) (x : Int32) (y : Int32) (hx0 : 0 ≤ x.toInt ∧ x.toInt < 288) (nn : Nat) (hn : (ig (B + 58) x.toInt.toNat).toInt = (nn : Int)) (hI : IM τ φ none B kd ig rg) : MC l B D cA yX12_sumAt cX12_sumAt 5 (some .int) (rL 0 0 0) [.ref (B + 49), .int x, .int y] kd ig rg lg sz (Pu kd ig rg lg sz (fun r => ∃ z : Int32, r = some (.int z) ∧ sumI (mR B ig (x.toInt.toNat : Int) x.toInt.toNat) nn y.toInt z.toInt)) := by
  refine MC.of (own := RX12) (by decide +kernel) rfl (Nat.le_of_ble_eq_true rfl) ?_
  intro p e s m args below meth c ls C hr hlk hnm hw hsz hl
  have hx := C.1.1
  have hb := C.1.2.1
  have hown := C.1.2.2.2.1
  have hts := C.1.2.2.2.2
  have hl : lv_has ls 5 [(0, .ref (B + 49)), (1, .int x), (2, .int y)] := hl
  have hsh := hI.sh
  have hrm := hI.rm
  have kit := hI.its (j := x.toInt.toNat) (by omega)
  refine lv_iconst (v := 0) hx hb dX12_sumAt_0 (by decide) (ti_c 0 (by decide) fun z1 hz1 => ?_)
  refine lv_istore_n (lv' := [(3, .int z1), (0, .ref (B + 49)), (1, .int x), (2, .int y)]) hx hb dX12_sumAt_1 rfl hl (by decide) rfl (fun ls hl => ?_)
  refine lv_iconst (v := 0) hx hb dX12_sumAt_2 (by decide) (ti_c 0 (by decide) fun z2 hz2 => ?_)
  refine lv_istore (lv' := [(4, .int z2), (3, .int z1), (0, .ref (B + 49)), (1, .int x), (2, .int y)]) hx hb dX12_sumAt_3 hl (by decide) rfl (fun ls hl => ?_)
  have L5 : ∀ (n : Nat) (ls : Array Slot) (H : Heap) (locs : List Loc) (v3 : Int32) (v4 : Int32), lv_has ls 5 [(4, .int v3), (3, .int v4), (0, .ref (B + 49)), (1, .int x), (2, .int y)] → WD B D cA s.heap kd ig rg lg H locs → H.size = sz → (0 ≤ v3.toInt) → (v3.toInt ≤ (nn : Int)) → (v4.toInt = (List.countP is2i (seg (mR B ig (x.toInt.toNat : Int) x.toInt.toNat) 0 v3.toInt.toNat) : Int)) → (∀ j : Nat, (j : Int) < v3.toInt → is2i (mR B ig (x.toInt.toNat : Int) x.toInt.toNat j) = true → (List.countP is2i (seg (mR B ig (x.toInt.toNat : Int) x.toInt.toNat) 0 j) : Int) ≠ y.toInt) → (0 ≤ v4.toInt) → (v4.toInt ≤ v3.toInt) → (nn : Int) - v3.toInt < (n : Int) → W p l e (rL 0 0 0) s m args below meth c H locs 0 0 (MQ below (QcW B D cA (Pu kd ig rg lg sz (fun r => ∃ z : Int32, r = some (.int z) ∧ sumI (mR B ig (x.toInt.toNat : Int) x.toInt.toNat) nn y.toInt z.toInt))) args s 0 0 (fun q => B ≤ q)) (F0 m 5 ls []) := by
    intro n5
    induction n5 with
    | zero => intro ls H locs v3 v4 hl hw hsz g5_0 g5_1 g5_2 g5_3 g5_4 g5_5 hmu; exact absurd hmu (by omega)
    | succ n5 ih5 =>
      intro ls H locs v3 v4 hl hw hsz g5_0 g5_1 g5_2 g5_3 g5_4 g5_5 hmu
      refine lv_iload hx hb dX12_sumAt_5 (lv_at hl 0 rfl) ?_
      refine lv_aload_n hx hb dX12_sumAt_7 rfl (lv_at hl 2 rfl) ?_
      refine r_get C hw (hsh 49 _ rfl) fl_X12_77 (oV_r rfl (hrm (49, 13, 58) (by decide))) dX12_sumAt_8 ?_
      refine lv_iload_n hx hb dX12_sumAt_11 rfl (lv_at hl 3 rfl) ?_
      refine r_iald C hw (hsh 58 _ rfl) (by omega) (by omega) dX12_sumAt_12 (ti_c (ig (B + 58) x.toInt.toNat).toInt rfl fun z5 hz5 => ?_)
      have k6 := hI.its (j := (x.toInt.toNat)) (by omega)
      refine b_ge (tgt := 49) hx hb dX12_sumAt_13 (by decide) (fun c13 => ?_) (fun c13 => ?_)
      · refine lv_iconst (v := (-1)) hx hb dX12_sumAt_49 (by decide) (ti_c (-1) (by decide) fun z7 hz7 => ?_)
        exact r_iret C hw hr hlk rfl (Nat.le_of_ble_eq_true rfl) (Nat.le_of_ble_eq_true rfl) dX12_sumAt_50 ⟨rfl, rfl, rfl, rfl, hsz, ⟨_, rfl, Or.inr ⟨by omega, fun j hj h2 => g5_3 j (by omega) h2⟩⟩⟩
      · refine lv_aload_n hx hb dX12_sumAt_16 rfl (lv_at hl 2 rfl) ?_
        refine r_get C hw (hsh 49 _ rfl) fl_X12_65 (oV_r rfl (hrm (49, 9, 54) (by decide))) dX12_sumAt_17 ?_
        refine lv_bipush (v := 120) hx hb dX12_sumAt_20 (by decide) (ti_c 120 (by decide) fun z8 hz8 => ?_)
        refine lv_iload_n hx hb dX12_sumAt_22 rfl (lv_at hl 3 rfl) ?_
        refine lv_imul hx hb dX12_sumAt_23 (tc_mulL 120 hz8 fun z9 hz9 => ?_)
        first | replace hz9 := hz9 (by omega) | clear hz9
        refine lv_iload hx hb dX12_sumAt_24 (lv_at hl 0 rfl) ?_
        refine lv_iadd hx hb dX12_sumAt_26 (tc_add fun z10 hz10 => ?_)
        first | replace hz10 := hz10 (by omega) | clear hz10
        refine r_iald C hw (hsh 54 _ rfl) (by omega) (by omega) dX12_sumAt_27 (ti_c (ig (B + 54) z10.toInt.toNat).toInt rfl fun z11 hz11 => ?_)
        have m2 := mR_2 (B := B) (ig := ig) (h := (x.toInt.toNat : Int)) (q := x.toInt.toNat) (k := v3.toInt.toNat) (by omega)
        rw [show 120 * x.toInt.toNat + v3.toInt.toNat = z10.toInt.toNat by omega, ← hz11] at m2
        replace m2 : hid _ := m2
        refine lv_iconst (v := 2) hx hb dX12_sumAt_28 (by decide) (ti_c 2 (by decide) fun z13 hz13 => ?_)
        refine b_ne (tgt := 43) hx hb dX12_sumAt_29 (by decide) (fun c29 => ?_) (fun c29 => ?_)
        · refine tc_inc hx hb dX12_sumAt_43 hl (k := 0) rfl (by decide) (by decide) (fun z14 hz14 ls hl => ?_)
          first | replace hz14 := hz14 (by omega) | clear hz14
          have hl : lv_has ls 5 [(4, .int z14), (3, .int v4), (0, .ref (B + 49)), (1, .int x), (2, .int y)] := hl
          refine lv_goto (tgt := 5) hx hb dX12_sumAt_46 (by decide) ?_
          exact ih5 ls H locs z14 v4 (lv_sub hl [0, 1, 2, 3, 4] rfl) hw hsz (by omega) (by omega) (by rw [show z14.toInt.toNat = v3.toInt.toNat + 1 by omega, cs_f (by cases e9 : is2i (mR B ig (x.toInt.toNat : Int) x.toInt.toNat v3.toInt.toNat) with | false => rfl | true => exact absurd (Iff.mp m2 e9) (by omega))]; omega) (fun j hj h2 => by by_cases e9 : (j : Int) = v3.toInt; (obtain rfl : j = v3.toInt.toNat := by omega); (exact absurd (Iff.mp m2 h2) (by omega)); exact g5_3 j (by omega) h2) (by omega) (by omega) (by omega)
        · refine lv_iload_n hx hb dX12_sumAt_32 rfl (lv_at hl 1 rfl) ?_
          refine lv_iload_n hx hb dX12_sumAt_33 rfl (lv_at hl 4 rfl) ?_
          refine b_ne (tgt := 40) hx hb dX12_sumAt_34 (by decide) (fun c34 => ?_) (fun c34 => ?_)
          · refine tc_inc hx hb dX12_sumAt_40 hl (k := 1) rfl (by decide) (by decide) (fun z15 hz15 ls hl => ?_)
            first | replace hz15 := hz15 (by omega) | clear hz15
            have hl : lv_has ls 5 [(3, .int z15), (4, .int v3), (0, .ref (B + 49)), (1, .int x), (2, .int y)] := hl
            refine tc_inc hx hb dX12_sumAt_43 hl (k := 1) rfl (by decide) (by decide) (fun z16 hz16 ls hl => ?_)
            first | replace hz16 := hz16 (by omega) | clear hz16
            have hl : lv_has ls 5 [(4, .int z16), (3, .int z15), (0, .ref (B + 49)), (1, .int x), (2, .int y)] := hl
            refine lv_goto (tgt := 5) hx hb dX12_sumAt_46 (by decide) ?_
            exact ih5 ls H locs z16 z15 (lv_sub hl [0, 1, 2, 3, 4] rfl) hw hsz (by omega) (by omega) (by rw [show z16.toInt.toNat = v3.toInt.toNat + 1 by omega, cs_t (Iff.mpr m2 (by omega))]; omega) (fun j hj h2 => by by_cases e9 : (j : Int) = v3.toInt; (obtain rfl : j = v3.toInt.toNat := by omega); omega; exact g5_3 j (by omega) h2) (by omega) (by omega) (by omega)
          · refine lv_iload hx hb dX12_sumAt_37 (lv_at hl 0 rfl) ?_
            exact r_iret C hw hr hlk rfl (Nat.le_of_ble_eq_true rfl) (Nat.le_of_ble_eq_true rfl) dX12_sumAt_39 ⟨rfl, rfl, rfl, rfl, hsz, ⟨_, rfl, Or.inl ⟨v3.toInt.toNat, by omega, by omega, Iff.mpr m2 (by omega), by omega⟩⟩⟩
  exact L5 (((nn : Int) - z2.toInt) + 1).toNat ls s.heap [] z2 z1 (lv_sub hl [0, 1, 2, 3, 4] rfl) hw hsz (by omega) (by omega) (by rw [show z2.toInt.toNat = 0 by omega, seg_nil, List.countP_nil]; omega) (fun j hj => by omega) (by omega) (by omega) (by omega)

set_option maxHeartbeats 4000000 in
set_option maxRecDepth 100000 in
theorem t_X12_shortByE {τ : Tp} {φ : Option Int} (l : Launch) (B : Nat) (D : va_G) (cA : Nat → ClassId) (kd : sK) (ig : sI) (rg : sR) (lg : sG) (sz : Nat) (x : Int32) (y : Int32) (u : Int32) (hu : u.toInt = 0 ∨ u.toInt = 1) (hx0 : 0 ≤ x.toInt ∧ x.toInt < 288) (hy0 : 0 ≤ y.toInt ∧ y.toInt < 37000) (hs2 : (0 ≤ (ig (B + 55) (y.toInt.toNat + 2)).toInt ∧ (ig (B + 55) (y.toInt.toNat + 2)).toInt < 12) ∧ 0 ≤ (ig (B + 56) (y.toInt.toNat + 2)).toInt ∧ (ig (B + 56) (y.toInt.toNat + 2)).toInt < 24) (σ : Sg) (π : Ps) (hM : SM B σ π ig) (hU : FMm B σ ig) (hI : IM τ φ none B kd ig rg) : MC l B D cA yX12_shortBy cX12_shortBy 9 (some .int) (rL 0 0 0) [.ref (B + 49), .int x, .int y, .int u] kd ig rg lg sz (Pu kd ig rg lg sz (fun r => ∃ z : Int32, r = some (.int z) ∧ ((u.toInt ≠ 0 → (shDn B ig σ x.toInt y.toInt.toNat ∧ z.toInt = (12 * (ig (B + 56) (y.toInt.toNat + 2)).toInt + (ig (B + 55) (y.toInt.toNat + 2)).toInt) + 12) ∨ (¬ shDn B ig σ x.toInt y.toInt.toNat ∧ z.toInt = -1)) ∧ (u.toInt = 0 → (shRt B ig σ x.toInt y.toInt.toNat ∧ z.toInt = (12 * (ig (B + 56) (y.toInt.toNat + 2)).toInt + (ig (B + 55) (y.toInt.toNat + 2)).toInt) + 1) ∨ (¬ shRt B ig σ x.toInt y.toInt.toNat ∧ z.toInt = -1))))) := by
  refine MC.of (own := RX12) (by decide +kernel) rfl (Nat.le_of_ble_eq_true rfl) ?_
  intro p e s m args below meth c ls C hr hlk hnm hw hsz hl
  have hx := C.1.1
  have hb := C.1.2.1
  have hown := C.1.2.2.2.1
  have hts := C.1.2.2.2.2
  have hl : lv_has ls 9 [(0, .ref (B + 49)), (1, .int x), (2, .int y), (3, .int u)] := hl
  have hsh := hI.sh
  have hrm := hI.rm
  refine lv_aload_n hx hb dX12_shortBy_0 rfl (lv_at hl 0 rfl) ?_
  refine r_get C hw (hsh 49 _ rfl) fl_X12_68 (oV_r rfl (hrm (49, 10, 55) (by decide))) dX12_shortBy_1 ?_
  refine lv_iload_n hx hb dX12_shortBy_4 rfl (lv_at hl 2 rfl) ?_
  refine lv_iconst (v := 2) hx hb dX12_shortBy_5 (by decide) (ti_c 2 (by decide) fun z1 hz1 => ?_)
  refine lv_iadd hx hb dX12_shortBy_6 (tc_add fun z2 hz2 => ?_)
  first | replace hz2 := hz2 (by omega) | clear hz2
  have ez7 : z2.toInt.toNat = y.toInt.toNat + 2 := by omega
  refine r_iald C hw (hsh 55 _ rfl) (by omega) (by omega) dX12_shortBy_7 (ti_c (ig (B + 55) z2.toInt.toNat).toInt rfl fun z3 hz3 => ?_)
  try simp only [ez7] at hz3
  try simp only [ez17] at hz3
  refine lv_istore (lv' := [(4, .int z3), (0, .ref (B + 49)), (1, .int x), (2, .int y), (3, .int u)]) hx hb dX12_shortBy_8 hl (by decide) rfl (fun ls hl => ?_)
  refine lv_aload_n hx hb dX12_shortBy_10 rfl (lv_at hl 1 rfl) ?_
  refine r_get C hw (hsh 49 _ rfl) fl_X12_71 (oV_r rfl (hrm (49, 11, 56) (by decide))) dX12_shortBy_11 ?_
  refine lv_iload_n hx hb dX12_shortBy_14 rfl (lv_at hl 3 rfl) ?_
  refine lv_iconst (v := 2) hx hb dX12_shortBy_15 (by decide) (ti_c 2 (by decide) fun z5 hz5 => ?_)
  refine lv_iadd hx hb dX12_shortBy_16 (tc_add fun z6 hz6 => ?_)
  first | replace hz6 := hz6 (by omega) | clear hz6
  have ez17 : z6.toInt.toNat = y.toInt.toNat + 2 := by omega
  refine r_iald C hw (hsh 56 _ rfl) (by omega) (by omega) dX12_shortBy_17 (ti_c (ig (B + 56) z6.toInt.toNat).toInt rfl fun z7 hz7 => ?_)
  try simp only [ez7] at hz7
  try simp only [ez17] at hz7
  refine lv_istore (lv' := [(5, .int z7), (4, .int z3), (0, .ref (B + 49)), (1, .int x), (2, .int y), (3, .int u)]) hx hb dX12_shortBy_18 hl (by decide) rfl (fun ls hl => ?_)
  refine lv_iload_n hx hb dX12_shortBy_20 rfl (lv_at hl 5 rfl) ?_
  refine z_eq (tgt := 38) hx hb dX12_shortBy_21 (by decide) (fun c21 => ?_) (fun c21 => ?_)
  · refine lv_aload_n hx hb dX12_shortBy_38 rfl (lv_at hl 2 rfl) ?_
    refine r_get C hw (hsh 49 _ rfl) fl_X12_71 (oV_r rfl (hrm (49, 11, 56) (by decide))) dX12_shortBy_39 ?_
    refine lv_iload_n hx hb dX12_shortBy_42 rfl (lv_at hl 4 rfl) ?_
    refine r_iald C hw (hsh 56 _ rfl) (by omega) (by omega) dX12_shortBy_43 (ti_c (ig (B + 56) y.toInt.toNat).toInt rfl fun z9 hz9 => ?_)
    try simp only [ez7] at hz9
    try simp only [ez17] at hz9
    refine lv_iload hx hb dX12_shortBy_44 (lv_at hl 0 rfl) ?_
    refine b_eq (tgt := 51) hx hb dX12_shortBy_46 (by decide) (fun c46 => ?_) (fun c46 => ?_)
    · refine lv_bipush (v := 12) hx hb dX12_shortBy_51 (by decide) (ti_c 12 (by decide) fun z11 hz11 => ?_)
      refine lv_iload hx hb dX12_shortBy_53 (lv_at hl 0 rfl) ?_
      refine lv_imul hx hb dX12_shortBy_55 (tc_mulL 12 hz11 fun z12 hz12 => ?_)
      first | replace hz12 := hz12 (by omega) | clear hz12
      refine lv_iload hx hb dX12_shortBy_56 (lv_at hl 1 rfl) ?_
      refine lv_iadd hx hb dX12_shortBy_58 (tc_add fun z13 hz13 => ?_)
      first | replace hz13 := hz13 (by omega) | clear hz13
      refine lv_istore (lv' := [(6, .int z13), (5, .int z7), (4, .int z3), (0, .ref (B + 49)), (1, .int x), (2, .int y), (3, .int u)]) hx hb dX12_shortBy_59 hl (by decide) rfl (fun ls hl => ?_)
      refine lv_iload_n hx hb dX12_shortBy_61 rfl (lv_at hl 6 rfl) ?_
      refine z_eq (tgt := 75) hx hb dX12_shortBy_62 (by decide) (fun c62 => ?_) (fun c62 => ?_)
      · refine lv_iload hx hb dX12_shortBy_75 (lv_at hl 2 rfl) ?_
        refine lv_bipush (v := 11) hx hb dX12_shortBy_77 (by decide) (ti_c 11 (by decide) fun z14 hz14 => ?_)
        refine b_ne (tgt := 84) hx hb dX12_shortBy_79 (by decide) (fun c79 => ?_) (fun c79 => ?_)
        · refine lv_iload_n hx hb dX12_shortBy_84 rfl (lv_at hl 6 rfl) ?_
          refine z_eq (tgt := 96) hx hb dX12_shortBy_85 (by decide) (fun c85 => ?_) (fun c85 => ?_)
          · refine lv_iload hx hb dX12_shortBy_96 (lv_at hl 0 rfl) ?_
            refine lv_iconst (v := 1) hx hb dX12_shortBy_98 (by decide) (ti_c 1 (by decide) fun z15 hz15 => ?_)
            refine lv_iadd hx hb dX12_shortBy_99 (tc_add fun z16 hz16 => ?_)
            first | replace hz16 := hz16 (by omega) | clear hz16
            refine lv_istore (lv' := [(7, .int z16), (6, .int z13), (5, .int z7), (4, .int z3), (0, .ref (B + 49)), (1, .int x), (2, .int y), (3, .int u)]) hx hb dX12_shortBy_100 hl (by decide) rfl (fun ls hl => ?_)
            refine lv_iload hx hb dX12_shortBy_102 (lv_at hl 0 rfl) ?_
            refine lv_iload_n hx hb dX12_shortBy_104 rfl (lv_at hl 5 rfl) ?_
            refine b_eq (tgt := 151) hx hb dX12_shortBy_105 (by decide) (fun c105 => ?_) (fun c105 => ?_)
            · have ngo : ¬ gonN σ (famZ B ig) x.toInt z13.toInt z16.toInt := fun q => q.1 (by omega)
              refine lv_iconst (v := 0) hx hb dX12_shortBy_151 (by decide) (ti_c 0 (by decide) fun z17 hz17 => ?_)
              refine lv_istore (lv' := [(8, .int z17), (7, .int z16), (6, .int z13), (5, .int z7), (4, .int z3), (0, .ref (B + 49)), (1, .int x), (2, .int y), (3, .int u)]) hx hb dX12_shortBy_152 hl (by decide) rfl (fun ls hl => ?_)
              refine lv_iload hx hb dX12_shortBy_154 (lv_at hl 0 rfl) ?_
              refine z_eq (tgt := 164) hx hb dX12_shortBy_156 (by decide) (fun c156 => ?_) (fun c156 => ?_)
              · refine lv_iconst (v := (-1)) hx hb dX12_shortBy_164 (by decide) (ti_c (-1) (by decide) fun z18 hz18 => ?_)
                exact r_iret C hw hr hlk rfl (Nat.le_of_ble_eq_true rfl) (Nat.le_of_ble_eq_true rfl) dX12_shortBy_165 ⟨rfl, rfl, rfl, rfl, hsz, ⟨_, rfl, ⟨fun _ => by omega, fun _ => Or.inr ⟨fun q => ngo (by have w := q.2.2; rw [show (12 * (ig (B + 56) (y.toInt.toNat + 2)).toInt + (ig (B + 55) (y.toInt.toNat + 2)).toInt) = z13.toInt by omega, show z13.toInt + 1 = z16.toInt by omega] at w; exact w), by omega⟩⟩⟩⟩
              · refine lv_iload hx hb dX12_shortBy_159 (lv_at hl 1 rfl) ?_
                refine lv_goto (tgt := 165) hx hb dX12_shortBy_161 (by decide) ?_
                exact r_iret C hw hr hlk rfl (Nat.le_of_ble_eq_true rfl) (Nat.le_of_ble_eq_true rfl) dX12_shortBy_165 ⟨rfl, rfl, rfl, rfl, hsz, ⟨_, rfl, (by exfalso; omega)⟩⟩
            · refine lv_aload_n hx hb dX12_shortBy_108 rfl (lv_at hl 4 rfl) ?_
              refine r_get C hw (hsh 49 _ rfl) fl_X12_80 (oV_r rfl (hrm (49, 15, 59) (by decide))) dX12_shortBy_109 ?_
              refine lv_iload hx hb dX12_shortBy_112 (lv_at hl 0 rfl) ?_
              refine r_iald C hw (hsh 59 _ rfl) (by omega) (by omega) dX12_shortBy_114 (ti_c (ig (B + 59) z16.toInt.toNat).toInt rfl fun z19 hz19 => ?_)
              try simp only [ez7] at hz19
              try simp only [ez17] at hz19
              have k1 : z19.toInt = kdO (atC σ z16.toInt) := by rw [hz19]; exact hM.kdx (x := z16.toInt) (by omega)
              refine lv_iconst (v := 1) hx hb dX12_shortBy_115 (by decide) (ti_c 1 (by decide) fun z21 hz21 => ?_)
              refine b_eq (tgt := 147) hx hb dX12_shortBy_116 (by decide) (fun c116 => ?_) (fun c116 => ?_)
              · have ygo : gonN σ (famZ B ig) x.toInt z13.toInt z16.toInt := ⟨by omega, Or.inl (by omega)⟩
                refine lv_iconst (v := 1) hx hb dX12_shortBy_147 (by decide) (ti_c 1 (by decide) fun z22 hz22 => ?_)
                refine lv_goto (tgt := 152) hx hb dX12_shortBy_148 (by decide) ?_
                refine lv_istore (lv' := [(8, .int z22), (7, .int z16), (6, .int z13), (5, .int z7), (4, .int z3), (0, .ref (B + 49)), (1, .int x), (2, .int y), (3, .int u)]) hx hb dX12_shortBy_152 hl (by decide) rfl (fun ls hl => ?_)
                refine lv_iload hx hb dX12_shortBy_154 (lv_at hl 0 rfl) ?_
                refine z_eq (tgt := 164) hx hb dX12_shortBy_156 (by decide) (fun c156 => ?_) (fun c156 => ?_)
                · refine lv_iconst (v := (-1)) hx hb dX12_shortBy_164 (by decide) (ti_c (-1) (by decide) fun z23 hz23 => ?_)
                  exact r_iret C hw hr hlk rfl (Nat.le_of_ble_eq_true rfl) (Nat.le_of_ble_eq_true rfl) dX12_shortBy_165 ⟨rfl, rfl, rfl, rfl, hsz, ⟨_, rfl, (by exfalso; omega)⟩⟩
                · refine lv_iload hx hb dX12_shortBy_159 (lv_at hl 1 rfl) ?_
                  refine lv_goto (tgt := 165) hx hb dX12_shortBy_161 (by decide) ?_
                  exact r_iret C hw hr hlk rfl (Nat.le_of_ble_eq_true rfl) (Nat.le_of_ble_eq_true rfl) dX12_shortBy_165 ⟨rfl, rfl, rfl, rfl, hsz, ⟨_, rfl, ⟨fun _ => by omega, fun _ => Or.inl ⟨⟨by omega, by omega, by rw [show (12 * (ig (B + 56) (y.toInt.toNat + 2)).toInt + (ig (B + 55) (y.toInt.toNat + 2)).toInt) = z13.toInt by omega, show z13.toInt + 1 = z16.toInt by omega]; exact ygo⟩, by omega⟩⟩⟩⟩
              · refine lv_aload_n hx hb dX12_shortBy_119 rfl (lv_at hl 4 rfl) ?_
                refine r_get C hw (hsh 49 _ rfl) fl_X12_80 (oV_r rfl (hrm (49, 15, 59) (by decide))) dX12_shortBy_120 ?_
                refine lv_iload hx hb dX12_shortBy_123 (lv_at hl 0 rfl) ?_
                refine r_iald C hw (hsh 59 _ rfl) (by omega) (by omega) dX12_shortBy_125 (ti_c (ig (B + 59) z16.toInt.toNat).toInt rfl fun z24 hz24 => ?_)
                try simp only [ez7] at hz24
                try simp only [ez17] at hz24
                have k2 : z24.toInt = kdO (atC σ z16.toInt) := by rw [hz24]; exact hM.kdx (x := z16.toInt) (by omega)
                refine lv_iconst (v := 2) hx hb dX12_shortBy_126 (by decide) (ti_c 2 (by decide) fun z26 hz26 => ?_)
                refine b_ne (tgt := 151) hx hb dX12_shortBy_127 (by decide) (fun c127 => ?_) (fun c127 => ?_)
                · have ngo : ¬ gonN σ (famZ B ig) x.toInt z13.toInt z16.toInt := (by rintro ⟨-, q | q⟩; omega; (have w := hU.ge (x := z16.toInt) (by omega); unfold kinN at q; omega))
                  refine lv_iconst (v := 0) hx hb dX12_shortBy_151 (by decide) (ti_c 0 (by decide) fun z27 hz27 => ?_)
                  refine lv_istore (lv' := [(8, .int z27), (7, .int z16), (6, .int z13), (5, .int z7), (4, .int z3), (0, .ref (B + 49)), (1, .int x), (2, .int y), (3, .int u)]) hx hb dX12_shortBy_152 hl (by decide) rfl (fun ls hl => ?_)
                  refine lv_iload hx hb dX12_shortBy_154 (lv_at hl 0 rfl) ?_
                  refine z_eq (tgt := 164) hx hb dX12_shortBy_156 (by decide) (fun c156 => ?_) (fun c156 => ?_)
                  · refine lv_iconst (v := (-1)) hx hb dX12_shortBy_164 (by decide) (ti_c (-1) (by decide) fun z28 hz28 => ?_)
                    exact r_iret C hw hr hlk rfl (Nat.le_of_ble_eq_true rfl) (Nat.le_of_ble_eq_true rfl) dX12_shortBy_165 ⟨rfl, rfl, rfl, rfl, hsz, ⟨_, rfl, ⟨fun _ => by omega, fun _ => Or.inr ⟨fun q => ngo (by have w := q.2.2; rw [show (12 * (ig (B + 56) (y.toInt.toNat + 2)).toInt + (ig (B + 55) (y.toInt.toNat + 2)).toInt) = z13.toInt by omega, show z13.toInt + 1 = z16.toInt by omega] at w; exact w), by omega⟩⟩⟩⟩
                  · refine lv_iload hx hb dX12_shortBy_159 (lv_at hl 1 rfl) ?_
                    refine lv_goto (tgt := 165) hx hb dX12_shortBy_161 (by decide) ?_
                    exact r_iret C hw hr hlk rfl (Nat.le_of_ble_eq_true rfl) (Nat.le_of_ble_eq_true rfl) dX12_shortBy_165 ⟨rfl, rfl, rfl, rfl, hsz, ⟨_, rfl, (by exfalso; omega)⟩⟩
                · refine lv_aload_n hx hb dX12_shortBy_130 rfl (lv_at hl 4 rfl) ?_
                  refine r_get C hw (hsh 49 _ rfl) fl_X12_117 (oV_r rfl (hrm (49, 28, 71) (by decide))) dX12_shortBy_131 ?_
                  refine lv_iload hx hb dX12_shortBy_134 (lv_at hl 0 rfl) ?_
                  refine r_iald C hw (hsh 71 _ rfl) (by omega) (by omega) dX12_shortBy_136 (ti_c (ig (B + 71) z16.toInt.toNat).toInt rfl fun z29 hz29 => ?_)
                  try simp only [ez7] at hz29
                  try simp only [ez17] at hz29
                  have f1 : z29.toInt = famZ B ig z16.toInt.toNat := hz29
                  refine lv_aload_n hx hb dX12_shortBy_137 rfl (lv_at hl 4 rfl) ?_
                  refine r_get C hw (hsh 49 _ rfl) fl_X12_117 (oV_r rfl (hrm (49, 28, 71) (by decide))) dX12_shortBy_138 ?_
                  refine lv_iload hx hb dX12_shortBy_141 (lv_at hl 1 rfl) ?_
                  refine r_iald C hw (hsh 71 _ rfl) (by omega) (by omega) dX12_shortBy_143 (ti_c (ig (B + 71) z13.toInt.toNat).toInt rfl fun z31 hz31 => ?_)
                  try simp only [ez7] at hz31
                  try simp only [ez17] at hz31
                  have f2 : z31.toInt = famZ B ig z13.toInt.toNat := hz31
                  refine b_ne (tgt := 151) hx hb dX12_shortBy_144 (by decide) (fun c144 => ?_) (fun c144 => ?_)
                  · have ngo : ¬ gonN σ (famZ B ig) x.toInt z13.toInt z16.toInt := (by rintro ⟨-, q | q⟩; omega; (have w := hU.ge (x := z16.toInt) (by omega); unfold kinN at q; omega))
                    refine lv_iconst (v := 0) hx hb dX12_shortBy_151 (by decide) (ti_c 0 (by decide) fun z33 hz33 => ?_)
                    refine lv_istore (lv' := [(8, .int z33), (7, .int z16), (6, .int z13), (5, .int z7), (4, .int z3), (0, .ref (B + 49)), (1, .int x), (2, .int y), (3, .int u)]) hx hb dX12_shortBy_152 hl (by decide) rfl (fun ls hl => ?_)
                    refine lv_iload hx hb dX12_shortBy_154 (lv_at hl 0 rfl) ?_
                    refine z_eq (tgt := 164) hx hb dX12_shortBy_156 (by decide) (fun c156 => ?_) (fun c156 => ?_)
                    · refine lv_iconst (v := (-1)) hx hb dX12_shortBy_164 (by decide) (ti_c (-1) (by decide) fun z34 hz34 => ?_)
                      exact r_iret C hw hr hlk rfl (Nat.le_of_ble_eq_true rfl) (Nat.le_of_ble_eq_true rfl) dX12_shortBy_165 ⟨rfl, rfl, rfl, rfl, hsz, ⟨_, rfl, ⟨fun _ => by omega, fun _ => Or.inr ⟨fun q => ngo (by have w := q.2.2; rw [show (12 * (ig (B + 56) (y.toInt.toNat + 2)).toInt + (ig (B + 55) (y.toInt.toNat + 2)).toInt) = z13.toInt by omega, show z13.toInt + 1 = z16.toInt by omega] at w; exact w), by omega⟩⟩⟩⟩
                    · refine lv_iload hx hb dX12_shortBy_159 (lv_at hl 1 rfl) ?_
                      refine lv_goto (tgt := 165) hx hb dX12_shortBy_161 (by decide) ?_
                      exact r_iret C hw hr hlk rfl (Nat.le_of_ble_eq_true rfl) (Nat.le_of_ble_eq_true rfl) dX12_shortBy_165 ⟨rfl, rfl, rfl, rfl, hsz, ⟨_, rfl, (by exfalso; omega)⟩⟩
                  · have ygo : gonN σ (famZ B ig) x.toInt z13.toInt z16.toInt := ⟨by omega, Or.inr (by have w := (hU.ge (x := z16.toInt) (by omega)).2.1 (by omega); unfold kinN; omega)⟩
                    refine lv_iconst (v := 1) hx hb dX12_shortBy_147 (by decide) (ti_c 1 (by decide) fun z35 hz35 => ?_)
                    refine lv_goto (tgt := 152) hx hb dX12_shortBy_148 (by decide) ?_
                    refine lv_istore (lv' := [(8, .int z35), (7, .int z16), (6, .int z13), (5, .int z7), (4, .int z3), (0, .ref (B + 49)), (1, .int x), (2, .int y), (3, .int u)]) hx hb dX12_shortBy_152 hl (by decide) rfl (fun ls hl => ?_)
                    refine lv_iload hx hb dX12_shortBy_154 (lv_at hl 0 rfl) ?_
                    refine z_eq (tgt := 164) hx hb dX12_shortBy_156 (by decide) (fun c156 => ?_) (fun c156 => ?_)
                    · refine lv_iconst (v := (-1)) hx hb dX12_shortBy_164 (by decide) (ti_c (-1) (by decide) fun z36 hz36 => ?_)
                      exact r_iret C hw hr hlk rfl (Nat.le_of_ble_eq_true rfl) (Nat.le_of_ble_eq_true rfl) dX12_shortBy_165 ⟨rfl, rfl, rfl, rfl, hsz, ⟨_, rfl, (by exfalso; omega)⟩⟩
                    · refine lv_iload hx hb dX12_shortBy_159 (lv_at hl 1 rfl) ?_
                      refine lv_goto (tgt := 165) hx hb dX12_shortBy_161 (by decide) ?_
                      exact r_iret C hw hr hlk rfl (Nat.le_of_ble_eq_true rfl) (Nat.le_of_ble_eq_true rfl) dX12_shortBy_165 ⟨rfl, rfl, rfl, rfl, hsz, ⟨_, rfl, ⟨fun _ => by omega, fun _ => Or.inl ⟨⟨by omega, by omega, by rw [show (12 * (ig (B + 56) (y.toInt.toNat + 2)).toInt + (ig (B + 55) (y.toInt.toNat + 2)).toInt) = z13.toInt by omega, show z13.toInt + 1 = z16.toInt by omega]; exact ygo⟩, by omega⟩⟩⟩⟩
          · refine lv_iload hx hb dX12_shortBy_88 (lv_at hl 0 rfl) ?_
            refine lv_bipush (v := 12) hx hb dX12_shortBy_90 (by decide) (ti_c 12 (by decide) fun z37 hz37 => ?_)
            refine lv_iadd hx hb dX12_shortBy_92 (tc_add fun z38 hz38 => ?_)
            first | replace hz38 := hz38 (by omega) | clear hz38
            refine lv_goto (tgt := 100) hx hb dX12_shortBy_93 (by decide) ?_
            refine lv_istore (lv' := [(7, .int z38), (6, .int z13), (5, .int z7), (4, .int z3), (0, .ref (B + 49)), (1, .int x), (2, .int y), (3, .int u)]) hx hb dX12_shortBy_100 hl (by decide) rfl (fun ls hl => ?_)
            refine lv_iload hx hb dX12_shortBy_102 (lv_at hl 0 rfl) ?_
            refine lv_iload_n hx hb dX12_shortBy_104 rfl (lv_at hl 5 rfl) ?_
            refine b_eq (tgt := 151) hx hb dX12_shortBy_105 (by decide) (fun c105 => ?_) (fun c105 => ?_)
            · have ngo : ¬ gonN σ (famZ B ig) x.toInt z13.toInt z38.toInt := fun q => q.1 (by omega)
              refine lv_iconst (v := 0) hx hb dX12_shortBy_151 (by decide) (ti_c 0 (by decide) fun z39 hz39 => ?_)
              refine lv_istore (lv' := [(8, .int z39), (7, .int z38), (6, .int z13), (5, .int z7), (4, .int z3), (0, .ref (B + 49)), (1, .int x), (2, .int y), (3, .int u)]) hx hb dX12_shortBy_152 hl (by decide) rfl (fun ls hl => ?_)
              refine lv_iload hx hb dX12_shortBy_154 (lv_at hl 0 rfl) ?_
              refine z_eq (tgt := 164) hx hb dX12_shortBy_156 (by decide) (fun c156 => ?_) (fun c156 => ?_)
              · refine lv_iconst (v := (-1)) hx hb dX12_shortBy_164 (by decide) (ti_c (-1) (by decide) fun z40 hz40 => ?_)
                exact r_iret C hw hr hlk rfl (Nat.le_of_ble_eq_true rfl) (Nat.le_of_ble_eq_true rfl) dX12_shortBy_165 ⟨rfl, rfl, rfl, rfl, hsz, ⟨_, rfl, (by exfalso; omega)⟩⟩
              · refine lv_iload hx hb dX12_shortBy_159 (lv_at hl 1 rfl) ?_
                refine lv_goto (tgt := 165) hx hb dX12_shortBy_161 (by decide) ?_
                exact r_iret C hw hr hlk rfl (Nat.le_of_ble_eq_true rfl) (Nat.le_of_ble_eq_true rfl) dX12_shortBy_165 ⟨rfl, rfl, rfl, rfl, hsz, ⟨_, rfl, (by exfalso; omega)⟩⟩
            · refine lv_aload_n hx hb dX12_shortBy_108 rfl (lv_at hl 4 rfl) ?_
              refine r_get C hw (hsh 49 _ rfl) fl_X12_80 (oV_r rfl (hrm (49, 15, 59) (by decide))) dX12_shortBy_109 ?_
              refine lv_iload hx hb dX12_shortBy_112 (lv_at hl 0 rfl) ?_
              refine r_iald C hw (hsh 59 _ rfl) (by omega) (by omega) dX12_shortBy_114 (ti_c (ig (B + 59) z38.toInt.toNat).toInt rfl fun z41 hz41 => ?_)
              try simp only [ez7] at hz41
              try simp only [ez17] at hz41
              have k1 : z41.toInt = kdO (atC σ z38.toInt) := by rw [hz41]; exact hM.kdx (x := z38.toInt) (by omega)
              refine lv_iconst (v := 1) hx hb dX12_shortBy_115 (by decide) (ti_c 1 (by decide) fun z43 hz43 => ?_)
              refine b_eq (tgt := 147) hx hb dX12_shortBy_116 (by decide) (fun c116 => ?_) (fun c116 => ?_)
              · have ygo : gonN σ (famZ B ig) x.toInt z13.toInt z38.toInt := ⟨by omega, Or.inl (by omega)⟩
                refine lv_iconst (v := 1) hx hb dX12_shortBy_147 (by decide) (ti_c 1 (by decide) fun z44 hz44 => ?_)
                refine lv_goto (tgt := 152) hx hb dX12_shortBy_148 (by decide) ?_
                refine lv_istore (lv' := [(8, .int z44), (7, .int z38), (6, .int z13), (5, .int z7), (4, .int z3), (0, .ref (B + 49)), (1, .int x), (2, .int y), (3, .int u)]) hx hb dX12_shortBy_152 hl (by decide) rfl (fun ls hl => ?_)
                refine lv_iload hx hb dX12_shortBy_154 (lv_at hl 0 rfl) ?_
                refine z_eq (tgt := 164) hx hb dX12_shortBy_156 (by decide) (fun c156 => ?_) (fun c156 => ?_)
                · refine lv_iconst (v := (-1)) hx hb dX12_shortBy_164 (by decide) (ti_c (-1) (by decide) fun z45 hz45 => ?_)
                  exact r_iret C hw hr hlk rfl (Nat.le_of_ble_eq_true rfl) (Nat.le_of_ble_eq_true rfl) dX12_shortBy_165 ⟨rfl, rfl, rfl, rfl, hsz, ⟨_, rfl, (by exfalso; omega)⟩⟩
                · refine lv_iload hx hb dX12_shortBy_159 (lv_at hl 1 rfl) ?_
                  refine lv_goto (tgt := 165) hx hb dX12_shortBy_161 (by decide) ?_
                  exact r_iret C hw hr hlk rfl (Nat.le_of_ble_eq_true rfl) (Nat.le_of_ble_eq_true rfl) dX12_shortBy_165 ⟨rfl, rfl, rfl, rfl, hsz, ⟨_, rfl, (by exfalso; omega)⟩⟩
              · refine lv_aload_n hx hb dX12_shortBy_119 rfl (lv_at hl 4 rfl) ?_
                refine r_get C hw (hsh 49 _ rfl) fl_X12_80 (oV_r rfl (hrm (49, 15, 59) (by decide))) dX12_shortBy_120 ?_
                refine lv_iload hx hb dX12_shortBy_123 (lv_at hl 0 rfl) ?_
                refine r_iald C hw (hsh 59 _ rfl) (by omega) (by omega) dX12_shortBy_125 (ti_c (ig (B + 59) z38.toInt.toNat).toInt rfl fun z46 hz46 => ?_)
                try simp only [ez7] at hz46
                try simp only [ez17] at hz46
                have k2 : z46.toInt = kdO (atC σ z38.toInt) := by rw [hz46]; exact hM.kdx (x := z38.toInt) (by omega)
                refine lv_iconst (v := 2) hx hb dX12_shortBy_126 (by decide) (ti_c 2 (by decide) fun z48 hz48 => ?_)
                refine b_ne (tgt := 151) hx hb dX12_shortBy_127 (by decide) (fun c127 => ?_) (fun c127 => ?_)
                · have ngo : ¬ gonN σ (famZ B ig) x.toInt z13.toInt z38.toInt := (by rintro ⟨-, q | q⟩; omega; (have w := hU.ge (x := z38.toInt) (by omega); unfold kinN at q; omega))
                  refine lv_iconst (v := 0) hx hb dX12_shortBy_151 (by decide) (ti_c 0 (by decide) fun z49 hz49 => ?_)
                  refine lv_istore (lv' := [(8, .int z49), (7, .int z38), (6, .int z13), (5, .int z7), (4, .int z3), (0, .ref (B + 49)), (1, .int x), (2, .int y), (3, .int u)]) hx hb dX12_shortBy_152 hl (by decide) rfl (fun ls hl => ?_)
                  refine lv_iload hx hb dX12_shortBy_154 (lv_at hl 0 rfl) ?_
                  refine z_eq (tgt := 164) hx hb dX12_shortBy_156 (by decide) (fun c156 => ?_) (fun c156 => ?_)
                  · refine lv_iconst (v := (-1)) hx hb dX12_shortBy_164 (by decide) (ti_c (-1) (by decide) fun z50 hz50 => ?_)
                    exact r_iret C hw hr hlk rfl (Nat.le_of_ble_eq_true rfl) (Nat.le_of_ble_eq_true rfl) dX12_shortBy_165 ⟨rfl, rfl, rfl, rfl, hsz, ⟨_, rfl, (by exfalso; omega)⟩⟩
                  · refine lv_iload hx hb dX12_shortBy_159 (lv_at hl 1 rfl) ?_
                    refine lv_goto (tgt := 165) hx hb dX12_shortBy_161 (by decide) ?_
                    exact r_iret C hw hr hlk rfl (Nat.le_of_ble_eq_true rfl) (Nat.le_of_ble_eq_true rfl) dX12_shortBy_165 ⟨rfl, rfl, rfl, rfl, hsz, ⟨_, rfl, (by exfalso; omega)⟩⟩
                · refine lv_aload_n hx hb dX12_shortBy_130 rfl (lv_at hl 4 rfl) ?_
                  refine r_get C hw (hsh 49 _ rfl) fl_X12_117 (oV_r rfl (hrm (49, 28, 71) (by decide))) dX12_shortBy_131 ?_
                  refine lv_iload hx hb dX12_shortBy_134 (lv_at hl 0 rfl) ?_
                  refine r_iald C hw (hsh 71 _ rfl) (by omega) (by omega) dX12_shortBy_136 (ti_c (ig (B + 71) z38.toInt.toNat).toInt rfl fun z51 hz51 => ?_)
                  try simp only [ez7] at hz51
                  try simp only [ez17] at hz51
                  have f1 : z51.toInt = famZ B ig z38.toInt.toNat := hz51
                  refine lv_aload_n hx hb dX12_shortBy_137 rfl (lv_at hl 4 rfl) ?_
                  refine r_get C hw (hsh 49 _ rfl) fl_X12_117 (oV_r rfl (hrm (49, 28, 71) (by decide))) dX12_shortBy_138 ?_
                  refine lv_iload hx hb dX12_shortBy_141 (lv_at hl 1 rfl) ?_
                  refine r_iald C hw (hsh 71 _ rfl) (by omega) (by omega) dX12_shortBy_143 (ti_c (ig (B + 71) z13.toInt.toNat).toInt rfl fun z53 hz53 => ?_)
                  try simp only [ez7] at hz53
                  try simp only [ez17] at hz53
                  have f2 : z53.toInt = famZ B ig z13.toInt.toNat := hz53
                  refine b_ne (tgt := 151) hx hb dX12_shortBy_144 (by decide) (fun c144 => ?_) (fun c144 => ?_)
                  · have ngo : ¬ gonN σ (famZ B ig) x.toInt z13.toInt z38.toInt := (by rintro ⟨-, q | q⟩; omega; (have w := hU.ge (x := z38.toInt) (by omega); unfold kinN at q; omega))
                    refine lv_iconst (v := 0) hx hb dX12_shortBy_151 (by decide) (ti_c 0 (by decide) fun z55 hz55 => ?_)
                    refine lv_istore (lv' := [(8, .int z55), (7, .int z38), (6, .int z13), (5, .int z7), (4, .int z3), (0, .ref (B + 49)), (1, .int x), (2, .int y), (3, .int u)]) hx hb dX12_shortBy_152 hl (by decide) rfl (fun ls hl => ?_)
                    refine lv_iload hx hb dX12_shortBy_154 (lv_at hl 0 rfl) ?_
                    refine z_eq (tgt := 164) hx hb dX12_shortBy_156 (by decide) (fun c156 => ?_) (fun c156 => ?_)
                    · refine lv_iconst (v := (-1)) hx hb dX12_shortBy_164 (by decide) (ti_c (-1) (by decide) fun z56 hz56 => ?_)
                      exact r_iret C hw hr hlk rfl (Nat.le_of_ble_eq_true rfl) (Nat.le_of_ble_eq_true rfl) dX12_shortBy_165 ⟨rfl, rfl, rfl, rfl, hsz, ⟨_, rfl, (by exfalso; omega)⟩⟩
                    · refine lv_iload hx hb dX12_shortBy_159 (lv_at hl 1 rfl) ?_
                      refine lv_goto (tgt := 165) hx hb dX12_shortBy_161 (by decide) ?_
                      exact r_iret C hw hr hlk rfl (Nat.le_of_ble_eq_true rfl) (Nat.le_of_ble_eq_true rfl) dX12_shortBy_165 ⟨rfl, rfl, rfl, rfl, hsz, ⟨_, rfl, (by exfalso; omega)⟩⟩
                  · have ygo : gonN σ (famZ B ig) x.toInt z13.toInt z38.toInt := ⟨by omega, Or.inr (by have w := (hU.ge (x := z38.toInt) (by omega)).2.1 (by omega); unfold kinN; omega)⟩
                    refine lv_iconst (v := 1) hx hb dX12_shortBy_147 (by decide) (ti_c 1 (by decide) fun z57 hz57 => ?_)
                    refine lv_goto (tgt := 152) hx hb dX12_shortBy_148 (by decide) ?_
                    refine lv_istore (lv' := [(8, .int z57), (7, .int z38), (6, .int z13), (5, .int z7), (4, .int z3), (0, .ref (B + 49)), (1, .int x), (2, .int y), (3, .int u)]) hx hb dX12_shortBy_152 hl (by decide) rfl (fun ls hl => ?_)
                    refine lv_iload hx hb dX12_shortBy_154 (lv_at hl 0 rfl) ?_
                    refine z_eq (tgt := 164) hx hb dX12_shortBy_156 (by decide) (fun c156 => ?_) (fun c156 => ?_)
                    · refine lv_iconst (v := (-1)) hx hb dX12_shortBy_164 (by decide) (ti_c (-1) (by decide) fun z58 hz58 => ?_)
                      exact r_iret C hw hr hlk rfl (Nat.le_of_ble_eq_true rfl) (Nat.le_of_ble_eq_true rfl) dX12_shortBy_165 ⟨rfl, rfl, rfl, rfl, hsz, ⟨_, rfl, (by exfalso; omega)⟩⟩
                    · refine lv_iload hx hb dX12_shortBy_159 (lv_at hl 1 rfl) ?_
                      refine lv_goto (tgt := 165) hx hb dX12_shortBy_161 (by decide) ?_
                      exact r_iret C hw hr hlk rfl (Nat.le_of_ble_eq_true rfl) (Nat.le_of_ble_eq_true rfl) dX12_shortBy_165 ⟨rfl, rfl, rfl, rfl, hsz, ⟨_, rfl, (by exfalso; omega)⟩⟩
        · refine lv_iconst (v := (-1)) hx hb dX12_shortBy_82 (by decide) (ti_c (-1) (by decide) fun z59 hz59 => ?_)
          exact r_iret C hw hr hlk rfl (Nat.le_of_ble_eq_true rfl) (Nat.le_of_ble_eq_true rfl) dX12_shortBy_83 ⟨rfl, rfl, rfl, rfl, hsz, ⟨_, rfl, ⟨fun _ => by omega, fun _ => Or.inr ⟨fun q => by have q1 := q.1; have q2 := q.2.1; omega, by omega⟩⟩⟩⟩
      · refine lv_iload hx hb dX12_shortBy_65 (lv_at hl 1 rfl) ?_
        refine lv_bipush (v := 23) hx hb dX12_shortBy_67 (by decide) (ti_c 23 (by decide) fun z60 hz60 => ?_)
        refine b_ne (tgt := 84) hx hb dX12_shortBy_69 (by decide) (fun c69 => ?_) (fun c69 => ?_)
        · refine lv_iload_n hx hb dX12_shortBy_84 rfl (lv_at hl 6 rfl) ?_
          refine z_eq (tgt := 96) hx hb dX12_shortBy_85 (by decide) (fun c85 => ?_) (fun c85 => ?_)
          · refine lv_iload hx hb dX12_shortBy_96 (lv_at hl 0 rfl) ?_
            refine lv_iconst (v := 1) hx hb dX12_shortBy_98 (by decide) (ti_c 1 (by decide) fun z61 hz61 => ?_)
            refine lv_iadd hx hb dX12_shortBy_99 (tc_add fun z62 hz62 => ?_)
            first | replace hz62 := hz62 (by omega) | clear hz62
            refine lv_istore (lv' := [(7, .int z62), (6, .int z13), (5, .int z7), (4, .int z3), (0, .ref (B + 49)), (1, .int x), (2, .int y), (3, .int u)]) hx hb dX12_shortBy_100 hl (by decide) rfl (fun ls hl => ?_)
            refine lv_iload hx hb dX12_shortBy_102 (lv_at hl 0 rfl) ?_
            refine lv_iload_n hx hb dX12_shortBy_104 rfl (lv_at hl 5 rfl) ?_
            refine b_eq (tgt := 151) hx hb dX12_shortBy_105 (by decide) (fun c105 => ?_) (fun c105 => ?_)
            · have ngo : ¬ gonN σ (famZ B ig) x.toInt z13.toInt z62.toInt := fun q => q.1 (by omega)
              refine lv_iconst (v := 0) hx hb dX12_shortBy_151 (by decide) (ti_c 0 (by decide) fun z63 hz63 => ?_)
              refine lv_istore (lv' := [(8, .int z63), (7, .int z62), (6, .int z13), (5, .int z7), (4, .int z3), (0, .ref (B + 49)), (1, .int x), (2, .int y), (3, .int u)]) hx hb dX12_shortBy_152 hl (by decide) rfl (fun ls hl => ?_)
              refine lv_iload hx hb dX12_shortBy_154 (lv_at hl 0 rfl) ?_
              refine z_eq (tgt := 164) hx hb dX12_shortBy_156 (by decide) (fun c156 => ?_) (fun c156 => ?_)
              · refine lv_iconst (v := (-1)) hx hb dX12_shortBy_164 (by decide) (ti_c (-1) (by decide) fun z64 hz64 => ?_)
                exact r_iret C hw hr hlk rfl (Nat.le_of_ble_eq_true rfl) (Nat.le_of_ble_eq_true rfl) dX12_shortBy_165 ⟨rfl, rfl, rfl, rfl, hsz, ⟨_, rfl, (by exfalso; omega)⟩⟩
              · refine lv_iload hx hb dX12_shortBy_159 (lv_at hl 1 rfl) ?_
                refine lv_goto (tgt := 165) hx hb dX12_shortBy_161 (by decide) ?_
                exact r_iret C hw hr hlk rfl (Nat.le_of_ble_eq_true rfl) (Nat.le_of_ble_eq_true rfl) dX12_shortBy_165 ⟨rfl, rfl, rfl, rfl, hsz, ⟨_, rfl, (by exfalso; omega)⟩⟩
            · refine lv_aload_n hx hb dX12_shortBy_108 rfl (lv_at hl 4 rfl) ?_
              refine r_get C hw (hsh 49 _ rfl) fl_X12_80 (oV_r rfl (hrm (49, 15, 59) (by decide))) dX12_shortBy_109 ?_
              refine lv_iload hx hb dX12_shortBy_112 (lv_at hl 0 rfl) ?_
              refine r_iald C hw (hsh 59 _ rfl) (by omega) (by omega) dX12_shortBy_114 (ti_c (ig (B + 59) z62.toInt.toNat).toInt rfl fun z65 hz65 => ?_)
              try simp only [ez7] at hz65
              try simp only [ez17] at hz65
              have k1 : z65.toInt = kdO (atC σ z62.toInt) := by rw [hz65]; exact hM.kdx (x := z62.toInt) (by omega)
              refine lv_iconst (v := 1) hx hb dX12_shortBy_115 (by decide) (ti_c 1 (by decide) fun z67 hz67 => ?_)
              refine b_eq (tgt := 147) hx hb dX12_shortBy_116 (by decide) (fun c116 => ?_) (fun c116 => ?_)
              · have ygo : gonN σ (famZ B ig) x.toInt z13.toInt z62.toInt := ⟨by omega, Or.inl (by omega)⟩
                refine lv_iconst (v := 1) hx hb dX12_shortBy_147 (by decide) (ti_c 1 (by decide) fun z68 hz68 => ?_)
                refine lv_goto (tgt := 152) hx hb dX12_shortBy_148 (by decide) ?_
                refine lv_istore (lv' := [(8, .int z68), (7, .int z62), (6, .int z13), (5, .int z7), (4, .int z3), (0, .ref (B + 49)), (1, .int x), (2, .int y), (3, .int u)]) hx hb dX12_shortBy_152 hl (by decide) rfl (fun ls hl => ?_)
                refine lv_iload hx hb dX12_shortBy_154 (lv_at hl 0 rfl) ?_
                refine z_eq (tgt := 164) hx hb dX12_shortBy_156 (by decide) (fun c156 => ?_) (fun c156 => ?_)
                · refine lv_iconst (v := (-1)) hx hb dX12_shortBy_164 (by decide) (ti_c (-1) (by decide) fun z69 hz69 => ?_)
                  exact r_iret C hw hr hlk rfl (Nat.le_of_ble_eq_true rfl) (Nat.le_of_ble_eq_true rfl) dX12_shortBy_165 ⟨rfl, rfl, rfl, rfl, hsz, ⟨_, rfl, (by exfalso; omega)⟩⟩
                · refine lv_iload hx hb dX12_shortBy_159 (lv_at hl 1 rfl) ?_
                  refine lv_goto (tgt := 165) hx hb dX12_shortBy_161 (by decide) ?_
                  exact r_iret C hw hr hlk rfl (Nat.le_of_ble_eq_true rfl) (Nat.le_of_ble_eq_true rfl) dX12_shortBy_165 ⟨rfl, rfl, rfl, rfl, hsz, ⟨_, rfl, (by exfalso; omega)⟩⟩
              · refine lv_aload_n hx hb dX12_shortBy_119 rfl (lv_at hl 4 rfl) ?_
                refine r_get C hw (hsh 49 _ rfl) fl_X12_80 (oV_r rfl (hrm (49, 15, 59) (by decide))) dX12_shortBy_120 ?_
                refine lv_iload hx hb dX12_shortBy_123 (lv_at hl 0 rfl) ?_
                refine r_iald C hw (hsh 59 _ rfl) (by omega) (by omega) dX12_shortBy_125 (ti_c (ig (B + 59) z62.toInt.toNat).toInt rfl fun z70 hz70 => ?_)
                try simp only [ez7] at hz70
                try simp only [ez17] at hz70
                have k2 : z70.toInt = kdO (atC σ z62.toInt) := by rw [hz70]; exact hM.kdx (x := z62.toInt) (by omega)
                refine lv_iconst (v := 2) hx hb dX12_shortBy_126 (by decide) (ti_c 2 (by decide) fun z72 hz72 => ?_)
                refine b_ne (tgt := 151) hx hb dX12_shortBy_127 (by decide) (fun c127 => ?_) (fun c127 => ?_)
                · have ngo : ¬ gonN σ (famZ B ig) x.toInt z13.toInt z62.toInt := (by rintro ⟨-, q | q⟩; omega; (have w := hU.ge (x := z62.toInt) (by omega); unfold kinN at q; omega))
                  refine lv_iconst (v := 0) hx hb dX12_shortBy_151 (by decide) (ti_c 0 (by decide) fun z73 hz73 => ?_)
                  refine lv_istore (lv' := [(8, .int z73), (7, .int z62), (6, .int z13), (5, .int z7), (4, .int z3), (0, .ref (B + 49)), (1, .int x), (2, .int y), (3, .int u)]) hx hb dX12_shortBy_152 hl (by decide) rfl (fun ls hl => ?_)
                  refine lv_iload hx hb dX12_shortBy_154 (lv_at hl 0 rfl) ?_
                  refine z_eq (tgt := 164) hx hb dX12_shortBy_156 (by decide) (fun c156 => ?_) (fun c156 => ?_)
                  · refine lv_iconst (v := (-1)) hx hb dX12_shortBy_164 (by decide) (ti_c (-1) (by decide) fun z74 hz74 => ?_)
                    exact r_iret C hw hr hlk rfl (Nat.le_of_ble_eq_true rfl) (Nat.le_of_ble_eq_true rfl) dX12_shortBy_165 ⟨rfl, rfl, rfl, rfl, hsz, ⟨_, rfl, (by exfalso; omega)⟩⟩
                  · refine lv_iload hx hb dX12_shortBy_159 (lv_at hl 1 rfl) ?_
                    refine lv_goto (tgt := 165) hx hb dX12_shortBy_161 (by decide) ?_
                    exact r_iret C hw hr hlk rfl (Nat.le_of_ble_eq_true rfl) (Nat.le_of_ble_eq_true rfl) dX12_shortBy_165 ⟨rfl, rfl, rfl, rfl, hsz, ⟨_, rfl, (by exfalso; omega)⟩⟩
                · refine lv_aload_n hx hb dX12_shortBy_130 rfl (lv_at hl 4 rfl) ?_
                  refine r_get C hw (hsh 49 _ rfl) fl_X12_117 (oV_r rfl (hrm (49, 28, 71) (by decide))) dX12_shortBy_131 ?_
                  refine lv_iload hx hb dX12_shortBy_134 (lv_at hl 0 rfl) ?_
                  refine r_iald C hw (hsh 71 _ rfl) (by omega) (by omega) dX12_shortBy_136 (ti_c (ig (B + 71) z62.toInt.toNat).toInt rfl fun z75 hz75 => ?_)
                  try simp only [ez7] at hz75
                  try simp only [ez17] at hz75
                  have f1 : z75.toInt = famZ B ig z62.toInt.toNat := hz75
                  refine lv_aload_n hx hb dX12_shortBy_137 rfl (lv_at hl 4 rfl) ?_
                  refine r_get C hw (hsh 49 _ rfl) fl_X12_117 (oV_r rfl (hrm (49, 28, 71) (by decide))) dX12_shortBy_138 ?_
                  refine lv_iload hx hb dX12_shortBy_141 (lv_at hl 1 rfl) ?_
                  refine r_iald C hw (hsh 71 _ rfl) (by omega) (by omega) dX12_shortBy_143 (ti_c (ig (B + 71) z13.toInt.toNat).toInt rfl fun z77 hz77 => ?_)
                  try simp only [ez7] at hz77
                  try simp only [ez17] at hz77
                  have f2 : z77.toInt = famZ B ig z13.toInt.toNat := hz77
                  refine b_ne (tgt := 151) hx hb dX12_shortBy_144 (by decide) (fun c144 => ?_) (fun c144 => ?_)
                  · have ngo : ¬ gonN σ (famZ B ig) x.toInt z13.toInt z62.toInt := (by rintro ⟨-, q | q⟩; omega; (have w := hU.ge (x := z62.toInt) (by omega); unfold kinN at q; omega))
                    refine lv_iconst (v := 0) hx hb dX12_shortBy_151 (by decide) (ti_c 0 (by decide) fun z79 hz79 => ?_)
                    refine lv_istore (lv' := [(8, .int z79), (7, .int z62), (6, .int z13), (5, .int z7), (4, .int z3), (0, .ref (B + 49)), (1, .int x), (2, .int y), (3, .int u)]) hx hb dX12_shortBy_152 hl (by decide) rfl (fun ls hl => ?_)
                    refine lv_iload hx hb dX12_shortBy_154 (lv_at hl 0 rfl) ?_
                    refine z_eq (tgt := 164) hx hb dX12_shortBy_156 (by decide) (fun c156 => ?_) (fun c156 => ?_)
                    · refine lv_iconst (v := (-1)) hx hb dX12_shortBy_164 (by decide) (ti_c (-1) (by decide) fun z80 hz80 => ?_)
                      exact r_iret C hw hr hlk rfl (Nat.le_of_ble_eq_true rfl) (Nat.le_of_ble_eq_true rfl) dX12_shortBy_165 ⟨rfl, rfl, rfl, rfl, hsz, ⟨_, rfl, (by exfalso; omega)⟩⟩
                    · refine lv_iload hx hb dX12_shortBy_159 (lv_at hl 1 rfl) ?_
                      refine lv_goto (tgt := 165) hx hb dX12_shortBy_161 (by decide) ?_
                      exact r_iret C hw hr hlk rfl (Nat.le_of_ble_eq_true rfl) (Nat.le_of_ble_eq_true rfl) dX12_shortBy_165 ⟨rfl, rfl, rfl, rfl, hsz, ⟨_, rfl, (by exfalso; omega)⟩⟩
                  · have ygo : gonN σ (famZ B ig) x.toInt z13.toInt z62.toInt := ⟨by omega, Or.inr (by have w := (hU.ge (x := z62.toInt) (by omega)).2.1 (by omega); unfold kinN; omega)⟩
                    refine lv_iconst (v := 1) hx hb dX12_shortBy_147 (by decide) (ti_c 1 (by decide) fun z81 hz81 => ?_)
                    refine lv_goto (tgt := 152) hx hb dX12_shortBy_148 (by decide) ?_
                    refine lv_istore (lv' := [(8, .int z81), (7, .int z62), (6, .int z13), (5, .int z7), (4, .int z3), (0, .ref (B + 49)), (1, .int x), (2, .int y), (3, .int u)]) hx hb dX12_shortBy_152 hl (by decide) rfl (fun ls hl => ?_)
                    refine lv_iload hx hb dX12_shortBy_154 (lv_at hl 0 rfl) ?_
                    refine z_eq (tgt := 164) hx hb dX12_shortBy_156 (by decide) (fun c156 => ?_) (fun c156 => ?_)
                    · refine lv_iconst (v := (-1)) hx hb dX12_shortBy_164 (by decide) (ti_c (-1) (by decide) fun z82 hz82 => ?_)
                      exact r_iret C hw hr hlk rfl (Nat.le_of_ble_eq_true rfl) (Nat.le_of_ble_eq_true rfl) dX12_shortBy_165 ⟨rfl, rfl, rfl, rfl, hsz, ⟨_, rfl, (by exfalso; omega)⟩⟩
                    · refine lv_iload hx hb dX12_shortBy_159 (lv_at hl 1 rfl) ?_
                      refine lv_goto (tgt := 165) hx hb dX12_shortBy_161 (by decide) ?_
                      exact r_iret C hw hr hlk rfl (Nat.le_of_ble_eq_true rfl) (Nat.le_of_ble_eq_true rfl) dX12_shortBy_165 ⟨rfl, rfl, rfl, rfl, hsz, ⟨_, rfl, (by exfalso; omega)⟩⟩
          · refine lv_iload hx hb dX12_shortBy_88 (lv_at hl 0 rfl) ?_
            refine lv_bipush (v := 12) hx hb dX12_shortBy_90 (by decide) (ti_c 12 (by decide) fun z83 hz83 => ?_)
            refine lv_iadd hx hb dX12_shortBy_92 (tc_add fun z84 hz84 => ?_)
            first | replace hz84 := hz84 (by omega) | clear hz84
            refine lv_goto (tgt := 100) hx hb dX12_shortBy_93 (by decide) ?_
            refine lv_istore (lv' := [(7, .int z84), (6, .int z13), (5, .int z7), (4, .int z3), (0, .ref (B + 49)), (1, .int x), (2, .int y), (3, .int u)]) hx hb dX12_shortBy_100 hl (by decide) rfl (fun ls hl => ?_)
            refine lv_iload hx hb dX12_shortBy_102 (lv_at hl 0 rfl) ?_
            refine lv_iload_n hx hb dX12_shortBy_104 rfl (lv_at hl 5 rfl) ?_
            refine b_eq (tgt := 151) hx hb dX12_shortBy_105 (by decide) (fun c105 => ?_) (fun c105 => ?_)
            · have ngo : ¬ gonN σ (famZ B ig) x.toInt z13.toInt z84.toInt := fun q => q.1 (by omega)
              refine lv_iconst (v := 0) hx hb dX12_shortBy_151 (by decide) (ti_c 0 (by decide) fun z85 hz85 => ?_)
              refine lv_istore (lv' := [(8, .int z85), (7, .int z84), (6, .int z13), (5, .int z7), (4, .int z3), (0, .ref (B + 49)), (1, .int x), (2, .int y), (3, .int u)]) hx hb dX12_shortBy_152 hl (by decide) rfl (fun ls hl => ?_)
              refine lv_iload hx hb dX12_shortBy_154 (lv_at hl 0 rfl) ?_
              refine z_eq (tgt := 164) hx hb dX12_shortBy_156 (by decide) (fun c156 => ?_) (fun c156 => ?_)
              · refine lv_iconst (v := (-1)) hx hb dX12_shortBy_164 (by decide) (ti_c (-1) (by decide) fun z86 hz86 => ?_)
                exact r_iret C hw hr hlk rfl (Nat.le_of_ble_eq_true rfl) (Nat.le_of_ble_eq_true rfl) dX12_shortBy_165 ⟨rfl, rfl, rfl, rfl, hsz, ⟨_, rfl, (by exfalso; omega)⟩⟩
              · refine lv_iload hx hb dX12_shortBy_159 (lv_at hl 1 rfl) ?_
                refine lv_goto (tgt := 165) hx hb dX12_shortBy_161 (by decide) ?_
                exact r_iret C hw hr hlk rfl (Nat.le_of_ble_eq_true rfl) (Nat.le_of_ble_eq_true rfl) dX12_shortBy_165 ⟨rfl, rfl, rfl, rfl, hsz, ⟨_, rfl, (by exfalso; omega)⟩⟩
            · refine lv_aload_n hx hb dX12_shortBy_108 rfl (lv_at hl 4 rfl) ?_
              refine r_get C hw (hsh 49 _ rfl) fl_X12_80 (oV_r rfl (hrm (49, 15, 59) (by decide))) dX12_shortBy_109 ?_
              refine lv_iload hx hb dX12_shortBy_112 (lv_at hl 0 rfl) ?_
              refine r_iald C hw (hsh 59 _ rfl) (by omega) (by omega) dX12_shortBy_114 (ti_c (ig (B + 59) z84.toInt.toNat).toInt rfl fun z87 hz87 => ?_)
              try simp only [ez7] at hz87
              try simp only [ez17] at hz87
              have k1 : z87.toInt = kdO (atC σ z84.toInt) := by rw [hz87]; exact hM.kdx (x := z84.toInt) (by omega)
              refine lv_iconst (v := 1) hx hb dX12_shortBy_115 (by decide) (ti_c 1 (by decide) fun z89 hz89 => ?_)
              refine b_eq (tgt := 147) hx hb dX12_shortBy_116 (by decide) (fun c116 => ?_) (fun c116 => ?_)
              · have ygo : gonN σ (famZ B ig) x.toInt z13.toInt z84.toInt := ⟨by omega, Or.inl (by omega)⟩
                refine lv_iconst (v := 1) hx hb dX12_shortBy_147 (by decide) (ti_c 1 (by decide) fun z90 hz90 => ?_)
                refine lv_goto (tgt := 152) hx hb dX12_shortBy_148 (by decide) ?_
                refine lv_istore (lv' := [(8, .int z90), (7, .int z84), (6, .int z13), (5, .int z7), (4, .int z3), (0, .ref (B + 49)), (1, .int x), (2, .int y), (3, .int u)]) hx hb dX12_shortBy_152 hl (by decide) rfl (fun ls hl => ?_)
                refine lv_iload hx hb dX12_shortBy_154 (lv_at hl 0 rfl) ?_
                refine z_eq (tgt := 164) hx hb dX12_shortBy_156 (by decide) (fun c156 => ?_) (fun c156 => ?_)
                · refine lv_iconst (v := (-1)) hx hb dX12_shortBy_164 (by decide) (ti_c (-1) (by decide) fun z91 hz91 => ?_)
                  exact r_iret C hw hr hlk rfl (Nat.le_of_ble_eq_true rfl) (Nat.le_of_ble_eq_true rfl) dX12_shortBy_165 ⟨rfl, rfl, rfl, rfl, hsz, ⟨_, rfl, (by exfalso; omega)⟩⟩
                · refine lv_iload hx hb dX12_shortBy_159 (lv_at hl 1 rfl) ?_
                  refine lv_goto (tgt := 165) hx hb dX12_shortBy_161 (by decide) ?_
                  exact r_iret C hw hr hlk rfl (Nat.le_of_ble_eq_true rfl) (Nat.le_of_ble_eq_true rfl) dX12_shortBy_165 ⟨rfl, rfl, rfl, rfl, hsz, ⟨_, rfl, (by exfalso; omega)⟩⟩
              · refine lv_aload_n hx hb dX12_shortBy_119 rfl (lv_at hl 4 rfl) ?_
                refine r_get C hw (hsh 49 _ rfl) fl_X12_80 (oV_r rfl (hrm (49, 15, 59) (by decide))) dX12_shortBy_120 ?_
                refine lv_iload hx hb dX12_shortBy_123 (lv_at hl 0 rfl) ?_
                refine r_iald C hw (hsh 59 _ rfl) (by omega) (by omega) dX12_shortBy_125 (ti_c (ig (B + 59) z84.toInt.toNat).toInt rfl fun z92 hz92 => ?_)
                try simp only [ez7] at hz92
                try simp only [ez17] at hz92
                have k2 : z92.toInt = kdO (atC σ z84.toInt) := by rw [hz92]; exact hM.kdx (x := z84.toInt) (by omega)
                refine lv_iconst (v := 2) hx hb dX12_shortBy_126 (by decide) (ti_c 2 (by decide) fun z94 hz94 => ?_)
                refine b_ne (tgt := 151) hx hb dX12_shortBy_127 (by decide) (fun c127 => ?_) (fun c127 => ?_)
                · have ngo : ¬ gonN σ (famZ B ig) x.toInt z13.toInt z84.toInt := (by rintro ⟨-, q | q⟩; omega; (have w := hU.ge (x := z84.toInt) (by omega); unfold kinN at q; omega))
                  refine lv_iconst (v := 0) hx hb dX12_shortBy_151 (by decide) (ti_c 0 (by decide) fun z95 hz95 => ?_)
                  refine lv_istore (lv' := [(8, .int z95), (7, .int z84), (6, .int z13), (5, .int z7), (4, .int z3), (0, .ref (B + 49)), (1, .int x), (2, .int y), (3, .int u)]) hx hb dX12_shortBy_152 hl (by decide) rfl (fun ls hl => ?_)
                  refine lv_iload hx hb dX12_shortBy_154 (lv_at hl 0 rfl) ?_
                  refine z_eq (tgt := 164) hx hb dX12_shortBy_156 (by decide) (fun c156 => ?_) (fun c156 => ?_)
                  · refine lv_iconst (v := (-1)) hx hb dX12_shortBy_164 (by decide) (ti_c (-1) (by decide) fun z96 hz96 => ?_)
                    exact r_iret C hw hr hlk rfl (Nat.le_of_ble_eq_true rfl) (Nat.le_of_ble_eq_true rfl) dX12_shortBy_165 ⟨rfl, rfl, rfl, rfl, hsz, ⟨_, rfl, (by exfalso; omega)⟩⟩
                  · refine lv_iload hx hb dX12_shortBy_159 (lv_at hl 1 rfl) ?_
                    refine lv_goto (tgt := 165) hx hb dX12_shortBy_161 (by decide) ?_
                    exact r_iret C hw hr hlk rfl (Nat.le_of_ble_eq_true rfl) (Nat.le_of_ble_eq_true rfl) dX12_shortBy_165 ⟨rfl, rfl, rfl, rfl, hsz, ⟨_, rfl, (by exfalso; omega)⟩⟩
                · refine lv_aload_n hx hb dX12_shortBy_130 rfl (lv_at hl 4 rfl) ?_
                  refine r_get C hw (hsh 49 _ rfl) fl_X12_117 (oV_r rfl (hrm (49, 28, 71) (by decide))) dX12_shortBy_131 ?_
                  refine lv_iload hx hb dX12_shortBy_134 (lv_at hl 0 rfl) ?_
                  refine r_iald C hw (hsh 71 _ rfl) (by omega) (by omega) dX12_shortBy_136 (ti_c (ig (B + 71) z84.toInt.toNat).toInt rfl fun z97 hz97 => ?_)
                  try simp only [ez7] at hz97
                  try simp only [ez17] at hz97
                  have f1 : z97.toInt = famZ B ig z84.toInt.toNat := hz97
                  refine lv_aload_n hx hb dX12_shortBy_137 rfl (lv_at hl 4 rfl) ?_
                  refine r_get C hw (hsh 49 _ rfl) fl_X12_117 (oV_r rfl (hrm (49, 28, 71) (by decide))) dX12_shortBy_138 ?_
                  refine lv_iload hx hb dX12_shortBy_141 (lv_at hl 1 rfl) ?_
                  refine r_iald C hw (hsh 71 _ rfl) (by omega) (by omega) dX12_shortBy_143 (ti_c (ig (B + 71) z13.toInt.toNat).toInt rfl fun z99 hz99 => ?_)
                  try simp only [ez7] at hz99
                  try simp only [ez17] at hz99
                  have f2 : z99.toInt = famZ B ig z13.toInt.toNat := hz99
                  refine b_ne (tgt := 151) hx hb dX12_shortBy_144 (by decide) (fun c144 => ?_) (fun c144 => ?_)
                  · have ngo : ¬ gonN σ (famZ B ig) x.toInt z13.toInt z84.toInt := (by rintro ⟨-, q | q⟩; omega; (have w := hU.ge (x := z84.toInt) (by omega); unfold kinN at q; omega))
                    refine lv_iconst (v := 0) hx hb dX12_shortBy_151 (by decide) (ti_c 0 (by decide) fun z101 hz101 => ?_)
                    refine lv_istore (lv' := [(8, .int z101), (7, .int z84), (6, .int z13), (5, .int z7), (4, .int z3), (0, .ref (B + 49)), (1, .int x), (2, .int y), (3, .int u)]) hx hb dX12_shortBy_152 hl (by decide) rfl (fun ls hl => ?_)
                    refine lv_iload hx hb dX12_shortBy_154 (lv_at hl 0 rfl) ?_
                    refine z_eq (tgt := 164) hx hb dX12_shortBy_156 (by decide) (fun c156 => ?_) (fun c156 => ?_)
                    · refine lv_iconst (v := (-1)) hx hb dX12_shortBy_164 (by decide) (ti_c (-1) (by decide) fun z102 hz102 => ?_)
                      exact r_iret C hw hr hlk rfl (Nat.le_of_ble_eq_true rfl) (Nat.le_of_ble_eq_true rfl) dX12_shortBy_165 ⟨rfl, rfl, rfl, rfl, hsz, ⟨_, rfl, (by exfalso; omega)⟩⟩
                    · refine lv_iload hx hb dX12_shortBy_159 (lv_at hl 1 rfl) ?_
                      refine lv_goto (tgt := 165) hx hb dX12_shortBy_161 (by decide) ?_
                      exact r_iret C hw hr hlk rfl (Nat.le_of_ble_eq_true rfl) (Nat.le_of_ble_eq_true rfl) dX12_shortBy_165 ⟨rfl, rfl, rfl, rfl, hsz, ⟨_, rfl, (by exfalso; omega)⟩⟩
                  · have ygo : gonN σ (famZ B ig) x.toInt z13.toInt z84.toInt := ⟨by omega, Or.inr (by have w := (hU.ge (x := z84.toInt) (by omega)).2.1 (by omega); unfold kinN; omega)⟩
                    refine lv_iconst (v := 1) hx hb dX12_shortBy_147 (by decide) (ti_c 1 (by decide) fun z103 hz103 => ?_)
                    refine lv_goto (tgt := 152) hx hb dX12_shortBy_148 (by decide) ?_
                    refine lv_istore (lv' := [(8, .int z103), (7, .int z84), (6, .int z13), (5, .int z7), (4, .int z3), (0, .ref (B + 49)), (1, .int x), (2, .int y), (3, .int u)]) hx hb dX12_shortBy_152 hl (by decide) rfl (fun ls hl => ?_)
                    refine lv_iload hx hb dX12_shortBy_154 (lv_at hl 0 rfl) ?_
                    refine z_eq (tgt := 164) hx hb dX12_shortBy_156 (by decide) (fun c156 => ?_) (fun c156 => ?_)
                    · refine lv_iconst (v := (-1)) hx hb dX12_shortBy_164 (by decide) (ti_c (-1) (by decide) fun z104 hz104 => ?_)
                      exact r_iret C hw hr hlk rfl (Nat.le_of_ble_eq_true rfl) (Nat.le_of_ble_eq_true rfl) dX12_shortBy_165 ⟨rfl, rfl, rfl, rfl, hsz, ⟨_, rfl, (by exfalso; omega)⟩⟩
                    · refine lv_iload hx hb dX12_shortBy_159 (lv_at hl 1 rfl) ?_
                      refine lv_goto (tgt := 165) hx hb dX12_shortBy_161 (by decide) ?_
                      exact r_iret C hw hr hlk rfl (Nat.le_of_ble_eq_true rfl) (Nat.le_of_ble_eq_true rfl) dX12_shortBy_165 ⟨rfl, rfl, rfl, rfl, hsz, ⟨_, rfl, (by exfalso; omega)⟩⟩
        · refine lv_goto (tgt := 82) hx hb dX12_shortBy_72 (by decide) ?_
          refine lv_iconst (v := (-1)) hx hb dX12_shortBy_82 (by decide) (ti_c (-1) (by decide) fun z105 hz105 => ?_)
          exact r_iret C hw hr hlk rfl (Nat.le_of_ble_eq_true rfl) (Nat.le_of_ble_eq_true rfl) dX12_shortBy_83 ⟨rfl, rfl, rfl, rfl, hsz, ⟨_, rfl, (by exfalso; omega)⟩⟩
    · refine lv_iconst (v := (-1)) hx hb dX12_shortBy_49 (by decide) (ti_c (-1) (by decide) fun z106 hz106 => ?_)
      exact r_iret C hw hr hlk rfl (Nat.le_of_ble_eq_true rfl) (Nat.le_of_ble_eq_true rfl) dX12_shortBy_50 ⟨rfl, rfl, rfl, rfl, hsz, ⟨_, rfl, ⟨fun _ => by omega, fun _ => Or.inr ⟨fun q => by have q1 := q.1; have q2 := q.2.1; omega, by omega⟩⟩⟩⟩
  · refine lv_aload_n hx hb dX12_shortBy_24 rfl (lv_at hl 2 rfl) ?_
    refine r_get C hw (hsh 49 _ rfl) fl_X12_68 (oV_r rfl (hrm (49, 10, 55) (by decide))) dX12_shortBy_25 ?_
    refine lv_iload_n hx hb dX12_shortBy_28 rfl (lv_at hl 4 rfl) ?_
    refine r_iald C hw (hsh 55 _ rfl) (by omega) (by omega) dX12_shortBy_29 (ti_c (ig (B + 55) y.toInt.toNat).toInt rfl fun z107 hz107 => ?_)
    try simp only [ez7] at hz107
    try simp only [ez17] at hz107
    refine lv_iload hx hb dX12_shortBy_30 (lv_at hl 1 rfl) ?_
    refine b_eq (tgt := 51) hx hb dX12_shortBy_32 (by decide) (fun c32 => ?_) (fun c32 => ?_)
    · refine lv_bipush (v := 12) hx hb dX12_shortBy_51 (by decide) (ti_c 12 (by decide) fun z109 hz109 => ?_)
      refine lv_iload hx hb dX12_shortBy_53 (lv_at hl 0 rfl) ?_
      refine lv_imul hx hb dX12_shortBy_55 (tc_mulL 12 hz109 fun z110 hz110 => ?_)
      first | replace hz110 := hz110 (by omega) | clear hz110
      refine lv_iload hx hb dX12_shortBy_56 (lv_at hl 1 rfl) ?_
      refine lv_iadd hx hb dX12_shortBy_58 (tc_add fun z111 hz111 => ?_)
      first | replace hz111 := hz111 (by omega) | clear hz111
      refine lv_istore (lv' := [(6, .int z111), (5, .int z7), (4, .int z3), (0, .ref (B + 49)), (1, .int x), (2, .int y), (3, .int u)]) hx hb dX12_shortBy_59 hl (by decide) rfl (fun ls hl => ?_)
      refine lv_iload_n hx hb dX12_shortBy_61 rfl (lv_at hl 6 rfl) ?_
      refine z_eq (tgt := 75) hx hb dX12_shortBy_62 (by decide) (fun c62 => ?_) (fun c62 => ?_)
      · refine lv_iload hx hb dX12_shortBy_75 (lv_at hl 2 rfl) ?_
        refine lv_bipush (v := 11) hx hb dX12_shortBy_77 (by decide) (ti_c 11 (by decide) fun z112 hz112 => ?_)
        refine b_ne (tgt := 84) hx hb dX12_shortBy_79 (by decide) (fun c79 => ?_) (fun c79 => ?_)
        · refine lv_iload_n hx hb dX12_shortBy_84 rfl (lv_at hl 6 rfl) ?_
          refine z_eq (tgt := 96) hx hb dX12_shortBy_85 (by decide) (fun c85 => ?_) (fun c85 => ?_)
          · refine lv_iload hx hb dX12_shortBy_96 (lv_at hl 0 rfl) ?_
            refine lv_iconst (v := 1) hx hb dX12_shortBy_98 (by decide) (ti_c 1 (by decide) fun z113 hz113 => ?_)
            refine lv_iadd hx hb dX12_shortBy_99 (tc_add fun z114 hz114 => ?_)
            first | replace hz114 := hz114 (by omega) | clear hz114
            refine lv_istore (lv' := [(7, .int z114), (6, .int z111), (5, .int z7), (4, .int z3), (0, .ref (B + 49)), (1, .int x), (2, .int y), (3, .int u)]) hx hb dX12_shortBy_100 hl (by decide) rfl (fun ls hl => ?_)
            refine lv_iload hx hb dX12_shortBy_102 (lv_at hl 0 rfl) ?_
            refine lv_iload_n hx hb dX12_shortBy_104 rfl (lv_at hl 5 rfl) ?_
            refine b_eq (tgt := 151) hx hb dX12_shortBy_105 (by decide) (fun c105 => ?_) (fun c105 => ?_)
            · have ngo : ¬ gonN σ (famZ B ig) x.toInt z111.toInt z114.toInt := fun q => q.1 (by omega)
              refine lv_iconst (v := 0) hx hb dX12_shortBy_151 (by decide) (ti_c 0 (by decide) fun z115 hz115 => ?_)
              refine lv_istore (lv' := [(8, .int z115), (7, .int z114), (6, .int z111), (5, .int z7), (4, .int z3), (0, .ref (B + 49)), (1, .int x), (2, .int y), (3, .int u)]) hx hb dX12_shortBy_152 hl (by decide) rfl (fun ls hl => ?_)
              refine lv_iload hx hb dX12_shortBy_154 (lv_at hl 0 rfl) ?_
              refine z_eq (tgt := 164) hx hb dX12_shortBy_156 (by decide) (fun c156 => ?_) (fun c156 => ?_)
              · refine lv_iconst (v := (-1)) hx hb dX12_shortBy_164 (by decide) (ti_c (-1) (by decide) fun z116 hz116 => ?_)
                exact r_iret C hw hr hlk rfl (Nat.le_of_ble_eq_true rfl) (Nat.le_of_ble_eq_true rfl) dX12_shortBy_165 ⟨rfl, rfl, rfl, rfl, hsz, ⟨_, rfl, (by exfalso; omega)⟩⟩
              · refine lv_iload hx hb dX12_shortBy_159 (lv_at hl 1 rfl) ?_
                refine lv_goto (tgt := 165) hx hb dX12_shortBy_161 (by decide) ?_
                exact r_iret C hw hr hlk rfl (Nat.le_of_ble_eq_true rfl) (Nat.le_of_ble_eq_true rfl) dX12_shortBy_165 ⟨rfl, rfl, rfl, rfl, hsz, ⟨_, rfl, (by exfalso; omega)⟩⟩
            · refine lv_aload_n hx hb dX12_shortBy_108 rfl (lv_at hl 4 rfl) ?_
              refine r_get C hw (hsh 49 _ rfl) fl_X12_80 (oV_r rfl (hrm (49, 15, 59) (by decide))) dX12_shortBy_109 ?_
              refine lv_iload hx hb dX12_shortBy_112 (lv_at hl 0 rfl) ?_
              refine r_iald C hw (hsh 59 _ rfl) (by omega) (by omega) dX12_shortBy_114 (ti_c (ig (B + 59) z114.toInt.toNat).toInt rfl fun z117 hz117 => ?_)
              try simp only [ez7] at hz117
              try simp only [ez17] at hz117
              have k1 : z117.toInt = kdO (atC σ z114.toInt) := by rw [hz117]; exact hM.kdx (x := z114.toInt) (by omega)
              refine lv_iconst (v := 1) hx hb dX12_shortBy_115 (by decide) (ti_c 1 (by decide) fun z119 hz119 => ?_)
              refine b_eq (tgt := 147) hx hb dX12_shortBy_116 (by decide) (fun c116 => ?_) (fun c116 => ?_)
              · have ygo : gonN σ (famZ B ig) x.toInt z111.toInt z114.toInt := ⟨by omega, Or.inl (by omega)⟩
                refine lv_iconst (v := 1) hx hb dX12_shortBy_147 (by decide) (ti_c 1 (by decide) fun z120 hz120 => ?_)
                refine lv_goto (tgt := 152) hx hb dX12_shortBy_148 (by decide) ?_
                refine lv_istore (lv' := [(8, .int z120), (7, .int z114), (6, .int z111), (5, .int z7), (4, .int z3), (0, .ref (B + 49)), (1, .int x), (2, .int y), (3, .int u)]) hx hb dX12_shortBy_152 hl (by decide) rfl (fun ls hl => ?_)
                refine lv_iload hx hb dX12_shortBy_154 (lv_at hl 0 rfl) ?_
                refine z_eq (tgt := 164) hx hb dX12_shortBy_156 (by decide) (fun c156 => ?_) (fun c156 => ?_)
                · refine lv_iconst (v := (-1)) hx hb dX12_shortBy_164 (by decide) (ti_c (-1) (by decide) fun z121 hz121 => ?_)
                  exact r_iret C hw hr hlk rfl (Nat.le_of_ble_eq_true rfl) (Nat.le_of_ble_eq_true rfl) dX12_shortBy_165 ⟨rfl, rfl, rfl, rfl, hsz, ⟨_, rfl, (by exfalso; omega)⟩⟩
                · refine lv_iload hx hb dX12_shortBy_159 (lv_at hl 1 rfl) ?_
                  refine lv_goto (tgt := 165) hx hb dX12_shortBy_161 (by decide) ?_
                  exact r_iret C hw hr hlk rfl (Nat.le_of_ble_eq_true rfl) (Nat.le_of_ble_eq_true rfl) dX12_shortBy_165 ⟨rfl, rfl, rfl, rfl, hsz, ⟨_, rfl, (by exfalso; omega)⟩⟩
              · refine lv_aload_n hx hb dX12_shortBy_119 rfl (lv_at hl 4 rfl) ?_
                refine r_get C hw (hsh 49 _ rfl) fl_X12_80 (oV_r rfl (hrm (49, 15, 59) (by decide))) dX12_shortBy_120 ?_
                refine lv_iload hx hb dX12_shortBy_123 (lv_at hl 0 rfl) ?_
                refine r_iald C hw (hsh 59 _ rfl) (by omega) (by omega) dX12_shortBy_125 (ti_c (ig (B + 59) z114.toInt.toNat).toInt rfl fun z122 hz122 => ?_)
                try simp only [ez7] at hz122
                try simp only [ez17] at hz122
                have k2 : z122.toInt = kdO (atC σ z114.toInt) := by rw [hz122]; exact hM.kdx (x := z114.toInt) (by omega)
                refine lv_iconst (v := 2) hx hb dX12_shortBy_126 (by decide) (ti_c 2 (by decide) fun z124 hz124 => ?_)
                refine b_ne (tgt := 151) hx hb dX12_shortBy_127 (by decide) (fun c127 => ?_) (fun c127 => ?_)
                · have ngo : ¬ gonN σ (famZ B ig) x.toInt z111.toInt z114.toInt := (by rintro ⟨-, q | q⟩; omega; (have w := hU.ge (x := z114.toInt) (by omega); unfold kinN at q; omega))
                  refine lv_iconst (v := 0) hx hb dX12_shortBy_151 (by decide) (ti_c 0 (by decide) fun z125 hz125 => ?_)
                  refine lv_istore (lv' := [(8, .int z125), (7, .int z114), (6, .int z111), (5, .int z7), (4, .int z3), (0, .ref (B + 49)), (1, .int x), (2, .int y), (3, .int u)]) hx hb dX12_shortBy_152 hl (by decide) rfl (fun ls hl => ?_)
                  refine lv_iload hx hb dX12_shortBy_154 (lv_at hl 0 rfl) ?_
                  refine z_eq (tgt := 164) hx hb dX12_shortBy_156 (by decide) (fun c156 => ?_) (fun c156 => ?_)
                  · refine lv_iconst (v := (-1)) hx hb dX12_shortBy_164 (by decide) (ti_c (-1) (by decide) fun z126 hz126 => ?_)
                    exact r_iret C hw hr hlk rfl (Nat.le_of_ble_eq_true rfl) (Nat.le_of_ble_eq_true rfl) dX12_shortBy_165 ⟨rfl, rfl, rfl, rfl, hsz, ⟨_, rfl, (by exfalso; omega)⟩⟩
                  · refine lv_iload hx hb dX12_shortBy_159 (lv_at hl 1 rfl) ?_
                    refine lv_goto (tgt := 165) hx hb dX12_shortBy_161 (by decide) ?_
                    exact r_iret C hw hr hlk rfl (Nat.le_of_ble_eq_true rfl) (Nat.le_of_ble_eq_true rfl) dX12_shortBy_165 ⟨rfl, rfl, rfl, rfl, hsz, ⟨_, rfl, (by exfalso; omega)⟩⟩
                · refine lv_aload_n hx hb dX12_shortBy_130 rfl (lv_at hl 4 rfl) ?_
                  refine r_get C hw (hsh 49 _ rfl) fl_X12_117 (oV_r rfl (hrm (49, 28, 71) (by decide))) dX12_shortBy_131 ?_
                  refine lv_iload hx hb dX12_shortBy_134 (lv_at hl 0 rfl) ?_
                  refine r_iald C hw (hsh 71 _ rfl) (by omega) (by omega) dX12_shortBy_136 (ti_c (ig (B + 71) z114.toInt.toNat).toInt rfl fun z127 hz127 => ?_)
                  try simp only [ez7] at hz127
                  try simp only [ez17] at hz127
                  have f1 : z127.toInt = famZ B ig z114.toInt.toNat := hz127
                  refine lv_aload_n hx hb dX12_shortBy_137 rfl (lv_at hl 4 rfl) ?_
                  refine r_get C hw (hsh 49 _ rfl) fl_X12_117 (oV_r rfl (hrm (49, 28, 71) (by decide))) dX12_shortBy_138 ?_
                  refine lv_iload hx hb dX12_shortBy_141 (lv_at hl 1 rfl) ?_
                  refine r_iald C hw (hsh 71 _ rfl) (by omega) (by omega) dX12_shortBy_143 (ti_c (ig (B + 71) z111.toInt.toNat).toInt rfl fun z129 hz129 => ?_)
                  try simp only [ez7] at hz129
                  try simp only [ez17] at hz129
                  have f2 : z129.toInt = famZ B ig z111.toInt.toNat := hz129
                  refine b_ne (tgt := 151) hx hb dX12_shortBy_144 (by decide) (fun c144 => ?_) (fun c144 => ?_)
                  · have ngo : ¬ gonN σ (famZ B ig) x.toInt z111.toInt z114.toInt := (by rintro ⟨-, q | q⟩; omega; (have w := hU.ge (x := z114.toInt) (by omega); unfold kinN at q; omega))
                    refine lv_iconst (v := 0) hx hb dX12_shortBy_151 (by decide) (ti_c 0 (by decide) fun z131 hz131 => ?_)
                    refine lv_istore (lv' := [(8, .int z131), (7, .int z114), (6, .int z111), (5, .int z7), (4, .int z3), (0, .ref (B + 49)), (1, .int x), (2, .int y), (3, .int u)]) hx hb dX12_shortBy_152 hl (by decide) rfl (fun ls hl => ?_)
                    refine lv_iload hx hb dX12_shortBy_154 (lv_at hl 0 rfl) ?_
                    refine z_eq (tgt := 164) hx hb dX12_shortBy_156 (by decide) (fun c156 => ?_) (fun c156 => ?_)
                    · refine lv_iconst (v := (-1)) hx hb dX12_shortBy_164 (by decide) (ti_c (-1) (by decide) fun z132 hz132 => ?_)
                      exact r_iret C hw hr hlk rfl (Nat.le_of_ble_eq_true rfl) (Nat.le_of_ble_eq_true rfl) dX12_shortBy_165 ⟨rfl, rfl, rfl, rfl, hsz, ⟨_, rfl, (by exfalso; omega)⟩⟩
                    · refine lv_iload hx hb dX12_shortBy_159 (lv_at hl 1 rfl) ?_
                      refine lv_goto (tgt := 165) hx hb dX12_shortBy_161 (by decide) ?_
                      exact r_iret C hw hr hlk rfl (Nat.le_of_ble_eq_true rfl) (Nat.le_of_ble_eq_true rfl) dX12_shortBy_165 ⟨rfl, rfl, rfl, rfl, hsz, ⟨_, rfl, (by exfalso; omega)⟩⟩
                  · have ygo : gonN σ (famZ B ig) x.toInt z111.toInt z114.toInt := ⟨by omega, Or.inr (by have w := (hU.ge (x := z114.toInt) (by omega)).2.1 (by omega); unfold kinN; omega)⟩
                    refine lv_iconst (v := 1) hx hb dX12_shortBy_147 (by decide) (ti_c 1 (by decide) fun z133 hz133 => ?_)
                    refine lv_goto (tgt := 152) hx hb dX12_shortBy_148 (by decide) ?_
                    refine lv_istore (lv' := [(8, .int z133), (7, .int z114), (6, .int z111), (5, .int z7), (4, .int z3), (0, .ref (B + 49)), (1, .int x), (2, .int y), (3, .int u)]) hx hb dX12_shortBy_152 hl (by decide) rfl (fun ls hl => ?_)
                    refine lv_iload hx hb dX12_shortBy_154 (lv_at hl 0 rfl) ?_
                    refine z_eq (tgt := 164) hx hb dX12_shortBy_156 (by decide) (fun c156 => ?_) (fun c156 => ?_)
                    · refine lv_iconst (v := (-1)) hx hb dX12_shortBy_164 (by decide) (ti_c (-1) (by decide) fun z134 hz134 => ?_)
                      exact r_iret C hw hr hlk rfl (Nat.le_of_ble_eq_true rfl) (Nat.le_of_ble_eq_true rfl) dX12_shortBy_165 ⟨rfl, rfl, rfl, rfl, hsz, ⟨_, rfl, (by exfalso; omega)⟩⟩
                    · refine lv_iload hx hb dX12_shortBy_159 (lv_at hl 1 rfl) ?_
                      refine lv_goto (tgt := 165) hx hb dX12_shortBy_161 (by decide) ?_
                      exact r_iret C hw hr hlk rfl (Nat.le_of_ble_eq_true rfl) (Nat.le_of_ble_eq_true rfl) dX12_shortBy_165 ⟨rfl, rfl, rfl, rfl, hsz, ⟨_, rfl, (by exfalso; omega)⟩⟩
          · refine lv_iload hx hb dX12_shortBy_88 (lv_at hl 0 rfl) ?_
            refine lv_bipush (v := 12) hx hb dX12_shortBy_90 (by decide) (ti_c 12 (by decide) fun z135 hz135 => ?_)
            refine lv_iadd hx hb dX12_shortBy_92 (tc_add fun z136 hz136 => ?_)
            first | replace hz136 := hz136 (by omega) | clear hz136
            refine lv_goto (tgt := 100) hx hb dX12_shortBy_93 (by decide) ?_
            refine lv_istore (lv' := [(7, .int z136), (6, .int z111), (5, .int z7), (4, .int z3), (0, .ref (B + 49)), (1, .int x), (2, .int y), (3, .int u)]) hx hb dX12_shortBy_100 hl (by decide) rfl (fun ls hl => ?_)
            refine lv_iload hx hb dX12_shortBy_102 (lv_at hl 0 rfl) ?_
            refine lv_iload_n hx hb dX12_shortBy_104 rfl (lv_at hl 5 rfl) ?_
            refine b_eq (tgt := 151) hx hb dX12_shortBy_105 (by decide) (fun c105 => ?_) (fun c105 => ?_)
            · have ngo : ¬ gonN σ (famZ B ig) x.toInt z111.toInt z136.toInt := fun q => q.1 (by omega)
              refine lv_iconst (v := 0) hx hb dX12_shortBy_151 (by decide) (ti_c 0 (by decide) fun z137 hz137 => ?_)
              refine lv_istore (lv' := [(8, .int z137), (7, .int z136), (6, .int z111), (5, .int z7), (4, .int z3), (0, .ref (B + 49)), (1, .int x), (2, .int y), (3, .int u)]) hx hb dX12_shortBy_152 hl (by decide) rfl (fun ls hl => ?_)
              refine lv_iload hx hb dX12_shortBy_154 (lv_at hl 0 rfl) ?_
              refine z_eq (tgt := 164) hx hb dX12_shortBy_156 (by decide) (fun c156 => ?_) (fun c156 => ?_)
              · refine lv_iconst (v := (-1)) hx hb dX12_shortBy_164 (by decide) (ti_c (-1) (by decide) fun z138 hz138 => ?_)
                exact r_iret C hw hr hlk rfl (Nat.le_of_ble_eq_true rfl) (Nat.le_of_ble_eq_true rfl) dX12_shortBy_165 ⟨rfl, rfl, rfl, rfl, hsz, ⟨_, rfl, (by exfalso; omega)⟩⟩
              · refine lv_iload hx hb dX12_shortBy_159 (lv_at hl 1 rfl) ?_
                refine lv_goto (tgt := 165) hx hb dX12_shortBy_161 (by decide) ?_
                exact r_iret C hw hr hlk rfl (Nat.le_of_ble_eq_true rfl) (Nat.le_of_ble_eq_true rfl) dX12_shortBy_165 ⟨rfl, rfl, rfl, rfl, hsz, ⟨_, rfl, (by exfalso; omega)⟩⟩
            · refine lv_aload_n hx hb dX12_shortBy_108 rfl (lv_at hl 4 rfl) ?_
              refine r_get C hw (hsh 49 _ rfl) fl_X12_80 (oV_r rfl (hrm (49, 15, 59) (by decide))) dX12_shortBy_109 ?_
              refine lv_iload hx hb dX12_shortBy_112 (lv_at hl 0 rfl) ?_
              refine r_iald C hw (hsh 59 _ rfl) (by omega) (by omega) dX12_shortBy_114 (ti_c (ig (B + 59) z136.toInt.toNat).toInt rfl fun z139 hz139 => ?_)
              try simp only [ez7] at hz139
              try simp only [ez17] at hz139
              have k1 : z139.toInt = kdO (atC σ z136.toInt) := by rw [hz139]; exact hM.kdx (x := z136.toInt) (by omega)
              refine lv_iconst (v := 1) hx hb dX12_shortBy_115 (by decide) (ti_c 1 (by decide) fun z141 hz141 => ?_)
              refine b_eq (tgt := 147) hx hb dX12_shortBy_116 (by decide) (fun c116 => ?_) (fun c116 => ?_)
              · have ygo : gonN σ (famZ B ig) x.toInt z111.toInt z136.toInt := ⟨by omega, Or.inl (by omega)⟩
                refine lv_iconst (v := 1) hx hb dX12_shortBy_147 (by decide) (ti_c 1 (by decide) fun z142 hz142 => ?_)
                refine lv_goto (tgt := 152) hx hb dX12_shortBy_148 (by decide) ?_
                refine lv_istore (lv' := [(8, .int z142), (7, .int z136), (6, .int z111), (5, .int z7), (4, .int z3), (0, .ref (B + 49)), (1, .int x), (2, .int y), (3, .int u)]) hx hb dX12_shortBy_152 hl (by decide) rfl (fun ls hl => ?_)
                refine lv_iload hx hb dX12_shortBy_154 (lv_at hl 0 rfl) ?_
                refine z_eq (tgt := 164) hx hb dX12_shortBy_156 (by decide) (fun c156 => ?_) (fun c156 => ?_)
                · refine lv_iconst (v := (-1)) hx hb dX12_shortBy_164 (by decide) (ti_c (-1) (by decide) fun z143 hz143 => ?_)
                  exact r_iret C hw hr hlk rfl (Nat.le_of_ble_eq_true rfl) (Nat.le_of_ble_eq_true rfl) dX12_shortBy_165 ⟨rfl, rfl, rfl, rfl, hsz, ⟨_, rfl, (by exfalso; omega)⟩⟩
                · refine lv_iload hx hb dX12_shortBy_159 (lv_at hl 1 rfl) ?_
                  refine lv_goto (tgt := 165) hx hb dX12_shortBy_161 (by decide) ?_
                  exact r_iret C hw hr hlk rfl (Nat.le_of_ble_eq_true rfl) (Nat.le_of_ble_eq_true rfl) dX12_shortBy_165 ⟨rfl, rfl, rfl, rfl, hsz, ⟨_, rfl, (by exfalso; omega)⟩⟩
              · refine lv_aload_n hx hb dX12_shortBy_119 rfl (lv_at hl 4 rfl) ?_
                refine r_get C hw (hsh 49 _ rfl) fl_X12_80 (oV_r rfl (hrm (49, 15, 59) (by decide))) dX12_shortBy_120 ?_
                refine lv_iload hx hb dX12_shortBy_123 (lv_at hl 0 rfl) ?_
                refine r_iald C hw (hsh 59 _ rfl) (by omega) (by omega) dX12_shortBy_125 (ti_c (ig (B + 59) z136.toInt.toNat).toInt rfl fun z144 hz144 => ?_)
                try simp only [ez7] at hz144
                try simp only [ez17] at hz144
                have k2 : z144.toInt = kdO (atC σ z136.toInt) := by rw [hz144]; exact hM.kdx (x := z136.toInt) (by omega)
                refine lv_iconst (v := 2) hx hb dX12_shortBy_126 (by decide) (ti_c 2 (by decide) fun z146 hz146 => ?_)
                refine b_ne (tgt := 151) hx hb dX12_shortBy_127 (by decide) (fun c127 => ?_) (fun c127 => ?_)
                · have ngo : ¬ gonN σ (famZ B ig) x.toInt z111.toInt z136.toInt := (by rintro ⟨-, q | q⟩; omega; (have w := hU.ge (x := z136.toInt) (by omega); unfold kinN at q; omega))
                  refine lv_iconst (v := 0) hx hb dX12_shortBy_151 (by decide) (ti_c 0 (by decide) fun z147 hz147 => ?_)
                  refine lv_istore (lv' := [(8, .int z147), (7, .int z136), (6, .int z111), (5, .int z7), (4, .int z3), (0, .ref (B + 49)), (1, .int x), (2, .int y), (3, .int u)]) hx hb dX12_shortBy_152 hl (by decide) rfl (fun ls hl => ?_)
                  refine lv_iload hx hb dX12_shortBy_154 (lv_at hl 0 rfl) ?_
                  refine z_eq (tgt := 164) hx hb dX12_shortBy_156 (by decide) (fun c156 => ?_) (fun c156 => ?_)
                  · refine lv_iconst (v := (-1)) hx hb dX12_shortBy_164 (by decide) (ti_c (-1) (by decide) fun z148 hz148 => ?_)
                    exact r_iret C hw hr hlk rfl (Nat.le_of_ble_eq_true rfl) (Nat.le_of_ble_eq_true rfl) dX12_shortBy_165 ⟨rfl, rfl, rfl, rfl, hsz, ⟨_, rfl, (by exfalso; omega)⟩⟩
                  · refine lv_iload hx hb dX12_shortBy_159 (lv_at hl 1 rfl) ?_
                    refine lv_goto (tgt := 165) hx hb dX12_shortBy_161 (by decide) ?_
                    exact r_iret C hw hr hlk rfl (Nat.le_of_ble_eq_true rfl) (Nat.le_of_ble_eq_true rfl) dX12_shortBy_165 ⟨rfl, rfl, rfl, rfl, hsz, ⟨_, rfl, (by exfalso; omega)⟩⟩
                · refine lv_aload_n hx hb dX12_shortBy_130 rfl (lv_at hl 4 rfl) ?_
                  refine r_get C hw (hsh 49 _ rfl) fl_X12_117 (oV_r rfl (hrm (49, 28, 71) (by decide))) dX12_shortBy_131 ?_
                  refine lv_iload hx hb dX12_shortBy_134 (lv_at hl 0 rfl) ?_
                  refine r_iald C hw (hsh 71 _ rfl) (by omega) (by omega) dX12_shortBy_136 (ti_c (ig (B + 71) z136.toInt.toNat).toInt rfl fun z149 hz149 => ?_)
                  try simp only [ez7] at hz149
                  try simp only [ez17] at hz149
                  have f1 : z149.toInt = famZ B ig z136.toInt.toNat := hz149
                  refine lv_aload_n hx hb dX12_shortBy_137 rfl (lv_at hl 4 rfl) ?_
                  refine r_get C hw (hsh 49 _ rfl) fl_X12_117 (oV_r rfl (hrm (49, 28, 71) (by decide))) dX12_shortBy_138 ?_
                  refine lv_iload hx hb dX12_shortBy_141 (lv_at hl 1 rfl) ?_
                  refine r_iald C hw (hsh 71 _ rfl) (by omega) (by omega) dX12_shortBy_143 (ti_c (ig (B + 71) z111.toInt.toNat).toInt rfl fun z151 hz151 => ?_)
                  try simp only [ez7] at hz151
                  try simp only [ez17] at hz151
                  have f2 : z151.toInt = famZ B ig z111.toInt.toNat := hz151
                  refine b_ne (tgt := 151) hx hb dX12_shortBy_144 (by decide) (fun c144 => ?_) (fun c144 => ?_)
                  · have ngo : ¬ gonN σ (famZ B ig) x.toInt z111.toInt z136.toInt := (by rintro ⟨-, q | q⟩; omega; (have w := hU.ge (x := z136.toInt) (by omega); unfold kinN at q; omega))
                    refine lv_iconst (v := 0) hx hb dX12_shortBy_151 (by decide) (ti_c 0 (by decide) fun z153 hz153 => ?_)
                    refine lv_istore (lv' := [(8, .int z153), (7, .int z136), (6, .int z111), (5, .int z7), (4, .int z3), (0, .ref (B + 49)), (1, .int x), (2, .int y), (3, .int u)]) hx hb dX12_shortBy_152 hl (by decide) rfl (fun ls hl => ?_)
                    refine lv_iload hx hb dX12_shortBy_154 (lv_at hl 0 rfl) ?_
                    refine z_eq (tgt := 164) hx hb dX12_shortBy_156 (by decide) (fun c156 => ?_) (fun c156 => ?_)
                    · refine lv_iconst (v := (-1)) hx hb dX12_shortBy_164 (by decide) (ti_c (-1) (by decide) fun z154 hz154 => ?_)
                      exact r_iret C hw hr hlk rfl (Nat.le_of_ble_eq_true rfl) (Nat.le_of_ble_eq_true rfl) dX12_shortBy_165 ⟨rfl, rfl, rfl, rfl, hsz, ⟨_, rfl, (by exfalso; omega)⟩⟩
                    · refine lv_iload hx hb dX12_shortBy_159 (lv_at hl 1 rfl) ?_
                      refine lv_goto (tgt := 165) hx hb dX12_shortBy_161 (by decide) ?_
                      exact r_iret C hw hr hlk rfl (Nat.le_of_ble_eq_true rfl) (Nat.le_of_ble_eq_true rfl) dX12_shortBy_165 ⟨rfl, rfl, rfl, rfl, hsz, ⟨_, rfl, (by exfalso; omega)⟩⟩
                  · have ygo : gonN σ (famZ B ig) x.toInt z111.toInt z136.toInt := ⟨by omega, Or.inr (by have w := (hU.ge (x := z136.toInt) (by omega)).2.1 (by omega); unfold kinN; omega)⟩
                    refine lv_iconst (v := 1) hx hb dX12_shortBy_147 (by decide) (ti_c 1 (by decide) fun z155 hz155 => ?_)
                    refine lv_goto (tgt := 152) hx hb dX12_shortBy_148 (by decide) ?_
                    refine lv_istore (lv' := [(8, .int z155), (7, .int z136), (6, .int z111), (5, .int z7), (4, .int z3), (0, .ref (B + 49)), (1, .int x), (2, .int y), (3, .int u)]) hx hb dX12_shortBy_152 hl (by decide) rfl (fun ls hl => ?_)
                    refine lv_iload hx hb dX12_shortBy_154 (lv_at hl 0 rfl) ?_
                    refine z_eq (tgt := 164) hx hb dX12_shortBy_156 (by decide) (fun c156 => ?_) (fun c156 => ?_)
                    · refine lv_iconst (v := (-1)) hx hb dX12_shortBy_164 (by decide) (ti_c (-1) (by decide) fun z156 hz156 => ?_)
                      exact r_iret C hw hr hlk rfl (Nat.le_of_ble_eq_true rfl) (Nat.le_of_ble_eq_true rfl) dX12_shortBy_165 ⟨rfl, rfl, rfl, rfl, hsz, ⟨_, rfl, (by exfalso; omega)⟩⟩
                    · refine lv_iload hx hb dX12_shortBy_159 (lv_at hl 1 rfl) ?_
                      refine lv_goto (tgt := 165) hx hb dX12_shortBy_161 (by decide) ?_
                      exact r_iret C hw hr hlk rfl (Nat.le_of_ble_eq_true rfl) (Nat.le_of_ble_eq_true rfl) dX12_shortBy_165 ⟨rfl, rfl, rfl, rfl, hsz, ⟨_, rfl, (by exfalso; omega)⟩⟩
        · refine lv_iconst (v := (-1)) hx hb dX12_shortBy_82 (by decide) (ti_c (-1) (by decide) fun z157 hz157 => ?_)
          exact r_iret C hw hr hlk rfl (Nat.le_of_ble_eq_true rfl) (Nat.le_of_ble_eq_true rfl) dX12_shortBy_83 ⟨rfl, rfl, rfl, rfl, hsz, ⟨_, rfl, (by exfalso; omega)⟩⟩
      · refine lv_iload hx hb dX12_shortBy_65 (lv_at hl 1 rfl) ?_
        refine lv_bipush (v := 23) hx hb dX12_shortBy_67 (by decide) (ti_c 23 (by decide) fun z158 hz158 => ?_)
        refine b_ne (tgt := 84) hx hb dX12_shortBy_69 (by decide) (fun c69 => ?_) (fun c69 => ?_)
        · refine lv_iload_n hx hb dX12_shortBy_84 rfl (lv_at hl 6 rfl) ?_
          refine z_eq (tgt := 96) hx hb dX12_shortBy_85 (by decide) (fun c85 => ?_) (fun c85 => ?_)
          · refine lv_iload hx hb dX12_shortBy_96 (lv_at hl 0 rfl) ?_
            refine lv_iconst (v := 1) hx hb dX12_shortBy_98 (by decide) (ti_c 1 (by decide) fun z159 hz159 => ?_)
            refine lv_iadd hx hb dX12_shortBy_99 (tc_add fun z160 hz160 => ?_)
            first | replace hz160 := hz160 (by omega) | clear hz160
            refine lv_istore (lv' := [(7, .int z160), (6, .int z111), (5, .int z7), (4, .int z3), (0, .ref (B + 49)), (1, .int x), (2, .int y), (3, .int u)]) hx hb dX12_shortBy_100 hl (by decide) rfl (fun ls hl => ?_)
            refine lv_iload hx hb dX12_shortBy_102 (lv_at hl 0 rfl) ?_
            refine lv_iload_n hx hb dX12_shortBy_104 rfl (lv_at hl 5 rfl) ?_
            refine b_eq (tgt := 151) hx hb dX12_shortBy_105 (by decide) (fun c105 => ?_) (fun c105 => ?_)
            · have ngo : ¬ gonN σ (famZ B ig) x.toInt z111.toInt z160.toInt := fun q => q.1 (by omega)
              refine lv_iconst (v := 0) hx hb dX12_shortBy_151 (by decide) (ti_c 0 (by decide) fun z161 hz161 => ?_)
              refine lv_istore (lv' := [(8, .int z161), (7, .int z160), (6, .int z111), (5, .int z7), (4, .int z3), (0, .ref (B + 49)), (1, .int x), (2, .int y), (3, .int u)]) hx hb dX12_shortBy_152 hl (by decide) rfl (fun ls hl => ?_)
              refine lv_iload hx hb dX12_shortBy_154 (lv_at hl 0 rfl) ?_
              refine z_eq (tgt := 164) hx hb dX12_shortBy_156 (by decide) (fun c156 => ?_) (fun c156 => ?_)
              · refine lv_iconst (v := (-1)) hx hb dX12_shortBy_164 (by decide) (ti_c (-1) (by decide) fun z162 hz162 => ?_)
                exact r_iret C hw hr hlk rfl (Nat.le_of_ble_eq_true rfl) (Nat.le_of_ble_eq_true rfl) dX12_shortBy_165 ⟨rfl, rfl, rfl, rfl, hsz, ⟨_, rfl, (by exfalso; omega)⟩⟩
              · refine lv_iload hx hb dX12_shortBy_159 (lv_at hl 1 rfl) ?_
                refine lv_goto (tgt := 165) hx hb dX12_shortBy_161 (by decide) ?_
                exact r_iret C hw hr hlk rfl (Nat.le_of_ble_eq_true rfl) (Nat.le_of_ble_eq_true rfl) dX12_shortBy_165 ⟨rfl, rfl, rfl, rfl, hsz, ⟨_, rfl, (by exfalso; omega)⟩⟩
            · refine lv_aload_n hx hb dX12_shortBy_108 rfl (lv_at hl 4 rfl) ?_
              refine r_get C hw (hsh 49 _ rfl) fl_X12_80 (oV_r rfl (hrm (49, 15, 59) (by decide))) dX12_shortBy_109 ?_
              refine lv_iload hx hb dX12_shortBy_112 (lv_at hl 0 rfl) ?_
              refine r_iald C hw (hsh 59 _ rfl) (by omega) (by omega) dX12_shortBy_114 (ti_c (ig (B + 59) z160.toInt.toNat).toInt rfl fun z163 hz163 => ?_)
              try simp only [ez7] at hz163
              try simp only [ez17] at hz163
              have k1 : z163.toInt = kdO (atC σ z160.toInt) := by rw [hz163]; exact hM.kdx (x := z160.toInt) (by omega)
              refine lv_iconst (v := 1) hx hb dX12_shortBy_115 (by decide) (ti_c 1 (by decide) fun z165 hz165 => ?_)
              refine b_eq (tgt := 147) hx hb dX12_shortBy_116 (by decide) (fun c116 => ?_) (fun c116 => ?_)
              · have ygo : gonN σ (famZ B ig) x.toInt z111.toInt z160.toInt := ⟨by omega, Or.inl (by omega)⟩
                refine lv_iconst (v := 1) hx hb dX12_shortBy_147 (by decide) (ti_c 1 (by decide) fun z166 hz166 => ?_)
                refine lv_goto (tgt := 152) hx hb dX12_shortBy_148 (by decide) ?_
                refine lv_istore (lv' := [(8, .int z166), (7, .int z160), (6, .int z111), (5, .int z7), (4, .int z3), (0, .ref (B + 49)), (1, .int x), (2, .int y), (3, .int u)]) hx hb dX12_shortBy_152 hl (by decide) rfl (fun ls hl => ?_)
                refine lv_iload hx hb dX12_shortBy_154 (lv_at hl 0 rfl) ?_
                refine z_eq (tgt := 164) hx hb dX12_shortBy_156 (by decide) (fun c156 => ?_) (fun c156 => ?_)
                · refine lv_iconst (v := (-1)) hx hb dX12_shortBy_164 (by decide) (ti_c (-1) (by decide) fun z167 hz167 => ?_)
                  exact r_iret C hw hr hlk rfl (Nat.le_of_ble_eq_true rfl) (Nat.le_of_ble_eq_true rfl) dX12_shortBy_165 ⟨rfl, rfl, rfl, rfl, hsz, ⟨_, rfl, (by exfalso; omega)⟩⟩
                · refine lv_iload hx hb dX12_shortBy_159 (lv_at hl 1 rfl) ?_
                  refine lv_goto (tgt := 165) hx hb dX12_shortBy_161 (by decide) ?_
                  exact r_iret C hw hr hlk rfl (Nat.le_of_ble_eq_true rfl) (Nat.le_of_ble_eq_true rfl) dX12_shortBy_165 ⟨rfl, rfl, rfl, rfl, hsz, ⟨_, rfl, (by exfalso; omega)⟩⟩
              · refine lv_aload_n hx hb dX12_shortBy_119 rfl (lv_at hl 4 rfl) ?_
                refine r_get C hw (hsh 49 _ rfl) fl_X12_80 (oV_r rfl (hrm (49, 15, 59) (by decide))) dX12_shortBy_120 ?_
                refine lv_iload hx hb dX12_shortBy_123 (lv_at hl 0 rfl) ?_
                refine r_iald C hw (hsh 59 _ rfl) (by omega) (by omega) dX12_shortBy_125 (ti_c (ig (B + 59) z160.toInt.toNat).toInt rfl fun z168 hz168 => ?_)
                try simp only [ez7] at hz168
                try simp only [ez17] at hz168
                have k2 : z168.toInt = kdO (atC σ z160.toInt) := by rw [hz168]; exact hM.kdx (x := z160.toInt) (by omega)
                refine lv_iconst (v := 2) hx hb dX12_shortBy_126 (by decide) (ti_c 2 (by decide) fun z170 hz170 => ?_)
                refine b_ne (tgt := 151) hx hb dX12_shortBy_127 (by decide) (fun c127 => ?_) (fun c127 => ?_)
                · have ngo : ¬ gonN σ (famZ B ig) x.toInt z111.toInt z160.toInt := (by rintro ⟨-, q | q⟩; omega; (have w := hU.ge (x := z160.toInt) (by omega); unfold kinN at q; omega))
                  refine lv_iconst (v := 0) hx hb dX12_shortBy_151 (by decide) (ti_c 0 (by decide) fun z171 hz171 => ?_)
                  refine lv_istore (lv' := [(8, .int z171), (7, .int z160), (6, .int z111), (5, .int z7), (4, .int z3), (0, .ref (B + 49)), (1, .int x), (2, .int y), (3, .int u)]) hx hb dX12_shortBy_152 hl (by decide) rfl (fun ls hl => ?_)
                  refine lv_iload hx hb dX12_shortBy_154 (lv_at hl 0 rfl) ?_
                  refine z_eq (tgt := 164) hx hb dX12_shortBy_156 (by decide) (fun c156 => ?_) (fun c156 => ?_)
                  · refine lv_iconst (v := (-1)) hx hb dX12_shortBy_164 (by decide) (ti_c (-1) (by decide) fun z172 hz172 => ?_)
                    exact r_iret C hw hr hlk rfl (Nat.le_of_ble_eq_true rfl) (Nat.le_of_ble_eq_true rfl) dX12_shortBy_165 ⟨rfl, rfl, rfl, rfl, hsz, ⟨_, rfl, (by exfalso; omega)⟩⟩
                  · refine lv_iload hx hb dX12_shortBy_159 (lv_at hl 1 rfl) ?_
                    refine lv_goto (tgt := 165) hx hb dX12_shortBy_161 (by decide) ?_
                    exact r_iret C hw hr hlk rfl (Nat.le_of_ble_eq_true rfl) (Nat.le_of_ble_eq_true rfl) dX12_shortBy_165 ⟨rfl, rfl, rfl, rfl, hsz, ⟨_, rfl, (by exfalso; omega)⟩⟩
                · refine lv_aload_n hx hb dX12_shortBy_130 rfl (lv_at hl 4 rfl) ?_
                  refine r_get C hw (hsh 49 _ rfl) fl_X12_117 (oV_r rfl (hrm (49, 28, 71) (by decide))) dX12_shortBy_131 ?_
                  refine lv_iload hx hb dX12_shortBy_134 (lv_at hl 0 rfl) ?_
                  refine r_iald C hw (hsh 71 _ rfl) (by omega) (by omega) dX12_shortBy_136 (ti_c (ig (B + 71) z160.toInt.toNat).toInt rfl fun z173 hz173 => ?_)
                  try simp only [ez7] at hz173
                  try simp only [ez17] at hz173
                  have f1 : z173.toInt = famZ B ig z160.toInt.toNat := hz173
                  refine lv_aload_n hx hb dX12_shortBy_137 rfl (lv_at hl 4 rfl) ?_
                  refine r_get C hw (hsh 49 _ rfl) fl_X12_117 (oV_r rfl (hrm (49, 28, 71) (by decide))) dX12_shortBy_138 ?_
                  refine lv_iload hx hb dX12_shortBy_141 (lv_at hl 1 rfl) ?_
                  refine r_iald C hw (hsh 71 _ rfl) (by omega) (by omega) dX12_shortBy_143 (ti_c (ig (B + 71) z111.toInt.toNat).toInt rfl fun z175 hz175 => ?_)
                  try simp only [ez7] at hz175
                  try simp only [ez17] at hz175
                  have f2 : z175.toInt = famZ B ig z111.toInt.toNat := hz175
                  refine b_ne (tgt := 151) hx hb dX12_shortBy_144 (by decide) (fun c144 => ?_) (fun c144 => ?_)
                  · have ngo : ¬ gonN σ (famZ B ig) x.toInt z111.toInt z160.toInt := (by rintro ⟨-, q | q⟩; omega; (have w := hU.ge (x := z160.toInt) (by omega); unfold kinN at q; omega))
                    refine lv_iconst (v := 0) hx hb dX12_shortBy_151 (by decide) (ti_c 0 (by decide) fun z177 hz177 => ?_)
                    refine lv_istore (lv' := [(8, .int z177), (7, .int z160), (6, .int z111), (5, .int z7), (4, .int z3), (0, .ref (B + 49)), (1, .int x), (2, .int y), (3, .int u)]) hx hb dX12_shortBy_152 hl (by decide) rfl (fun ls hl => ?_)
                    refine lv_iload hx hb dX12_shortBy_154 (lv_at hl 0 rfl) ?_
                    refine z_eq (tgt := 164) hx hb dX12_shortBy_156 (by decide) (fun c156 => ?_) (fun c156 => ?_)
                    · refine lv_iconst (v := (-1)) hx hb dX12_shortBy_164 (by decide) (ti_c (-1) (by decide) fun z178 hz178 => ?_)
                      exact r_iret C hw hr hlk rfl (Nat.le_of_ble_eq_true rfl) (Nat.le_of_ble_eq_true rfl) dX12_shortBy_165 ⟨rfl, rfl, rfl, rfl, hsz, ⟨_, rfl, (by exfalso; omega)⟩⟩
                    · refine lv_iload hx hb dX12_shortBy_159 (lv_at hl 1 rfl) ?_
                      refine lv_goto (tgt := 165) hx hb dX12_shortBy_161 (by decide) ?_
                      exact r_iret C hw hr hlk rfl (Nat.le_of_ble_eq_true rfl) (Nat.le_of_ble_eq_true rfl) dX12_shortBy_165 ⟨rfl, rfl, rfl, rfl, hsz, ⟨_, rfl, (by exfalso; omega)⟩⟩
                  · have ygo : gonN σ (famZ B ig) x.toInt z111.toInt z160.toInt := ⟨by omega, Or.inr (by have w := (hU.ge (x := z160.toInt) (by omega)).2.1 (by omega); unfold kinN; omega)⟩
                    refine lv_iconst (v := 1) hx hb dX12_shortBy_147 (by decide) (ti_c 1 (by decide) fun z179 hz179 => ?_)
                    refine lv_goto (tgt := 152) hx hb dX12_shortBy_148 (by decide) ?_
                    refine lv_istore (lv' := [(8, .int z179), (7, .int z160), (6, .int z111), (5, .int z7), (4, .int z3), (0, .ref (B + 49)), (1, .int x), (2, .int y), (3, .int u)]) hx hb dX12_shortBy_152 hl (by decide) rfl (fun ls hl => ?_)
                    refine lv_iload hx hb dX12_shortBy_154 (lv_at hl 0 rfl) ?_
                    refine z_eq (tgt := 164) hx hb dX12_shortBy_156 (by decide) (fun c156 => ?_) (fun c156 => ?_)
                    · refine lv_iconst (v := (-1)) hx hb dX12_shortBy_164 (by decide) (ti_c (-1) (by decide) fun z180 hz180 => ?_)
                      exact r_iret C hw hr hlk rfl (Nat.le_of_ble_eq_true rfl) (Nat.le_of_ble_eq_true rfl) dX12_shortBy_165 ⟨rfl, rfl, rfl, rfl, hsz, ⟨_, rfl, (by exfalso; omega)⟩⟩
                    · refine lv_iload hx hb dX12_shortBy_159 (lv_at hl 1 rfl) ?_
                      refine lv_goto (tgt := 165) hx hb dX12_shortBy_161 (by decide) ?_
                      exact r_iret C hw hr hlk rfl (Nat.le_of_ble_eq_true rfl) (Nat.le_of_ble_eq_true rfl) dX12_shortBy_165 ⟨rfl, rfl, rfl, rfl, hsz, ⟨_, rfl, (by exfalso; omega)⟩⟩
          · refine lv_iload hx hb dX12_shortBy_88 (lv_at hl 0 rfl) ?_
            refine lv_bipush (v := 12) hx hb dX12_shortBy_90 (by decide) (ti_c 12 (by decide) fun z181 hz181 => ?_)
            refine lv_iadd hx hb dX12_shortBy_92 (tc_add fun z182 hz182 => ?_)
            first | replace hz182 := hz182 (by omega) | clear hz182
            refine lv_goto (tgt := 100) hx hb dX12_shortBy_93 (by decide) ?_
            refine lv_istore (lv' := [(7, .int z182), (6, .int z111), (5, .int z7), (4, .int z3), (0, .ref (B + 49)), (1, .int x), (2, .int y), (3, .int u)]) hx hb dX12_shortBy_100 hl (by decide) rfl (fun ls hl => ?_)
            refine lv_iload hx hb dX12_shortBy_102 (lv_at hl 0 rfl) ?_
            refine lv_iload_n hx hb dX12_shortBy_104 rfl (lv_at hl 5 rfl) ?_
            refine b_eq (tgt := 151) hx hb dX12_shortBy_105 (by decide) (fun c105 => ?_) (fun c105 => ?_)
            · have ngo : ¬ gonN σ (famZ B ig) x.toInt z111.toInt z182.toInt := fun q => q.1 (by omega)
              refine lv_iconst (v := 0) hx hb dX12_shortBy_151 (by decide) (ti_c 0 (by decide) fun z183 hz183 => ?_)
              refine lv_istore (lv' := [(8, .int z183), (7, .int z182), (6, .int z111), (5, .int z7), (4, .int z3), (0, .ref (B + 49)), (1, .int x), (2, .int y), (3, .int u)]) hx hb dX12_shortBy_152 hl (by decide) rfl (fun ls hl => ?_)
              refine lv_iload hx hb dX12_shortBy_154 (lv_at hl 0 rfl) ?_
              refine z_eq (tgt := 164) hx hb dX12_shortBy_156 (by decide) (fun c156 => ?_) (fun c156 => ?_)
              · refine lv_iconst (v := (-1)) hx hb dX12_shortBy_164 (by decide) (ti_c (-1) (by decide) fun z184 hz184 => ?_)
                exact r_iret C hw hr hlk rfl (Nat.le_of_ble_eq_true rfl) (Nat.le_of_ble_eq_true rfl) dX12_shortBy_165 ⟨rfl, rfl, rfl, rfl, hsz, ⟨_, rfl, ⟨fun _ => Or.inr ⟨fun q => ngo (by have w := q.2.2; rw [show (12 * (ig (B + 56) (y.toInt.toNat + 2)).toInt + (ig (B + 55) (y.toInt.toNat + 2)).toInt) = z111.toInt by omega, show z111.toInt + 12 = z182.toInt by omega] at w; exact w), by omega⟩, fun _ => by omega⟩⟩⟩
              · refine lv_iload hx hb dX12_shortBy_159 (lv_at hl 1 rfl) ?_
                refine lv_goto (tgt := 165) hx hb dX12_shortBy_161 (by decide) ?_
                exact r_iret C hw hr hlk rfl (Nat.le_of_ble_eq_true rfl) (Nat.le_of_ble_eq_true rfl) dX12_shortBy_165 ⟨rfl, rfl, rfl, rfl, hsz, ⟨_, rfl, (by exfalso; omega)⟩⟩
            · refine lv_aload_n hx hb dX12_shortBy_108 rfl (lv_at hl 4 rfl) ?_
              refine r_get C hw (hsh 49 _ rfl) fl_X12_80 (oV_r rfl (hrm (49, 15, 59) (by decide))) dX12_shortBy_109 ?_
              refine lv_iload hx hb dX12_shortBy_112 (lv_at hl 0 rfl) ?_
              refine r_iald C hw (hsh 59 _ rfl) (by omega) (by omega) dX12_shortBy_114 (ti_c (ig (B + 59) z182.toInt.toNat).toInt rfl fun z185 hz185 => ?_)
              try simp only [ez7] at hz185
              try simp only [ez17] at hz185
              have k1 : z185.toInt = kdO (atC σ z182.toInt) := by rw [hz185]; exact hM.kdx (x := z182.toInt) (by omega)
              refine lv_iconst (v := 1) hx hb dX12_shortBy_115 (by decide) (ti_c 1 (by decide) fun z187 hz187 => ?_)
              refine b_eq (tgt := 147) hx hb dX12_shortBy_116 (by decide) (fun c116 => ?_) (fun c116 => ?_)
              · have ygo : gonN σ (famZ B ig) x.toInt z111.toInt z182.toInt := ⟨by omega, Or.inl (by omega)⟩
                refine lv_iconst (v := 1) hx hb dX12_shortBy_147 (by decide) (ti_c 1 (by decide) fun z188 hz188 => ?_)
                refine lv_goto (tgt := 152) hx hb dX12_shortBy_148 (by decide) ?_
                refine lv_istore (lv' := [(8, .int z188), (7, .int z182), (6, .int z111), (5, .int z7), (4, .int z3), (0, .ref (B + 49)), (1, .int x), (2, .int y), (3, .int u)]) hx hb dX12_shortBy_152 hl (by decide) rfl (fun ls hl => ?_)
                refine lv_iload hx hb dX12_shortBy_154 (lv_at hl 0 rfl) ?_
                refine z_eq (tgt := 164) hx hb dX12_shortBy_156 (by decide) (fun c156 => ?_) (fun c156 => ?_)
                · refine lv_iconst (v := (-1)) hx hb dX12_shortBy_164 (by decide) (ti_c (-1) (by decide) fun z189 hz189 => ?_)
                  exact r_iret C hw hr hlk rfl (Nat.le_of_ble_eq_true rfl) (Nat.le_of_ble_eq_true rfl) dX12_shortBy_165 ⟨rfl, rfl, rfl, rfl, hsz, ⟨_, rfl, (by exfalso; omega)⟩⟩
                · refine lv_iload hx hb dX12_shortBy_159 (lv_at hl 1 rfl) ?_
                  refine lv_goto (tgt := 165) hx hb dX12_shortBy_161 (by decide) ?_
                  exact r_iret C hw hr hlk rfl (Nat.le_of_ble_eq_true rfl) (Nat.le_of_ble_eq_true rfl) dX12_shortBy_165 ⟨rfl, rfl, rfl, rfl, hsz, ⟨_, rfl, ⟨fun _ => Or.inl ⟨⟨by omega, by omega, by rw [show (12 * (ig (B + 56) (y.toInt.toNat + 2)).toInt + (ig (B + 55) (y.toInt.toNat + 2)).toInt) = z111.toInt by omega, show z111.toInt + 12 = z182.toInt by omega]; exact ygo⟩, by omega⟩, fun _ => by omega⟩⟩⟩
              · refine lv_aload_n hx hb dX12_shortBy_119 rfl (lv_at hl 4 rfl) ?_
                refine r_get C hw (hsh 49 _ rfl) fl_X12_80 (oV_r rfl (hrm (49, 15, 59) (by decide))) dX12_shortBy_120 ?_
                refine lv_iload hx hb dX12_shortBy_123 (lv_at hl 0 rfl) ?_
                refine r_iald C hw (hsh 59 _ rfl) (by omega) (by omega) dX12_shortBy_125 (ti_c (ig (B + 59) z182.toInt.toNat).toInt rfl fun z190 hz190 => ?_)
                try simp only [ez7] at hz190
                try simp only [ez17] at hz190
                have k2 : z190.toInt = kdO (atC σ z182.toInt) := by rw [hz190]; exact hM.kdx (x := z182.toInt) (by omega)
                refine lv_iconst (v := 2) hx hb dX12_shortBy_126 (by decide) (ti_c 2 (by decide) fun z192 hz192 => ?_)
                refine b_ne (tgt := 151) hx hb dX12_shortBy_127 (by decide) (fun c127 => ?_) (fun c127 => ?_)
                · have ngo : ¬ gonN σ (famZ B ig) x.toInt z111.toInt z182.toInt := (by rintro ⟨-, q | q⟩; omega; (have w := hU.ge (x := z182.toInt) (by omega); unfold kinN at q; omega))
                  refine lv_iconst (v := 0) hx hb dX12_shortBy_151 (by decide) (ti_c 0 (by decide) fun z193 hz193 => ?_)
                  refine lv_istore (lv' := [(8, .int z193), (7, .int z182), (6, .int z111), (5, .int z7), (4, .int z3), (0, .ref (B + 49)), (1, .int x), (2, .int y), (3, .int u)]) hx hb dX12_shortBy_152 hl (by decide) rfl (fun ls hl => ?_)
                  refine lv_iload hx hb dX12_shortBy_154 (lv_at hl 0 rfl) ?_
                  refine z_eq (tgt := 164) hx hb dX12_shortBy_156 (by decide) (fun c156 => ?_) (fun c156 => ?_)
                  · refine lv_iconst (v := (-1)) hx hb dX12_shortBy_164 (by decide) (ti_c (-1) (by decide) fun z194 hz194 => ?_)
                    exact r_iret C hw hr hlk rfl (Nat.le_of_ble_eq_true rfl) (Nat.le_of_ble_eq_true rfl) dX12_shortBy_165 ⟨rfl, rfl, rfl, rfl, hsz, ⟨_, rfl, ⟨fun _ => Or.inr ⟨fun q => ngo (by have w := q.2.2; rw [show (12 * (ig (B + 56) (y.toInt.toNat + 2)).toInt + (ig (B + 55) (y.toInt.toNat + 2)).toInt) = z111.toInt by omega, show z111.toInt + 12 = z182.toInt by omega] at w; exact w), by omega⟩, fun _ => by omega⟩⟩⟩
                  · refine lv_iload hx hb dX12_shortBy_159 (lv_at hl 1 rfl) ?_
                    refine lv_goto (tgt := 165) hx hb dX12_shortBy_161 (by decide) ?_
                    exact r_iret C hw hr hlk rfl (Nat.le_of_ble_eq_true rfl) (Nat.le_of_ble_eq_true rfl) dX12_shortBy_165 ⟨rfl, rfl, rfl, rfl, hsz, ⟨_, rfl, (by exfalso; omega)⟩⟩
                · refine lv_aload_n hx hb dX12_shortBy_130 rfl (lv_at hl 4 rfl) ?_
                  refine r_get C hw (hsh 49 _ rfl) fl_X12_117 (oV_r rfl (hrm (49, 28, 71) (by decide))) dX12_shortBy_131 ?_
                  refine lv_iload hx hb dX12_shortBy_134 (lv_at hl 0 rfl) ?_
                  refine r_iald C hw (hsh 71 _ rfl) (by omega) (by omega) dX12_shortBy_136 (ti_c (ig (B + 71) z182.toInt.toNat).toInt rfl fun z195 hz195 => ?_)
                  try simp only [ez7] at hz195
                  try simp only [ez17] at hz195
                  have f1 : z195.toInt = famZ B ig z182.toInt.toNat := hz195
                  refine lv_aload_n hx hb dX12_shortBy_137 rfl (lv_at hl 4 rfl) ?_
                  refine r_get C hw (hsh 49 _ rfl) fl_X12_117 (oV_r rfl (hrm (49, 28, 71) (by decide))) dX12_shortBy_138 ?_
                  refine lv_iload hx hb dX12_shortBy_141 (lv_at hl 1 rfl) ?_
                  refine r_iald C hw (hsh 71 _ rfl) (by omega) (by omega) dX12_shortBy_143 (ti_c (ig (B + 71) z111.toInt.toNat).toInt rfl fun z197 hz197 => ?_)
                  try simp only [ez7] at hz197
                  try simp only [ez17] at hz197
                  have f2 : z197.toInt = famZ B ig z111.toInt.toNat := hz197
                  refine b_ne (tgt := 151) hx hb dX12_shortBy_144 (by decide) (fun c144 => ?_) (fun c144 => ?_)
                  · have ngo : ¬ gonN σ (famZ B ig) x.toInt z111.toInt z182.toInt := (by rintro ⟨-, q | q⟩; omega; (have w := hU.ge (x := z182.toInt) (by omega); unfold kinN at q; omega))
                    refine lv_iconst (v := 0) hx hb dX12_shortBy_151 (by decide) (ti_c 0 (by decide) fun z199 hz199 => ?_)
                    refine lv_istore (lv' := [(8, .int z199), (7, .int z182), (6, .int z111), (5, .int z7), (4, .int z3), (0, .ref (B + 49)), (1, .int x), (2, .int y), (3, .int u)]) hx hb dX12_shortBy_152 hl (by decide) rfl (fun ls hl => ?_)
                    refine lv_iload hx hb dX12_shortBy_154 (lv_at hl 0 rfl) ?_
                    refine z_eq (tgt := 164) hx hb dX12_shortBy_156 (by decide) (fun c156 => ?_) (fun c156 => ?_)
                    · refine lv_iconst (v := (-1)) hx hb dX12_shortBy_164 (by decide) (ti_c (-1) (by decide) fun z200 hz200 => ?_)
                      exact r_iret C hw hr hlk rfl (Nat.le_of_ble_eq_true rfl) (Nat.le_of_ble_eq_true rfl) dX12_shortBy_165 ⟨rfl, rfl, rfl, rfl, hsz, ⟨_, rfl, ⟨fun _ => Or.inr ⟨fun q => ngo (by have w := q.2.2; rw [show (12 * (ig (B + 56) (y.toInt.toNat + 2)).toInt + (ig (B + 55) (y.toInt.toNat + 2)).toInt) = z111.toInt by omega, show z111.toInt + 12 = z182.toInt by omega] at w; exact w), by omega⟩, fun _ => by omega⟩⟩⟩
                    · refine lv_iload hx hb dX12_shortBy_159 (lv_at hl 1 rfl) ?_
                      refine lv_goto (tgt := 165) hx hb dX12_shortBy_161 (by decide) ?_
                      exact r_iret C hw hr hlk rfl (Nat.le_of_ble_eq_true rfl) (Nat.le_of_ble_eq_true rfl) dX12_shortBy_165 ⟨rfl, rfl, rfl, rfl, hsz, ⟨_, rfl, (by exfalso; omega)⟩⟩
                  · have ygo : gonN σ (famZ B ig) x.toInt z111.toInt z182.toInt := ⟨by omega, Or.inr (by have w := (hU.ge (x := z182.toInt) (by omega)).2.1 (by omega); unfold kinN; omega)⟩
                    refine lv_iconst (v := 1) hx hb dX12_shortBy_147 (by decide) (ti_c 1 (by decide) fun z201 hz201 => ?_)
                    refine lv_goto (tgt := 152) hx hb dX12_shortBy_148 (by decide) ?_
                    refine lv_istore (lv' := [(8, .int z201), (7, .int z182), (6, .int z111), (5, .int z7), (4, .int z3), (0, .ref (B + 49)), (1, .int x), (2, .int y), (3, .int u)]) hx hb dX12_shortBy_152 hl (by decide) rfl (fun ls hl => ?_)
                    refine lv_iload hx hb dX12_shortBy_154 (lv_at hl 0 rfl) ?_
                    refine z_eq (tgt := 164) hx hb dX12_shortBy_156 (by decide) (fun c156 => ?_) (fun c156 => ?_)
                    · refine lv_iconst (v := (-1)) hx hb dX12_shortBy_164 (by decide) (ti_c (-1) (by decide) fun z202 hz202 => ?_)
                      exact r_iret C hw hr hlk rfl (Nat.le_of_ble_eq_true rfl) (Nat.le_of_ble_eq_true rfl) dX12_shortBy_165 ⟨rfl, rfl, rfl, rfl, hsz, ⟨_, rfl, (by exfalso; omega)⟩⟩
                    · refine lv_iload hx hb dX12_shortBy_159 (lv_at hl 1 rfl) ?_
                      refine lv_goto (tgt := 165) hx hb dX12_shortBy_161 (by decide) ?_
                      exact r_iret C hw hr hlk rfl (Nat.le_of_ble_eq_true rfl) (Nat.le_of_ble_eq_true rfl) dX12_shortBy_165 ⟨rfl, rfl, rfl, rfl, hsz, ⟨_, rfl, ⟨fun _ => Or.inl ⟨⟨by omega, by omega, by rw [show (12 * (ig (B + 56) (y.toInt.toNat + 2)).toInt + (ig (B + 55) (y.toInt.toNat + 2)).toInt) = z111.toInt by omega, show z111.toInt + 12 = z182.toInt by omega]; exact ygo⟩, by omega⟩, fun _ => by omega⟩⟩⟩
        · refine lv_goto (tgt := 82) hx hb dX12_shortBy_72 (by decide) ?_
          refine lv_iconst (v := (-1)) hx hb dX12_shortBy_82 (by decide) (ti_c (-1) (by decide) fun z203 hz203 => ?_)
          exact r_iret C hw hr hlk rfl (Nat.le_of_ble_eq_true rfl) (Nat.le_of_ble_eq_true rfl) dX12_shortBy_83 ⟨rfl, rfl, rfl, rfl, hsz, ⟨_, rfl, ⟨fun _ => Or.inr ⟨fun q => by have q1 := q.1; have q2 := q.2.1; omega, by omega⟩, fun _ => by omega⟩⟩⟩
    · refine lv_goto (tgt := 49) hx hb dX12_shortBy_35 (by decide) ?_
      refine lv_iconst (v := (-1)) hx hb dX12_shortBy_49 (by decide) (ti_c (-1) (by decide) fun z204 hz204 => ?_)
      exact r_iret C hw hr hlk rfl (Nat.le_of_ble_eq_true rfl) (Nat.le_of_ble_eq_true rfl) dX12_shortBy_50 ⟨rfl, rfl, rfl, rfl, hsz, ⟨_, rfl, ⟨fun _ => Or.inr ⟨fun q => by have q1 := q.1; have q2 := q.2.1; omega, by omega⟩, fun _ => by omega⟩⟩⟩
