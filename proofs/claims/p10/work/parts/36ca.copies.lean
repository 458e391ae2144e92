set_option maxHeartbeats 4000000 in
set_option maxRecDepth 100000 in
theorem t_X12_makesCopyE {τ : Tp} {φ : Option Int} (l : Launch) (B : Nat) (D : va_G) (cA : Nat → ClassId) (kd : sK) (ig : sI) (rg : sR) (lg : sG) (sz : Nat) (x : Int32) (y : Int32) (hx0 : 0 ≤ x.toInt ∧ x.toInt < 288) (hy0 : 0 ≤ y.toInt ∧ y.toInt < 288) (σ : Sg) (π : Ps) (hM : SM B σ π ig) (hW : WS σ π) (hI : IM τ φ none B kd ig rg) : MC l B D cA yX12_makesCopy cX12_makesCopy 8 (some .boolean) (rL 1 0 0) [.ref (B + 49), .int x, .int y] kd ig rg lg sz (PM τ φ none B [54, 55, 56, 57, 58, 59, 60, 61] kd ig rg lg (fun r ig' lg' => ∃ z : Int32, r = some (.int z) ∧ (SM B σ π ig' ∧ FW B ig' z ∧ RowM B ig' 288 y.toInt (wuC (σ x.toInt.toNat)) ∧ ((z.toInt = 1 ∧ fitC y.toInt (σ x.toInt.toNat)) ∨ (z.toInt = 0 ∧ ¬ fitC y.toInt (σ x.toInt.toNat)))))) := by
  refine MC.of (own := RX12) (by decide +kernel) rfl (Nat.le_of_ble_eq_true rfl) ?_
  intro p e s m args below meth c ls C hr hlk hnm hw hsz hl
  have hx := C.1.1
  have hb := C.1.2.1
  have hown := C.1.2.2.2.1
  have hts := C.1.2.2.2.2
  have hl : lv_has ls 8 [(0, .ref (B + 49)), (1, .int x), (2, .int y)] := hl
  have hF : Ft B [54, 55, 56, 57, 58, 59, 60, 61] ig lg ig lg := Ft.rf
  have hsh := hI.sh
  have hrm := hI.rm
  have hI0 := hI
  refine lv_aload_n hx hb dX12_makesCopy_0 rfl (lv_at hl 0 rfl) ?_
  refine lv_iload_n hx hb dX12_makesCopy_1 rfl (lv_at hl 1 rfl) ?_
  refine lv_sipush (v := 288) hx hb dX12_makesCopy_2 (by decide) (ti_c 288 (by decide) fun z1 hz1 => ?_)
  refine r_callV (As := [.int x, .int z1]) (rest := []) C hw (t_X12_copyRowE l B D cA kd ig rg lg _ x z1 (by omega) (by omega) (i32_ne (by omega)) (hI.wp (by omega) (by omega)) hI) sv_X12_191 (hsh 49 _ rfl) rfl hl.1 rfl (Nat.le_of_ble_eq_true rfl) ⟨Nat.le_of_ble_eq_true rfl, Nat.le_of_ble_eq_true rfl⟩ ⟨Nat.le_of_ble_eq_true rfl, Nat.le_of_ble_eq_true rfl⟩ dX12_makesCopy_5 (fun r6 kd2 ig3 rg4 lg5 H locs hw hH hp7 => ?_)
  obtain ⟨rfl, rfl, hI, hchp7, hrhp7⟩ := hp7
  have hF : Ft B [54, 55, 56, 57, 58, 59, 60, 61] ig lg ig3 lg5 := Ft.tr hF hchp7 (by decide) (by decide)
  obtain ⟨rfl, hvhp7⟩ := hrhp7
  have hcx := CRx.toY (y := 288) hvhp7 (by omega)
  have hR1 : RowM B ig3 288 x.toInt (σ x.toInt.toNat) := by have q := hcx.row (hM.1 x.toInt.toNat (by omega)); rw [show ((x.toInt.toNat : Nat) : Int) = x.toInt by omega] at q; exact q
  have hwp1 : WP B ig3 288 := WP.cr (hI0.wp (p := x.toInt.toNat) (by omega) (by omega)) hcx.1
  have hwg : WG B ig3 := hwp1.g
  have nd : NDr B ig ig3 := NDr.cr hcx
  refine lv_iconst (v := 0) hx hb dX12_makesCopy_8 (by decide) (ti_c 0 (by decide) fun z8 hz8 => ?_)
  refine lv_istore_n (lv' := [(3, .int z8), (0, .ref (B + 49)), (1, .int x), (2, .int y)]) hx hb dX12_makesCopy_9 rfl hl (by decide) rfl (fun ls hl => ?_)
  have L10 : ∀ (n : Nat) (ls : Array Slot) (H : Heap) (locs : List Loc) (ig10 : sI) (lg11 : sG) (v9 : Int32), lv_has ls 8 [(3, .int v9), (0, .ref (B + 49)), (1, .int x), (2, .int y)] → WD B D cA s.heap kd ig10 rg lg11 H locs → IM τ φ none B kd ig10 rg → Ft B [54, 55, 56, 57, 58, 59, 60, 61] ig lg ig10 lg11 → (0 ≤ v9.toInt) → (v9.toInt ≤ 3) → (WG B ig10) → (∀ c j, 54 ≤ c → c ≤ 60 → ig10 (B + c) j = ig3 (B + c) j) → (∀ u : Nat, (u : Int) < v9.toInt → (ig10 (B + 61) (864 + u)).toInt = 0) → (NDr B ig ig10) → 3 - v9.toInt < (n : Int) → W p l e (rL 1 0 0) s m args below meth c H locs 0 0 (MQ below (QcW B D cA (PM τ φ none B [54, 55, 56, 57, 58, 59, 60, 61] kd ig rg lg (fun r ig' lg' => ∃ z : Int32, r = some (.int z) ∧ (SM B σ π ig' ∧ FW B ig' z ∧ RowM B ig' 288 y.toInt (wuC (σ x.toInt.toNat)) ∧ ((z.toInt = 1 ∧ fitC y.toInt (σ x.toInt.toNat)) ∨ (z.toInt = 0 ∧ ¬ fitC y.toInt (σ x.toInt.toNat))))))) args s 0 0 (fun q => B ≤ q)) (F0 m 10 ls []) := by
    intro n10
    induction n10 with
    | zero => intro ls H locs ig10 lg11 v9 hl hw hI hF g10_0 g10_1 g10_2 g10_3 g10_4 g10_5 hmu; exact absurd hmu (by omega)
    | succ n10 ih10 =>
      intro ls H locs ig10 lg11 v9 hl hw hI hF g10_0 g10_1 g10_2 g10_3 g10_4 g10_5 hmu
      have hwg := g10_2
      have uu1 := g10_3
      have uu2 := g10_4
      have nd := g10_5
      refine lv_iload_n hx hb dX12_makesCopy_10 rfl (lv_at hl 0 rfl) ?_
      refine lv_iconst (v := 3) hx hb dX12_makesCopy_11 (by decide) (ti_c 3 (by decide) fun z12 hz12 => ?_)
      refine b_ge (tgt := 32) hx hb dX12_makesCopy_12 (by decide) (fun c12 => ?_) (fun c12 => ?_)
      · have hwp2 : WP B ig10 288 := fun q => (hwp1 (by rw [← uu1 59 288 (by decide) (by decide)]; exact q)).same (uu1 58 288 (by decide) (by decide)) (fun k _ _ => ⟨uu1 54 k (by decide) (by decide), uu1 55 k (by decide) (by decide), uu1 56 k (by decide) (by decide)⟩)
        have hR2 : RowM B ig10 288 x.toInt (wuC (σ x.toInt.toNat)) := hR1.wu uu1 ⟨uu2 0 (by omega), uu2 1 (by omega), uu2 2 (by omega)⟩ (fun w => ((hW.1 x.toInt.toNat (by omega)).2 w).1)
        have hk59 : (ig10 (B + 59) 288).toInt = kdO (σ x.toInt.toNat) := by rw [hR2.1.1, kd_wu.1]
        refine lv_iload_n hx hb dX12_makesCopy_32 rfl (lv_at hl 3 rfl) ?_
        refine lv_bipush (v := 12) hx hb dX12_makesCopy_33 (by decide) (ti_c 12 (by decide) fun z13 hz13 => ?_)
        refine lv_irem hx hb dX12_makesCopy_35 (ne0_of (by omega)) (tc_rem 12 hz13 (by decide) fun z14 bz14 hz14 => ?_)
        first | replace hz14 := hz14 (by omega) | clear hz14
        refine lv_iload_n hx hb dX12_makesCopy_36 rfl (lv_at hl 2 rfl) ?_
        refine lv_bipush (v := 12) hx hb dX12_makesCopy_37 (by decide) (ti_c 12 (by decide) fun z15 hz15 => ?_)
        refine lv_irem hx hb dX12_makesCopy_39 (ne0_of (by omega)) (tc_rem 12 hz15 (by decide) fun z16 bz16 hz16 => ?_)
        first | replace hz16 := hz16 (by omega) | clear hz16
        refine lv_isub hx hb dX12_makesCopy_40 (tc_sub fun z17 hz17 => ?_)
        first | replace hz17 := hz17 (by omega) | clear hz17
        refine lv_istore_n (lv' := [(3, .int z17), (0, .ref (B + 49)), (1, .int x), (2, .int y)]) hx hb dX12_makesCopy_41 rfl hl (by decide) rfl (fun ls hl => ?_)
        refine lv_iload_n hx hb dX12_makesCopy_42 rfl (lv_at hl 3 rfl) ?_
        refine lv_bipush (v := 12) hx hb dX12_makesCopy_43 (by decide) (ti_c 12 (by decide) fun z18 hz18 => ?_)
        refine lv_idiv hx hb dX12_makesCopy_45 (ne0_of (by omega)) (tc_div 12 hz18 (by decide) fun z19 bz19 hz19 => ?_)
        first | replace hz19 := hz19 (by omega) | clear hz19
        refine lv_iload_n hx hb dX12_makesCopy_46 rfl (lv_at hl 2 rfl) ?_
        refine lv_bipush (v := 12) hx hb dX12_makesCopy_47 (by decide) (ti_c 12 (by decide) fun z20 hz20 => ?_)
        refine lv_idiv hx hb dX12_makesCopy_49 (ne0_of (by omega)) (tc_div 12 hz20 (by decide) fun z21 bz21 hz21 => ?_)
        first | replace hz21 := hz21 (by omega) | clear hz21
        refine lv_isub hx hb dX12_makesCopy_50 (tc_sub fun z22 hz22 => ?_)
        first | replace hz22 := hz22 (by omega) | clear hz22
        refine lv_istore (lv' := [(4, .int z22), (3, .int z17), (0, .ref (B + 49)), (1, .int x), (2, .int y)]) hx hb dX12_makesCopy_51 hl (by decide) rfl (fun ls hl => ?_)
        refine lv_iconst (v := 1) hx hb dX12_makesCopy_53 (by decide) (ti_c 1 (by decide) fun z23 hz23 => ?_)
        refine lv_istore (lv' := [(5, .int z23), (4, .int z22), (3, .int z17), (0, .ref (B + 49)), (1, .int x), (2, .int y)]) hx hb dX12_makesCopy_54 hl (by decide) rfl (fun ls hl => ?_)
        refine lv_iconst (v := 0) hx hb dX12_makesCopy_56 (by decide) (ti_c 0 (by decide) fun z24 hz24 => ?_)
        refine lv_istore (lv' := [(6, .int z24), (5, .int z23), (4, .int z22), (3, .int z17), (0, .ref (B + 49)), (1, .int x), (2, .int y)]) hx hb dX12_makesCopy_57 hl (by decide) rfl (fun ls hl => ?_)
        have L59 : ∀ (n : Nat) (ls : Array Slot) (H : Heap) (locs : List Loc) (ig27 : sI) (lg28 : sG) (v25 : Int32) (v26 : Int32), lv_has ls 8 [(6, .int v25), (5, .int v26), (4, .int z22), (3, .int z17), (0, .ref (B + 49))] → WD B D cA s.heap kd ig27 rg lg28 H locs → IM τ φ none B kd ig27 rg → Ft B [54, 55, 56, 57, 58, 59, 60, 61] ig lg ig27 lg28 → (0 ≤ v25.toInt) → (v25.toInt ≤ 120) → (v26.toInt = 0 ∨ v26.toInt = 1) → (WG B ig27) → (RK B ig27 v25.toInt.toNat v26) → (MV B ig10 ig27 (y.toInt % 12 - x.toInt % 12) (y.toInt / 12 - x.toInt / 12) v25.toInt.toNat) → (GFl B ig27 v25.toInt.toNat v26) → (NDr B ig ig27) → (v25.toInt ≤ (ig27 (B + 58) 288).toInt) → 120 - v25.toInt < (n : Int) → W p l e (rL 1 0 0) s m args below meth c H locs 0 0 (MQ below (QcW B D cA (PM τ φ none B [54, 55, 56, 57, 58, 59, 60, 61] kd ig rg lg (fun r ig' lg' => ∃ z : Int32, r = some (.int z) ∧ (SM B σ π ig' ∧ FW B ig' z ∧ RowM B ig' 288 y.toInt (wuC (σ x.toInt.toNat)) ∧ ((z.toInt = 1 ∧ fitC y.toInt (σ x.toInt.toNat)) ∨ (z.toInt = 0 ∧ ¬ fitC y.toInt (σ x.toInt.toNat))))))) args s 0 0 (fun q => B ≤ q)) (F0 m 59 ls []) := by
          intro n59
          induction n59 with
          | zero => intro ls H locs ig27 lg28 v25 v26 hl hw hI hF g59_0 g59_1 g59_2 g59_3 g59_4 g59_5 g59_6 g59_7 g59_8 hmu; exact absurd hmu (by omega)
          | succ n59 ih59 =>
            intro ls H locs ig27 lg28 v25 v26 hl hw hI hF g59_0 g59_1 g59_2 g59_3 g59_4 g59_5 g59_6 g59_7 g59_8 hmu
            have mv := g59_5
            have gf := g59_6
            have nd := g59_7
            refine lv_iload hx hb dX12_makesCopy_59 (lv_at hl 0 rfl) ?_
            refine lv_aload_n hx hb dX12_makesCopy_61 rfl (lv_at hl 4 rfl) ?_
            refine r_get C hw (hsh 49 _ rfl) fl_X12_77 (oV_r rfl (hrm (49, 13, 58) (by decide))) dX12_makesCopy_62 ?_
            refine lv_sipush (v := 288) hx hb dX12_makesCopy_65 (by decide) (ti_c 288 (by decide) fun z29 hz29 => ?_)
            refine r_iald C hw (hsh 58 _ rfl) (by omega) (by omega) dX12_makesCopy_68 (ti_c (ig27 (B + 58) z29.toInt.toNat).toInt rfl fun z30 hz30 => ?_)
            have k31 := hI.its (j := (z29.toInt.toNat)) (by omega)
            rw [show z29.toInt.toNat = 288 by omega] at hz30
            have kit := hI.its (j := 288) (by decide)
            refine b_ge (tgt := 209) hx hb dX12_makesCopy_69 (by decide) (fun c69 => ?_) (fun c69 => ?_)
            · have m58 := congrArg Int32.toInt (mv.1 58 288 (by decide) (by decide) (by decide) (by decide))
              have hRf : RowM B ig27 288 y.toInt (wuC (σ x.toInt.toNat)) := mv.rowM hR2 (by omega)
              have hft : FTq B ig27 y.toInt (σ x.toInt.toNat) := FTq.of hRf (fun q => ⟨mv.dec (by omega) (hR2.2.2.1 (by rw [kd_wu.1]; exact q)).2 ((hwp2 (by rw [hk59]; exact q)).gok).2 (by omega) (by omega), mv.gok ((hwp2 (by rw [hk59]; exact q)).gok).1⟩)
              have hof : OFl B ig27 0 v26 (fitC y.toInt (σ x.toInt.toNat)) := OFl.of gf (by omega) (by omega) hft.p1 rfl
              have hfw : FW B ig27 v26 := RK.fw g59_4 g59_3 (by omega)
              refine lv_iconst (v := 0) hx hb dX12_makesCopy_209 (by decide) (ti_c 0 (by decide) fun z32 hz32 => ?_)
              refine lv_istore (lv' := [(6, .int z32), (5, .int v26), (4, .int z22), (3, .int z17), (0, .ref (B + 49))]) hx hb dX12_makesCopy_210 hl (by decide) rfl (fun ls hl => ?_)
              have L212 : ∀ (n : Nat) (ls : Array Slot) (H : Heap) (locs : List Loc) (ig35 : sI) (lg36 : sG) (v33 : Int32) (v34 : Int32), lv_has ls 8 [(6, .int v33), (5, .int v34), (0, .ref (B + 49))] → WD B D cA s.heap kd ig35 rg lg36 H locs → IM τ φ none B kd ig35 rg → Ft B [54, 55, 56, 57, 58, 59, 60, 61] ig lg ig35 lg36 → (0 ≤ v33.toInt) → (v33.toInt ≤ 120) → (v34.toInt = 0 ∨ v34.toInt = 1) → (FW B ig35 v34) → (OFl B ig35 v33.toInt.toNat v34 (fitC y.toInt (σ x.toInt.toNat))) → (FTq B ig35 y.toInt (σ x.toInt.toNat)) → (RowM B ig35 288 y.toInt (wuC (σ x.toInt.toNat))) → (NDr B ig ig35) → (v33.toInt ≤ (ig35 (B + 58) 288).toInt) → 120 - v33.toInt < (n : Int) → W p l e (rL 1 0 0) s m args below meth c H locs 0 0 (MQ below (QcW B D cA (PM τ φ none B [54, 55, 56, 57, 58, 59, 60, 61] kd ig rg lg (fun r ig' lg' => ∃ z : Int32, r = some (.int z) ∧ (SM B σ π ig' ∧ FW B ig' z ∧ RowM B ig' 288 y.toInt (wuC (σ x.toInt.toNat)) ∧ ((z.toInt = 1 ∧ fitC y.toInt (σ x.toInt.toNat)) ∨ (z.toInt = 0 ∧ ¬ fitC y.toInt (σ x.toInt.toNat))))))) args s 0 0 (fun q => B ≤ q)) (F0 m 212 ls []) := by
                intro n212
                induction n212 with
                | zero => intro ls H locs ig35 lg36 v33 v34 hl hw hI hF g212_0 g212_1 g212_2 g212_3 g212_4 g212_5 g212_6 g212_7 g212_8 hmu; exact absurd hmu (by omega)
                | succ n212 ih212 =>
                  intro ls H locs ig35 lg36 v33 v34 hl hw hI hF g212_0 g212_1 g212_2 g212_3 g212_4 g212_5 g212_6 g212_7 g212_8 hmu
                  have hof := g212_4
                  have hft := g212_5
                  have hRf := g212_6
                  have nd := g212_7
                  refine lv_iload hx hb dX12_makesCopy_212 (lv_at hl 0 rfl) ?_
                  refine lv_aload_n hx hb dX12_makesCopy_214 rfl (lv_at hl 2 rfl) ?_
                  refine r_get C hw (hsh 49 _ rfl) fl_X12_77 (oV_r rfl (hrm (49, 13, 58) (by decide))) dX12_makesCopy_215 ?_
                  refine lv_sipush (v := 288) hx hb dX12_makesCopy_218 (by decide) (ti_c 288 (by decide) fun z37 hz37 => ?_)
                  refine r_iald C hw (hsh 58 _ rfl) (by omega) (by omega) dX12_makesCopy_221 (ti_c (ig35 (B + 58) z37.toInt.toNat).toInt rfl fun z38 hz38 => ?_)
                  have k39 := hI.its (j := (z37.toInt.toNat)) (by omega)
                  rw [show z37.toInt.toNat = 288 by omega] at hz38
                  have kit := hI.its (j := 288) (by decide)
                  refine b_ge (tgt := 303) hx hb dX12_makesCopy_222 (by decide) (fun c222 => ?_) (fun c222 => ?_)
                  · refine lv_iload hx hb dX12_makesCopy_303 (lv_at hl 1 rfl) ?_
                    exact r_iret C hw hr hlk (nar_b (by omega)) (Nat.le_of_ble_eq_true rfl) (Nat.le_of_ble_eq_true rfl) dX12_makesCopy_305 ⟨rfl, rfl, hI, hF, ⟨_, rfl, ⟨hM.dr hI0.i120 nd (fun j => hF.i 63 j (by decide)) (congrArg Int32.toInt (hF.i 49 19 (by decide))), g212_3, hRf, (by rcases g212_2 with w | w; exact Or.inr ⟨w, hof.2 w⟩; exact Or.inl ⟨w, Iff.mpr hft ⟨(hof.1 (by omega)).1, fun j hj => (hof.1 (by omega)).2 j (by omega)⟩⟩)⟩⟩⟩
                  · refine lv_ldc (v := 34560) hx hb hown (hts _ kc_X12_142) dX12_makesCopy_225 (ti_c 34560 (by decide) fun z40 hz40 => ?_)
                    refine lv_iload hx hb dX12_makesCopy_227 (lv_at hl 0 rfl) ?_
                    refine lv_iadd hx hb dX12_makesCopy_229 (tc_add fun z41 hz41 => ?_)
                    first | replace hz41 := hz41 (by omega) | clear hz41
                    refine lv_istore (lv' := [(7, .int z41), (6, .int v33), (5, .int v34), (0, .ref (B + 49))]) hx hb dX12_makesCopy_230 hl (by decide) rfl (fun ls hl => ?_)
                    have n7 : z41.toInt.toNat = 34560 + v33.toInt.toNat := by omega
                    refine lv_iload hx hb dX12_makesCopy_232 (lv_at hl 2 rfl) ?_
                    refine z_eq (tgt := 294) hx hb dX12_makesCopy_234 (by decide) (fun c234 => ?_) (fun c234 => ?_)
                    · refine lv_iconst (v := 0) hx hb dX12_makesCopy_294 (by decide) (ti_c 0 (by decide) fun z42 hz42 => ?_)
                      refine lv_istore (lv' := [(5, .int z42), (7, .int z41), (6, .int v33), (0, .ref (B + 49))]) hx hb dX12_makesCopy_295 hl (by decide) rfl (fun ls hl => ?_)
                      refine tc_inc hx hb dX12_makesCopy_297 hl (k := 2) rfl (by decide) (by decide) (fun z43 hz43 ls hl => ?_)
                      first | replace hz43 := hz43 (by omega) | clear hz43
                      have hl : lv_has ls 8 [(6, .int z43), (5, .int z42), (7, .int z41), (0, .ref (B + 49))] := hl
                      refine lv_goto (tgt := 212) hx hb dX12_makesCopy_300 (by decide) ?_
                      exact ih212 ls H locs ig35 lg36 z43 z42 (lv_sub hl [0, 1, 3] rfl) hw hI hF (by omega) (by omega) (by omega) (FW.st g212_3 (by omega)) (OFl.st hof (k := v33.toInt.toNat) (by omega) (by omega) hft.p2 (Or.inr ⟨by omega, Or.inl (by omega)⟩)) (hft) (hRf) (nd) (by omega) (by omega)
                    · refine lv_aload_n hx hb dX12_makesCopy_237 rfl (lv_at hl 3 rfl) ?_
                      refine r_get C hw (hsh 49 _ rfl) fl_X12_65 (oV_r rfl (hrm (49, 9, 54) (by decide))) dX12_makesCopy_238 ?_
                      refine lv_iload hx hb dX12_makesCopy_241 (lv_at hl 0 rfl) ?_
                      refine r_iald C hw (hsh 54 _ rfl) (by omega) (by omega) dX12_makesCopy_243 (ti_c (ig35 (B + 54) z41.toInt.toNat).toInt rfl fun z44 hz44 => ?_)
                      refine lv_iconst (v := 2) hx hb dX12_makesCopy_244 (by decide) (ti_c 2 (by decide) fun z46 hz46 => ?_)
                      refine b_ne (tgt := 290) hx hb dX12_makesCopy_245 (by decide) (fun c245 => ?_) (fun c245 => ?_)
                      · refine lv_iconst (v := 1) hx hb dX12_makesCopy_290 (by decide) (ti_c 1 (by decide) fun z47 hz47 => ?_)
                        refine lv_goto (tgt := 295) hx hb dX12_makesCopy_291 (by decide) ?_
                        refine lv_istore (lv' := [(5, .int z47), (7, .int z41), (6, .int v33), (0, .ref (B + 49))]) hx hb dX12_makesCopy_295 hl (by decide) rfl (fun ls hl => ?_)
                        refine tc_inc hx hb dX12_makesCopy_297 hl (k := 2) rfl (by decide) (by decide) (fun z48 hz48 ls hl => ?_)
                        first | replace hz48 := hz48 (by omega) | clear hz48
                        have hl : lv_has ls 8 [(6, .int z48), (5, .int z47), (7, .int z41), (0, .ref (B + 49))] := hl
                        refine lv_goto (tgt := 212) hx hb dX12_makesCopy_300 (by decide) ?_
                        exact ih212 ls H locs ig35 lg36 z48 z47 (lv_sub hl [0, 1, 3] rfl) hw hI hF (by omega) (by omega) (by omega) (FW.st g212_3 (by omega)) (OFl.st hof (k := v33.toInt.toNat) (by omega) (by omega) hft.p2 (Or.inl ⟨by omega, by omega, fun q => by rw [← n7] at q ⊢; exact absurd q (by omega)⟩)) (hft) (hRf) (nd) (by omega) (by omega)
                      · refine lv_aload_n hx hb dX12_makesCopy_248 rfl (lv_at hl 3 rfl) ?_
                        refine r_get C hw (hsh 49 _ rfl) fl_X12_68 (oV_r rfl (hrm (49, 10, 55) (by decide))) dX12_makesCopy_249 ?_
                        refine lv_iload hx hb dX12_makesCopy_252 (lv_at hl 0 rfl) ?_
                        refine lv_iconst (v := 4) hx hb dX12_makesCopy_254 (by decide) (ti_c 4 (by decide) fun z49 hz49 => ?_)
                        refine lv_iadd hx hb dX12_makesCopy_255 (tc_add fun z50 hz50 => ?_)
                        first | replace hz50 := hz50 (by omega) | clear hz50
                        refine r_iald C hw (hsh 55 _ rfl) (by omega) (by omega) dX12_makesCopy_256 (ti_c (ig35 (B + 55) z50.toInt.toNat).toInt rfl fun z51 hz51 => ?_)
                        rw [show z50.toInt.toNat = z41.toInt.toNat + 4 by omega] at hz51
                        refine lv_aload_n hx hb dX12_makesCopy_257 rfl (lv_at hl 3 rfl) ?_
                        refine r_get C hw (hsh 49 _ rfl) fl_X12_68 (oV_r rfl (hrm (49, 10, 55) (by decide))) dX12_makesCopy_258 ?_
                        refine lv_iload hx hb dX12_makesCopy_261 (lv_at hl 0 rfl) ?_
                        refine lv_iconst (v := 2) hx hb dX12_makesCopy_263 (by decide) (ti_c 2 (by decide) fun z53 hz53 => ?_)
                        refine lv_iadd hx hb dX12_makesCopy_264 (tc_add fun z54 hz54 => ?_)
                        first | replace hz54 := hz54 (by omega) | clear hz54
                        refine r_iald C hw (hsh 55 _ rfl) (by omega) (by omega) dX12_makesCopy_265 (ti_c (ig35 (B + 55) z54.toInt.toNat).toInt rfl fun z55 hz55 => ?_)
                        rw [show z54.toInt.toNat = z41.toInt.toNat + 2 by omega] at hz55
                        refine b_lt (tgt := 294) hx hb dX12_makesCopy_266 (by decide) (fun c266 => ?_) (fun c266 => ?_)
                        · refine lv_iconst (v := 0) hx hb dX12_makesCopy_294 (by decide) (ti_c 0 (by decide) fun z57 hz57 => ?_)
                          refine lv_istore (lv' := [(5, .int z57), (7, .int z41), (6, .int v33), (0, .ref (B + 49))]) hx hb dX12_makesCopy_295 hl (by decide) rfl (fun ls hl => ?_)
                          refine tc_inc hx hb dX12_makesCopy_297 hl (k := 2) rfl (by decide) (by decide) (fun z58 hz58 ls hl => ?_)
                          first | replace hz58 := hz58 (by omega) | clear hz58
                          have hl : lv_has ls 8 [(6, .int z58), (5, .int z57), (7, .int z41), (0, .ref (B + 49))] := hl
                          refine lv_goto (tgt := 212) hx hb dX12_makesCopy_300 (by decide) ?_
                          exact ih212 ls H locs ig35 lg36 z58 z57 (lv_sub hl [0, 1, 3] rfl) hw hI hF (by omega) (by omega) (by omega) (FW.st g212_3 (by omega)) (OFl.st hof (k := v33.toInt.toNat) (by omega) (by omega) hft.p2 (Or.inr ⟨by omega, Or.inr fun q => by rw [← n7] at q; have q1 := q (by omega); omega⟩)) (hft) (hRf) (nd) (by omega) (by omega)
                        · refine lv_aload_n hx hb dX12_makesCopy_269 rfl (lv_at hl 3 rfl) ?_
                          refine r_get C hw (hsh 49 _ rfl) fl_X12_71 (oV_r rfl (hrm (49, 11, 56) (by decide))) dX12_makesCopy_270 ?_
                          refine lv_iload hx hb dX12_makesCopy_273 (lv_at hl 0 rfl) ?_
                          refine lv_iconst (v := 4) hx hb dX12_makesCopy_275 (by decide) (ti_c 4 (by decide) fun z59 hz59 => ?_)
                          refine lv_iadd hx hb dX12_makesCopy_276 (tc_add fun z60 hz60 => ?_)
                          first | replace hz60 := hz60 (by omega) | clear hz60
                          refine r_iald C hw (hsh 56 _ rfl) (by omega) (by omega) dX12_makesCopy_277 (ti_c (ig35 (B + 56) z60.toInt.toNat).toInt rfl fun z61 hz61 => ?_)
                          rw [show z60.toInt.toNat = z41.toInt.toNat + 4 by omega] at hz61
                          refine lv_aload_n hx hb dX12_makesCopy_278 rfl (lv_at hl 3 rfl) ?_
                          refine r_get C hw (hsh 49 _ rfl) fl_X12_71 (oV_r rfl (hrm (49, 11, 56) (by decide))) dX12_makesCopy_279 ?_
                          refine lv_iload hx hb dX12_makesCopy_282 (lv_at hl 0 rfl) ?_
                          refine lv_iconst (v := 2) hx hb dX12_makesCopy_284 (by decide) (ti_c 2 (by decide) fun z63 hz63 => ?_)
                          refine lv_iadd hx hb dX12_makesCopy_285 (tc_add fun z64 hz64 => ?_)
                          first | replace hz64 := hz64 (by omega) | clear hz64
                          refine r_iald C hw (hsh 56 _ rfl) (by omega) (by omega) dX12_makesCopy_286 (ti_c (ig35 (B + 56) z64.toInt.toNat).toInt rfl fun z65 hz65 => ?_)
                          rw [show z64.toInt.toNat = z41.toInt.toNat + 2 by omega] at hz65
                          refine b_lt (tgt := 294) hx hb dX12_makesCopy_287 (by decide) (fun c287 => ?_) (fun c287 => ?_)
                          · refine lv_iconst (v := 0) hx hb dX12_makesCopy_294 (by decide) (ti_c 0 (by decide) fun z67 hz67 => ?_)
                            refine lv_istore (lv' := [(5, .int z67), (7, .int z41), (6, .int v33), (0, .ref (B + 49))]) hx hb dX12_makesCopy_295 hl (by decide) rfl (fun ls hl => ?_)
                            refine tc_inc hx hb dX12_makesCopy_297 hl (k := 2) rfl (by decide) (by decide) (fun z68 hz68 ls hl => ?_)
                            first | replace hz68 := hz68 (by omega) | clear hz68
                            have hl : lv_has ls 8 [(6, .int z68), (5, .int z67), (7, .int z41), (0, .ref (B + 49))] := hl
                            refine lv_goto (tgt := 212) hx hb dX12_makesCopy_300 (by decide) ?_
                            exact ih212 ls H locs ig35 lg36 z68 z67 (lv_sub hl [0, 1, 3] rfl) hw hI hF (by omega) (by omega) (by omega) (FW.st g212_3 (by omega)) (OFl.st hof (k := v33.toInt.toNat) (by omega) (by omega) hft.p2 (Or.inr ⟨by omega, Or.inr fun q => by rw [← n7] at q; have q1 := q (by omega); omega⟩)) (hft) (hRf) (nd) (by omega) (by omega)
                          · refine lv_iconst (v := 1) hx hb dX12_makesCopy_290 (by decide) (ti_c 1 (by decide) fun z69 hz69 => ?_)
                            refine lv_goto (tgt := 295) hx hb dX12_makesCopy_291 (by decide) ?_
                            refine lv_istore (lv' := [(5, .int z69), (7, .int z41), (6, .int v33), (0, .ref (B + 49))]) hx hb dX12_makesCopy_295 hl (by decide) rfl (fun ls hl => ?_)
                            refine tc_inc hx hb dX12_makesCopy_297 hl (k := 2) rfl (by decide) (by decide) (fun z70 hz70 ls hl => ?_)
                            first | replace hz70 := hz70 (by omega) | clear hz70
                            have hl : lv_has ls 8 [(6, .int z70), (5, .int z69), (7, .int z41), (0, .ref (B + 49))] := hl
                            refine lv_goto (tgt := 212) hx hb dX12_makesCopy_300 (by decide) ?_
                            exact ih212 ls H locs ig35 lg36 z70 z69 (lv_sub hl [0, 1, 3] rfl) hw hI hF (by omega) (by omega) (by omega) (FW.st g212_3 (by omega)) (OFl.st hof (k := v33.toInt.toNat) (by omega) (by omega) hft.p2 (Or.inl ⟨by omega, by omega, fun q => by rw [← n7] at q ⊢; exact ⟨by omega, by omega⟩⟩)) (hft) (hRf) (nd) (by omega) (by omega)
              exact L212 ((120 - z32.toInt) + 1).toNat ls H locs ig27 lg28 z32 v26 (lv_sub hl [0, 1, 4] rfl) hw hI hF (by omega) (by omega) (by omega) (hfw) (by rw [show z32.toInt.toNat = 0 by omega]; exact hof) (hft) (hRf) (nd) (by have q := (hI.its (j := 288) (by decide)).1; omega) (by omega)
            · refine lv_ldc (v := 34560) hx hb hown (hts _ kc_X12_142) dX12_makesCopy_72 (ti_c 34560 (by decide) fun z71 hz71 => ?_)
              refine lv_iload hx hb dX12_makesCopy_74 (lv_at hl 0 rfl) ?_
              refine lv_iadd hx hb dX12_makesCopy_76 (tc_add fun z72 hz72 => ?_)
              first | replace hz72 := hz72 (by omega) | clear hz72
              refine lv_istore (lv' := [(7, .int z72), (6, .int v25), (5, .int v26), (4, .int z22), (3, .int z17), (0, .ref (B + 49))]) hx hb dX12_makesCopy_77 hl (by decide) rfl (fun ls hl => ?_)
              have n7 : nEq z72.toInt.toNat (34560 + v25.toInt.toNat) := by show _ = _; omega
              have q6 : v25.toInt.toNat < 120 := by omega
              have m58 := congrArg Int32.toInt (mv.1 58 288 (by decide) (by decide) (by decide) (by decide))
              have hk2 : kdO (σ x.toInt.toNat) = 2 := Classical.byContradiction fun w => absurd (hR2.2.2.2 (by rw [kd_wu.1]; exact w)) (by omega)
              have gk2 := (hwp2 (by rw [hk59]; exact hk2)).gok
              have ro2 := gk2.2 v25.toInt.toNat (by omega)
              have io2 := (hR2.2.2.1 (by rw [kd_wu.1]; exact hk2)).2 v25.toInt.toNat (by omega)
              have e7 : z72.toInt.toNat = 120 * 288 + v25.toInt.toNat := n7
              rw [← e7] at ro2 io2
              clear e7
              have o57 := io2.1
              have r56 := ro2
              unfold mK mF at o57
              unfold rOk mK mA mB at r56
              replace o57 : hid _ := o57
              replace r56 : hid _ := r56
              refine lv_aload_n hx hb dX12_makesCopy_79 rfl (lv_at hl 5 rfl) ?_
              refine r_get C hw (hsh 49 _ rfl) fl_X12_65 (oV_r rfl (hrm (49, 9, 54) (by decide))) dX12_makesCopy_80 ?_
              refine lv_iload hx hb dX12_makesCopy_83 (lv_at hl 0 rfl) ?_
              refine r_iald C hw (hsh 54 _ rfl) (by omega) (by omega) dX12_makesCopy_85 (ti_c (ig27 (B + 54) z72.toInt.toNat).toInt rfl fun z73 hz73 => ?_)
              have ek : z73.toInt = (ig10 (B + 54) z72.toInt.toNat).toInt := by rw [hz73, mv.1 54 _ (by decide) (by decide) (by decide) (by decide)]
              refine lv_iconst (v := 3) hx hb dX12_makesCopy_86 (by decide) (ti_c 3 (by decide) fun z75 hz75 => ?_)
              refine b_ne (tgt := 203) hx hb dX12_makesCopy_87 (by decide) (fun c87 => ?_) (fun c87 => ?_)
              · refine tc_inc hx hb dX12_makesCopy_203 hl (k := 1) rfl (by decide) (by decide) (fun z76 hz76 ls hl => ?_)
                first | replace hz76 := hz76 (by omega) | clear hz76
                have hl : lv_has ls 8 [(6, .int z76), (7, .int z72), (5, .int v26), (4, .int z22), (3, .int z17), (0, .ref (B + 49))] := hl
                refine lv_goto (tgt := 59) hx hb dX12_makesCopy_206 (by decide) ?_
                exact ih59 ls H locs ig27 lg28 z76 v26 (lv_sub hl [0, 2, 3, 4, 5] rfl) hw hI hF (by omega) (by omega) (by omega) (g59_3) (RK.st (fl := v26) g59_4 (by omega) n7 (by omega) (fun _ => rOk.n3 (by omega))) (MV.no mv n7 (by omega) (by omega)) (GFl.st gf n7 (by omega) (by by_cases w : v26.toInt = 0; exact Or.inr ⟨w, Or.inl w⟩; exact Or.inl ⟨w, w, fun q => absurd q (by omega)⟩)) (nd) (by omega) (by omega)
              · have k3 : (ig27 (B + 54) z72.toInt.toNat).toInt = 3 := by omega
                have k3g : (ig10 (B + 54) z72.toInt.toNat).toInt = 3 := by omega
                have f57 := (show _ → _ from o57) k3g
                have r55 := (show _ → _ from r56) k3g
                refine lv_aload_n hx hb dX12_makesCopy_90 rfl (lv_at hl 5 rfl) ?_
                refine r_get C hw (hsh 49 _ rfl) fl_X12_68 (oV_r rfl (hrm (49, 10, 55) (by decide))) dX12_makesCopy_91 ?_
                refine lv_iload hx hb dX12_makesCopy_94 (lv_at hl 0 rfl) ?_
                refine lv_dup2_11 hx hb dX12_makesCopy_96 rfl rfl ?_
                refine r_iald C hw (hsh 55 _ rfl) (by omega) (by omega) dX12_makesCopy_97 (ti_c (ig27 (B + 55) z72.toInt.toNat).toInt rfl fun z77 hz77 => ?_)
                have ea : z77.toInt = (ig10 (B + 55) z72.toInt.toNat).toInt := by rw [hz77, (MV.r mv n7).1]
                refine lv_aload_n hx hb dX12_makesCopy_98 rfl (lv_at hl 5 rfl) ?_
                refine r_get C hw (hsh 49 _ rfl) fl_X12_74 (oV_r rfl (hrm (49, 12, 57) (by decide))) dX12_makesCopy_99 ?_
                refine lv_iload hx hb dX12_makesCopy_102 (lv_at hl 0 rfl) ?_
                refine r_iald C hw (hsh 57 _ rfl) (by omega) (by omega) dX12_makesCopy_104 (ti_c (ig27 (B + 57) z72.toInt.toNat).toInt rfl fun z79 hz79 => ?_)
                have ef : z79.toInt = (ig10 (B + 57) z72.toInt.toNat).toInt := by rw [hz79, mv.1 57 _ (by decide) (by decide) (by decide) (by decide)]
                refine lv_iconst (v := 1) hx hb dX12_makesCopy_105 (by decide) (ti_c 1 (by decide) fun z81 hz81 => ?_)
                refine lv_iand hx hb dX12_makesCopy_106 (lv_topi fun z82 hz82 => ?_)
                have a1 := and1 hz82 hz81 (by omega)
                refine lv_iconst (v := 1) hx hb dX12_makesCopy_107 (by decide) (ti_c 1 (by decide) fun z83 hz83 => ?_)
                refine b_ne (tgt := 115) hx hb dX12_makesCopy_108 (by decide) (fun c108 => ?_) (fun c108 => ?_)
                · refine lv_iload_n hx hb dX12_makesCopy_115 rfl (lv_at hl 4 rfl) ?_
                  refine lv_iadd hx hb dX12_makesCopy_116 (tc_add fun z84 hz84 => ?_)
                  first | replace hz84 := hz84 (by omega) | clear hz84
                  refine r_iast C hw (hsh 55 _ rfl) (by omega) (by omega) dX12_makesCopy_117 (fun H locs hH hw => ?_)
                  obtain ⟨ig85, eig85⟩ : ∃ f, f = up2 ig27 (B + 55) z72.toInt.toNat z84 := ⟨_, rfl⟩
                  rw [← eig85] at hw
                  have hF : Ft B [54, 55, 56, 57, 58, 59, 60, 61] ig lg ig85 lg28 := by rw [eig85]; exact hF.pi (by decide)
                  have hI : IM τ φ none B kd ig85 rg := by rw [eig85]; exact hI.pdr2 (Or.inl rfl) n7 q6
                  have hwg : WG B ig85 := by rw [eig85]; exact WG.uA g59_3 k3
                  have hrk : RK B ig85 v25.toInt.toNat v26 := by rw [eig85]; exact RK.u g59_4 (Or.inl rfl) n7
                  have k3 : (ig85 (B + 54) z72.toInt.toNat).toInt = 3 := by rw [eig85, up2_c (by decide)]; exact k3
                  have gf : GFl B ig85 v25.toInt.toNat v26 := by rw [eig85]; exact gf.wr n7 (Or.inl rfl)
                  have nd : NDr B ig ig85 := by rw [eig85]; exact nd.wr (Or.inr (Or.inr ⟨by decide, by decide, by omega, by omega⟩))
                  have ha9 : ((ig10 (B + 57) z72.toInt.toNat).toInt % 2 = 1 ∧ z84.toInt = (ig10 (B + 55) z72.toInt.toNat).toInt) ∨ ((ig10 (B + 57) z72.toInt.toNat).toInt % 2 = 0 ∧ z84.toInt = (ig10 (B + 55) z72.toInt.toNat).toInt + (y.toInt % 12 - x.toInt % 12)) := by omega
                  refine lv_aload_n hx hb dX12_makesCopy_118 rfl (lv_at hl 5 rfl) ?_
                  refine r_get C hw (hsh 49 _ rfl) fl_X12_71 (oV_r rfl (hrm (49, 11, 56) (by decide))) dX12_makesCopy_119 ?_
                  refine lv_iload hx hb dX12_makesCopy_122 (lv_at hl 0 rfl) ?_
                  refine lv_dup2_11 hx hb dX12_makesCopy_124 rfl rfl ?_
                  refine r_iald C hw (hsh 56 _ rfl) (by omega) (by omega) dX12_makesCopy_125 (ti_c (ig85 (B + 56) z72.toInt.toNat).toInt rfl fun z86 hz86 => ?_)
                  have eb : z86.toInt = (ig10 (B + 56) z72.toInt.toNat).toInt := by rw [hz86, eig85, up2_c (by decide), (MV.r mv n7).2]
                  refine lv_aload_n hx hb dX12_makesCopy_126 rfl (lv_at hl 5 rfl) ?_
                  refine r_get C hw (hsh 49 _ rfl) fl_X12_74 (oV_r rfl (hrm (49, 12, 57) (by decide))) dX12_makesCopy_127 ?_
                  refine lv_iload hx hb dX12_makesCopy_130 (lv_at hl 0 rfl) ?_
                  refine r_iald C hw (hsh 57 _ rfl) (by omega) (by omega) dX12_makesCopy_132 (ti_c (ig85 (B + 57) z72.toInt.toNat).toInt rfl fun z88 hz88 => ?_)
                  have ef2 : z88.toInt = (ig10 (B + 57) z72.toInt.toNat).toInt := by rw [hz88, eig85, up2_c (by decide), mv.1 57 _ (by decide) (by decide) (by decide) (by decide)]
                  refine lv_iconst (v := 2) hx hb dX12_makesCopy_133 (by decide) (ti_c 2 (by decide) fun z90 hz90 => ?_)
                  refine lv_iand hx hb dX12_makesCopy_134 (lv_topi fun z91 hz91 => ?_)
                  have a2 := and2 hz91 hz90 (by omega)
                  refine lv_iconst (v := 2) hx hb dX12_makesCopy_135 (by decide) (ti_c 2 (by decide) fun z92 hz92 => ?_)
                  refine b_ne (tgt := 143) hx hb dX12_makesCopy_136 (by decide) (fun c136 => ?_) (fun c136 => ?_)
                  · refine lv_iload hx hb dX12_makesCopy_143 (lv_at hl 3 rfl) ?_
                    refine lv_iadd hx hb dX12_makesCopy_145 (tc_add fun z93 hz93 => ?_)
                    first | replace hz93 := hz93 (by omega) | clear hz93
                    refine r_iast C hw (hsh 56 _ rfl) (by omega) (by omega) dX12_makesCopy_146 (fun H locs hH hw => ?_)
                    obtain ⟨ig94, eig94⟩ : ∃ f, f = up2 ig85 (B + 56) z72.toInt.toNat z93 := ⟨_, rfl⟩
                    rw [← eig94] at hw
                    have hF : Ft B [54, 55, 56, 57, 58, 59, 60, 61] ig lg ig94 lg28 := by rw [eig94]; exact hF.pi (by decide)
                    have hI : IM τ φ none B kd ig94 rg := by rw [eig94]; exact hI.pdr2 (Or.inr rfl) n7 q6
                    have hwg : WG B ig94 := by rw [eig94]; exact WG.u hwg (by decide)
                    have hrk : RK B ig94 v25.toInt.toNat v26 := by rw [eig94]; exact RK.u hrk (Or.inr rfl) n7
                    have k3 : (ig94 (B + 54) z72.toInt.toNat).toInt = 3 := by rw [eig94, up2_c (by decide)]; exact k3
                    have gf : GFl B ig94 v25.toInt.toNat v26 := by rw [eig94]; exact gf.wr n7 (Or.inr rfl)
                    have nd : NDr B ig ig94 := by rw [eig94]; exact nd.wr (Or.inr (Or.inr ⟨by decide, by decide, by omega, by omega⟩))
                    have mv2 : ∀ k, k = v25.toInt.toNat + 1 → MV B ig10 ig94 (y.toInt % 12 - x.toInt % 12) (y.toInt / 12 - x.toInt / 12) k := fun k hk => by
                      rw [eig94, eig85]
                      exact MV.st mv n7 hk k3g ha9 (by omega)
                    try clear ha9; try clear a1; try clear a2; try clear hz14; try clear bz14; try clear hz16; try clear bz16; try clear hz19; try clear bz19; try clear hz21; try clear bz21
                    refine lv_iload hx hb dX12_makesCopy_147 (lv_at hl 2 rfl) ?_
                    refine z_eq (tgt := 200) hx hb dX12_makesCopy_149 (by decide) (fun c149 => ?_) (fun c149 => ?_)
                    · refine lv_iconst (v := 0) hx hb dX12_makesCopy_200 (by decide) (ti_c 0 (by decide) fun z95 hz95 => ?_)
                      refine lv_istore (lv' := [(5, .int z95), (7, .int z72), (6, .int v25), (4, .int z22), (3, .int z17), (0, .ref (B + 49))]) hx hb dX12_makesCopy_201 hl (by decide) rfl (fun ls hl => ?_)
                      refine tc_inc hx hb dX12_makesCopy_203 hl (k := 2) rfl (by decide) (by decide) (fun z96 hz96 ls hl => ?_)
                      first | replace hz96 := hz96 (by omega) | clear hz96
                      have hl : lv_has ls 8 [(6, .int z96), (5, .int z95), (7, .int z72), (4, .int z22), (3, .int z17), (0, .ref (B + 49))] := hl
                      refine lv_goto (tgt := 59) hx hb dX12_makesCopy_206 (by decide) ?_
                      exact ih59 ls H locs ig94 lg28 z96 z95 (lv_sub hl [0, 1, 3, 4, 5] rfl) hw hI hF (by omega) (by omega) (by omega) (hwg) (RK.st (fl := v26) hrk (by omega) n7 (by omega) (fun hf _ => ⟨⟨by show 0 ≤ (_ : Int32).toInt; omega, by show (_ : Int32).toInt < 12; omega⟩, by show 0 ≤ (_ : Int32).toInt; omega, by show (_ : Int32).toInt < 24; omega⟩)) (mv2 _ (by omega)) (GFl.st gf n7 (by omega) (Or.inr ⟨by omega, Or.inl (by omega)⟩)) (nd) (by rw [show (ig94 (B + 58) 288).toInt = _ from congrArg Int32.toInt (show ig94 (B + 58) 288 = ig27 (B + 58) 288 by rw [eig94, up2_c (by decide), eig85, up2_c (by decide)])]; omega) (by omega)
                    · refine lv_aload_n hx hb dX12_makesCopy_152 rfl (lv_at hl 5 rfl) ?_
                      refine r_get C hw (hsh 49 _ rfl) fl_X12_68 (oV_r rfl (hrm (49, 10, 55) (by decide))) dX12_makesCopy_153 ?_
                      refine lv_iload hx hb dX12_makesCopy_156 (lv_at hl 0 rfl) ?_
                      refine r_iald C hw (hsh 55 _ rfl) (by omega) (by omega) dX12_makesCopy_158 (ti_c (ig94 (B + 55) z72.toInt.toNat).toInt rfl fun z97 hz97 => ?_)
                      refine z_lt (tgt := 200) hx hb dX12_makesCopy_159 (by decide) (fun c159 => ?_) (fun c159 => ?_)
                      · refine lv_iconst (v := 0) hx hb dX12_makesCopy_200 (by decide) (ti_c 0 (by decide) fun z99 hz99 => ?_)
                        refine lv_istore (lv' := [(5, .int z99), (7, .int z72), (6, .int v25), (4, .int z22), (3, .int z17), (0, .ref (B + 49))]) hx hb dX12_makesCopy_201 hl (by decide) rfl (fun ls hl => ?_)
                        refine tc_inc hx hb dX12_makesCopy_203 hl (k := 2) rfl (by decide) (by decide) (fun z100 hz100 ls hl => ?_)
                        first | replace hz100 := hz100 (by omega) | clear hz100
                        have hl : lv_has ls 8 [(6, .int z100), (5, .int z99), (7, .int z72), (4, .int z22), (3, .int z17), (0, .ref (B + 49))] := hl
                        refine lv_goto (tgt := 59) hx hb dX12_makesCopy_206 (by decide) ?_
                        exact ih59 ls H locs ig94 lg28 z100 z99 (lv_sub hl [0, 1, 3, 4, 5] rfl) hw hI hF (by omega) (by omega) (by omega) (hwg) (RK.st (fl := v26) hrk (by omega) n7 (by omega) (fun hf _ => ⟨⟨by show 0 ≤ (_ : Int32).toInt; omega, by show (_ : Int32).toInt < 12; omega⟩, by show 0 ≤ (_ : Int32).toInt; omega, by show (_ : Int32).toInt < 24; omega⟩)) (mv2 _ (by omega)) (GFl.st gf n7 (by omega) (Or.inr ⟨by omega, Or.inr fun q => by have q1 := q k3; omega⟩)) (nd) (by rw [show (ig94 (B + 58) 288).toInt = _ from congrArg Int32.toInt (show ig94 (B + 58) 288 = ig27 (B + 58) 288 by rw [eig94, up2_c (by decide), eig85, up2_c (by decide)])]; omega) (by omega)
                      · refine lv_aload_n hx hb dX12_makesCopy_162 rfl (lv_at hl 5 rfl) ?_
                        refine r_get C hw (hsh 49 _ rfl) fl_X12_68 (oV_r rfl (hrm (49, 10, 55) (by decide))) dX12_makesCopy_163 ?_
                        refine lv_iload hx hb dX12_makesCopy_166 (lv_at hl 0 rfl) ?_
                        refine r_iald C hw (hsh 55 _ rfl) (by omega) (by omega) dX12_makesCopy_168 (ti_c (ig94 (B + 55) z72.toInt.toNat).toInt rfl fun z101 hz101 => ?_)
                        refine lv_bipush (v := 12) hx hb dX12_makesCopy_169 (by decide) (ti_c 12 (by decide) fun z103 hz103 => ?_)
                        refine b_ge (tgt := 200) hx hb dX12_makesCopy_171 (by decide) (fun c171 => ?_) (fun c171 => ?_)
                        · refine lv_iconst (v := 0) hx hb dX12_makesCopy_200 (by decide) (ti_c 0 (by decide) fun z104 hz104 => ?_)
                          refine lv_istore (lv' := [(5, .int z104), (7, .int z72), (6, .int v25), (4, .int z22), (3, .int z17), (0, .ref (B + 49))]) hx hb dX12_makesCopy_201 hl (by decide) rfl (fun ls hl => ?_)
                          refine tc_inc hx hb dX12_makesCopy_203 hl (k := 2) rfl (by decide) (by decide) (fun z105 hz105 ls hl => ?_)
                          first | replace hz105 := hz105 (by omega) | clear hz105
                          have hl : lv_has ls 8 [(6, .int z105), (5, .int z104), (7, .int z72), (4, .int z22), (3, .int z17), (0, .ref (B + 49))] := hl
                          refine lv_goto (tgt := 59) hx hb dX12_makesCopy_206 (by decide) ?_
                          exact ih59 ls H locs ig94 lg28 z105 z104 (lv_sub hl [0, 1, 3, 4, 5] rfl) hw hI hF (by omega) (by omega) (by omega) (hwg) (RK.st (fl := v26) hrk (by omega) n7 (by omega) (fun hf _ => ⟨⟨by show 0 ≤ (_ : Int32).toInt; omega, by show (_ : Int32).toInt < 12; omega⟩, by show 0 ≤ (_ : Int32).toInt; omega, by show (_ : Int32).toInt < 24; omega⟩)) (mv2 _ (by omega)) (GFl.st gf n7 (by omega) (Or.inr ⟨by omega, Or.inr fun q => by have q1 := q k3; omega⟩)) (nd) (by rw [show (ig94 (B + 58) 288).toInt = _ from congrArg Int32.toInt (show ig94 (B + 58) 288 = ig27 (B + 58) 288 by rw [eig94, up2_c (by decide), eig85, up2_c (by decide)])]; omega) (by omega)
                        · refine lv_aload_n hx hb dX12_makesCopy_174 rfl (lv_at hl 5 rfl) ?_
                          refine r_get C hw (hsh 49 _ rfl) fl_X12_71 (oV_r rfl (hrm (49, 11, 56) (by decide))) dX12_makesCopy_175 ?_
                          refine lv_iload hx hb dX12_makesCopy_178 (lv_at hl 0 rfl) ?_
                          refine r_iald C hw (hsh 56 _ rfl) (by omega) (by omega) dX12_makesCopy_180 (ti_c (ig94 (B + 56) z72.toInt.toNat).toInt rfl fun z106 hz106 => ?_)
                          refine z_lt (tgt := 200) hx hb dX12_makesCopy_181 (by decide) (fun c181 => ?_) (fun c181 => ?_)
                          · refine lv_iconst (v := 0) hx hb dX12_makesCopy_200 (by decide) (ti_c 0 (by decide) fun z108 hz108 => ?_)
                            refine lv_istore (lv' := [(5, .int z108), (7, .int z72), (6, .int v25), (4, .int z22), (3, .int z17), (0, .ref (B + 49))]) hx hb dX12_makesCopy_201 hl (by decide) rfl (fun ls hl => ?_)
                            refine tc_inc hx hb dX12_makesCopy_203 hl (k := 2) rfl (by decide) (by decide) (fun z109 hz109 ls hl => ?_)
                            first | replace hz109 := hz109 (by omega) | clear hz109
                            have hl : lv_has ls 8 [(6, .int z109), (5, .int z108), (7, .int z72), (4, .int z22), (3, .int z17), (0, .ref (B + 49))] := hl
                            refine lv_goto (tgt := 59) hx hb dX12_makesCopy_206 (by decide) ?_
                            exact ih59 ls H locs ig94 lg28 z109 z108 (lv_sub hl [0, 1, 3, 4, 5] rfl) hw hI hF (by omega) (by omega) (by omega) (hwg) (RK.st (fl := v26) hrk (by omega) n7 (by omega) (fun hf _ => ⟨⟨by show 0 ≤ (_ : Int32).toInt; omega, by show (_ : Int32).toInt < 12; omega⟩, by show 0 ≤ (_ : Int32).toInt; omega, by show (_ : Int32).toInt < 24; omega⟩)) (mv2 _ (by omega)) (GFl.st gf n7 (by omega) (Or.inr ⟨by omega, Or.inr fun q => by have q1 := q k3; omega⟩)) (nd) (by rw [show (ig94 (B + 58) 288).toInt = _ from congrArg Int32.toInt (show ig94 (B + 58) 288 = ig27 (B + 58) 288 by rw [eig94, up2_c (by decide), eig85, up2_c (by decide)])]; omega) (by omega)
                          · refine lv_aload_n hx hb dX12_makesCopy_184 rfl (lv_at hl 5 rfl) ?_
                            refine r_get C hw (hsh 49 _ rfl) fl_X12_71 (oV_r rfl (hrm (49, 11, 56) (by decide))) dX12_makesCopy_185 ?_
                            refine lv_iload hx hb dX12_makesCopy_188 (lv_at hl 0 rfl) ?_
                            refine r_iald C hw (hsh 56 _ rfl) (by omega) (by omega) dX12_makesCopy_190 (ti_c (ig94 (B + 56) z72.toInt.toNat).toInt rfl fun z110 hz110 => ?_)
                            refine lv_bipush (v := 24) hx hb dX12_makesCopy_191 (by decide) (ti_c 24 (by decide) fun z112 hz112 => ?_)
                            refine b_ge (tgt := 200) hx hb dX12_makesCopy_193 (by decide) (fun c193 => ?_) (fun c193 => ?_)
                            · refine lv_iconst (v := 0) hx hb dX12_makesCopy_200 (by decide) (ti_c 0 (by decide) fun z113 hz113 => ?_)
                              refine lv_istore (lv' := [(5, .int z113), (7, .int z72), (6, .int v25), (4, .int z22), (3, .int z17), (0, .ref (B + 49))]) hx hb dX12_makesCopy_201 hl (by decide) rfl (fun ls hl => ?_)
                              refine tc_inc hx hb dX12_makesCopy_203 hl (k := 2) rfl (by decide) (by decide) (fun z114 hz114 ls hl => ?_)
                              first | replace hz114 := hz114 (by omega) | clear hz114
                              have hl : lv_has ls 8 [(6, .int z114), (5, .int z113), (7, .int z72), (4, .int z22), (3, .int z17), (0, .ref (B + 49))] := hl
                              refine lv_goto (tgt := 59) hx hb dX12_makesCopy_206 (by decide) ?_
                              exact ih59 ls H locs ig94 lg28 z114 z113 (lv_sub hl [0, 1, 3, 4, 5] rfl) hw hI hF (by omega) (by omega) (by omega) (hwg) (RK.st (fl := v26) hrk (by omega) n7 (by omega) (fun hf _ => ⟨⟨by show 0 ≤ (_ : Int32).toInt; omega, by show (_ : Int32).toInt < 12; omega⟩, by show 0 ≤ (_ : Int32).toInt; omega, by show (_ : Int32).toInt < 24; omega⟩)) (mv2 _ (by omega)) (GFl.st gf n7 (by omega) (Or.inr ⟨by omega, Or.inr fun q => by have q1 := q k3; omega⟩)) (nd) (by rw [show (ig94 (B + 58) 288).toInt = _ from congrArg Int32.toInt (show ig94 (B + 58) 288 = ig27 (B + 58) 288 by rw [eig94, up2_c (by decide), eig85, up2_c (by decide)])]; omega) (by omega)
                            · refine lv_iconst (v := 1) hx hb dX12_makesCopy_196 (by decide) (ti_c 1 (by decide) fun z115 hz115 => ?_)
                              refine lv_goto (tgt := 201) hx hb dX12_makesCopy_197 (by decide) ?_
                              refine lv_istore (lv' := [(5, .int z115), (7, .int z72), (6, .int v25), (4, .int z22), (3, .int z17), (0, .ref (B + 49))]) hx hb dX12_makesCopy_201 hl (by decide) rfl (fun ls hl => ?_)
                              refine tc_inc hx hb dX12_makesCopy_203 hl (k := 2) rfl (by decide) (by decide) (fun z116 hz116 ls hl => ?_)
                              first | replace hz116 := hz116 (by omega) | clear hz116
                              have hl : lv_has ls 8 [(6, .int z116), (5, .int z115), (7, .int z72), (4, .int z22), (3, .int z17), (0, .ref (B + 49))] := hl
                              refine lv_goto (tgt := 59) hx hb dX12_makesCopy_206 (by decide) ?_
                              exact ih59 ls H locs ig94 lg28 z116 z115 (lv_sub hl [0, 1, 3, 4, 5] rfl) hw hI hF (by omega) (by omega) (by omega) (hwg) (RK.st (fl := v26) hrk (by omega) n7 (by omega) (fun hf _ => ⟨⟨by show 0 ≤ (_ : Int32).toInt; omega, by show (_ : Int32).toInt < 12; omega⟩, by show 0 ≤ (_ : Int32).toInt; omega, by show (_ : Int32).toInt < 24; omega⟩)) (mv2 _ (by omega)) (GFl.st gf n7 (by omega) (Or.inl ⟨by omega, by omega, fun _ => ⟨⟨by omega, by omega⟩, by omega, by omega⟩⟩)) (nd) (by rw [show (ig94 (B + 58) 288).toInt = _ from congrArg Int32.toInt (show ig94 (B + 58) 288 = ig27 (B + 58) 288 by rw [eig94, up2_c (by decide), eig85, up2_c (by decide)])]; omega) (by omega)
                  · refine lv_iconst (v := 0) hx hb dX12_makesCopy_139 (by decide) (ti_c 0 (by decide) fun z117 hz117 => ?_)
                    refine lv_goto (tgt := 145) hx hb dX12_makesCopy_140 (by decide) ?_
                    refine lv_iadd hx hb dX12_makesCopy_145 (tc_add fun z118 hz118 => ?_)
                    first | replace hz118 := hz118 (by omega) | clear hz118
                    refine r_iast C hw (hsh 56 _ rfl) (by omega) (by omega) dX12_makesCopy_146 (fun H locs hH hw => ?_)
                    obtain ⟨ig119, eig119⟩ : ∃ f, f = up2 ig85 (B + 56) z72.toInt.toNat z118 := ⟨_, rfl⟩
                    rw [← eig119] at hw
                    have hF : Ft B [54, 55, 56, 57, 58, 59, 60, 61] ig lg ig119 lg28 := by rw [eig119]; exact hF.pi (by decide)
                    have hI : IM τ φ none B kd ig119 rg := by rw [eig119]; exact hI.pdr2 (Or.inr rfl) n7 q6
                    have hwg : WG B ig119 := by rw [eig119]; exact WG.u hwg (by decide)
                    have hrk : RK B ig119 v25.toInt.toNat v26 := by rw [eig119]; exact RK.u hrk (Or.inr rfl) n7
                    have k3 : (ig119 (B + 54) z72.toInt.toNat).toInt = 3 := by rw [eig119, up2_c (by decide)]; exact k3
                    have gf : GFl B ig119 v25.toInt.toNat v26 := by rw [eig119]; exact gf.wr n7 (Or.inr rfl)
                    have nd : NDr B ig ig119 := by rw [eig119]; exact nd.wr (Or.inr (Or.inr ⟨by decide, by decide, by omega, by omega⟩))
                    have mv2 : ∀ k, k = v25.toInt.toNat + 1 → MV B ig10 ig119 (y.toInt % 12 - x.toInt % 12) (y.toInt / 12 - x.toInt / 12) k := fun k hk => by
                      rw [eig119, eig85]
                      exact MV.st mv n7 hk k3g ha9 (by omega)
                    try clear ha9; try clear a1; try clear a2; try clear hz14; try clear bz14; try clear hz16; try clear bz16; try clear hz19; try clear bz19; try clear hz21; try clear bz21
                    refine lv_iload hx hb dX12_makesCopy_147 (lv_at hl 2 rfl) ?_
                    refine z_eq (tgt := 200) hx hb dX12_makesCopy_149 (by decide) (fun c149 => ?_) (fun c149 => ?_)
                    · refine lv_iconst (v := 0) hx hb dX12_makesCopy_200 (by decide) (ti_c 0 (by decide) fun z120 hz120 => ?_)
                      refine lv_istore (lv' := [(5, .int z120), (7, .int z72), (6, .int v25), (4, .int z22), (3, .int z17), (0, .ref (B + 49))]) hx hb dX12_makesCopy_201 hl (by decide) rfl (fun ls hl => ?_)
                      refine tc_inc hx hb dX12_makesCopy_203 hl (k := 2) rfl (by decide) (by decide) (fun z121 hz121 ls hl => ?_)
                      first | replace hz121 := hz121 (by omega) | clear hz121
                      have hl : lv_has ls 8 [(6, .int z121), (5, .int z120), (7, .int z72), (4, .int z22), (3, .int z17), (0, .ref (B + 49))] := hl
                      refine lv_goto (tgt := 59) hx hb dX12_makesCopy_206 (by decide) ?_
                      exact ih59 ls H locs ig119 lg28 z121 z120 (lv_sub hl [0, 1, 3, 4, 5] rfl) hw hI hF (by omega) (by omega) (by omega) (hwg) (RK.st (fl := v26) hrk (by omega) n7 (by omega) (fun hf _ => ⟨⟨by show 0 ≤ (_ : Int32).toInt; omega, by show (_ : Int32).toInt < 12; omega⟩, by show 0 ≤ (_ : Int32).toInt; omega, by show (_ : Int32).toInt < 24; omega⟩)) (mv2 _ (by omega)) (GFl.st gf n7 (by omega) (Or.inr ⟨by omega, Or.inl (by omega)⟩)) (nd) (by rw [show (ig119 (B + 58) 288).toInt = _ from congrArg Int32.toInt (show ig119 (B + 58) 288 = ig27 (B + 58) 288 by rw [eig119, up2_c (by decide), eig85, up2_c (by decide)])]; omega) (by omega)
                    · refine lv_aload_n hx hb dX12_makesCopy_152 rfl (lv_at hl 5 rfl) ?_
                      refine r_get C hw (hsh 49 _ rfl) fl_X12_68 (oV_r rfl (hrm (49, 10, 55) (by decide))) dX12_makesCopy_153 ?_
                      refine lv_iload hx hb dX12_makesCopy_156 (lv_at hl 0 rfl) ?_
                      refine r_iald C hw (hsh 55 _ rfl) (by omega) (by omega) dX12_makesCopy_158 (ti_c (ig119 (B + 55) z72.toInt.toNat).toInt rfl fun z122 hz122 => ?_)
                      refine z_lt (tgt := 200) hx hb dX12_makesCopy_159 (by decide) (fun c159 => ?_) (fun c159 => ?_)
                      · refine lv_iconst (v := 0) hx hb dX12_makesCopy_200 (by decide) (ti_c 0 (by decide) fun z124 hz124 => ?_)
                        refine lv_istore (lv' := [(5, .int z124), (7, .int z72), (6, .int v25), (4, .int z22), (3, .int z17), (0, .ref (B + 49))]) hx hb dX12_makesCopy_201 hl (by decide) rfl (fun ls hl => ?_)
                        refine tc_inc hx hb dX12_makesCopy_203 hl (k := 2) rfl (by decide) (by decide) (fun z125 hz125 ls hl => ?_)
                        first | replace hz125 := hz125 (by omega) | clear hz125
                        have hl : lv_has ls 8 [(6, .int z125), (5, .int z124), (7, .int z72), (4, .int z22), (3, .int z17), (0, .ref (B + 49))] := hl
                        refine lv_goto (tgt := 59) hx hb dX12_makesCopy_206 (by decide) ?_
                        exact ih59 ls H locs ig119 lg28 z125 z124 (lv_sub hl [0, 1, 3, 4, 5] rfl) hw hI hF (by omega) (by omega) (by omega) (hwg) (RK.st (fl := v26) hrk (by omega) n7 (by omega) (fun hf _ => ⟨⟨by show 0 ≤ (_ : Int32).toInt; omega, by show (_ : Int32).toInt < 12; omega⟩, by show 0 ≤ (_ : Int32).toInt; omega, by show (_ : Int32).toInt < 24; omega⟩)) (mv2 _ (by omega)) (GFl.st gf n7 (by omega) (Or.inr ⟨by omega, Or.inr fun q => by have q1 := q k3; omega⟩)) (nd) (by rw [show (ig119 (B + 58) 288).toInt = _ from congrArg Int32.toInt (show ig119 (B + 58) 288 = ig27 (B + 58) 288 by rw [eig119, up2_c (by decide), eig85, up2_c (by decide)])]; omega) (by omega)
                      · refine lv_aload_n hx hb dX12_makesCopy_162 rfl (lv_at hl 5 rfl) ?_
                        refine r_get C hw (hsh 49 _ rfl) fl_X12_68 (oV_r rfl (hrm (49, 10, 55) (by decide))) dX12_makesCopy_163 ?_
                        refine lv_iload hx hb dX12_makesCopy_166 (lv_at hl 0 rfl) ?_
                        refine r_iald C hw (hsh 55 _ rfl) (by omega) (by omega) dX12_makesCopy_168 (ti_c (ig119 (B + 55) z72.toInt.toNat).toInt rfl fun z126 hz126 => ?_)
                        refine lv_bipush (v := 12) hx hb dX12_makesCopy_169 (by decide) (ti_c 12 (by decide) fun z128 hz128 => ?_)
                        refine b_ge (tgt := 200) hx hb dX12_makesCopy_171 (by decide) (fun c171 => ?_) (fun c171 => ?_)
                        · refine lv_iconst (v := 0) hx hb dX12_makesCopy_200 (by decide) (ti_c 0 (by decide) fun z129 hz129 => ?_)
                          refine lv_istore (lv' := [(5, .int z129), (7, .int z72), (6, .int v25), (4, .int z22), (3, .int z17), (0, .ref (B + 49))]) hx hb dX12_makesCopy_201 hl (by decide) rfl (fun ls hl => ?_)
                          refine tc_inc hx hb dX12_makesCopy_203 hl (k := 2) rfl (by decide) (by decide) (fun z130 hz130 ls hl => ?_)
                          first | replace hz130 := hz130 (by omega) | clear hz130
                          have hl : lv_has ls 8 [(6, .int z130), (5, .int z129), (7, .int z72), (4, .int z22), (3, .int z17), (0, .ref (B + 49))] := hl
                          refine lv_goto (tgt := 59) hx hb dX12_makesCopy_206 (by decide) ?_
                          exact ih59 ls H locs ig119 lg28 z130 z129 (lv_sub hl [0, 1, 3, 4, 5] rfl) hw hI hF (by omega) (by omega) (by omega) (hwg) (RK.st (fl := v26) hrk (by omega) n7 (by omega) (fun hf _ => ⟨⟨by show 0 ≤ (_ : Int32).toInt; omega, by show (_ : Int32).toInt < 12; omega⟩, by show 0 ≤ (_ : Int32).toInt; omega, by show (_ : Int32).toInt < 24; omega⟩)) (mv2 _ (by omega)) (GFl.st gf n7 (by omega) (Or.inr ⟨by omega, Or.inr fun q => by have q1 := q k3; omega⟩)) (nd) (by rw [show (ig119 (B + 58) 288).toInt = _ from congrArg Int32.toInt (show ig119 (B + 58) 288 = ig27 (B + 58) 288 by rw [eig119, up2_c (by decide), eig85, up2_c (by decide)])]; omega) (by omega)
                        · refine lv_aload_n hx hb dX12_makesCopy_174 rfl (lv_at hl 5 rfl) ?_
                          refine r_get C hw (hsh 49 _ rfl) fl_X12_71 (oV_r rfl (hrm (49, 11, 56) (by decide))) dX12_makesCopy_175 ?_
                          refine lv_iload hx hb dX12_makesCopy_178 (lv_at hl 0 rfl) ?_
                          refine r_iald C hw (hsh 56 _ rfl) (by omega) (by omega) dX12_makesCopy_180 (ti_c (ig119 (B + 56) z72.toInt.toNat).toInt rfl fun z131 hz131 => ?_)
                          refine z_lt (tgt := 200) hx hb dX12_makesCopy_181 (by decide) (fun c181 => ?_) (fun c181 => ?_)
                          · refine lv_iconst (v := 0) hx hb dX12_makesCopy_200 (by decide) (ti_c 0 (by decide) fun z133 hz133 => ?_)
                            refine lv_istore (lv' := [(5, .int z133), (7, .int z72), (6, .int v25), (4, .int z22), (3, .int z17), (0, .ref (B + 49))]) hx hb dX12_makesCopy_201 hl (by decide) rfl (fun ls hl => ?_)
                            refine tc_inc hx hb dX12_makesCopy_203 hl (k := 2) rfl (by decide) (by decide) (fun z134 hz134 ls hl => ?_)
                            first | replace hz134 := hz134 (by omega) | clear hz134
                            have hl : lv_has ls 8 [(6, .int z134), (5, .int z133), (7, .int z72), (4, .int z22), (3, .int z17), (0, .ref (B + 49))] := hl
                            refine lv_goto (tgt := 59) hx hb dX12_makesCopy_206 (by decide) ?_
                            exact ih59 ls H locs ig119 lg28 z134 z133 (lv_sub hl [0, 1, 3, 4, 5] rfl) hw hI hF (by omega) (by omega) (by omega) (hwg) (RK.st (fl := v26) hrk (by omega) n7 (by omega) (fun hf _ => ⟨⟨by show 0 ≤ (_ : Int32).toInt; omega, by show (_ : Int32).toInt < 12; omega⟩, by show 0 ≤ (_ : Int32).toInt; omega, by show (_ : Int32).toInt < 24; omega⟩)) (mv2 _ (by omega)) (GFl.st gf n7 (by omega) (Or.inr ⟨by omega, Or.inr fun q => by have q1 := q k3; omega⟩)) (nd) (by rw [show (ig119 (B + 58) 288).toInt = _ from congrArg Int32.toInt (show ig119 (B + 58) 288 = ig27 (B + 58) 288 by rw [eig119, up2_c (by decide), eig85, up2_c (by decide)])]; omega) (by omega)
                          · refine lv_aload_n hx hb dX12_makesCopy_184 rfl (lv_at hl 5 rfl) ?_
                            refine r_get C hw (hsh 49 _ rfl) fl_X12_71 (oV_r rfl (hrm (49, 11, 56) (by decide))) dX12_makesCopy_185 ?_
                            refine lv_iload hx hb dX12_makesCopy_188 (lv_at hl 0 rfl) ?_
                            refine r_iald C hw (hsh 56 _ rfl) (by omega) (by omega) dX12_makesCopy_190 (ti_c (ig119 (B + 56) z72.toInt.toNat).toInt rfl fun z135 hz135 => ?_)
                            refine lv_bipush (v := 24) hx hb dX12_makesCopy_191 (by decide) (ti_c 24 (by decide) fun z137 hz137 => ?_)
                            refine b_ge (tgt := 200) hx hb dX12_makesCopy_193 (by decide) (fun c193 => ?_) (fun c193 => ?_)
                            · refine lv_iconst (v := 0) hx hb dX12_makesCopy_200 (by decide) (ti_c 0 (by decide) fun z138 hz138 => ?_)
                              refine lv_istore (lv' := [(5, .int z138), (7, .int z72), (6, .int v25), (4, .int z22), (3, .int z17), (0, .ref (B + 49))]) hx hb dX12_makesCopy_201 hl (by decide) rfl (fun ls hl => ?_)
                              refine tc_inc hx hb dX12_makesCopy_203 hl (k := 2) rfl (by decide) (by decide) (fun z139 hz139 ls hl => ?_)
                              first | replace hz139 := hz139 (by omega) | clear hz139
                              have hl : lv_has ls 8 [(6, .int z139), (5, .int z138), (7, .int z72), (4, .int z22), (3, .int z17), (0, .ref (B + 49))] := hl
                              refine lv_goto (tgt := 59) hx hb dX12_makesCopy_206 (by decide) ?_
                              exact ih59 ls H locs ig119 lg28 z139 z138 (lv_sub hl [0, 1, 3, 4, 5] rfl) hw hI hF (by omega) (by omega) (by omega) (hwg) (RK.st (fl := v26) hrk (by omega) n7 (by omega) (fun hf _ => ⟨⟨by show 0 ≤ (_ : Int32).toInt; omega, by show (_ : Int32).toInt < 12; omega⟩, by show 0 ≤ (_ : Int32).toInt; omega, by show (_ : Int32).toInt < 24; omega⟩)) (mv2 _ (by omega)) (GFl.st gf n7 (by omega) (Or.inr ⟨by omega, Or.inr fun q => by have q1 := q k3; omega⟩)) (nd) (by rw [show (ig119 (B + 58) 288).toInt = _ from congrArg Int32.toInt (show ig119 (B + 58) 288 = ig27 (B + 58) 288 by rw [eig119, up2_c (by decide), eig85, up2_c (by decide)])]; omega) (by omega)
                            · refine lv_iconst (v := 1) hx hb dX12_makesCopy_196 (by decide) (ti_c 1 (by decide) fun z140 hz140 => ?_)
                              refine lv_goto (tgt := 201) hx hb dX12_makesCopy_197 (by decide) ?_
                              refine lv_istore (lv' := [(5, .int z140), (7, .int z72), (6, .int v25), (4, .int z22), (3, .int z17), (0, .ref (B + 49))]) hx hb dX12_makesCopy_201 hl (by decide) rfl (fun ls hl => ?_)
                              refine tc_inc hx hb dX12_makesCopy_203 hl (k := 2) rfl (by decide) (by decide) (fun z141 hz141 ls hl => ?_)
                              first | replace hz141 := hz141 (by omega) | clear hz141
                              have hl : lv_has ls 8 [(6, .int z141), (5, .int z140), (7, .int z72), (4, .int z22), (3, .int z17), (0, .ref (B + 49))] := hl
                              refine lv_goto (tgt := 59) hx hb dX12_makesCopy_206 (by decide) ?_
                              exact ih59 ls H locs ig119 lg28 z141 z140 (lv_sub hl [0, 1, 3, 4, 5] rfl) hw hI hF (by omega) (by omega) (by omega) (hwg) (RK.st (fl := v26) hrk (by omega) n7 (by omega) (fun hf _ => ⟨⟨by show 0 ≤ (_ : Int32).toInt; omega, by show (_ : Int32).toInt < 12; omega⟩, by show 0 ≤ (_ : Int32).toInt; omega, by show (_ : Int32).toInt < 24; omega⟩)) (mv2 _ (by omega)) (GFl.st gf n7 (by omega) (Or.inl ⟨by omega, by omega, fun _ => ⟨⟨by omega, by omega⟩, by omega, by omega⟩⟩)) (nd) (by rw [show (ig119 (B + 58) 288).toInt = _ from congrArg Int32.toInt (show ig119 (B + 58) 288 = ig27 (B + 58) 288 by rw [eig119, up2_c (by decide), eig85, up2_c (by decide)])]; omega) (by omega)
                · refine lv_iconst (v := 0) hx hb dX12_makesCopy_111 (by decide) (ti_c 0 (by decide) fun z142 hz142 => ?_)
                  refine lv_goto (tgt := 116) hx hb dX12_makesCopy_112 (by decide) ?_
                  refine lv_iadd hx hb dX12_makesCopy_116 (tc_add fun z143 hz143 => ?_)
                  first | replace hz143 := hz143 (by omega) | clear hz143
                  refine r_iast C hw (hsh 55 _ rfl) (by omega) (by omega) dX12_makesCopy_117 (fun H locs hH hw => ?_)
                  obtain ⟨ig144, eig144⟩ : ∃ f, f = up2 ig27 (B + 55) z72.toInt.toNat z143 := ⟨_, rfl⟩
                  rw [← eig144] at hw
                  have hF : Ft B [54, 55, 56, 57, 58, 59, 60, 61] ig lg ig144 lg28 := by rw [eig144]; exact hF.pi (by decide)
                  have hI : IM τ φ none B kd ig144 rg := by rw [eig144]; exact hI.pdr2 (Or.inl rfl) n7 q6
                  have hwg : WG B ig144 := by rw [eig144]; exact WG.uA g59_3 k3
                  have hrk : RK B ig144 v25.toInt.toNat v26 := by rw [eig144]; exact RK.u g59_4 (Or.inl rfl) n7
                  have k3 : (ig144 (B + 54) z72.toInt.toNat).toInt = 3 := by rw [eig144, up2_c (by decide)]; exact k3
                  have gf : GFl B ig144 v25.toInt.toNat v26 := by rw [eig144]; exact gf.wr n7 (Or.inl rfl)
                  have nd : NDr B ig ig144 := by rw [eig144]; exact nd.wr (Or.inr (Or.inr ⟨by decide, by decide, by omega, by omega⟩))
                  have ha9 : ((ig10 (B + 57) z72.toInt.toNat).toInt % 2 = 1 ∧ z143.toInt = (ig10 (B + 55) z72.toInt.toNat).toInt) ∨ ((ig10 (B + 57) z72.toInt.toNat).toInt % 2 = 0 ∧ z143.toInt = (ig10 (B + 55) z72.toInt.toNat).toInt + (y.toInt % 12 - x.toInt % 12)) := by omega
                  refine lv_aload_n hx hb dX12_makesCopy_118 rfl (lv_at hl 5 rfl) ?_
                  refine r_get C hw (hsh 49 _ rfl) fl_X12_71 (oV_r rfl (hrm (49, 11, 56) (by decide))) dX12_makesCopy_119 ?_
                  refine lv_iload hx hb dX12_makesCopy_122 (lv_at hl 0 rfl) ?_
                  refine lv_dup2_11 hx hb dX12_makesCopy_124 rfl rfl ?_
                  refine r_iald C hw (hsh 56 _ rfl) (by omega) (by omega) dX12_makesCopy_125 (ti_c (ig144 (B + 56) z72.toInt.toNat).toInt rfl fun z145 hz145 => ?_)
                  have eb : z145.toInt = (ig10 (B + 56) z72.toInt.toNat).toInt := by rw [hz145, eig144, up2_c (by decide), (MV.r mv n7).2]
                  refine lv_aload_n hx hb dX12_makesCopy_126 rfl (lv_at hl 5 rfl) ?_
                  refine r_get C hw (hsh 49 _ rfl) fl_X12_74 (oV_r rfl (hrm (49, 12, 57) (by decide))) dX12_makesCopy_127 ?_
                  refine lv_iload hx hb dX12_makesCopy_130 (lv_at hl 0 rfl) ?_
                  refine r_iald C hw (hsh 57 _ rfl) (by omega) (by omega) dX12_makesCopy_132 (ti_c (ig144 (B + 57) z72.toInt.toNat).toInt rfl fun z147 hz147 => ?_)
                  have ef2 : z147.toInt = (ig10 (B + 57) z72.toInt.toNat).toInt := by rw [hz147, eig144, up2_c (by decide), mv.1 57 _ (by decide) (by decide) (by decide) (by decide)]
                  refine lv_iconst (v := 2) hx hb dX12_makesCopy_133 (by decide) (ti_c 2 (by decide) fun z149 hz149 => ?_)
                  refine lv_iand hx hb dX12_makesCopy_134 (lv_topi fun z150 hz150 => ?_)
                  have a2 := and2 hz150 hz149 (by omega)
                  refine lv_iconst (v := 2) hx hb dX12_makesCopy_135 (by decide) (ti_c 2 (by decide) fun z151 hz151 => ?_)
                  refine b_ne (tgt := 143) hx hb dX12_makesCopy_136 (by decide) (fun c136 => ?_) (fun c136 => ?_)
                  · refine lv_iload hx hb dX12_makesCopy_143 (lv_at hl 3 rfl) ?_
                    refine lv_iadd hx hb dX12_makesCopy_145 (tc_add fun z152 hz152 => ?_)
                    first | replace hz152 := hz152 (by omega) | clear hz152
                    refine r_iast C hw (hsh 56 _ rfl) (by omega) (by omega) dX12_makesCopy_146 (fun H locs hH hw => ?_)
                    obtain ⟨ig153, eig153⟩ : ∃ f, f = up2 ig144 (B + 56) z72.toInt.toNat z152 := ⟨_, rfl⟩
                    rw [← eig153] at hw
                    have hF : Ft B [54, 55, 56, 57, 58, 59, 60, 61] ig lg ig153 lg28 := by rw [eig153]; exact hF.pi (by decide)
                    have hI : IM τ φ none B kd ig153 rg := by rw [eig153]; exact hI.pdr2 (Or.inr rfl) n7 q6
                    have hwg : WG B ig153 := by rw [eig153]; exact WG.u hwg (by decide)
                    have hrk : RK B ig153 v25.toInt.toNat v26 := by rw [eig153]; exact RK.u hrk (Or.inr rfl) n7
                    have k3 : (ig153 (B + 54) z72.toInt.toNat).toInt = 3 := by rw [eig153, up2_c (by decide)]; exact k3
                    have gf : GFl B ig153 v25.toInt.toNat v26 := by rw [eig153]; exact gf.wr n7 (Or.inr rfl)
                    have nd : NDr B ig ig153 := by rw [eig153]; exact nd.wr (Or.inr (Or.inr ⟨by decide, by decide, by omega, by omega⟩))
                    have mv2 : ∀ k, k = v25.toInt.toNat + 1 → MV B ig10 ig153 (y.toInt % 12 - x.toInt % 12) (y.toInt / 12 - x.toInt / 12) k := fun k hk => by
                      rw [eig153, eig144]
                      exact MV.st mv n7 hk k3g ha9 (by omega)
                    try clear ha9; try clear a1; try clear a2; try clear hz14; try clear bz14; try clear hz16; try clear bz16; try clear hz19; try clear bz19; try clear hz21; try clear bz21
                    refine lv_iload hx hb dX12_makesCopy_147 (lv_at hl 2 rfl) ?_
                    refine z_eq (tgt := 200) hx hb dX12_makesCopy_149 (by decide) (fun c149 => ?_) (fun c149 => ?_)
                    · refine lv_iconst (v := 0) hx hb dX12_makesCopy_200 (by decide) (ti_c 0 (by decide) fun z154 hz154 => ?_)
                      refine lv_istore (lv' := [(5, .int z154), (7, .int z72), (6, .int v25), (4, .int z22), (3, .int z17), (0, .ref (B + 49))]) hx hb dX12_makesCopy_201 hl (by decide) rfl (fun ls hl => ?_)
                      refine tc_inc hx hb dX12_makesCopy_203 hl (k := 2) rfl (by decide) (by decide) (fun z155 hz155 ls hl => ?_)
                      first | replace hz155 := hz155 (by omega) | clear hz155
                      have hl : lv_has ls 8 [(6, .int z155), (5, .int z154), (7, .int z72), (4, .int z22), (3, .int z17), (0, .ref (B + 49))] := hl
                      refine lv_goto (tgt := 59) hx hb dX12_makesCopy_206 (by decide) ?_
                      exact ih59 ls H locs ig153 lg28 z155 z154 (lv_sub hl [0, 1, 3, 4, 5] rfl) hw hI hF (by omega) (by omega) (by omega) (hwg) (RK.st (fl := v26) hrk (by omega) n7 (by omega) (fun hf _ => ⟨⟨by show 0 ≤ (_ : Int32).toInt; omega, by show (_ : Int32).toInt < 12; omega⟩, by show 0 ≤ (_ : Int32).toInt; omega, by show (_ : Int32).toInt < 24; omega⟩)) (mv2 _ (by omega)) (GFl.st gf n7 (by omega) (Or.inr ⟨by omega, Or.inl (by omega)⟩)) (nd) (by rw [show (ig153 (B + 58) 288).toInt = _ from congrArg Int32.toInt (show ig153 (B + 58) 288 = ig27 (B + 58) 288 by rw [eig153, up2_c (by decide), eig144, up2_c (by decide)])]; omega) (by omega)
                    · refine lv_aload_n hx hb dX12_makesCopy_152 rfl (lv_at hl 5 rfl) ?_
                      refine r_get C hw (hsh 49 _ rfl) fl_X12_68 (oV_r rfl (hrm (49, 10, 55) (by decide))) dX12_makesCopy_153 ?_
                      refine lv_iload hx hb dX12_makesCopy_156 (lv_at hl 0 rfl) ?_
                      refine r_iald C hw (hsh 55 _ rfl) (by omega) (by omega) dX12_makesCopy_158 (ti_c (ig153 (B + 55) z72.toInt.toNat).toInt rfl fun z156 hz156 => ?_)
                      refine z_lt (tgt := 200) hx hb dX12_makesCopy_159 (by decide) (fun c159 => ?_) (fun c159 => ?_)
                      · refine lv_iconst (v := 0) hx hb dX12_makesCopy_200 (by decide) (ti_c 0 (by decide) fun z158 hz158 => ?_)
                        refine lv_istore (lv' := [(5, .int z158), (7, .int z72), (6, .int v25), (4, .int z22), (3, .int z17), (0, .ref (B + 49))]) hx hb dX12_makesCopy_201 hl (by decide) rfl (fun ls hl => ?_)
                        refine tc_inc hx hb dX12_makesCopy_203 hl (k := 2) rfl (by decide) (by decide) (fun z159 hz159 ls hl => ?_)
                        first | replace hz159 := hz159 (by omega) | clear hz159
                        have hl : lv_has ls 8 [(6, .int z159), (5, .int z158), (7, .int z72), (4, .int z22), (3, .int z17), (0, .ref (B + 49))] := hl
                        refine lv_goto (tgt := 59) hx hb dX12_makesCopy_206 (by decide) ?_
                        exact ih59 ls H locs ig153 lg28 z159 z158 (lv_sub hl [0, 1, 3, 4, 5] rfl) hw hI hF (by omega) (by omega) (by omega) (hwg) (RK.st (fl := v26) hrk (by omega) n7 (by omega) (fun hf _ => ⟨⟨by show 0 ≤ (_ : Int32).toInt; omega, by show (_ : Int32).toInt < 12; omega⟩, by show 0 ≤ (_ : Int32).toInt; omega, by show (_ : Int32).toInt < 24; omega⟩)) (mv2 _ (by omega)) (GFl.st gf n7 (by omega) (Or.inr ⟨by omega, Or.inr fun q => by have q1 := q k3; omega⟩)) (nd) (by rw [show (ig153 (B + 58) 288).toInt = _ from congrArg Int32.toInt (show ig153 (B + 58) 288 = ig27 (B + 58) 288 by rw [eig153, up2_c (by decide), eig144, up2_c (by decide)])]; omega) (by omega)
                      · refine lv_aload_n hx hb dX12_makesCopy_162 rfl (lv_at hl 5 rfl) ?_
                        refine r_get C hw (hsh 49 _ rfl) fl_X12_68 (oV_r rfl (hrm (49, 10, 55) (by decide))) dX12_makesCopy_163 ?_
                        refine lv_iload hx hb dX12_makesCopy_166 (lv_at hl 0 rfl) ?_
                        refine r_iald C hw (hsh 55 _ rfl) (by omega) (by omega) dX12_makesCopy_168 (ti_c (ig153 (B + 55) z72.toInt.toNat).toInt rfl fun z160 hz160 => ?_)
                        refine lv_bipush (v := 12) hx hb dX12_makesCopy_169 (by decide) (ti_c 12 (by decide) fun z162 hz162 => ?_)
                        refine b_ge (tgt := 200) hx hb dX12_makesCopy_171 (by decide) (fun c171 => ?_) (fun c171 => ?_)
                        · refine lv_iconst (v := 0) hx hb dX12_makesCopy_200 (by decide) (ti_c 0 (by decide) fun z163 hz163 => ?_)
                          refine lv_istore (lv' := [(5, .int z163), (7, .int z72), (6, .int v25), (4, .int z22), (3, .int z17), (0, .ref (B + 49))]) hx hb dX12_makesCopy_201 hl (by decide) rfl (fun ls hl => ?_)
                          refine tc_inc hx hb dX12_makesCopy_203 hl (k := 2) rfl (by decide) (by decide) (fun z164 hz164 ls hl => ?_)
                          first | replace hz164 := hz164 (by omega) | clear hz164
                          have hl : lv_has ls 8 [(6, .int z164), (5, .int z163), (7, .int z72), (4, .int z22), (3, .int z17), (0, .ref (B + 49))] := hl
                          refine lv_goto (tgt := 59) hx hb dX12_makesCopy_206 (by decide) ?_
                          exact ih59 ls H locs ig153 lg28 z164 z163 (lv_sub hl [0, 1, 3, 4, 5] rfl) hw hI hF (by omega) (by omega) (by omega) (hwg) (RK.st (fl := v26) hrk (by omega) n7 (by omega) (fun hf _ => ⟨⟨by show 0 ≤ (_ : Int32).toInt; omega, by show (_ : Int32).toInt < 12; omega⟩, by show 0 ≤ (_ : Int32).toInt; omega, by show (_ : Int32).toInt < 24; omega⟩)) (mv2 _ (by omega)) (GFl.st gf n7 (by omega) (Or.inr ⟨by omega, Or.inr fun q => by have q1 := q k3; omega⟩)) (nd) (by rw [show (ig153 (B + 58) 288).toInt = _ from congrArg Int32.toInt (show ig153 (B + 58) 288 = ig27 (B + 58) 288 by rw [eig153, up2_c (by decide), eig144, up2_c (by decide)])]; omega) (by omega)
                        · refine lv_aload_n hx hb dX12_makesCopy_174 rfl (lv_at hl 5 rfl) ?_
                          refine r_get C hw (hsh 49 _ rfl) fl_X12_71 (oV_r rfl (hrm (49, 11, 56) (by decide))) dX12_makesCopy_175 ?_
                          refine lv_iload hx hb dX12_makesCopy_178 (lv_at hl 0 rfl) ?_
                          refine r_iald C hw (hsh 56 _ rfl) (by omega) (by omega) dX12_makesCopy_180 (ti_c (ig153 (B + 56) z72.toInt.toNat).toInt rfl fun z165 hz165 => ?_)
                          refine z_lt (tgt := 200) hx hb dX12_makesCopy_181 (by decide) (fun c181 => ?_) (fun c181 => ?_)
                          · refine lv_iconst (v := 0) hx hb dX12_makesCopy_200 (by decide) (ti_c 0 (by decide) fun z167 hz167 => ?_)
                            refine lv_istore (lv' := [(5, .int z167), (7, .int z72), (6, .int v25), (4, .int z22), (3, .int z17), (0, .ref (B + 49))]) hx hb dX12_makesCopy_201 hl (by decide) rfl (fun ls hl => ?_)
                            refine tc_inc hx hb dX12_makesCopy_203 hl (k := 2) rfl (by decide) (by decide) (fun z168 hz168 ls hl => ?_)
                            first | replace hz168 := hz168 (by omega) | clear hz168
                            have hl : lv_has ls 8 [(6, .int z168), (5, .int z167), (7, .int z72), (4, .int z22), (3, .int z17), (0, .ref (B + 49))] := hl
                            refine lv_goto (tgt := 59) hx hb dX12_makesCopy_206 (by decide) ?_
                            exact ih59 ls H locs ig153 lg28 z168 z167 (lv_sub hl [0, 1, 3, 4, 5] rfl) hw hI hF (by omega) (by omega) (by omega) (hwg) (RK.st (fl := v26) hrk (by omega) n7 (by omega) (fun hf _ => ⟨⟨by show 0 ≤ (_ : Int32).toInt; omega, by show (_ : Int32).toInt < 12; omega⟩, by show 0 ≤ (_ : Int32).toInt; omega, by show (_ : Int32).toInt < 24; omega⟩)) (mv2 _ (by omega)) (GFl.st gf n7 (by omega) (Or.inr ⟨by omega, Or.inr fun q => by have q1 := q k3; omega⟩)) (nd) (by rw [show (ig153 (B + 58) 288).toInt = _ from congrArg Int32.toInt (show ig153 (B + 58) 288 = ig27 (B + 58) 288 by rw [eig153, up2_c (by decide), eig144, up2_c (by decide)])]; omega) (by omega)
                          · refine lv_aload_n hx hb dX12_makesCopy_184 rfl (lv_at hl 5 rfl) ?_
                            refine r_get C hw (hsh 49 _ rfl) fl_X12_71 (oV_r rfl (hrm (49, 11, 56) (by decide))) dX12_makesCopy_185 ?_
                            refine lv_iload hx hb dX12_makesCopy_188 (lv_at hl 0 rfl) ?_
                            refine r_iald C hw (hsh 56 _ rfl) (by omega) (by omega) dX12_makesCopy_190 (ti_c (ig153 (B + 56) z72.toInt.toNat).toInt rfl fun z169 hz169 => ?_)
                            refine lv_bipush (v := 24) hx hb dX12_makesCopy_191 (by decide) (ti_c 24 (by decide) fun z171 hz171 => ?_)
                            refine b_ge (tgt := 200) hx hb dX12_makesCopy_193 (by decide) (fun c193 => ?_) (fun c193 => ?_)
                            · refine lv_iconst (v := 0) hx hb dX12_makesCopy_200 (by decide) (ti_c 0 (by decide) fun z172 hz172 => ?_)
                              refine lv_istore (lv' := [(5, .int z172), (7, .int z72), (6, .int v25), (4, .int z22), (3, .int z17), (0, .ref (B + 49))]) hx hb dX12_makesCopy_201 hl (by decide) rfl (fun ls hl => ?_)
                              refine tc_inc hx hb dX12_makesCopy_203 hl (k := 2) rfl (by decide) (by decide) (fun z173 hz173 ls hl => ?_)
                              first | replace hz173 := hz173 (by omega) | clear hz173
                              have hl : lv_has ls 8 [(6, .int z173), (5, .int z172), (7, .int z72), (4, .int z22), (3, .int z17), (0, .ref (B + 49))] := hl
                              refine lv_goto (tgt := 59) hx hb dX12_makesCopy_206 (by decide) ?_
                              exact ih59 ls H locs ig153 lg28 z173 z172 (lv_sub hl [0, 1, 3, 4, 5] rfl) hw hI hF (by omega) (by omega) (by omega) (hwg) (RK.st (fl := v26) hrk (by omega) n7 (by omega) (fun hf _ => ⟨⟨by show 0 ≤ (_ : Int32).toInt; omega, by show (_ : Int32).toInt < 12; omega⟩, by show 0 ≤ (_ : Int32).toInt; omega, by show (_ : Int32).toInt < 24; omega⟩)) (mv2 _ (by omega)) (GFl.st gf n7 (by omega) (Or.inr ⟨by omega, Or.inr fun q => by have q1 := q k3; omega⟩)) (nd) (by rw [show (ig153 (B + 58) 288).toInt = _ from congrArg Int32.toInt (show ig153 (B + 58) 288 = ig27 (B + 58) 288 by rw [eig153, up2_c (by decide), eig144, up2_c (by decide)])]; omega) (by omega)
                            · refine lv_iconst (v := 1) hx hb dX12_makesCopy_196 (by decide) (ti_c 1 (by decide) fun z174 hz174 => ?_)
                              refine lv_goto (tgt := 201) hx hb dX12_makesCopy_197 (by decide) ?_
                              refine lv_istore (lv' := [(5, .int z174), (7, .int z72), (6, .int v25), (4, .int z22), (3, .int z17), (0, .ref (B + 49))]) hx hb dX12_makesCopy_201 hl (by decide) rfl (fun ls hl => ?_)
                              refine tc_inc hx hb dX12_makesCopy_203 hl (k := 2) rfl (by decide) (by decide) (fun z175 hz175 ls hl => ?_)
                              first | replace hz175 := hz175 (by omega) | clear hz175
                              have hl : lv_has ls 8 [(6, .int z175), (5, .int z174), (7, .int z72), (4, .int z22), (3, .int z17), (0, .ref (B + 49))] := hl
                              refine lv_goto (tgt := 59) hx hb dX12_makesCopy_206 (by decide) ?_
                              exact ih59 ls H locs ig153 lg28 z175 z174 (lv_sub hl [0, 1, 3, 4, 5] rfl) hw hI hF (by omega) (by omega) (by omega) (hwg) (RK.st (fl := v26) hrk (by omega) n7 (by omega) (fun hf _ => ⟨⟨by show 0 ≤ (_ : Int32).toInt; omega, by show (_ : Int32).toInt < 12; omega⟩, by show 0 ≤ (_ : Int32).toInt; omega, by show (_ : Int32).toInt < 24; omega⟩)) (mv2 _ (by omega)) (GFl.st gf n7 (by omega) (Or.inl ⟨by omega, by omega, fun _ => ⟨⟨by omega, by omega⟩, by omega, by omega⟩⟩)) (nd) (by rw [show (ig153 (B + 58) 288).toInt = _ from congrArg Int32.toInt (show ig153 (B + 58) 288 = ig27 (B + 58) 288 by rw [eig153, up2_c (by decide), eig144, up2_c (by decide)])]; omega) (by omega)
                  · refine lv_iconst (v := 0) hx hb dX12_makesCopy_139 (by decide) (ti_c 0 (by decide) fun z176 hz176 => ?_)
                    refine lv_goto (tgt := 145) hx hb dX12_makesCopy_140 (by decide) ?_
                    refine lv_iadd hx hb dX12_makesCopy_145 (tc_add fun z177 hz177 => ?_)
                    first | replace hz177 := hz177 (by omega) | clear hz177
                    refine r_iast C hw (hsh 56 _ rfl) (by omega) (by omega) dX12_makesCopy_146 (fun H locs hH hw => ?_)
                    obtain ⟨ig178, eig178⟩ : ∃ f, f = up2 ig144 (B + 56) z72.toInt.toNat z177 := ⟨_, rfl⟩
                    rw [← eig178] at hw
                    have hF : Ft B [54, 55, 56, 57, 58, 59, 60, 61] ig lg ig178 lg28 := by rw [eig178]; exact hF.pi (by decide)
                    have hI : IM τ φ none B kd ig178 rg := by rw [eig178]; exact hI.pdr2 (Or.inr rfl) n7 q6
                    have hwg : WG B ig178 := by rw [eig178]; exact WG.u hwg (by decide)
                    have hrk : RK B ig178 v25.toInt.toNat v26 := by rw [eig178]; exact RK.u hrk (Or.inr rfl) n7
                    have k3 : (ig178 (B + 54) z72.toInt.toNat).toInt = 3 := by rw [eig178, up2_c (by decide)]; exact k3
                    have gf : GFl B ig178 v25.toInt.toNat v26 := by rw [eig178]; exact gf.wr n7 (Or.inr rfl)
                    have nd : NDr B ig ig178 := by rw [eig178]; exact nd.wr (Or.inr (Or.inr ⟨by decide, by decide, by omega, by omega⟩))
                    have mv2 : ∀ k, k = v25.toInt.toNat + 1 → MV B ig10 ig178 (y.toInt % 12 - x.toInt % 12) (y.toInt / 12 - x.toInt / 12) k := fun k hk => by
                      rw [eig178, eig144]
                      exact MV.st mv n7 hk k3g ha9 (by omega)
                    try clear ha9; try clear a1; try clear a2; try clear hz14; try clear bz14; try clear hz16; try clear bz16; try clear hz19; try clear bz19; try clear hz21; try clear bz21
                    refine lv_iload hx hb dX12_makesCopy_147 (lv_at hl 2 rfl) ?_
                    refine z_eq (tgt := 200) hx hb dX12_makesCopy_149 (by decide) (fun c149 => ?_) (fun c149 => ?_)
                    · refine lv_iconst (v := 0) hx hb dX12_makesCopy_200 (by decide) (ti_c 0 (by decide) fun z179 hz179 => ?_)
                      refine lv_istore (lv' := [(5, .int z179), (7, .int z72), (6, .int v25), (4, .int z22), (3, .int z17), (0, .ref (B + 49))]) hx hb dX12_makesCopy_201 hl (by decide) rfl (fun ls hl => ?_)
                      refine tc_inc hx hb dX12_makesCopy_203 hl (k := 2) rfl (by decide) (by decide) (fun z180 hz180 ls hl => ?_)
                      first | replace hz180 := hz180 (by omega) | clear hz180
                      have hl : lv_has ls 8 [(6, .int z180), (5, .int z179), (7, .int z72), (4, .int z22), (3, .int z17), (0, .ref (B + 49))] := hl
                      refine lv_goto (tgt := 59) hx hb dX12_makesCopy_206 (by decide) ?_
                      exact ih59 ls H locs ig178 lg28 z180 z179 (lv_sub hl [0, 1, 3, 4, 5] rfl) hw hI hF (by omega) (by omega) (by omega) (hwg) (RK.st (fl := v26) hrk (by omega) n7 (by omega) (fun hf _ => ⟨⟨by show 0 ≤ (_ : Int32).toInt; omega, by show (_ : Int32).toInt < 12; omega⟩, by show 0 ≤ (_ : Int32).toInt; omega, by show (_ : Int32).toInt < 24; omega⟩)) (mv2 _ (by omega)) (GFl.st gf n7 (by omega) (Or.inr ⟨by omega, Or.inl (by omega)⟩)) (nd) (by rw [show (ig178 (B + 58) 288).toInt = _ from congrArg Int32.toInt (show ig178 (B + 58) 288 = ig27 (B + 58) 288 by rw [eig178, up2_c (by decide), eig144, up2_c (by decide)])]; omega) (by omega)
                    · refine lv_aload_n hx hb dX12_makesCopy_152 rfl (lv_at hl 5 rfl) ?_
                      refine r_get C hw (hsh 49 _ rfl) fl_X12_68 (oV_r rfl (hrm (49, 10, 55) (by decide))) dX12_makesCopy_153 ?_
                      refine lv_iload hx hb dX12_makesCopy_156 (lv_at hl 0 rfl) ?_
                      refine r_iald C hw (hsh 55 _ rfl) (by omega) (by omega) dX12_makesCopy_158 (ti_c (ig178 (B + 55) z72.toInt.toNat).toInt rfl fun z181 hz181 => ?_)
                      refine z_lt (tgt := 200) hx hb dX12_makesCopy_159 (by decide) (fun c159 => ?_) (fun c159 => ?_)
                      · refine lv_iconst (v := 0) hx hb dX12_makesCopy_200 (by decide) (ti_c 0 (by decide) fun z183 hz183 => ?_)
                        refine lv_istore (lv' := [(5, .int z183), (7, .int z72), (6, .int v25), (4, .int z22), (3, .int z17), (0, .ref (B + 49))]) hx hb dX12_makesCopy_201 hl (by decide) rfl (fun ls hl => ?_)
                        refine tc_inc hx hb dX12_makesCopy_203 hl (k := 2) rfl (by decide) (by decide) (fun z184 hz184 ls hl => ?_)
                        first | replace hz184 := hz184 (by omega) | clear hz184
                        have hl : lv_has ls 8 [(6, .int z184), (5, .int z183), (7, .int z72), (4, .int z22), (3, .int z17), (0, .ref (B + 49))] := hl
                        refine lv_goto (tgt := 59) hx hb dX12_makesCopy_206 (by decide) ?_
                        exact ih59 ls H locs ig178 lg28 z184 z183 (lv_sub hl [0, 1, 3, 4, 5] rfl) hw hI hF (by omega) (by omega) (by omega) (hwg) (RK.st (fl := v26) hrk (by omega) n7 (by omega) (fun hf _ => ⟨⟨by show 0 ≤ (_ : Int32).toInt; omega, by show (_ : Int32).toInt < 12; omega⟩, by show 0 ≤ (_ : Int32).toInt; omega, by show (_ : Int32).toInt < 24; omega⟩)) (mv2 _ (by omega)) (GFl.st gf n7 (by omega) (Or.inr ⟨by omega, Or.inr fun q => by have q1 := q k3; omega⟩)) (nd) (by rw [show (ig178 (B + 58) 288).toInt = _ from congrArg Int32.toInt (show ig178 (B + 58) 288 = ig27 (B + 58) 288 by rw [eig178, up2_c (by decide), eig144, up2_c (by decide)])]; omega) (by omega)
                      · refine lv_aload_n hx hb dX12_makesCopy_162 rfl (lv_at hl 5 rfl) ?_
                        refine r_get C hw (hsh 49 _ rfl) fl_X12_68 (oV_r rfl (hrm (49, 10, 55) (by decide))) dX12_makesCopy_163 ?_
                        refine lv_iload hx hb dX12_makesCopy_166 (lv_at hl 0 rfl) ?_
                        refine r_iald C hw (hsh 55 _ rfl) (by omega) (by omega) dX12_makesCopy_168 (ti_c (ig178 (B + 55) z72.toInt.toNat).toInt rfl fun z185 hz185 => ?_)
                        refine lv_bipush (v := 12) hx hb dX12_makesCopy_169 (by decide) (ti_c 12 (by decide) fun z187 hz187 => ?_)
                        refine b_ge (tgt := 200) hx hb dX12_makesCopy_171 (by decide) (fun c171 => ?_) (fun c171 => ?_)
                        · refine lv_iconst (v := 0) hx hb dX12_makesCopy_200 (by decide) (ti_c 0 (by decide) fun z188 hz188 => ?_)
                          refine lv_istore (lv' := [(5, .int z188), (7, .int z72), (6, .int v25), (4, .int z22), (3, .int z17), (0, .ref (B + 49))]) hx hb dX12_makesCopy_201 hl (by decide) rfl (fun ls hl => ?_)
                          refine tc_inc hx hb dX12_makesCopy_203 hl (k := 2) rfl (by decide) (by decide) (fun z189 hz189 ls hl => ?_)
                          first | replace hz189 := hz189 (by omega) | clear hz189
                          have hl : lv_has ls 8 [(6, .int z189), (5, .int z188), (7, .int z72), (4, .int z22), (3, .int z17), (0, .ref (B + 49))] := hl
                          refine lv_goto (tgt := 59) hx hb dX12_makesCopy_206 (by decide) ?_
                          exact ih59 ls H locs ig178 lg28 z189 z188 (lv_sub hl [0, 1, 3, 4, 5] rfl) hw hI hF (by omega) (by omega) (by omega) (hwg) (RK.st (fl := v26) hrk (by omega) n7 (by omega) (fun hf _ => ⟨⟨by show 0 ≤ (_ : Int32).toInt; omega, by show (_ : Int32).toInt < 12; omega⟩, by show 0 ≤ (_ : Int32).toInt; omega, by show (_ : Int32).toInt < 24; omega⟩)) (mv2 _ (by omega)) (GFl.st gf n7 (by omega) (Or.inr ⟨by omega, Or.inr fun q => by have q1 := q k3; omega⟩)) (nd) (by rw [show (ig178 (B + 58) 288).toInt = _ from congrArg Int32.toInt (show ig178 (B + 58) 288 = ig27 (B + 58) 288 by rw [eig178, up2_c (by decide), eig144, up2_c (by decide)])]; omega) (by omega)
                        · refine lv_aload_n hx hb dX12_makesCopy_174 rfl (lv_at hl 5 rfl) ?_
                          refine r_get C hw (hsh 49 _ rfl) fl_X12_71 (oV_r rfl (hrm (49, 11, 56) (by decide))) dX12_makesCopy_175 ?_
                          refine lv_iload hx hb dX12_makesCopy_178 (lv_at hl 0 rfl) ?_
                          refine r_iald C hw (hsh 56 _ rfl) (by omega) (by omega) dX12_makesCopy_180 (ti_c (ig178 (B + 56) z72.toInt.toNat).toInt rfl fun z190 hz190 => ?_)
                          refine z_lt (tgt := 200) hx hb dX12_makesCopy_181 (by decide) (fun c181 => ?_) (fun c181 => ?_)
                          · refine lv_iconst (v := 0) hx hb dX12_makesCopy_200 (by decide) (ti_c 0 (by decide) fun z192 hz192 => ?_)
                            refine lv_istore (lv' := [(5, .int z192), (7, .int z72), (6, .int v25), (4, .int z22), (3, .int z17), (0, .ref (B + 49))]) hx hb dX12_makesCopy_201 hl (by decide) rfl (fun ls hl => ?_)
                            refine tc_inc hx hb dX12_makesCopy_203 hl (k := 2) rfl (by decide) (by decide) (fun z193 hz193 ls hl => ?_)
                            first | replace hz193 := hz193 (by omega) | clear hz193
                            have hl : lv_has ls 8 [(6, .int z193), (5, .int z192), (7, .int z72), (4, .int z22), (3, .int z17), (0, .ref (B + 49))] := hl
                            refine lv_goto (tgt := 59) hx hb dX12_makesCopy_206 (by decide) ?_
                            exact ih59 ls H locs ig178 lg28 z193 z192 (lv_sub hl [0, 1, 3, 4, 5] rfl) hw hI hF (by omega) (by omega) (by omega) (hwg) (RK.st (fl := v26) hrk (by omega) n7 (by omega) (fun hf _ => ⟨⟨by show 0 ≤ (_ : Int32).toInt; omega, by show (_ : Int32).toInt < 12; omega⟩, by show 0 ≤ (_ : Int32).toInt; omega, by show (_ : Int32).toInt < 24; omega⟩)) (mv2 _ (by omega)) (GFl.st gf n7 (by omega) (Or.inr ⟨by omega, Or.inr fun q => by have q1 := q k3; omega⟩)) (nd) (by rw [show (ig178 (B + 58) 288).toInt = _ from congrArg Int32.toInt (show ig178 (B + 58) 288 = ig27 (B + 58) 288 by rw [eig178, up2_c (by decide), eig144, up2_c (by decide)])]; omega) (by omega)
                          · refine lv_aload_n hx hb dX12_makesCopy_184 rfl (lv_at hl 5 rfl) ?_
                            refine r_get C hw (hsh 49 _ rfl) fl_X12_71 (oV_r rfl (hrm (49, 11, 56) (by decide))) dX12_makesCopy_185 ?_
                            refine lv_iload hx hb dX12_makesCopy_188 (lv_at hl 0 rfl) ?_
                            refine r_iald C hw (hsh 56 _ rfl) (by omega) (by omega) dX12_makesCopy_190 (ti_c (ig178 (B + 56) z72.toInt.toNat).toInt rfl fun z194 hz194 => ?_)
                            refine lv_bipush (v := 24) hx hb dX12_makesCopy_191 (by decide) (ti_c 24 (by decide) fun z196 hz196 => ?_)
                            refine b_ge (tgt := 200) hx hb dX12_makesCopy_193 (by decide) (fun c193 => ?_) (fun c193 => ?_)
                            · refine lv_iconst (v := 0) hx hb dX12_makesCopy_200 (by decide) (ti_c 0 (by decide) fun z197 hz197 => ?_)
                              refine lv_istore (lv' := [(5, .int z197), (7, .int z72), (6, .int v25), (4, .int z22), (3, .int z17), (0, .ref (B + 49))]) hx hb dX12_makesCopy_201 hl (by decide) rfl (fun ls hl => ?_)
                              refine tc_inc hx hb dX12_makesCopy_203 hl (k := 2) rfl (by decide) (by decide) (fun z198 hz198 ls hl => ?_)
                              first | replace hz198 := hz198 (by omega) | clear hz198
                              have hl : lv_has ls 8 [(6, .int z198), (5, .int z197), (7, .int z72), (4, .int z22), (3, .int z17), (0, .ref (B + 49))] := hl
                              refine lv_goto (tgt := 59) hx hb dX12_makesCopy_206 (by decide) ?_
                              exact ih59 ls H locs ig178 lg28 z198 z197 (lv_sub hl [0, 1, 3, 4, 5] rfl) hw hI hF (by omega) (by omega) (by omega) (hwg) (RK.st (fl := v26) hrk (by omega) n7 (by omega) (fun hf _ => ⟨⟨by show 0 ≤ (_ : Int32).toInt; omega, by show (_ : Int32).toInt < 12; omega⟩, by show 0 ≤ (_ : Int32).toInt; omega, by show (_ : Int32).toInt < 24; omega⟩)) (mv2 _ (by omega)) (GFl.st gf n7 (by omega) (Or.inr ⟨by omega, Or.inr fun q => by have q1 := q k3; omega⟩)) (nd) (by rw [show (ig178 (B + 58) 288).toInt = _ from congrArg Int32.toInt (show ig178 (B + 58) 288 = ig27 (B + 58) 288 by rw [eig178, up2_c (by decide), eig144, up2_c (by decide)])]; omega) (by omega)
                            · refine lv_iconst (v := 1) hx hb dX12_makesCopy_196 (by decide) (ti_c 1 (by decide) fun z199 hz199 => ?_)
                              refine lv_goto (tgt := 201) hx hb dX12_makesCopy_197 (by decide) ?_
                              refine lv_istore (lv' := [(5, .int z199), (7, .int z72), (6, .int v25), (4, .int z22), (3, .int z17), (0, .ref (B + 49))]) hx hb dX12_makesCopy_201 hl (by decide) rfl (fun ls hl => ?_)
                              refine tc_inc hx hb dX12_makesCopy_203 hl (k := 2) rfl (by decide) (by decide) (fun z200 hz200 ls hl => ?_)
                              first | replace hz200 := hz200 (by omega) | clear hz200
                              have hl : lv_has ls 8 [(6, .int z200), (5, .int z199), (7, .int z72), (4, .int z22), (3, .int z17), (0, .ref (B + 49))] := hl
                              refine lv_goto (tgt := 59) hx hb dX12_makesCopy_206 (by decide) ?_
                              exact ih59 ls H locs ig178 lg28 z200 z199 (lv_sub hl [0, 1, 3, 4, 5] rfl) hw hI hF (by omega) (by omega) (by omega) (hwg) (RK.st (fl := v26) hrk (by omega) n7 (by omega) (fun hf _ => ⟨⟨by show 0 ≤ (_ : Int32).toInt; omega, by show (_ : Int32).toInt < 12; omega⟩, by show 0 ≤ (_ : Int32).toInt; omega, by show (_ : Int32).toInt < 24; omega⟩)) (mv2 _ (by omega)) (GFl.st gf n7 (by omega) (Or.inl ⟨by omega, by omega, fun _ => ⟨⟨by omega, by omega⟩, by omega, by omega⟩⟩)) (nd) (by rw [show (ig178 (B + 58) 288).toInt = _ from congrArg Int32.toInt (show ig178 (B + 58) 288 = ig27 (B + 58) 288 by rw [eig178, up2_c (by decide), eig144, up2_c (by decide)])]; omega) (by omega)
        exact L59 ((120 - z24.toInt) + 1).toNat ls H locs ig10 lg11 z24 z23 (lv_sub hl [0, 1, 2, 3, 4] rfl) hw hI hF (by omega) (by omega) (by omega) (hwg) (RK.z (by omega)) (by rw [show z24.toInt.toNat = 0 by omega]; exact MV.z) (GFl.z (by omega) (by omega)) (nd) (by have q := (hI.its (j := 288) (by decide)).1; omega) (by omega)
      · refine lv_aload_n hx hb dX12_makesCopy_15 rfl (lv_at hl 1 rfl) ?_
        refine r_get C hw (hsh 49 _ rfl) fl_X12_86 (oV_r rfl (hrm (49, 17, 61) (by decide))) dX12_makesCopy_16 ?_
        refine lv_sipush (v := 864) hx hb dX12_makesCopy_19 (by decide) (ti_c 864 (by decide) fun z201 hz201 => ?_)
        refine lv_iload_n hx hb dX12_makesCopy_22 rfl (lv_at hl 0 rfl) ?_
        refine lv_iadd hx hb dX12_makesCopy_23 (tc_add fun z202 hz202 => ?_)
        first | replace hz202 := hz202 (by omega) | clear hz202
        refine lv_iconst (v := 0) hx hb dX12_makesCopy_24 (by decide) (ti_c 0 (by decide) fun z203 hz203 => ?_)
        refine r_iast C hw (hsh 61 _ rfl) (by omega) (by omega) dX12_makesCopy_25 (fun H locs hH hw => ?_)
        obtain ⟨ig204, eig204⟩ : ∃ f, f = up2 ig10 (B + 61) z202.toInt.toNat z203 := ⟨_, rfl⟩
        rw [← eig204] at hw
        have hF : Ft B [54, 55, 56, 57, 58, 59, 60, 61] ig lg ig204 lg11 := by rw [eig204]; exact hF.pi (by decide)
        have hI : IM τ φ none B kd ig204 rg := by rw [eig204]; exact hI.pi (by decide) (show okR none _ from trivial)
        have hwg : WG B ig204 := by rw [eig204]; exact WG.u hwg (by decide)
        have nd : NDr B ig ig204 := by rw [eig204]; exact nd.wr (Or.inr (Or.inl ⟨rfl, by omega, by omega⟩))
        have uu1 : ∀ c j, 54 ≤ c → c ≤ 60 → ig204 (B + c) j = ig3 (B + c) j := fun c j a b => by rw [eig204, up2_c (by omega)]; exact uu1 c j a b
        have uu2 : ∀ u : Nat, (u : Int) < v9.toInt + 1 → (ig204 (B + 61) (864 + u)).toInt = 0 := fun u hu => by rw [eig204]; by_cases e9 : (u : Int) = v9.toInt; (rw [show 864 + u = z202.toInt.toNat by omega, up2_eq]; exact hz203); (rw [up2_j (by omega)]; exact uu2 u (by omega))
        refine tc_inc hx hb dX12_makesCopy_26 hl (k := 0) rfl (by decide) (by decide) (fun z205 hz205 ls hl => ?_)
        first | replace hz205 := hz205 (by omega) | clear hz205
        have hl : lv_has ls 8 [(3, .int z205), (0, .ref (B + 49)), (1, .int x), (2, .int y)] := hl
        refine lv_goto (tgt := 10) hx hb dX12_makesCopy_29 (by decide) ?_
        exact ih10 ls H locs ig204 lg11 z205 (lv_sub hl [0, 1, 2, 3] rfl) hw hI hF (by omega) (by omega) (hwg) (uu1) (fun u hu => uu2 u (by omega)) (nd) (by omega)
  exact L10 ((3 - z8.toInt) + 1).toNat ls H locs ig3 lg5 z8 (lv_sub hl [0, 1, 2, 3] rfl) hw hI hF (by omega) (by omega) (hwg) (fun c j _ _ => rfl) (fun u hu => by omega) (nd) (by omega)
