/-! the draft -/
section DRAFT
variable {τ : Tp} {φ : Option Int} {B x y p : Nat} {kd : sK} {ig ig' : sI} {rg : sR} {lg lg' : sG} {T : List Nat}
theorem IM.wp (h : IM τ φ B kd ig rg) (h1 : p < 309) (h2 : p ≠ 288) : WP B ig p := fun h3 => h.row h1 h2 h3
theorem WP.cr (h : WP B ig x) (hc : CRw B x y ig ig') : WP B ig' y := fun q => (h (by rw [← hc.1]; exact q)).copy hc
theorem WP.keep (h : WP B ig p) (hc : CRw B x y ig ig') (hp : p ≠ y) : WP B ig' p := fun q => by
  obtain ⟨c1, c2, c3, c4, c5⟩ := hc
  rw [c3 59 p (Or.inr rfl) hp] at q
  exact (h q).same (c3 58 p (Or.inl rfl) hp) (fun k a b => ⟨c5 54 k (by decide) (by decide) (by omega), c5 55 k (by decide) (by decide) (by omega), c5 56 k (by decide) (by decide) (by omega)⟩)
theorem WP.ft (h : WP B ig p) (hF : Ft B T ig lg ig' lg') (h4 : ∀ q ∈ T, 54 ≠ q) (h5 : ∀ q ∈ T, 55 ≠ q) (h6 : ∀ q ∈ T, 56 ≠ q) (h8 : ∀ q ∈ T, 58 ≠ q) (h9 : ∀ q ∈ T, 59 ≠ q) : WP B ig' p := fun q => by
  rw [hF.i 59 p h9] at q
  exact (h q).same (hF.i 58 p h8) (fun k _ _ => ⟨hF.i 54 k h4, hF.i 55 k h5, hF.i 56 k h6⟩)
theorem WP.no {v : Int} (h : (ig (B + 59) p).toInt = v) (hv : v ≠ 2) : WP B ig p := fun q => absurd (h.symm.trans q) hv
theorem WP.u {c i : Nat} {v : Int32} (h : WP B ig p) (hc : c ≠ 54 ∧ c ≠ 55 ∧ c ≠ 56 ∧ c ≠ 58 ∧ c ≠ 59) : WP B (up2 ig (B + c) i v) p := fun q => by
  rw [up2_c (by omega)] at q
  exact (h q).same (up2_c (by omega)) (fun k _ _ => ⟨up2_c (by omega), up2_c (by omega), up2_c (by omega)⟩)
/-- the draft's grammar alone; its REFS so far -/
def WG (B : Nat) (ig : sI) : Prop := (ig (B + 59) 288).toInt = 2 → ∃ n : Nat, (ig (B + 58) 288).toInt = (n : Int) ∧ n ≤ 120 ∧ gE (mK B ig) (mA B ig) 8 (120 * 288) (120 * 288 + n)
def RK (B : Nat) (ig : sI) (q : Nat) (fl : Int32) : Prop := fl.toInt ≠ 0 → ∀ k, 120 * 288 ≤ k → k < 120 * 288 + q → rOk B ig k
def FW (B : Nat) (ig : sI) (fl : Int32) : Prop := fl.toInt ≠ 0 → WP B ig 288
theorem WP.g (h : WP B ig 288) : WG B ig := fun q => by
  obtain ⟨n, h1, h2, h3, -⟩ := h q
  exact ⟨n, h1, h2, h3⟩
theorem RK.z {fl : Int32} {q : Nat} (hq : q = 0) : RK B ig q fl := fun _ k h1 h2 => by omega
theorem WG.u {c i : Nat} {v : Int32} (h : WG B ig) (hc : c ≠ 54 ∧ c ≠ 55 ∧ c ≠ 58 ∧ c ≠ 59) : WG B (up2 ig (B + c) i v) := fun q => by
  rw [up2_c (by omega)] at q
  obtain ⟨n, h1, h2, h3⟩ := h q
  refine ⟨n, by rw [up2_c (by omega)]; exact h1, h2, gE.ag (L := 120 * 288) (R := 120 * 288 + n) (fun k _ _ => ⟨?_, fun _ => ?_⟩) (Nat.le_refl _) (Nat.le_refl _) h3⟩
  · simp only [mK]; rw [up2_c (by omega)]
  · simp only [mA]; rw [up2_c (by omega)]
theorem WG.uA {i : Nat} {v : Int32} (h : WG B ig) (h3 : (ig (B + 54) i).toInt = 3) : WG B (up2 ig (B + 55) i v) := fun q => by
  rw [up2_c (by omega)] at q
  obtain ⟨n, h1, h2, h4⟩ := h q
  refine ⟨n, by rw [up2_c (by omega)]; exact h1, h2, gE.ag (L := 120 * 288) (R := 120 * 288 + n) (fun k _ _ => ⟨?_, fun h9 => ?_⟩) (Nat.le_refl _) (Nat.le_refl _) h4⟩
  · simp only [mK]; rw [up2_c (by omega)]
  · simp only [mA]
    rw [up2_j (by rintro rfl; simp only [mK] at h9; rw [h3] at h9; cases h9)]
theorem RK.u {c i q : Nat} {v fl : Int32} (h : RK B ig q fl) (hc : c = 55 ∨ c = 56) (hi : nEq i (34560 + q)) : RK B (up2 ig (B + c) i v) q fl := fun hf k h1 h2 => by
  have hi : i = 34560 + q := hi
  have h9 := h hf k h1 h2
  have e : ∀ c9, up2 ig (B + c) i v (B + c9) k = ig (B + c9) k := fun c9 => up2_j (by omega)
  simp only [rOk, mK, mA, mB, e] at h9 ⊢
  exact h9
theorem RK.st {q q' i : Nat} {fl fl' : Int32} (h : RK B ig q fl) (hf : fl'.toInt ≠ 0 → fl.toInt ≠ 0) (hi : nEq i (34560 + q)) (hq : q' = q + 1) (hr : fl'.toInt ≠ 0 → rOk B ig i) : RK B ig q' fl' := fun hx k h1 h2 => by
  have hi : i = 34560 + q := hi
  by_cases e : k = i
  · subst e
    exact hr hx
  · exact h (hf hx) k h1 (by omega)
theorem RK.fw {q : Nat} {fl : Int32} (h : RK B ig q fl) (hg : WG B ig) (hq : (ig (B + 58) 288).toInt ≤ (q : Int)) : FW B ig fl := fun hf hk => by
  obtain ⟨n, h1, h2, h3⟩ := hg hk
  exact ⟨n, h1, h2, h3, fun k a b => h hf k a (by omega)⟩
theorem FW.st {fl fl' : Int32} (h : FW B ig fl) (hf : fl'.toInt ≠ 0 → fl.toInt ≠ 0) : FW B ig fl' := fun q => h (hf q)
theorem rOk.n3 {i : Nat} (h : (ig (B + 54) i).toInt ≠ 3) : rOk B ig i := fun q => absurd q h
theorem i32_ne {a b : Int32} (h : a.toInt ≠ b.toInt) : a ≠ b := fun e => h (by rw [e])
theorem CRw.toY {B x y : Nat} {q : Int32} (h : CRw B x q.toInt.toNat ig ig') (hq : q.toInt = (y : Int)) : CRw B x y ig ig' := by
  rw [show q.toInt.toNat = y by omega] at h
  exact h
theorem CRw.toX {B x y : Nat} {q : Int32} (h : CRw B q.toInt.toNat y ig ig') (hq : q.toInt = (x : Int)) : CRw B x y ig ig' := by
  rw [show q.toInt.toNat = x by omega] at h
  exact h
theorem IM.pdr2 (h : IM τ φ B kd ig rg) {c i q : Nat} {v : Int32} (hc : c = 55 ∨ c = 56) (hi : nEq i (34560 + q)) (hq : q < 120) : IM τ φ B kd (up2 ig (B + c) i v) rg := by
  have hi : i = 34560 + q := hi
  exact h.pdr (by omega) (by omega) (by omega)
end DRAFT

set_option maxHeartbeats 4000000 in
set_option maxRecDepth 100000 in
theorem t_X12_makesCopy {τ : Tp} {φ : Option Int} (l : Launch) (B : Nat) (D : va_G) (cA : Nat → ClassId) (kd : sK) (ig : sI) (rg : sR) (lg : sG) (sz : Nat) (x : Int32) (y : Int32) (hx0 : 0 ≤ x.toInt ∧ x.toInt < 288) (hy0 : 0 ≤ y.toInt ∧ y.toInt < 288) (hI : IM τ φ B kd ig rg) : MC l B D cA yX12_makesCopy cX12_makesCopy 8 (some .boolean) (rL 1 0 0) [.ref (B + 49), .int x, .int y] kd ig rg lg sz (PM τ φ B [54, 55, 56, 57, 58, 59, 60, 61] kd ig rg lg (fun r ig' lg' => ∃ z : Int32, r = some (.int z) ∧ ((z.toInt = 0 ∨ z.toInt = 1) ∧ FW B ig' z))) := by
  refine MC.of (own := RX12) (by decide +kernel) rfl (Nat.le_of_ble_eq_true rfl) ?_
  intro p e s m args below meth c ls C hr hlk hnm hw hsz hl
  have hx := C.1.1
  have hb := C.1.2.1
  have hown := C.1.2.2.2.1
  have hts := C.1.2.2.2.2
  have hl : lv_has ls 8 [(0, .ref (B + 49)), (1, .int x), (2, .int y)] := hl
  have hF : Ft B [54, 55, 56, 57, 58, 59, 60, 61] ig lg ig lg := Ft.rf
  have hsh := hI.sh
  have hrm := hI.rm
  have hI0 := hI
  refine lv_aload_n hx hb dX12_makesCopy_0 rfl (lv_at hl 0 rfl) ?_
  refine lv_iload_n hx hb dX12_makesCopy_1 rfl (lv_at hl 1 rfl) ?_
  refine lv_sipush (v := 288) hx hb dX12_makesCopy_2 (by decide) (ti_c 288 (by decide) fun z1 hz1 => ?_)
  refine r_callV (As := [.int x, .int z1]) (rest := []) C hw (t_X12_copyRow l B D cA kd ig rg lg _ x z1 (by omega) (by omega) (i32_ne (by omega)) (hI.wp (by omega) (by omega)) hI) sv_X12_191 (hsh 49 _ rfl) rfl hl.1 rfl (Nat.le_of_ble_eq_true rfl) ⟨Nat.le_of_ble_eq_true rfl, Nat.le_of_ble_eq_true rfl⟩ ⟨Nat.le_of_ble_eq_true rfl, Nat.le_of_ble_eq_true rfl⟩ dX12_makesCopy_5 (fun r6 kd2 ig3 rg4 lg5 H locs hw hH hp7 => ?_)
  obtain ⟨rfl, rfl, hI, hchp7, hrhp7⟩ := hp7
  have hF : Ft B [54, 55, 56, 57, 58, 59, 60, 61] ig lg ig3 lg5 := Ft.tr hF hchp7 (by decide) (by decide)
  obtain ⟨rfl, hvhp7⟩ := hrhp7
  have hcr := CRw.toY (y := 288) hvhp7 (by omega)
  have hwg : WG B ig3 := (WP.cr (hI0.wp (p := x.toInt.toNat) (by omega) (by omega)) hcr).g
  refine lv_iconst (v := 0) hx hb dX12_makesCopy_8 (by decide) (ti_c 0 (by decide) fun z8 hz8 => ?_)
  refine lv_istore_n (lv' := [(3, .int z8), (0, .ref (B + 49)), (1, .int x), (2, .int y)]) hx hb dX12_makesCopy_9 rfl hl (by decide) rfl (fun ls hl => ?_)
  have L10 : ∀ (n : Nat) (ls : Array Slot) (H : Heap) (locs : List Loc) (ig10 : sI) (lg11 : sG) (v9 : Int32), lv_has ls 8 [(3, .int v9), (0, .ref (B + 49)), (1, .int x), (2, .int y)] → WD B D cA s.heap kd ig10 rg lg11 H locs → IM τ φ B kd ig10 rg → Ft B [54, 55, 56, 57, 58, 59, 60, 61] ig lg ig10 lg11 → (0 ≤ v9.toInt) → (v9.toInt ≤ 3) → (WG B ig10) → 3 - v9.toInt < (n : Int) → W p l e (rL 1 0 0) s m args below meth c H locs 0 0 (MQ below (QcW B D cA (PM τ φ B [54, 55, 56, 57, 58, 59, 60, 61] kd ig rg lg (fun r ig' lg' => ∃ z : Int32, r = some (.int z) ∧ ((z.toInt = 0 ∨ z.toInt = 1) ∧ FW B ig' z)))) args s 0 0 (fun q => B ≤ q)) (F0 m 10 ls []) := by
    intro n10
    induction n10 with
    | zero => intro ls H locs ig10 lg11 v9 hl hw hI hF g10_0 g10_1 g10_2 hmu; exact absurd hmu (by omega)
    | succ n10 ih10 =>
      intro ls H locs ig10 lg11 v9 hl hw hI hF g10_0 g10_1 g10_2 hmu
      have hwg := g10_2
      refine lv_iload_n hx hb dX12_makesCopy_10 rfl (lv_at hl 0 rfl) ?_
      refine lv_iconst (v := 3) hx hb dX12_makesCopy_11 (by decide) (ti_c 3 (by decide) fun z12 hz12 => ?_)
      refine b_ge (tgt := 32) hx hb dX12_makesCopy_12 (by decide) (fun c12 => ?_) (fun c12 => ?_)
      · refine lv_iload_n hx hb dX12_makesCopy_32 rfl (lv_at hl 3 rfl) ?_
        refine lv_bipush (v := 12) hx hb dX12_makesCopy_33 (by decide) (ti_c 12 (by decide) fun z13 hz13 => ?_)
        refine lv_irem hx hb dX12_makesCopy_35 (ne0_of (by omega)) (tc_rem 12 hz13 (by decide) fun z14 bz14 hz14 => ?_)
        first | replace hz14 := hz14 (by omega) | clear hz14
        refine lv_iload_n hx hb dX12_makesCopy_36 rfl (lv_at hl 2 rfl) ?_
        refine lv_bipush (v := 12) hx hb dX12_makesCopy_37 (by decide) (ti_c 12 (by decide) fun z15 hz15 => ?_)
        refine lv_irem hx hb dX12_makesCopy_39 (ne0_of (by omega)) (tc_rem 12 hz15 (by decide) fun z16 bz16 hz16 => ?_)
        first | replace hz16 := hz16 (by omega) | clear hz16
        refine lv_isub hx hb dX12_makesCopy_40 (tc_sub fun z17 hz17 => ?_)
        first | replace hz17 := hz17 (by omega) | clear hz17
        refine lv_istore_n (lv' := [(3, .int z17), (0, .ref (B + 49)), (1, .int x), (2, .int y)]) hx hb dX12_makesCopy_41 rfl hl (by decide) rfl (fun ls hl => ?_)
        refine lv_iload_n hx hb dX12_makesCopy_42 rfl (lv_at hl 3 rfl) ?_
        refine lv_bipush (v := 12) hx hb dX12_makesCopy_43 (by decide) (ti_c 12 (by decide) fun z18 hz18 => ?_)
        refine lv_idiv hx hb dX12_makesCopy_45 (ne0_of (by omega)) (tc_div 12 hz18 (by decide) fun z19 bz19 hz19 => ?_)
        first | replace hz19 := hz19 (by omega) | clear hz19
        refine lv_iload_n hx hb dX12_makesCopy_46 rfl (lv_at hl 2 rfl) ?_
        refine lv_bipush (v := 12) hx hb dX12_makesCopy_47 (by decide) (ti_c 12 (by decide) fun z20 hz20 => ?_)
        refine lv_idiv hx hb dX12_makesCopy_49 (ne0_of (by omega)) (tc_div 12 hz20 (by decide) fun z21 bz21 hz21 => ?_)
        first | replace hz21 := hz21 (by omega) | clear hz21
        refine lv_isub hx hb dX12_makesCopy_50 (tc_sub fun z22 hz22 => ?_)
        first | replace hz22 := hz22 (by omega) | clear hz22
        refine lv_istore (lv' := [(4, .int z22), (3, .int z17), (0, .ref (B + 49)), (1, .int x), (2, .int y)]) hx hb dX12_makesCopy_51 hl (by decide) rfl (fun ls hl => ?_)
        refine lv_iconst (v := 1) hx hb dX12_makesCopy_53 (by decide) (ti_c 1 (by decide) fun z23 hz23 => ?_)
        refine lv_istore (lv' := [(5, .int z23), (4, .int z22), (3, .int z17), (0, .ref (B + 49)), (1, .int x), (2, .int y)]) hx hb dX12_makesCopy_54 hl (by decide) rfl (fun ls hl => ?_)
        refine lv_iconst (v := 0) hx hb dX12_makesCopy_56 (by decide) (ti_c 0 (by decide) fun z24 hz24 => ?_)
        refine lv_istore (lv' := [(6, .int z24), (5, .int z23), (4, .int z22), (3, .int z17), (0, .ref (B + 49)), (1, .int x), (2, .int y)]) hx hb dX12_makesCopy_57 hl (by decide) rfl (fun ls hl => ?_)
        have L59 : ∀ (n : Nat) (ls : Array Slot) (H : Heap) (locs : List Loc) (ig27 : sI) (lg28 : sG) (v25 : Int32) (v26 : Int32), lv_has ls 8 [(6, .int v25), (5, .int v26), (4, .int z22), (3, .int z17), (0, .ref (B + 49))] → WD B D cA s.heap kd ig27 rg lg28 H locs → IM τ φ B kd ig27 rg → Ft B [54, 55, 56, 57, 58, 59, 60, 61] ig lg ig27 lg28 → (0 ≤ v25.toInt) → (v25.toInt ≤ 120) → (v26.toInt = 0 ∨ v26.toInt = 1) → (WG B ig27) → (RK B ig27 v25.toInt.toNat v26) → 120 - v25.toInt < (n : Int) → W p l e (rL 1 0 0) s m args below meth c H locs 0 0 (MQ below (QcW B D cA (PM τ φ B [54, 55, 56, 57, 58, 59, 60, 61] kd ig rg lg (fun r ig' lg' => ∃ z : Int32, r = some (.int z) ∧ ((z.toInt = 0 ∨ z.toInt = 1) ∧ FW B ig' z)))) args s 0 0 (fun q => B ≤ q)) (F0 m 59 ls []) := by
          intro n59
          induction n59 with
          | zero => intro ls H locs ig27 lg28 v25 v26 hl hw hI hF g59_0 g59_1 g59_2 g59_3 g59_4 hmu; exact absurd hmu (by omega)
          | succ n59 ih59 =>
            intro ls H locs ig27 lg28 v25 v26 hl hw hI hF g59_0 g59_1 g59_2 g59_3 g59_4 hmu
            refine lv_iload hx hb dX12_makesCopy_59 (lv_at hl 0 rfl) ?_
            refine lv_aload_n hx hb dX12_makesCopy_61 rfl (lv_at hl 4 rfl) ?_
            refine r_get C hw (hsh 49 _ rfl) fl_X12_77 (oV_r rfl (hrm (49, 13, 58) (by decide))) dX12_makesCopy_62 ?_
            refine lv_sipush (v := 288) hx hb dX12_makesCopy_65 (by decide) (ti_c 288 (by decide) fun z29 hz29 => ?_)
            refine r_iald C hw (hsh 58 _ rfl) (by omega) (by omega) dX12_makesCopy_68 (ti_c (ig27 (B + 58) z29.toInt.toNat).toInt rfl fun z30 hz30 => ?_)
            have k31 := hI.its (j := (z29.toInt.toNat)) (by omega)
            rw [show z29.toInt.toNat = 288 by omega] at hz30
            have kit := hI.its (j := 288) (by decide)
            refine b_ge (tgt := 209) hx hb dX12_makesCopy_69 (by decide) (fun c69 => ?_) (fun c69 => ?_)
            · have hfw : FW B ig27 v26 := RK.fw g59_4 g59_3 (by omega)
              refine lv_iconst (v := 0) hx hb dX12_makesCopy_209 (by decide) (ti_c 0 (by decide) fun z32 hz32 => ?_)
              refine lv_istore (lv' := [(6, .int z32), (5, .int v26), (4, .int z22), (3, .int z17), (0, .ref (B + 49))]) hx hb dX12_makesCopy_210 hl (by decide) rfl (fun ls hl => ?_)
              have L212 : ∀ (n : Nat) (ls : Array Slot) (H : Heap) (locs : List Loc) (ig35 : sI) (lg36 : sG) (v33 : Int32) (v34 : Int32), lv_has ls 8 [(6, .int v33), (5, .int v34), (0, .ref (B + 49))] → WD B D cA s.heap kd ig35 rg lg36 H locs → IM τ φ B kd ig35 rg → Ft B [54, 55, 56, 57, 58, 59, 60, 61] ig lg ig35 lg36 → (0 ≤ v33.toInt) → (v33.toInt ≤ 120) → (v34.toInt = 0 ∨ v34.toInt = 1) → (FW B ig35 v34) → 120 - v33.toInt < (n : Int) → W p l e (rL 1 0 0) s m args below meth c H locs 0 0 (MQ below (QcW B D cA (PM τ φ B [54, 55, 56, 57, 58, 59, 60, 61] kd ig rg lg (fun r ig' lg' => ∃ z : Int32, r = some (.int z) ∧ ((z.toInt = 0 ∨ z.toInt = 1) ∧ FW B ig' z)))) args s 0 0 (fun q => B ≤ q)) (F0 m 212 ls []) := by
                intro n212
                induction n212 with
                | zero => intro ls H locs ig35 lg36 v33 v34 hl hw hI hF g212_0 g212_1 g212_2 g212_3 hmu; exact absurd hmu (by omega)
                | succ n212 ih212 =>
                  intro ls H locs ig35 lg36 v33 v34 hl hw hI hF g212_0 g212_1 g212_2 g212_3 hmu
                  refine lv_iload hx hb dX12_makesCopy_212 (lv_at hl 0 rfl) ?_
                  refine lv_aload_n hx hb dX12_makesCopy_214 rfl (lv_at hl 2 rfl) ?_
                  refine r_get C hw (hsh 49 _ rfl) fl_X12_77 (oV_r rfl (hrm (49, 13, 58) (by decide))) dX12_makesCopy_215 ?_
                  refine lv_sipush (v := 288) hx hb dX12_makesCopy_218 (by decide) (ti_c 288 (by decide) fun z37 hz37 => ?_)
                  refine r_iald C hw (hsh 58 _ rfl) (by omega) (by omega) dX12_makesCopy_221 (ti_c (ig35 (B + 58) z37.toInt.toNat).toInt rfl fun z38 hz38 => ?_)
                  have k39 := hI.its (j := (z37.toInt.toNat)) (by omega)
                  refine b_ge (tgt := 303) hx hb dX12_makesCopy_222 (by decide) (fun c222 => ?_) (fun c222 => ?_)
                  · refine lv_iload hx hb dX12_makesCopy_303 (lv_at hl 1 rfl) ?_
                    exact r_iret C hw hr hlk (nar_b (by omega)) (Nat.le_of_ble_eq_true rfl) (Nat.le_of_ble_eq_true rfl) dX12_makesCopy_305 ⟨rfl, rfl, hI, hF, ⟨_, rfl, ⟨by omega, g212_3⟩⟩⟩
                  · refine lv_ldc (v := 34560) hx hb hown (hts _ kc_X12_142) dX12_makesCopy_225 (ti_c 34560 (by decide) fun z40 hz40 => ?_)
                    refine lv_iload hx hb dX12_makesCopy_227 (lv_at hl 0 rfl) ?_
                    refine lv_iadd hx hb dX12_makesCopy_229 (tc_add fun z41 hz41 => ?_)
                    first | replace hz41 := hz41 (by omega) | clear hz41
                    refine lv_istore (lv' := [(7, .int z41), (6, .int v33), (5, .int v34), (0, .ref (B + 49))]) hx hb dX12_makesCopy_230 hl (by decide) rfl (fun ls hl => ?_)
                    refine lv_iload hx hb dX12_makesCopy_232 (lv_at hl 2 rfl) ?_
                    refine z_eq (tgt := 294) hx hb dX12_makesCopy_234 (by decide) (fun c234 => ?_) (fun c234 => ?_)
                    · refine lv_iconst (v := 0) hx hb dX12_makesCopy_294 (by decide) (ti_c 0 (by decide) fun z42 hz42 => ?_)
                      refine lv_istore (lv' := [(5, .int z42), (7, .int z41), (6, .int v33), (0, .ref (B + 49))]) hx hb dX12_makesCopy_295 hl (by decide) rfl (fun ls hl => ?_)
                      refine tc_inc hx hb dX12_makesCopy_297 hl (k := 2) rfl (by decide) (by decide) (fun z43 hz43 ls hl => ?_)
                      first | replace hz43 := hz43 (by omega) | clear hz43
                      have hl : lv_has ls 8 [(6, .int z43), (5, .int z42), (7, .int z41), (0, .ref (B + 49))] := hl
                      refine lv_goto (tgt := 212) hx hb dX12_makesCopy_300 (by decide) ?_
                      exact ih212 ls H locs ig35 lg36 z43 z42 (lv_sub hl [0, 1, 3] rfl) hw hI hF (by omega) (by omega) (by omega) (FW.st g212_3 (by omega)) (by omega)
                    · refine lv_aload_n hx hb dX12_makesCopy_237 rfl (lv_at hl 3 rfl) ?_
                      refine r_get C hw (hsh 49 _ rfl) fl_X12_65 (oV_r rfl (hrm (49, 9, 54) (by decide))) dX12_makesCopy_238 ?_
                      refine lv_iload hx hb dX12_makesCopy_241 (lv_at hl 0 rfl) ?_
                      refine r_iald C hw (hsh 54 _ rfl) (by omega) (by omega) dX12_makesCopy_243 (ti_c (ig35 (B + 54) z41.toInt.toNat).toInt rfl fun z44 hz44 => ?_)
                      refine lv_iconst (v := 2) hx hb dX12_makesCopy_244 (by decide) (ti_c 2 (by decide) fun z46 hz46 => ?_)
                      refine b_ne (tgt := 290) hx hb dX12_makesCopy_245 (by decide) (fun c245 => ?_) (fun c245 => ?_)
                      · refine lv_iconst (v := 1) hx hb dX12_makesCopy_290 (by decide) (ti_c 1 (by decide) fun z47 hz47 => ?_)
                        refine lv_goto (tgt := 295) hx hb dX12_makesCopy_291 (by decide) ?_
                        refine lv_istore (lv' := [(5, .int z47), (7, .int z41), (6, .int v33), (0, .ref (B + 49))]) hx hb dX12_makesCopy_295 hl (by decide) rfl (fun ls hl => ?_)
                        refine tc_inc hx hb dX12_makesCopy_297 hl (k := 2) rfl (by decide) (by decide) (fun z48 hz48 ls hl => ?_)
                        first | replace hz48 := hz48 (by omega) | clear hz48
                        have hl : lv_has ls 8 [(6, .int z48), (5, .int z47), (7, .int z41), (0, .ref (B + 49))] := hl
                        refine lv_goto (tgt := 212) hx hb dX12_makesCopy_300 (by decide) ?_
                        exact ih212 ls H locs ig35 lg36 z48 z47 (lv_sub hl [0, 1, 3] rfl) hw hI hF (by omega) (by omega) (by omega) (FW.st g212_3 (by omega)) (by omega)
                      · refine lv_aload_n hx hb dX12_makesCopy_248 rfl (lv_at hl 3 rfl) ?_
                        refine r_get C hw (hsh 49 _ rfl) fl_X12_68 (oV_r rfl (hrm (49, 10, 55) (by decide))) dX12_makesCopy_249 ?_
                        refine lv_iload hx hb dX12_makesCopy_252 (lv_at hl 0 rfl) ?_
                        refine lv_iconst (v := 4) hx hb dX12_makesCopy_254 (by decide) (ti_c 4 (by decide) fun z49 hz49 => ?_)
                        refine lv_iadd hx hb dX12_makesCopy_255 (tc_add fun z50 hz50 => ?_)
                        first | replace hz50 := hz50 (by omega) | clear hz50
                        refine r_iald C hw (hsh 55 _ rfl) (by omega) (by omega) dX12_makesCopy_256 (ti_c (ig35 (B + 55) z50.toInt.toNat).toInt rfl fun z51 hz51 => ?_)
                        refine lv_aload_n hx hb dX12_makesCopy_257 rfl (lv_at hl 3 rfl) ?_
                        refine r_get C hw (hsh 49 _ rfl) fl_X12_68 (oV_r rfl (hrm (49, 10, 55) (by decide))) dX12_makesCopy_258 ?_
                        refine lv_iload hx hb dX12_makesCopy_261 (lv_at hl 0 rfl) ?_
                        refine lv_iconst (v := 2) hx hb dX12_makesCopy_263 (by decide) (ti_c 2 (by decide) fun z53 hz53 => ?_)
                        refine lv_iadd hx hb dX12_makesCopy_264 (tc_add fun z54 hz54 => ?_)
                        first | replace hz54 := hz54 (by omega) | clear hz54
                        refine r_iald C hw (hsh 55 _ rfl) (by omega) (by omega) dX12_makesCopy_265 (ti_c (ig35 (B + 55) z54.toInt.toNat).toInt rfl fun z55 hz55 => ?_)
                        refine b_lt (tgt := 294) hx hb dX12_makesCopy_266 (by decide) (fun c266 => ?_) (fun c266 => ?_)
                        · refine lv_iconst (v := 0) hx hb dX12_makesCopy_294 (by decide) (ti_c 0 (by decide) fun z57 hz57 => ?_)
                          refine lv_istore (lv' := [(5, .int z57), (7, .int z41), (6, .int v33), (0, .ref (B + 49))]) hx hb dX12_makesCopy_295 hl (by decide) rfl (fun ls hl => ?_)
                          refine tc_inc hx hb dX12_makesCopy_297 hl (k := 2) rfl (by decide) (by decide) (fun z58 hz58 ls hl => ?_)
                          first | replace hz58 := hz58 (by omega) | clear hz58
                          have hl : lv_has ls 8 [(6, .int z58), (5, .int z57), (7, .int z41), (0, .ref (B + 49))] := hl
                          refine lv_goto (tgt := 212) hx hb dX12_makesCopy_300 (by decide) ?_
                          exact ih212 ls H locs ig35 lg36 z58 z57 (lv_sub hl [0, 1, 3] rfl) hw hI hF (by omega) (by omega) (by omega) (FW.st g212_3 (by omega)) (by omega)
                        · refine lv_aload_n hx hb dX12_makesCopy_269 rfl (lv_at hl 3 rfl) ?_
                          refine r_get C hw (hsh 49 _ rfl) fl_X12_71 (oV_r rfl (hrm (49, 11, 56) (by decide))) dX12_makesCopy_270 ?_
                          refine lv_iload hx hb dX12_makesCopy_273 (lv_at hl 0 rfl) ?_
                          refine lv_iconst (v := 4) hx hb dX12_makesCopy_275 (by decide) (ti_c 4 (by decide) fun z59 hz59 => ?_)
                          refine lv_iadd hx hb dX12_makesCopy_276 (tc_add fun z60 hz60 => ?_)
                          first | replace hz60 := hz60 (by omega) | clear hz60
                          refine r_iald C hw (hsh 56 _ rfl) (by omega) (by omega) dX12_makesCopy_277 (ti_c (ig35 (B + 56) z60.toInt.toNat).toInt rfl fun z61 hz61 => ?_)
                          refine lv_aload_n hx hb dX12_makesCopy_278 rfl (lv_at hl 3 rfl) ?_
                          refine r_get C hw (hsh 49 _ rfl) fl_X12_71 (oV_r rfl (hrm (49, 11, 56) (by decide))) dX12_makesCopy_279 ?_
                          refine lv_iload hx hb dX12_makesCopy_282 (lv_at hl 0 rfl) ?_
                          refine lv_iconst (v := 2) hx hb dX12_makesCopy_284 (by decide) (ti_c 2 (by decide) fun z63 hz63 => ?_)
                          refine lv_iadd hx hb dX12_makesCopy_285 (tc_add fun z64 hz64 => ?_)
                          first | replace hz64 := hz64 (by omega) | clear hz64
                          refine r_iald C hw (hsh 56 _ rfl) (by omega) (by omega) dX12_makesCopy_286 (ti_c (ig35 (B + 56) z64.toInt.toNat).toInt rfl fun z65 hz65 => ?_)
                          refine b_lt (tgt := 294) hx hb dX12_makesCopy_287 (by decide) (fun c287 => ?_) (fun c287 => ?_)
                          · refine lv_iconst (v := 0) hx hb dX12_makesCopy_294 (by decide) (ti_c 0 (by decide) fun z67 hz67 => ?_)
                            refine lv_istore (lv' := [(5, .int z67), (7, .int z41), (6, .int v33), (0, .ref (B + 49))]) hx hb dX12_makesCopy_295 hl (by decide) rfl (fun ls hl => ?_)
                            refine tc_inc hx hb dX12_makesCopy_297 hl (k := 2) rfl (by decide) (by decide) (fun z68 hz68 ls hl => ?_)
                            first | replace hz68 := hz68 (by omega) | clear hz68
                            have hl : lv_has ls 8 [(6, .int z68), (5, .int z67), (7, .int z41), (0, .ref (B + 49))] := hl
                            refine lv_goto (tgt := 212) hx hb dX12_makesCopy_300 (by decide) ?_
                            exact ih212 ls H locs ig35 lg36 z68 z67 (lv_sub hl [0, 1, 3] rfl) hw hI hF (by omega) (by omega) (by omega) (FW.st g212_3 (by omega)) (by omega)
                          · refine lv_iconst (v := 1) hx hb dX12_makesCopy_290 (by decide) (ti_c 1 (by decide) fun z69 hz69 => ?_)
                            refine lv_goto (tgt := 295) hx hb dX12_makesCopy_291 (by decide) ?_
                            refine lv_istore (lv' := [(5, .int z69), (7, .int z41), (6, .int v33), (0, .ref (B + 49))]) hx hb dX12_makesCopy_295 hl (by decide) rfl (fun ls hl => ?_)
                            refine tc_inc hx hb dX12_makesCopy_297 hl (k := 2) rfl (by decide) (by decide) (fun z70 hz70 ls hl => ?_)
                            first | replace hz70 := hz70 (by omega) | clear hz70
                            have hl : lv_has ls 8 [(6, .int z70), (5, .int z69), (7, .int z41), (0, .ref (B + 49))] := hl
                            refine lv_goto (tgt := 212) hx hb dX12_makesCopy_300 (by decide) ?_
                            exact ih212 ls H locs ig35 lg36 z70 z69 (lv_sub hl [0, 1, 3] rfl) hw hI hF (by omega) (by omega) (by omega) (FW.st g212_3 (by omega)) (by omega)
              exact L212 ((120 - z32.toInt) + 1).toNat ls H locs ig27 lg28 z32 v26 (lv_sub hl [0, 1, 4] rfl) hw hI hF (by omega) (by omega) (by omega) (hfw) (by omega)
            · refine lv_ldc (v := 34560) hx hb hown (hts _ kc_X12_142) dX12_makesCopy_72 (ti_c 34560 (by decide) fun z71 hz71 => ?_)
              refine lv_iload hx hb dX12_makesCopy_74 (lv_at hl 0 rfl) ?_
              refine lv_iadd hx hb dX12_makesCopy_76 (tc_add fun z72 hz72 => ?_)
              first | replace hz72 := hz72 (by omega) | clear hz72
              refine lv_istore (lv' := [(7, .int z72), (6, .int v25), (5, .int v26), (4, .int z22), (3, .int z17), (0, .ref (B + 49))]) hx hb dX12_makesCopy_77 hl (by decide) rfl (fun ls hl => ?_)
              have n7 : nEq z72.toInt.toNat (34560 + v25.toInt.toNat) := by show _ = _; omega
              have q6 : v25.toInt.toNat < 120 := by omega
              refine lv_aload_n hx hb dX12_makesCopy_79 rfl (lv_at hl 5 rfl) ?_
              refine r_get C hw (hsh 49 _ rfl) fl_X12_65 (oV_r rfl (hrm (49, 9, 54) (by decide))) dX12_makesCopy_80 ?_
              refine lv_iload hx hb dX12_makesCopy_83 (lv_at hl 0 rfl) ?_
              refine r_iald C hw (hsh 54 _ rfl) (by omega) (by omega) dX12_makesCopy_85 (ti_c (ig27 (B + 54) z72.toInt.toNat).toInt rfl fun z73 hz73 => ?_)
              refine lv_iconst (v := 3) hx hb dX12_makesCopy_86 (by decide) (ti_c 3 (by decide) fun z75 hz75 => ?_)
              refine b_ne (tgt := 203) hx hb dX12_makesCopy_87 (by decide) (fun c87 => ?_) (fun c87 => ?_)
              · refine tc_inc hx hb dX12_makesCopy_203 hl (k := 1) rfl (by decide) (by decide) (fun z76 hz76 ls hl => ?_)
                first | replace hz76 := hz76 (by omega) | clear hz76
                have hl : lv_has ls 8 [(6, .int z76), (7, .int z72), (5, .int v26), (4, .int z22), (3, .int z17), (0, .ref (B + 49))] := hl
                refine lv_goto (tgt := 59) hx hb dX12_makesCopy_206 (by decide) ?_
                exact ih59 ls H locs ig27 lg28 z76 v26 (lv_sub hl [0, 2, 3, 4, 5] rfl) hw hI hF (by omega) (by omega) (by omega) (g59_3) (RK.st (fl := v26) g59_4 (by omega) n7 (by omega) (fun _ => rOk.n3 (by omega))) (by omega)
              · have k3 : (ig27 (B + 54) z72.toInt.toNat).toInt = 3 := by omega
                refine lv_aload_n hx hb dX12_makesCopy_90 rfl (lv_at hl 5 rfl) ?_
                refine r_get C hw (hsh 49 _ rfl) fl_X12_68 (oV_r rfl (hrm (49, 10, 55) (by decide))) dX12_makesCopy_91 ?_
                refine lv_iload hx hb dX12_makesCopy_94 (lv_at hl 0 rfl) ?_
                refine lv_dup2_11 hx hb dX12_makesCopy_96 rfl rfl ?_
                refine r_iald C hw (hsh 55 _ rfl) (by omega) (by omega) dX12_makesCopy_97 (ti_c (ig27 (B + 55) z72.toInt.toNat).toInt rfl fun z77 hz77 => ?_)
                refine lv_aload_n hx hb dX12_makesCopy_98 rfl (lv_at hl 5 rfl) ?_
                refine r_get C hw (hsh 49 _ rfl) fl_X12_74 (oV_r rfl (hrm (49, 12, 57) (by decide))) dX12_makesCopy_99 ?_
                refine lv_iload hx hb dX12_makesCopy_102 (lv_at hl 0 rfl) ?_
                refine r_iald C hw (hsh 57 _ rfl) (by omega) (by omega) dX12_makesCopy_104 (ti_c (ig27 (B + 57) z72.toInt.toNat).toInt rfl fun z79 hz79 => ?_)
                refine lv_iconst (v := 1) hx hb dX12_makesCopy_105 (by decide) (ti_c 1 (by decide) fun z81 hz81 => ?_)
                refine lv_iand hx hb dX12_makesCopy_106 (ti_any fun z82 => ?_)
                refine lv_iconst (v := 1) hx hb dX12_makesCopy_107 (by decide) (ti_c 1 (by decide) fun z83 hz83 => ?_)
                refine b_ne (tgt := 115) hx hb dX12_makesCopy_108 (by decide) (fun c108 => ?_) (fun c108 => ?_)
                · refine lv_iload_n hx hb dX12_makesCopy_115 rfl (lv_at hl 4 rfl) ?_
                  refine lv_iadd hx hb dX12_makesCopy_116 (tc_add fun z84 hz84 => ?_)
                  first | replace hz84 := hz84 (by omega) | clear hz84
                  refine r_iast C hw (hsh 55 _ rfl) (by omega) (by omega) dX12_makesCopy_117 (fun H locs hH hw => ?_)
                  obtain ⟨ig85, eig85⟩ : ∃ f, f = up2 ig27 (B + 55) z72.toInt.toNat z84 := ⟨_, rfl⟩
                  rw [← eig85] at hw
                  have hF : Ft B [54, 55, 56, 57, 58, 59, 60, 61] ig lg ig85 lg28 := by rw [eig85]; exact hF.pi (by decide)
                  have hI : IM τ φ B kd ig85 rg := by rw [eig85]; exact hI.pdr2 (Or.inl rfl) n7 q6
                  have hwg : WG B ig85 := by rw [eig85]; exact WG.uA g59_3 k3
                  have hrk : RK B ig85 v25.toInt.toNat v26 := by rw [eig85]; exact RK.u g59_4 (Or.inl rfl) n7
                  have k3 : (ig85 (B + 54) z72.toInt.toNat).toInt = 3 := by rw [eig85, up2_c (by decide)]; exact k3
                  refine lv_aload_n hx hb dX12_makesCopy_118 rfl (lv_at hl 5 rfl) ?_
                  refine r_get C hw (hsh 49 _ rfl) fl_X12_71 (oV_r rfl (hrm (49, 11, 56) (by decide))) dX12_makesCopy_119 ?_
                  refine lv_iload hx hb dX12_makesCopy_122 (lv_at hl 0 rfl) ?_
                  refine lv_dup2_11 hx hb dX12_makesCopy_124 rfl rfl ?_
                  refine r_iald C hw (hsh 56 _ rfl) (by omega) (by omega) dX12_makesCopy_125 (ti_c (ig85 (B + 56) z72.toInt.toNat).toInt rfl fun z86 hz86 => ?_)
                  refine lv_aload_n hx hb dX12_makesCopy_126 rfl (lv_at hl 5 rfl) ?_
                  refine r_get C hw (hsh 49 _ rfl) fl_X12_74 (oV_r rfl (hrm (49, 12, 57) (by decide))) dX12_makesCopy_127 ?_
                  refine lv_iload hx hb dX12_makesCopy_130 (lv_at hl 0 rfl) ?_
                  refine r_iald C hw (hsh 57 _ rfl) (by omega) (by omega) dX12_makesCopy_132 (ti_c (ig85 (B + 57) z72.toInt.toNat).toInt rfl fun z88 hz88 => ?_)
                  refine lv_iconst (v := 2) hx hb dX12_makesCopy_133 (by decide) (ti_c 2 (by decide) fun z90 hz90 => ?_)
                  refine lv_iand hx hb dX12_makesCopy_134 (ti_any fun z91 => ?_)
                  refine lv_iconst (v := 2) hx hb dX12_makesCopy_135 (by decide) (ti_c 2 (by decide) fun z92 hz92 => ?_)
                  refine b_ne (tgt := 143) hx hb dX12_makesCopy_136 (by decide) (fun c136 => ?_) (fun c136 => ?_)
                  · refine lv_iload hx hb dX12_makesCopy_143 (lv_at hl 3 rfl) ?_
                    refine lv_iadd hx hb dX12_makesCopy_145 (tc_add fun z93 hz93 => ?_)
                    first | replace hz93 := hz93 (by omega) | clear hz93
                    refine r_iast C hw (hsh 56 _ rfl) (by omega) (by omega) dX12_makesCopy_146 (fun H locs hH hw => ?_)
                    obtain ⟨ig94, eig94⟩ : ∃ f, f = up2 ig85 (B + 56) z72.toInt.toNat z93 := ⟨_, rfl⟩
                    rw [← eig94] at hw
                    have hF : Ft B [54, 55, 56, 57, 58, 59, 60, 61] ig lg ig94 lg28 := by rw [eig94]; exact hF.pi (by decide)
                    have hI : IM τ φ B kd ig94 rg := by rw [eig94]; exact hI.pdr2 (Or.inr rfl) n7 q6
                    have hwg : WG B ig94 := by rw [eig94]; exact WG.u hwg (by decide)
                    have hrk : RK B ig94 v25.toInt.toNat v26 := by rw [eig94]; exact RK.u hrk (Or.inr rfl) n7
                    have k3 : (ig94 (B + 54) z72.toInt.toNat).toInt = 3 := by rw [eig94, up2_c (by decide)]; exact k3
                    refine lv_iload hx hb dX12_makesCopy_147 (lv_at hl 2 rfl) ?_
                    refine z_eq (tgt := 200) hx hb dX12_makesCopy_149 (by decide) (fun c149 => ?_) (fun c149 => ?_)
                    · refine lv_iconst (v := 0) hx hb dX12_makesCopy_200 (by decide) (ti_c 0 (by decide) fun z95 hz95 => ?_)
                      refine lv_istore (lv' := [(5, .int z95), (7, .int z72), (6, .int v25), (4, .int z22), (3, .int z17), (0, .ref (B + 49))]) hx hb dX12_makesCopy_201 hl (by decide) rfl (fun ls hl => ?_)
                      refine tc_inc hx hb dX12_makesCopy_203 hl (k := 2) rfl (by decide) (by decide) (fun z96 hz96 ls hl => ?_)
                      first | replace hz96 := hz96 (by omega) | clear hz96
                      have hl : lv_has ls 8 [(6, .int z96), (5, .int z95), (7, .int z72), (4, .int z22), (3, .int z17), (0, .ref (B + 49))] := hl
                      refine lv_goto (tgt := 59) hx hb dX12_makesCopy_206 (by decide) ?_
                      exact ih59 ls H locs ig94 lg28 z96 z95 (lv_sub hl [0, 1, 3, 4, 5] rfl) hw hI hF (by omega) (by omega) (by omega) (hwg) (RK.st (fl := v26) hrk (by omega) n7 (by omega) (fun hf _ => ⟨⟨by show 0 ≤ (_ : Int32).toInt; omega, by show (_ : Int32).toInt < 12; omega⟩, by show 0 ≤ (_ : Int32).toInt; omega, by show (_ : Int32).toInt < 24; omega⟩)) (by omega)
                    · refine lv_aload_n hx hb dX12_makesCopy_152 rfl (lv_at hl 5 rfl) ?_
                      refine r_get C hw (hsh 49 _ rfl) fl_X12_68 (oV_r rfl (hrm (49, 10, 55) (by decide))) dX12_makesCopy_153 ?_
                      refine lv_iload hx hb dX12_makesCopy_156 (lv_at hl 0 rfl) ?_
                      refine r_iald C hw (hsh 55 _ rfl) (by omega) (by omega) dX12_makesCopy_158 (ti_c (ig94 (B + 55) z72.toInt.toNat).toInt rfl fun z97 hz97 => ?_)
                      refine z_lt (tgt := 200) hx hb dX12_makesCopy_159 (by decide) (fun c159 => ?_) (fun c159 => ?_)
                      · refine lv_iconst (v := 0) hx hb dX12_makesCopy_200 (by decide) (ti_c 0 (by decide) fun z99 hz99 => ?_)
                        refine lv_istore (lv' := [(5, .int z99), (7, .int z72), (6, .int v25), (4, .int z22), (3, .int z17), (0, .ref (B + 49))]) hx hb dX12_makesCopy_201 hl (by decide) rfl (fun ls hl => ?_)
                        refine tc_inc hx hb dX12_makesCopy_203 hl (k := 2) rfl (by decide) (by decide) (fun z100 hz100 ls hl => ?_)
                        first | replace hz100 := hz100 (by omega) | clear hz100
                        have hl : lv_has ls 8 [(6, .int z100), (5, .int z99), (7, .int z72), (4, .int z22), (3, .int z17), (0, .ref (B + 49))] := hl
                        refine lv_goto (tgt := 59) hx hb dX12_makesCopy_206 (by decide) ?_
                        exact ih59 ls H locs ig94 lg28 z100 z99 (lv_sub hl [0, 1, 3, 4, 5] rfl) hw hI hF (by omega) (by omega) (by omega) (hwg) (RK.st (fl := v26) hrk (by omega) n7 (by omega) (fun hf _ => ⟨⟨by show 0 ≤ (_ : Int32).toInt; omega, by show (_ : Int32).toInt < 12; omega⟩, by show 0 ≤ (_ : Int32).toInt; omega, by show (_ : Int32).toInt < 24; omega⟩)) (by omega)
                      · refine lv_aload_n hx hb dX12_makesCopy_162 rfl (lv_at hl 5 rfl) ?_
                        refine r_get C hw (hsh 49 _ rfl) fl_X12_68 (oV_r rfl (hrm (49, 10, 55) (by decide))) dX12_makesCopy_163 ?_
                        refine lv_iload hx hb dX12_makesCopy_166 (lv_at hl 0 rfl) ?_
                        refine r_iald C hw (hsh 55 _ rfl) (by omega) (by omega) dX12_makesCopy_168 (ti_c (ig94 (B + 55) z72.toInt.toNat).toInt rfl fun z101 hz101 => ?_)
                        refine lv_bipush (v := 12) hx hb dX12_makesCopy_169 (by decide) (ti_c 12 (by decide) fun z103 hz103 => ?_)
                        refine b_ge (tgt := 200) hx hb dX12_makesCopy_171 (by decide) (fun c171 => ?_) (fun c171 => ?_)
                        · refine lv_iconst (v := 0) hx hb dX12_makesCopy_200 (by decide) (ti_c 0 (by decide) fun z104 hz104 => ?_)
                          refine lv_istore (lv' := [(5, .int z104), (7, .int z72), (6, .int v25), (4, .int z22), (3, .int z17), (0, .ref (B + 49))]) hx hb dX12_makesCopy_201 hl (by decide) rfl (fun ls hl => ?_)
                          refine tc_inc hx hb dX12_makesCopy_203 hl (k := 2) rfl (by decide) (by decide) (fun z105 hz105 ls hl => ?_)
                          first | replace hz105 := hz105 (by omega) | clear hz105
                          have hl : lv_has ls 8 [(6, .int z105), (5, .int z104), (7, .int z72), (4, .int z22), (3, .int z17), (0, .ref (B + 49))] := hl
                          refine lv_goto (tgt := 59) hx hb dX12_makesCopy_206 (by decide) ?_
                          exact ih59 ls H locs ig94 lg28 z105 z104 (lv_sub hl [0, 1, 3, 4, 5] rfl) hw hI hF (by omega) (by omega) (by omega) (hwg) (RK.st (fl := v26) hrk (by omega) n7 (by omega) (fun hf _ => ⟨⟨by show 0 ≤ (_ : Int32).toInt; omega, by show (_ : Int32).toInt < 12; omega⟩, by show 0 ≤ (_ : Int32).toInt; omega, by show (_ : Int32).toInt < 24; omega⟩)) (by omega)
                        · refine lv_aload_n hx hb dX12_makesCopy_174 rfl (lv_at hl 5 rfl) ?_
                          refine r_get C hw (hsh 49 _ rfl) fl_X12_71 (oV_r rfl (hrm (49, 11, 56) (by decide))) dX12_makesCopy_175 ?_
                          refine lv_iload hx hb dX12_makesCopy_178 (lv_at hl 0 rfl) ?_
                          refine r_iald C hw (hsh 56 _ rfl) (by omega) (by omega) dX12_makesCopy_180 (ti_c (ig94 (B + 56) z72.toInt.toNat).toInt rfl fun z106 hz106 => ?_)
                          refine z_lt (tgt := 200) hx hb dX12_makesCopy_181 (by decide) (fun c181 => ?_) (fun c181 => ?_)
                          · refine lv_iconst (v := 0) hx hb dX12_makesCopy_200 (by decide) (ti_c 0 (by decide) fun z108 hz108 => ?_)
                            refine lv_istore (lv' := [(5, .int z108), (7, .int z72), (6, .int v25), (4, .int z22), (3, .int z17), (0, .ref (B + 49))]) hx hb dX12_makesCopy_201 hl (by decide) rfl (fun ls hl => ?_)
                            refine tc_inc hx hb dX12_makesCopy_203 hl (k := 2) rfl (by decide) (by decide) (fun z109 hz109 ls hl => ?_)
                            first | replace hz109 := hz109 (by omega) | clear hz109
                            have hl : lv_has ls 8 [(6, .int z109), (5, .int z108), (7, .int z72), (4, .int z22), (3, .int z17), (0, .ref (B + 49))] := hl
                            refine lv_goto (tgt := 59) hx hb dX12_makesCopy_206 (by decide) ?_
                            exact ih59 ls H locs ig94 lg28 z109 z108 (lv_sub hl [0, 1, 3, 4, 5] rfl) hw hI hF (by omega) (by omega) (by omega) (hwg) (RK.st (fl := v26) hrk (by omega) n7 (by omega) (fun hf _ => ⟨⟨by show 0 ≤ (_ : Int32).toInt; omega, by show (_ : Int32).toInt < 12; omega⟩, by show 0 ≤ (_ : Int32).toInt; omega, by show (_ : Int32).toInt < 24; omega⟩)) (by omega)
                          · refine lv_aload_n hx hb dX12_makesCopy_184 rfl (lv_at hl 5 rfl) ?_
                            refine r_get C hw (hsh 49 _ rfl) fl_X12_71 (oV_r rfl (hrm (49, 11, 56) (by decide))) dX12_makesCopy_185 ?_
                            refine lv_iload hx hb dX12_makesCopy_188 (lv_at hl 0 rfl) ?_
                            refine r_iald C hw (hsh 56 _ rfl) (by omega) (by omega) dX12_makesCopy_190 (ti_c (ig94 (B + 56) z72.toInt.toNat).toInt rfl fun z110 hz110 => ?_)
                            refine lv_bipush (v := 24) hx hb dX12_makesCopy_191 (by decide) (ti_c 24 (by decide) fun z112 hz112 => ?_)
                            refine b_ge (tgt := 200) hx hb dX12_makesCopy_193 (by decide) (fun c193 => ?_) (fun c193 => ?_)
                            · refine lv_iconst (v := 0) hx hb dX12_makesCopy_200 (by decide) (ti_c 0 (by decide) fun z113 hz113 => ?_)
                              refine lv_istore (lv' := [(5, .int z113), (7, .int z72), (6, .int v25), (4, .int z22), (3, .int z17), (0, .ref (B + 49))]) hx hb dX12_makesCopy_201 hl (by decide) rfl (fun ls hl => ?_)
                              refine tc_inc hx hb dX12_makesCopy_203 hl (k := 2) rfl (by decide) (by decide) (fun z114 hz114 ls hl => ?_)
                              first | replace hz114 := hz114 (by omega) | clear hz114
                              have hl : lv_has ls 8 [(6, .int z114), (5, .int z113), (7, .int z72), (4, .int z22), (3, .int z17), (0, .ref (B + 49))] := hl
                              refine lv_goto (tgt := 59) hx hb dX12_makesCopy_206 (by decide) ?_
                              exact ih59 ls H locs ig94 lg28 z114 z113 (lv_sub hl [0, 1, 3, 4, 5] rfl) hw hI hF (by omega) (by omega) (by omega) (hwg) (RK.st (fl := v26) hrk (by omega) n7 (by omega) (fun hf _ => ⟨⟨by show 0 ≤ (_ : Int32).toInt; omega, by show (_ : Int32).toInt < 12; omega⟩, by show 0 ≤ (_ : Int32).toInt; omega, by show (_ : Int32).toInt < 24; omega⟩)) (by omega)
                            · refine lv_iconst (v := 1) hx hb dX12_makesCopy_196 (by decide) (ti_c 1 (by decide) fun z115 hz115 => ?_)
                              refine lv_goto (tgt := 201) hx hb dX12_makesCopy_197 (by decide) ?_
                              refine lv_istore (lv' := [(5, .int z115), (7, .int z72), (6, .int v25), (4, .int z22), (3, .int z17), (0, .ref (B + 49))]) hx hb dX12_makesCopy_201 hl (by decide) rfl (fun ls hl => ?_)
                              refine tc_inc hx hb dX12_makesCopy_203 hl (k := 2) rfl (by decide) (by decide) (fun z116 hz116 ls hl => ?_)
                              first | replace hz116 := hz116 (by omega) | clear hz116
                              have hl : lv_has ls 8 [(6, .int z116), (5, .int z115), (7, .int z72), (4, .int z22), (3, .int z17), (0, .ref (B + 49))] := hl
                              refine lv_goto (tgt := 59) hx hb dX12_makesCopy_206 (by decide) ?_
                              exact ih59 ls H locs ig94 lg28 z116 z115 (lv_sub hl [0, 1, 3, 4, 5] rfl) hw hI hF (by omega) (by omega) (by omega) (hwg) (RK.st (fl := v26) hrk (by omega) n7 (by omega) (fun hf _ => ⟨⟨by show 0 ≤ (_ : Int32).toInt; omega, by show (_ : Int32).toInt < 12; omega⟩, by show 0 ≤ (_ : Int32).toInt; omega, by show (_ : Int32).toInt < 24; omega⟩)) (by omega)
                  · refine lv_iconst (v := 0) hx hb dX12_makesCopy_139 (by decide) (ti_c 0 (by decide) fun z117 hz117 => ?_)
                    refine lv_goto (tgt := 145) hx hb dX12_makesCopy_140 (by decide) ?_
                    refine lv_iadd hx hb dX12_makesCopy_145 (tc_add fun z118 hz118 => ?_)
                    first | replace hz118 := hz118 (by omega) | clear hz118
                    refine r_iast C hw (hsh 56 _ rfl) (by omega) (by omega) dX12_makesCopy_146 (fun H locs hH hw => ?_)
                    obtain ⟨ig119, eig119⟩ : ∃ f, f = up2 ig85 (B + 56) z72.toInt.toNat z118 := ⟨_, rfl⟩
                    rw [← eig119] at hw
                    have hF : Ft B [54, 55, 56, 57, 58, 59, 60, 61] ig lg ig119 lg28 := by rw [eig119]; exact hF.pi (by decide)
                    have hI : IM τ φ B kd ig119 rg := by rw [eig119]; exact hI.pdr2 (Or.inr rfl) n7 q6
                    have hwg : WG B ig119 := by rw [eig119]; exact WG.u hwg (by decide)
                    have hrk : RK B ig119 v25.toInt.toNat v26 := by rw [eig119]; exact RK.u hrk (Or.inr rfl) n7
                    have k3 : (ig119 (B + 54) z72.toInt.toNat).toInt = 3 := by rw [eig119, up2_c (by decide)]; exact k3
                    refine lv_iload hx hb dX12_makesCopy_147 (lv_at hl 2 rfl) ?_
                    refine z_eq (tgt := 200) hx hb dX12_makesCopy_149 (by decide) (fun c149 => ?_) (fun c149 => ?_)
                    · refine lv_iconst (v := 0) hx hb dX12_makesCopy_200 (by decide) (ti_c 0 (by decide) fun z120 hz120 => ?_)
                      refine lv_istore (lv' := [(5, .int z120), (7, .int z72), (6, .int v25), (4, .int z22), (3, .int z17), (0, .ref (B + 49))]) hx hb dX12_makesCopy_201 hl (by decide) rfl (fun ls hl => ?_)
                      refine tc_inc hx hb dX12_makesCopy_203 hl (k := 2) rfl (by decide) (by decide) (fun z121 hz121 ls hl => ?_)
                      first | replace hz121 := hz121 (by omega) | clear hz121
                      have hl : lv_has ls 8 [(6, .int z121), (5, .int z120), (7, .int z72), (4, .int z22), (3, .int z17), (0, .ref (B + 49))] := hl
                      refine lv_goto (tgt := 59) hx hb dX12_makesCopy_206 (by decide) ?_
                      exact ih59 ls H locs ig119 lg28 z121 z120 (lv_sub hl [0, 1, 3, 4, 5] rfl) hw hI hF (by omega) (by omega) (by omega) (hwg) (RK.st (fl := v26) hrk (by omega) n7 (by omega) (fun hf _ => ⟨⟨by show 0 ≤ (_ : Int32).toInt; omega, by show (_ : Int32).toInt < 12; omega⟩, by show 0 ≤ (_ : Int32).toInt; omega, by show (_ : Int32).toInt < 24; omega⟩)) (by omega)
                    · refine lv_aload_n hx hb dX12_makesCopy_152 rfl (lv_at hl 5 rfl) ?_
                      refine r_get C hw (hsh 49 _ rfl) fl_X12_68 (oV_r rfl (hrm (49, 10, 55) (by decide))) dX12_makesCopy_153 ?_
                      refine lv_iload hx hb dX12_makesCopy_156 (lv_at hl 0 rfl) ?_
                      refine r_iald C hw (hsh 55 _ rfl) (by omega) (by omega) dX12_makesCopy_158 (ti_c (ig119 (B + 55) z72.toInt.toNat).toInt rfl fun z122 hz122 => ?_)
                      refine z_lt (tgt := 200) hx hb dX12_makesCopy_159 (by decide) (fun c159 => ?_) (fun c159 => ?_)
                      · refine lv_iconst (v := 0) hx hb dX12_makesCopy_200 (by decide) (ti_c 0 (by decide) fun z124 hz124 => ?_)
                        refine lv_istore (lv' := [(5, .int z124), (7, .int z72), (6, .int v25), (4, .int z22), (3, .int z17), (0, .ref (B + 49))]) hx hb dX12_makesCopy_201 hl (by decide) rfl (fun ls hl => ?_)
                        refine tc_inc hx hb dX12_makesCopy_203 hl (k := 2) rfl (by decide) (by decide) (fun z125 hz125 ls hl => ?_)
                        first | replace hz125 := hz125 (by omega) | clear hz125
                        have hl : lv_has ls 8 [(6, .int z125), (5, .int z124), (7, .int z72), (4, .int z22), (3, .int z17), (0, .ref (B + 49))] := hl
                        refine lv_goto (tgt := 59) hx hb dX12_makesCopy_206 (by decide) ?_
                        exact ih59 ls H locs ig119 lg28 z125 z124 (lv_sub hl [0, 1, 3, 4, 5] rfl) hw hI hF (by omega) (by omega) (by omega) (hwg) (RK.st (fl := v26) hrk (by omega) n7 (by omega) (fun hf _ => ⟨⟨by show 0 ≤ (_ : Int32).toInt; omega, by show (_ : Int32).toInt < 12; omega⟩, by show 0 ≤ (_ : Int32).toInt; omega, by show (_ : Int32).toInt < 24; omega⟩)) (by omega)
                      · refine lv_aload_n hx hb dX12_makesCopy_162 rfl (lv_at hl 5 rfl) ?_
                        refine r_get C hw (hsh 49 _ rfl) fl_X12_68 (oV_r rfl (hrm (49, 10, 55) (by decide))) dX12_makesCopy_163 ?_
                        refine lv_iload hx hb dX12_makesCopy_166 (lv_at hl 0 rfl) ?_
                        refine r_iald C hw (hsh 55 _ rfl) (by omega) (by omega) dX12_makesCopy_168 (ti_c (ig119 (B + 55) z72.toInt.toNat).toInt rfl fun z126 hz126 => ?_)
                        refine lv_bipush (v := 12) hx hb dX12_makesCopy_169 (by decide) (ti_c 12 (by decide) fun z128 hz128 => ?_)
                        refine b_ge (tgt := 200) hx hb dX12_makesCopy_171 (by decide) (fun c171 => ?_) (fun c171 => ?_)
                        · refine lv_iconst (v := 0) hx hb dX12_makesCopy_200 (by decide) (ti_c 0 (by decide) fun z129 hz129 => ?_)
                          refine lv_istore (lv' := [(5, .int z129), (7, .int z72), (6, .int v25), (4, .int z22), (3, .int z17), (0, .ref (B + 49))]) hx hb dX12_makesCopy_201 hl (by decide) rfl (fun ls hl => ?_)
                          refine tc_inc hx hb dX12_makesCopy_203 hl (k := 2) rfl (by decide) (by decide) (fun z130 hz130 ls hl => ?_)
                          first | replace hz130 := hz130 (by omega) | clear hz130
                          have hl : lv_has ls 8 [(6, .int z130), (5, .int z129), (7, .int z72), (4, .int z22), (3, .int z17), (0, .ref (B + 49))] := hl
                          refine lv_goto (tgt := 59) hx hb dX12_makesCopy_206 (by decide) ?_
                          exact ih59 ls H locs ig119 lg28 z130 z129 (lv_sub hl [0, 1, 3, 4, 5] rfl) hw hI hF (by omega) (by omega) (by omega) (hwg) (RK.st (fl := v26) hrk (by omega) n7 (by omega) (fun hf _ => ⟨⟨by show 0 ≤ (_ : Int32).toInt; omega, by show (_ : Int32).toInt < 12; omega⟩, by show 0 ≤ (_ : Int32).toInt; omega, by show (_ : Int32).toInt < 24; omega⟩)) (by omega)
                        · refine lv_aload_n hx hb dX12_makesCopy_174 rfl (lv_at hl 5 rfl) ?_
                          refine r_get C hw (hsh 49 _ rfl) fl_X12_71 (oV_r rfl (hrm (49, 11, 56) (by decide))) dX12_makesCopy_175 ?_
                          refine lv_iload hx hb dX12_makesCopy_178 (lv_at hl 0 rfl) ?_
                          refine r_iald C hw (hsh 56 _ rfl) (by omega) (by omega) dX12_makesCopy_180 (ti_c (ig119 (B + 56) z72.toInt.toNat).toInt rfl fun z131 hz131 => ?_)
                          refine z_lt (tgt := 200) hx hb dX12_makesCopy_181 (by decide) (fun c181 => ?_) (fun c181 => ?_)
                          · refine lv_iconst (v := 0) hx hb dX12_makesCopy_200 (by decide) (ti_c 0 (by decide) fun z133 hz133 => ?_)
                            refine lv_istore (lv' := [(5, .int z133), (7, .int z72), (6, .int v25), (4, .int z22), (3, .int z17), (0, .ref (B + 49))]) hx hb dX12_makesCopy_201 hl (by decide) rfl (fun ls hl => ?_)
                            refine tc_inc hx hb dX12_makesCopy_203 hl (k := 2) rfl (by decide) (by decide) (fun z134 hz134 ls hl => ?_)
                            first | replace hz134 := hz134 (by omega) | clear hz134
                            have hl : lv_has ls 8 [(6, .int z134), (5, .int z133), (7, .int z72), (4, .int z22), (3, .int z17), (0, .ref (B + 49))] := hl
                            refine lv_goto (tgt := 59) hx hb dX12_makesCopy_206 (by decide) ?_
                            exact ih59 ls H locs ig119 lg28 z134 z133 (lv_sub hl [0, 1, 3, 4, 5] rfl) hw hI hF (by omega) (by omega) (by omega) (hwg) (RK.st (fl := v26) hrk (by omega) n7 (by omega) (fun hf _ => ⟨⟨by show 0 ≤ (_ : Int32).toInt; omega, by show (_ : Int32).toInt < 12; omega⟩, by show 0 ≤ (_ : Int32).toInt; omega, by show (_ : Int32).toInt < 24; omega⟩)) (by omega)
                          · refine lv_aload_n hx hb dX12_makesCopy_184 rfl (lv_at hl 5 rfl) ?_
                            refine r_get C hw (hsh 49 _ rfl) fl_X12_71 (oV_r rfl (hrm (49, 11, 56) (by decide))) dX12_makesCopy_185 ?_
                            refine lv_iload hx hb dX12_makesCopy_188 (lv_at hl 0 rfl) ?_
                            refine r_iald C hw (hsh 56 _ rfl) (by omega) (by omega) dX12_makesCopy_190 (ti_c (ig119 (B + 56) z72.toInt.toNat).toInt rfl fun z135 hz135 => ?_)
                            refine lv_bipush (v := 24) hx hb dX12_makesCopy_191 (by decide) (ti_c 24 (by decide) fun z137 hz137 => ?_)
                            refine b_ge (tgt := 200) hx hb dX12_makesCopy_193 (by decide) (fun c193 => ?_) (fun c193 => ?_)
                            · refine lv_iconst (v := 0) hx hb dX12_makesCopy_200 (by decide) (ti_c 0 (by decide) fun z138 hz138 => ?_)
                              refine lv_istore (lv' := [(5, .int z138), (7, .int z72), (6, .int v25), (4, .int z22), (3, .int z17), (0, .ref (B + 49))]) hx hb dX12_makesCopy_201 hl (by decide) rfl (fun ls hl => ?_)
                              refine tc_inc hx hb dX12_makesCopy_203 hl (k := 2) rfl (by decide) (by decide) (fun z139 hz139 ls hl => ?_)
                              first | replace hz139 := hz139 (by omega) | clear hz139
                              have hl : lv_has ls 8 [(6, .int z139), (5, .int z138), (7, .int z72), (4, .int z22), (3, .int z17), (0, .ref (B + 49))] := hl
                              refine lv_goto (tgt := 59) hx hb dX12_makesCopy_206 (by decide) ?_
                              exact ih59 ls H locs ig119 lg28 z139 z138 (lv_sub hl [0, 1, 3, 4, 5] rfl) hw hI hF (by omega) (by omega) (by omega) (hwg) (RK.st (fl := v26) hrk (by omega) n7 (by omega) (fun hf _ => ⟨⟨by show 0 ≤ (_ : Int32).toInt; omega, by show (_ : Int32).toInt < 12; omega⟩, by show 0 ≤ (_ : Int32).toInt; omega, by show (_ : Int32).toInt < 24; omega⟩)) (by omega)
                            · refine lv_iconst (v := 1) hx hb dX12_makesCopy_196 (by decide) (ti_c 1 (by decide) fun z140 hz140 => ?_)
                              refine lv_goto (tgt := 201) hx hb dX12_makesCopy_197 (by decide) ?_
                              refine lv_istore (lv' := [(5, .int z140), (7, .int z72), (6, .int v25), (4, .int z22), (3, .int z17), (0, .ref (B + 49))]) hx hb dX12_makesCopy_201 hl (by decide) rfl (fun ls hl => ?_)
                              refine tc_inc hx hb dX12_makesCopy_203 hl (k := 2) rfl (by decide) (by decide) (fun z141 hz141 ls hl => ?_)
                              first | replace hz141 := hz141 (by omega) | clear hz141
                              have hl : lv_has ls 8 [(6, .int z141), (5, .int z140), (7, .int z72), (4, .int z22), (3, .int z17), (0, .ref (B + 49))] := hl
                              refine lv_goto (tgt := 59) hx hb dX12_makesCopy_206 (by decide) ?_
                              exact ih59 ls H locs ig119 lg28 z141 z140 (lv_sub hl [0, 1, 3, 4, 5] rfl) hw hI hF (by omega) (by omega) (by omega) (hwg) (RK.st (fl := v26) hrk (by omega) n7 (by omega) (fun hf _ => ⟨⟨by show 0 ≤ (_ : Int32).toInt; omega, by show (_ : Int32).toInt < 12; omega⟩, by show 0 ≤ (_ : Int32).toInt; omega, by show (_ : Int32).toInt < 24; omega⟩)) (by omega)
                · refine lv_iconst (v := 0) hx hb dX12_makesCopy_111 (by decide) (ti_c 0 (by decide) fun z142 hz142 => ?_)
                  refine lv_goto (tgt := 116) hx hb dX12_makesCopy_112 (by decide) ?_
                  refine lv_iadd hx hb dX12_makesCopy_116 (tc_add fun z143 hz143 => ?_)
                  first | replace hz143 := hz143 (by omega) | clear hz143
                  refine r_iast C hw (hsh 55 _ rfl) (by omega) (by omega) dX12_makesCopy_117 (fun H locs hH hw => ?_)
                  obtain ⟨ig144, eig144⟩ : ∃ f, f = up2 ig27 (B + 55) z72.toInt.toNat z143 := ⟨_, rfl⟩
                  rw [← eig144] at hw
                  have hF : Ft B [54, 55, 56, 57, 58, 59, 60, 61] ig lg ig144 lg28 := by rw [eig144]; exact hF.pi (by decide)
                  have hI : IM τ φ B kd ig144 rg := by rw [eig144]; exact hI.pdr2 (Or.inl rfl) n7 q6
                  have hwg : WG B ig144 := by rw [eig144]; exact WG.uA g59_3 k3
                  have hrk : RK B ig144 v25.toInt.toNat v26 := by rw [eig144]; exact RK.u g59_4 (Or.inl rfl) n7
                  have k3 : (ig144 (B + 54) z72.toInt.toNat).toInt = 3 := by rw [eig144, up2_c (by decide)]; exact k3
                  refine lv_aload_n hx hb dX12_makesCopy_118 rfl (lv_at hl 5 rfl) ?_
                  refine r_get C hw (hsh 49 _ rfl) fl_X12_71 (oV_r rfl (hrm (49, 11, 56) (by decide))) dX12_makesCopy_119 ?_
                  refine lv_iload hx hb dX12_makesCopy_122 (lv_at hl 0 rfl) ?_
                  refine lv_dup2_11 hx hb dX12_makesCopy_124 rfl rfl ?_
                  refine r_iald C hw (hsh 56 _ rfl) (by omega) (by omega) dX12_makesCopy_125 (ti_c (ig144 (B + 56) z72.toInt.toNat).toInt rfl fun z145 hz145 => ?_)
                  refine lv_aload_n hx hb dX12_makesCopy_126 rfl (lv_at hl 5 rfl) ?_
                  refine r_get C hw (hsh 49 _ rfl) fl_X12_74 (oV_r rfl (hrm (49, 12, 57) (by decide))) dX12_makesCopy_127 ?_
                  refine lv_iload hx hb dX12_makesCopy_130 (lv_at hl 0 rfl) ?_
                  refine r_iald C hw (hsh 57 _ rfl) (by omega) (by omega) dX12_makesCopy_132 (ti_c (ig144 (B + 57) z72.toInt.toNat).toInt rfl fun z147 hz147 => ?_)
                  refine lv_iconst (v := 2) hx hb dX12_makesCopy_133 (by decide) (ti_c 2 (by decide) fun z149 hz149 => ?_)
                  refine lv_iand hx hb dX12_makesCopy_134 (ti_any fun z150 => ?_)
                  refine lv_iconst (v := 2) hx hb dX12_makesCopy_135 (by decide) (ti_c 2 (by decide) fun z151 hz151 => ?_)
                  refine b_ne (tgt := 143) hx hb dX12_makesCopy_136 (by decide) (fun c136 => ?_) (fun c136 => ?_)
                  · refine lv_iload hx hb dX12_makesCopy_143 (lv_at hl 3 rfl) ?_
                    refine lv_iadd hx hb dX12_makesCopy_145 (tc_add fun z152 hz152 => ?_)
                    first | replace hz152 := hz152 (by omega) | clear hz152
                    refine r_iast C hw (hsh 56 _ rfl) (by omega) (by omega) dX12_makesCopy_146 (fun H locs hH hw => ?_)
                    obtain ⟨ig153, eig153⟩ : ∃ f, f = up2 ig144 (B + 56) z72.toInt.toNat z152 := ⟨_, rfl⟩
                    rw [← eig153] at hw
                    have hF : Ft B [54, 55, 56, 57, 58, 59, 60, 61] ig lg ig153 lg28 := by rw [eig153]; exact hF.pi (by decide)
                    have hI : IM τ φ B kd ig153 rg := by rw [eig153]; exact hI.pdr2 (Or.inr rfl) n7 q6
                    have hwg : WG B ig153 := by rw [eig153]; exact WG.u hwg (by decide)
                    have hrk : RK B ig153 v25.toInt.toNat v26 := by rw [eig153]; exact RK.u hrk (Or.inr rfl) n7
                    have k3 : (ig153 (B + 54) z72.toInt.toNat).toInt = 3 := by rw [eig153, up2_c (by decide)]; exact k3
                    refine lv_iload hx hb dX12_makesCopy_147 (lv_at hl 2 rfl) ?_
                    refine z_eq (tgt := 200) hx hb dX12_makesCopy_149 (by decide) (fun c149 => ?_) (fun c149 => ?_)
                    · refine lv_iconst (v := 0) hx hb dX12_makesCopy_200 (by decide) (ti_c 0 (by decide) fun z154 hz154 => ?_)
                      refine lv_istore (lv' := [(5, .int z154), (7, .int z72), (6, .int v25), (4, .int z22), (3, .int z17), (0, .ref (B + 49))]) hx hb dX12_makesCopy_201 hl (by decide) rfl (fun ls hl => ?_)
                      refine tc_inc hx hb dX12_makesCopy_203 hl (k := 2) rfl (by decide) (by decide) (fun z155 hz155 ls hl => ?_)
                      first | replace hz155 := hz155 (by omega) | clear hz155
                      have hl : lv_has ls 8 [(6, .int z155), (5, .int z154), (7, .int z72), (4, .int z22), (3, .int z17), (0, .ref (B + 49))] := hl
                      refine lv_goto (tgt := 59) hx hb dX12_makesCopy_206 (by decide) ?_
                      exact ih59 ls H locs ig153 lg28 z155 z154 (lv_sub hl [0, 1, 3, 4, 5] rfl) hw hI hF (by omega) (by omega) (by omega) (hwg) (RK.st (fl := v26) hrk (by omega) n7 (by omega) (fun hf _ => ⟨⟨by show 0 ≤ (_ : Int32).toInt; omega, by show (_ : Int32).toInt < 12; omega⟩, by show 0 ≤ (_ : Int32).toInt; omega, by show (_ : Int32).toInt < 24; omega⟩)) (by omega)
                    · refine lv_aload_n hx hb dX12_makesCopy_152 rfl (lv_at hl 5 rfl) ?_
                      refine r_get C hw (hsh 49 _ rfl) fl_X12_68 (oV_r rfl (hrm (49, 10, 55) (by decide))) dX12_makesCopy_153 ?_
                      refine lv_iload hx hb dX12_makesCopy_156 (lv_at hl 0 rfl) ?_
                      refine r_iald C hw (hsh 55 _ rfl) (by omega) (by omega) dX12_makesCopy_158 (ti_c (ig153 (B + 55) z72.toInt.toNat).toInt rfl fun z156 hz156 => ?_)
                      refine z_lt (tgt := 200) hx hb dX12_makesCopy_159 (by decide) (fun c159 => ?_) (fun c159 => ?_)
                      · refine lv_iconst (v := 0) hx hb dX12_makesCopy_200 (by decide) (ti_c 0 (by decide) fun z158 hz158 => ?_)
                        refine lv_istore (lv' := [(5, .int z158), (7, .int z72), (6, .int v25), (4, .int z22), (3, .int z17), (0, .ref (B + 49))]) hx hb dX12_makesCopy_201 hl (by decide) rfl (fun ls hl => ?_)
                        refine tc_inc hx hb dX12_makesCopy_203 hl (k := 2) rfl (by decide) (by decide) (fun z159 hz159 ls hl => ?_)
                        first | replace hz159 := hz159 (by omega) | clear hz159
                        have hl : lv_has ls 8 [(6, .int z159), (5, .int z158), (7, .int z72), (4, .int z22), (3, .int z17), (0, .ref (B + 49))] := hl
                        refine lv_goto (tgt := 59) hx hb dX12_makesCopy_206 (by decide) ?_
                        exact ih59 ls H locs ig153 lg28 z159 z158 (lv_sub hl [0, 1, 3, 4, 5] rfl) hw hI hF (by omega) (by omega) (by omega) (hwg) (RK.st (fl := v26) hrk (by omega) n7 (by omega) (fun hf _ => ⟨⟨by show 0 ≤ (_ : Int32).toInt; omega, by show (_ : Int32).toInt < 12; omega⟩, by show 0 ≤ (_ : Int32).toInt; omega, by show (_ : Int32).toInt < 24; omega⟩)) (by omega)
                      · refine lv_aload_n hx hb dX12_makesCopy_162 rfl (lv_at hl 5 rfl) ?_
                        refine r_get C hw (hsh 49 _ rfl) fl_X12_68 (oV_r rfl (hrm (49, 10, 55) (by decide))) dX12_makesCopy_163 ?_
                        refine lv_iload hx hb dX12_makesCopy_166 (lv_at hl 0 rfl) ?_
                        refine r_iald C hw (hsh 55 _ rfl) (by omega) (by omega) dX12_makesCopy_168 (ti_c (ig153 (B + 55) z72.toInt.toNat).toInt rfl fun z160 hz160 => ?_)
                        refine lv_bipush (v := 12) hx hb dX12_makesCopy_169 (by decide) (ti_c 12 (by decide) fun z162 hz162 => ?_)
                        refine b_ge (tgt := 200) hx hb dX12_makesCopy_171 (by decide) (fun c171 => ?_) (fun c171 => ?_)
                        · refine lv_iconst (v := 0) hx hb dX12_makesCopy_200 (by decide) (ti_c 0 (by decide) fun z163 hz163 => ?_)
                          refine lv_istore (lv' := [(5, .int z163), (7, .int z72), (6, .int v25), (4, .int z22), (3, .int z17), (0, .ref (B + 49))]) hx hb dX12_makesCopy_201 hl (by decide) rfl (fun ls hl => ?_)
                          refine tc_inc hx hb dX12_makesCopy_203 hl (k := 2) rfl (by decide) (by decide) (fun z164 hz164 ls hl => ?_)
                          first | replace hz164 := hz164 (by omega) | clear hz164
                          have hl : lv_has ls 8 [(6, .int z164), (5, .int z163), (7, .int z72), (4, .int z22), (3, .int z17), (0, .ref (B + 49))] := hl
                          refine lv_goto (tgt := 59) hx hb dX12_makesCopy_206 (by decide) ?_
                          exact ih59 ls H locs ig153 lg28 z164 z163 (lv_sub hl [0, 1, 3, 4, 5] rfl) hw hI hF (by omega) (by omega) (by omega) (hwg) (RK.st (fl := v26) hrk (by omega) n7 (by omega) (fun hf _ => ⟨⟨by show 0 ≤ (_ : Int32).toInt; omega, by show (_ : Int32).toInt < 12; omega⟩, by show 0 ≤ (_ : Int32).toInt; omega, by show (_ : Int32).toInt < 24; omega⟩)) (by omega)
                        · refine lv_aload_n hx hb dX12_makesCopy_174 rfl (lv_at hl 5 rfl) ?_
                          refine r_get C hw (hsh 49 _ rfl) fl_X12_71 (oV_r rfl (hrm (49, 11, 56) (by decide))) dX12_makesCopy_175 ?_
                          refine lv_iload hx hb dX12_makesCopy_178 (lv_at hl 0 rfl) ?_
                          refine r_iald C hw (hsh 56 _ rfl) (by omega) (by omega) dX12_makesCopy_180 (ti_c (ig153 (B + 56) z72.toInt.toNat).toInt rfl fun z165 hz165 => ?_)
                          refine z_lt (tgt := 200) hx hb dX12_makesCopy_181 (by decide) (fun c181 => ?_) (fun c181 => ?_)
                          · refine lv_iconst (v := 0) hx hb dX12_makesCopy_200 (by decide) (ti_c 0 (by decide) fun z167 hz167 => ?_)
                            refine lv_istore (lv' := [(5, .int z167), (7, .int z72), (6, .int v25), (4, .int z22), (3, .int z17), (0, .ref (B + 49))]) hx hb dX12_makesCopy_201 hl (by decide) rfl (fun ls hl => ?_)
                            refine tc_inc hx hb dX12_makesCopy_203 hl (k := 2) rfl (by decide) (by decide) (fun z168 hz168 ls hl => ?_)
                            first | replace hz168 := hz168 (by omega) | clear hz168
                            have hl : lv_has ls 8 [(6, .int z168), (5, .int z167), (7, .int z72), (4, .int z22), (3, .int z17), (0, .ref (B + 49))] := hl
                            refine lv_goto (tgt := 59) hx hb dX12_makesCopy_206 (by decide) ?_
                            exact ih59 ls H locs ig153 lg28 z168 z167 (lv_sub hl [0, 1, 3, 4, 5] rfl) hw hI hF (by omega) (by omega) (by omega) (hwg) (RK.st (fl := v26) hrk (by omega) n7 (by omega) (fun hf _ => ⟨⟨by show 0 ≤ (_ : Int32).toInt; omega, by show (_ : Int32).toInt < 12; omega⟩, by show 0 ≤ (_ : Int32).toInt; omega, by show (_ : Int32).toInt < 24; omega⟩)) (by omega)
                          · refine lv_aload_n hx hb dX12_makesCopy_184 rfl (lv_at hl 5 rfl) ?_
                            refine r_get C hw (hsh 49 _ rfl) fl_X12_71 (oV_r rfl (hrm (49, 11, 56) (by decide))) dX12_makesCopy_185 ?_
                            refine lv_iload hx hb dX12_makesCopy_188 (lv_at hl 0 rfl) ?_
                            refine r_iald C hw (hsh 56 _ rfl) (by omega) (by omega) dX12_makesCopy_190 (ti_c (ig153 (B + 56) z72.toInt.toNat).toInt rfl fun z169 hz169 => ?_)
                            refine lv_bipush (v := 24) hx hb dX12_makesCopy_191 (by decide) (ti_c 24 (by decide) fun z171 hz171 => ?_)
                            refine b_ge (tgt := 200) hx hb dX12_makesCopy_193 (by decide) (fun c193 => ?_) (fun c193 => ?_)
                            · refine lv_iconst (v := 0) hx hb dX12_makesCopy_200 (by decide) (ti_c 0 (by decide) fun z172 hz172 => ?_)
                              refine lv_istore (lv' := [(5, .int z172), (7, .int z72), (6, .int v25), (4, .int z22), (3, .int z17), (0, .ref (B + 49))]) hx hb dX12_makesCopy_201 hl (by decide) rfl (fun ls hl => ?_)
                              refine tc_inc hx hb dX12_makesCopy_203 hl (k := 2) rfl (by decide) (by decide) (fun z173 hz173 ls hl => ?_)
                              first | replace hz173 := hz173 (by omega) | clear hz173
                              have hl : lv_has ls 8 [(6, .int z173), (5, .int z172), (7, .int z72), (4, .int z22), (3, .int z17), (0, .ref (B + 49))] := hl
                              refine lv_goto (tgt := 59) hx hb dX12_makesCopy_206 (by decide) ?_
                              exact ih59 ls H locs ig153 lg28 z173 z172 (lv_sub hl [0, 1, 3, 4, 5] rfl) hw hI hF (by omega) (by omega) (by omega) (hwg) (RK.st (fl := v26) hrk (by omega) n7 (by omega) (fun hf _ => ⟨⟨by show 0 ≤ (_ : Int32).toInt; omega, by show (_ : Int32).toInt < 12; omega⟩, by show 0 ≤ (_ : Int32).toInt; omega, by show (_ : Int32).toInt < 24; omega⟩)) (by omega)
                            · refine lv_iconst (v := 1) hx hb dX12_makesCopy_196 (by decide) (ti_c 1 (by decide) fun z174 hz174 => ?_)
                              refine lv_goto (tgt := 201) hx hb dX12_makesCopy_197 (by decide) ?_
                              refine lv_istore (lv' := [(5, .int z174), (7, .int z72), (6, .int v25), (4, .int z22), (3, .int z17), (0, .ref (B + 49))]) hx hb dX12_makesCopy_201 hl (by decide) rfl (fun ls hl => ?_)
                              refine tc_inc hx hb dX12_makesCopy_203 hl (k := 2) rfl (by decide) (by decide) (fun z175 hz175 ls hl => ?_)
                              first | replace hz175 := hz175 (by omega) | clear hz175
                              have hl : lv_has ls 8 [(6, .int z175), (5, .int z174), (7, .int z72), (4, .int z22), (3, .int z17), (0, .ref (B + 49))] := hl
                              refine lv_goto (tgt := 59) hx hb dX12_makesCopy_206 (by decide) ?_
                              exact ih59 ls H locs ig153 lg28 z175 z174 (lv_sub hl [0, 1, 3, 4, 5] rfl) hw hI hF (by omega) (by omega) (by omega) (hwg) (RK.st (fl := v26) hrk (by omega) n7 (by omega) (fun hf _ => ⟨⟨by show 0 ≤ (_ : Int32).toInt; omega, by show (_ : Int32).toInt < 12; omega⟩, by show 0 ≤ (_ : Int32).toInt; omega, by show (_ : Int32).toInt < 24; omega⟩)) (by omega)
                  · refine lv_iconst (v := 0) hx hb dX12_makesCopy_139 (by decide) (ti_c 0 (by decide) fun z176 hz176 => ?_)
                    refine lv_goto (tgt := 145) hx hb dX12_makesCopy_140 (by decide) ?_
                    refine lv_iadd hx hb dX12_makesCopy_145 (tc_add fun z177 hz177 => ?_)
                    first | replace hz177 := hz177 (by omega) | clear hz177
                    refine r_iast C hw (hsh 56 _ rfl) (by omega) (by omega) dX12_makesCopy_146 (fun H locs hH hw => ?_)
                    obtain ⟨ig178, eig178⟩ : ∃ f, f = up2 ig144 (B + 56) z72.toInt.toNat z177 := ⟨_, rfl⟩
                    rw [← eig178] at hw
                    have hF : Ft B [54, 55, 56, 57, 58, 59, 60, 61] ig lg ig178 lg28 := by rw [eig178]; exact hF.pi (by decide)
                    have hI : IM τ φ B kd ig178 rg := by rw [eig178]; exact hI.pdr2 (Or.inr rfl) n7 q6
                    have hwg : WG B ig178 := by rw [eig178]; exact WG.u hwg (by decide)
                    have hrk : RK B ig178 v25.toInt.toNat v26 := by rw [eig178]; exact RK.u hrk (Or.inr rfl) n7
                    have k3 : (ig178 (B + 54) z72.toInt.toNat).toInt = 3 := by rw [eig178, up2_c (by decide)]; exact k3
                    refine lv_iload hx hb dX12_makesCopy_147 (lv_at hl 2 rfl) ?_
                    refine z_eq (tgt := 200) hx hb dX12_makesCopy_149 (by decide) (fun c149 => ?_) (fun c149 => ?_)
                    · refine lv_iconst (v := 0) hx hb dX12_makesCopy_200 (by decide) (ti_c 0 (by decide) fun z179 hz179 => ?_)
                      refine lv_istore (lv' := [(5, .int z179), (7, .int z72), (6, .int v25), (4, .int z22), (3, .int z17), (0, .ref (B + 49))]) hx hb dX12_makesCopy_201 hl (by decide) rfl (fun ls hl => ?_)
                      refine tc_inc hx hb dX12_makesCopy_203 hl (k := 2) rfl (by decide) (by decide) (fun z180 hz180 ls hl => ?_)
                      first | replace hz180 := hz180 (by omega) | clear hz180
                      have hl : lv_has ls 8 [(6, .int z180), (5, .int z179), (7, .int z72), (4, .int z22), (3, .int z17), (0, .ref (B + 49))] := hl
                      refine lv_goto (tgt := 59) hx hb dX12_makesCopy_206 (by decide) ?_
                      exact ih59 ls H locs ig178 lg28 z180 z179 (lv_sub hl [0, 1, 3, 4, 5] rfl) hw hI hF (by omega) (by omega) (by omega) (hwg) (RK.st (fl := v26) hrk (by omega) n7 (by omega) (fun hf _ => ⟨⟨by show 0 ≤ (_ : Int32).toInt; omega, by show (_ : Int32).toInt < 12; omega⟩, by show 0 ≤ (_ : Int32).toInt; omega, by show (_ : Int32).toInt < 24; omega⟩)) (by omega)
                    · refine lv_aload_n hx hb dX12_makesCopy_152 rfl (lv_at hl 5 rfl) ?_
                      refine r_get C hw (hsh 49 _ rfl) fl_X12_68 (oV_r rfl (hrm (49, 10, 55) (by decide))) dX12_makesCopy_153 ?_
                      refine lv_iload hx hb dX12_makesCopy_156 (lv_at hl 0 rfl) ?_
                      refine r_iald C hw (hsh 55 _ rfl) (by omega) (by omega) dX12_makesCopy_158 (ti_c (ig178 (B + 55) z72.toInt.toNat).toInt rfl fun z181 hz181 => ?_)
                      refine z_lt (tgt := 200) hx hb dX12_makesCopy_159 (by decide) (fun c159 => ?_) (fun c159 => ?_)
                      · refine lv_iconst (v := 0) hx hb dX12_makesCopy_200 (by decide) (ti_c 0 (by decide) fun z183 hz183 => ?_)
                        refine lv_istore (lv' := [(5, .int z183), (7, .int z72), (6, .int v25), (4, .int z22), (3, .int z17), (0, .ref (B + 49))]) hx hb dX12_makesCopy_201 hl (by decide) rfl (fun ls hl => ?_)
                        refine tc_inc hx hb dX12_makesCopy_203 hl (k := 2) rfl (by decide) (by decide) (fun z184 hz184 ls hl => ?_)
                        first | replace hz184 := hz184 (by omega) | clear hz184
                        have hl : lv_has ls 8 [(6, .int z184), (5, .int z183), (7, .int z72), (4, .int z22), (3, .int z17), (0, .ref (B + 49))] := hl
                        refine lv_goto (tgt := 59) hx hb dX12_makesCopy_206 (by decide) ?_
                        exact ih59 ls H locs ig178 lg28 z184 z183 (lv_sub hl [0, 1, 3, 4, 5] rfl) hw hI hF (by omega) (by omega) (by omega) (hwg) (RK.st (fl := v26) hrk (by omega) n7 (by omega) (fun hf _ => ⟨⟨by show 0 ≤ (_ : Int32).toInt; omega, by show (_ : Int32).toInt < 12; omega⟩, by show 0 ≤ (_ : Int32).toInt; omega, by show (_ : Int32).toInt < 24; omega⟩)) (by omega)
                      · refine lv_aload_n hx hb dX12_makesCopy_162 rfl (lv_at hl 5 rfl) ?_
                        refine r_get C hw (hsh 49 _ rfl) fl_X12_68 (oV_r rfl (hrm (49, 10, 55) (by decide))) dX12_makesCopy_163 ?_
                        refine lv_iload hx hb dX12_makesCopy_166 (lv_at hl 0 rfl) ?_
                        refine r_iald C hw (hsh 55 _ rfl) (by omega) (by omega) dX12_makesCopy_168 (ti_c (ig178 (B + 55) z72.toInt.toNat).toInt rfl fun z185 hz185 => ?_)
                        refine lv_bipush (v := 12) hx hb dX12_makesCopy_169 (by decide) (ti_c 12 (by decide) fun z187 hz187 => ?_)
                        refine b_ge (tgt := 200) hx hb dX12_makesCopy_171 (by decide) (fun c171 => ?_) (fun c171 => ?_)
                        · refine lv_iconst (v := 0) hx hb dX12_makesCopy_200 (by decide) (ti_c 0 (by decide) fun z188 hz188 => ?_)
                          refine lv_istore (lv' := [(5, .int z188), (7, .int z72), (6, .int v25), (4, .int z22), (3, .int z17), (0, .ref (B + 49))]) hx hb dX12_makesCopy_201 hl (by decide) rfl (fun ls hl => ?_)
                          refine tc_inc hx hb dX12_makesCopy_203 hl (k := 2) rfl (by decide) (by decide) (fun z189 hz189 ls hl => ?_)
                          first | replace hz189 := hz189 (by omega) | clear hz189
                          have hl : lv_has ls 8 [(6, .int z189), (5, .int z188), (7, .int z72), (4, .int z22), (3, .int z17), (0, .ref (B + 49))] := hl
                          refine lv_goto (tgt := 59) hx hb dX12_makesCopy_206 (by decide) ?_
                          exact ih59 ls H locs ig178 lg28 z189 z188 (lv_sub hl [0, 1, 3, 4, 5] rfl) hw hI hF (by omega) (by omega) (by omega) (hwg) (RK.st (fl := v26) hrk (by omega) n7 (by omega) (fun hf _ => ⟨⟨by show 0 ≤ (_ : Int32).toInt; omega, by show (_ : Int32).toInt < 12; omega⟩, by show 0 ≤ (_ : Int32).toInt; omega, by show (_ : Int32).toInt < 24; omega⟩)) (by omega)
                        · refine lv_aload_n hx hb dX12_makesCopy_174 rfl (lv_at hl 5 rfl) ?_
                          refine r_get C hw (hsh 49 _ rfl) fl_X12_71 (oV_r rfl (hrm (49, 11, 56) (by decide))) dX12_makesCopy_175 ?_
                          refine lv_iload hx hb dX12_makesCopy_178 (lv_at hl 0 rfl) ?_
                          refine r_iald C hw (hsh 56 _ rfl) (by omega) (by omega) dX12_makesCopy_180 (ti_c (ig178 (B + 56) z72.toInt.toNat).toInt rfl fun z190 hz190 => ?_)
                          refine z_lt (tgt := 200) hx hb dX12_makesCopy_181 (by decide) (fun c181 => ?_) (fun c181 => ?_)
                          · refine lv_iconst (v := 0) hx hb dX12_makesCopy_200 (by decide) (ti_c 0 (by decide) fun z192 hz192 => ?_)
                            refine lv_istore (lv' := [(5, .int z192), (7, .int z72), (6, .int v25), (4, .int z22), (3, .int z17), (0, .ref (B + 49))]) hx hb dX12_makesCopy_201 hl (by decide) rfl (fun ls hl => ?_)
                            refine tc_inc hx hb dX12_makesCopy_203 hl (k := 2) rfl (by decide) (by decide) (fun z193 hz193 ls hl => ?_)
                            first | replace hz193 := hz193 (by omega) | clear hz193
                            have hl : lv_has ls 8 [(6, .int z193), (5, .int z192), (7, .int z72), (4, .int z22), (3, .int z17), (0, .ref (B + 49))] := hl
                            refine lv_goto (tgt := 59) hx hb dX12_makesCopy_206 (by decide) ?_
                            exact ih59 ls H locs ig178 lg28 z193 z192 (lv_sub hl [0, 1, 3, 4, 5] rfl) hw hI hF (by omega) (by omega) (by omega) (hwg) (RK.st (fl := v26) hrk (by omega) n7 (by omega) (fun hf _ => ⟨⟨by show 0 ≤ (_ : Int32).toInt; omega, by show (_ : Int32).toInt < 12; omega⟩, by show 0 ≤ (_ : Int32).toInt; omega, by show (_ : Int32).toInt < 24; omega⟩)) (by omega)
                          · refine lv_aload_n hx hb dX12_makesCopy_184 rfl (lv_at hl 5 rfl) ?_
                            refine r_get C hw (hsh 49 _ rfl) fl_X12_71 (oV_r rfl (hrm (49, 11, 56) (by decide))) dX12_makesCopy_185 ?_
                            refine lv_iload hx hb dX12_makesCopy_188 (lv_at hl 0 rfl) ?_
                            refine r_iald C hw (hsh 56 _ rfl) (by omega) (by omega) dX12_makesCopy_190 (ti_c (ig178 (B + 56) z72.toInt.toNat).toInt rfl fun z194 hz194 => ?_)
                            refine lv_bipush (v := 24) hx hb dX12_makesCopy_191 (by decide) (ti_c 24 (by decide) fun z196 hz196 => ?_)
                            refine b_ge (tgt := 200) hx hb dX12_makesCopy_193 (by decide) (fun c193 => ?_) (fun c193 => ?_)
                            · refine lv_iconst (v := 0) hx hb dX12_makesCopy_200 (by decide) (ti_c 0 (by decide) fun z197 hz197 => ?_)
                              refine lv_istore (lv' := [(5, .int z197), (7, .int z72), (6, .int v25), (4, .int z22), (3, .int z17), (0, .ref (B + 49))]) hx hb dX12_makesCopy_201 hl (by decide) rfl (fun ls hl => ?_)
                              refine tc_inc hx hb dX12_makesCopy_203 hl (k := 2) rfl (by decide) (by decide) (fun z198 hz198 ls hl => ?_)
                              first | replace hz198 := hz198 (by omega) | clear hz198
                              have hl : lv_has ls 8 [(6, .int z198), (5, .int z197), (7, .int z72), (4, .int z22), (3, .int z17), (0, .ref (B + 49))] := hl
                              refine lv_goto (tgt := 59) hx hb dX12_makesCopy_206 (by decide) ?_
                              exact ih59 ls H locs ig178 lg28 z198 z197 (lv_sub hl [0, 1, 3, 4, 5] rfl) hw hI hF (by omega) (by omega) (by omega) (hwg) (RK.st (fl := v26) hrk (by omega) n7 (by omega) (fun hf _ => ⟨⟨by show 0 ≤ (_ : Int32).toInt; omega, by show (_ : Int32).toInt < 12; omega⟩, by show 0 ≤ (_ : Int32).toInt; omega, by show (_ : Int32).toInt < 24; omega⟩)) (by omega)
                            · refine lv_iconst (v := 1) hx hb dX12_makesCopy_196 (by decide) (ti_c 1 (by decide) fun z199 hz199 => ?_)
                              refine lv_goto (tgt := 201) hx hb dX12_makesCopy_197 (by decide) ?_
                              refine lv_istore (lv' := [(5, .int z199), (7, .int z72), (6, .int v25), (4, .int z22), (3, .int z17), (0, .ref (B + 49))]) hx hb dX12_makesCopy_201 hl (by decide) rfl (fun ls hl => ?_)
                              refine tc_inc hx hb dX12_makesCopy_203 hl (k := 2) rfl (by decide) (by decide) (fun z200 hz200 ls hl => ?_)
                              first | replace hz200 := hz200 (by omega) | clear hz200
                              have hl : lv_has ls 8 [(6, .int z200), (5, .int z199), (7, .int z72), (4, .int z22), (3, .int z17), (0, .ref (B + 49))] := hl
                              refine lv_goto (tgt := 59) hx hb dX12_makesCopy_206 (by decide) ?_
                              exact ih59 ls H locs ig178 lg28 z200 z199 (lv_sub hl [0, 1, 3, 4, 5] rfl) hw hI hF (by omega) (by omega) (by omega) (hwg) (RK.st (fl := v26) hrk (by omega) n7 (by omega) (fun hf _ => ⟨⟨by show 0 ≤ (_ : Int32).toInt; omega, by show (_ : Int32).toInt < 12; omega⟩, by show 0 ≤ (_ : Int32).toInt; omega, by show (_ : Int32).toInt < 24; omega⟩)) (by omega)
        exact L59 ((120 - z24.toInt) + 1).toNat ls H locs ig10 lg11 z24 z23 (lv_sub hl [0, 1, 2, 3, 4] rfl) hw hI hF (by omega) (by omega) (by omega) (hwg) (RK.z (by omega)) (by omega)
      · refine lv_aload_n hx hb dX12_makesCopy_15 rfl (lv_at hl 1 rfl) ?_
        refine r_get C hw (hsh 49 _ rfl) fl_X12_86 (oV_r rfl (hrm (49, 17, 61) (by decide))) dX12_makesCopy_16 ?_
        refine lv_sipush (v := 864) hx hb dX12_makesCopy_19 (by decide) (ti_c 864 (by decide) fun z201 hz201 => ?_)
        refine lv_iload_n hx hb dX12_makesCopy_22 rfl (lv_at hl 0 rfl) ?_
        refine lv_iadd hx hb dX12_makesCopy_23 (tc_add fun z202 hz202 => ?_)
        first | replace hz202 := hz202 (by omega) | clear hz202
        refine lv_iconst (v := 0) hx hb dX12_makesCopy_24 (by decide) (ti_c 0 (by decide) fun z203 hz203 => ?_)
        refine r_iast C hw (hsh 61 _ rfl) (by omega) (by omega) dX12_makesCopy_25 (fun H locs hH hw => ?_)
        obtain ⟨ig204, eig204⟩ : ∃ f, f = up2 ig10 (B + 61) z202.toInt.toNat z203 := ⟨_, rfl⟩
        rw [← eig204] at hw
        have hF : Ft B [54, 55, 56, 57, 58, 59, 60, 61] ig lg ig204 lg11 := by rw [eig204]; exact hF.pi (by decide)
        have hI : IM τ φ B kd ig204 rg := by rw [eig204]; exact hI.pi (by decide) (show okR none _ from trivial)
        have hwg : WG B ig204 := by rw [eig204]; exact WG.u hwg (by decide)
        refine tc_inc hx hb dX12_makesCopy_26 hl (k := 0) rfl (by decide) (by decide) (fun z205 hz205 ls hl => ?_)
        first | replace hz205 := hz205 (by omega) | clear hz205
        have hl : lv_has ls 8 [(3, .int z205), (0, .ref (B + 49)), (1, .int x), (2, .int y)] := hl
        refine lv_goto (tgt := 10) hx hb dX12_makesCopy_29 (by decide) ?_
        exact ih10 ls H locs ig204 lg11 z205 (lv_sub hl [0, 1, 2, 3] rfl) hw hI hF (by omega) (by omega) (hwg) (by omega)
  exact L10 ((3 - z8.toInt) + 1).toNat ls H locs ig3 lg5 z8 (lv_sub hl [0, 1, 2, 3] rfl) hw hI hF (by omega) (by omega) (hwg) (by omega)

set_option maxHeartbeats 4000000 in
set_option maxRecDepth 100000 in
theorem t_X12_puts {τ : Tp} {φ : Option Int} (l : Launch) (B : Nat) (D : va_G) (cA : Nat → ClassId) (kd : sK) (ig : sI) (rg : sR) (lg : sG) (sz : Nat) (x : Int32) (hx0 : 0 ≤ x.toInt ∧ x.toInt < 288) (hwp : WP B ig 288) (hI : IM τ φ B kd ig rg) : MC l B D cA yX12_puts cX12_puts 3 none (rL 32 0 0) [.ref (B + 49), .int x] kd ig rg lg sz (PM τ φ B [49, 54, 55, 56, 57, 58, 59, 60, 61, 63, 64, 65, 66, 67, 68, 69, 70, 71, 72, 73, 74] kd ig rg lg (fun r ig' lg' => r = none)) := by
  refine MC.of (own := RX12) (by decide +kernel) rfl (Nat.le_of_ble_eq_true rfl) ?_
  intro p e s m args below meth c ls C hr hlk hnm hw hsz hl
  have hx := C.1.1
  have hb := C.1.2.1
  have hown := C.1.2.2.2.1
  have hts := C.1.2.2.2.2
  have hl : lv_has ls 3 [(0, .ref (B + 49)), (1, .int x)] := hl
  have hF : Ft B [49, 54, 55, 56, 57, 58, 59, 60, 61, 63, 64, 65, 66, 67, 68, 69, 70, 71, 72, 73, 74] ig lg ig lg := Ft.rf
  have hsh := hI.sh
  have hrm := hI.rm
  refine lv_aload_n hx hb dX12_puts_0 rfl (lv_at hl 0 rfl) ?_
  refine r_get C hw (hsh 49 _ rfl) fl_X12_188 (oV_i rfl) dX12_puts_1 (ti_c (ig (B + 49) 19).toInt rfl fun z1 hz1 => ?_)
  have k2 : 0 ≤ (ig (B + 49) 19).toInt ∧ (ig (B + 49) 19).toInt ≤ 20 := hI.i 49 19 (by decide) (by decide)
  refine lv_bipush (v := 20) hx hb dX12_puts_4 (by decide) (ti_c 20 (by decide) fun z3 hz3 => ?_)
  have J61 : ∀ (ls : Array Slot) (H : Heap) (locs : List Loc) (ig4 : sI) (lg5 : sG) , lv_has ls 3 [(0, .ref (B + 49)), (1, .int x)] → WD B D cA s.heap kd ig4 rg lg5 H locs → IM τ φ B kd ig4 rg → Ft B [49, 54, 55, 56, 57, 58, 59, 60, 61, 63, 64, 65, 66, 67, 68, 69, 70, 71, 72, 73, 74] ig lg ig4 lg5 → (0 ≤ (ig4 (B + 49) 19).toInt) → ((ig4 (B + 49) 19).toInt ≤ 19) → (WP B ig4 288) → W p l e (rL 32 0 0) s m args below meth c H locs 0 0 (MQ below (QcW B D cA (PM τ φ B [49, 54, 55, 56, 57, 58, 59, 60, 61, 63, 64, 65, 66, 67, 68, 69, 70, 71, 72, 73, 74] kd ig rg lg (fun r ig' lg' => r = none))) args s 0 0 (fun q => B ≤ q)) (F0 m 61 ls []) := by
    intro ls H locs ig4 lg5 hl hw hI hF g61_0 g61_1 g61_2
    have hwp := g61_2
    refine lv_aload_n hx hb dX12_puts_61 rfl (lv_at hl 0 rfl) ?_
    refine lv_iload_n hx hb dX12_puts_62 rfl (lv_at hl 1 rfl) ?_
    refine lv_sipush (v := 289) hx hb dX12_puts_63 (by decide) (ti_c 289 (by decide) fun z6 hz6 => ?_)
    refine lv_aload_n hx hb dX12_puts_66 rfl (lv_at hl 0 rfl) ?_
    refine r_get C hw (hsh 49 _ rfl) fl_X12_188 (oV_i rfl) dX12_puts_67 (ti_c (ig4 (B + 49) 19).toInt rfl fun z7 hz7 => ?_)
    have k8 : 0 ≤ (ig4 (B + 49) 19).toInt ∧ (ig4 (B + 49) 19).toInt ≤ 20 := hI.i 49 19 (by decide) (by decide)
    refine lv_iadd hx hb dX12_puts_70 (tc_add fun z9 hz9 => ?_)
    first | replace hz9 := hz9 (by omega) | clear hz9
    refine r_callV (As := [.int x, .int z9]) (rest := []) C hw (t_X12_copyRow l B D cA kd ig4 rg lg5 _ x z9 (by omega) (by omega) (i32_ne (by omega)) (hI.wp (by omega) (by omega)) hI) sv_X12_191 (hsh 49 _ rfl) rfl hl.1 rfl (Nat.le_of_ble_eq_true rfl) ⟨Nat.le_of_ble_eq_true rfl, Nat.le_of_ble_eq_true rfl⟩ ⟨Nat.le_of_ble_eq_true rfl, Nat.le_of_ble_eq_true rfl⟩ dX12_puts_71 (fun r14 kd10 ig11 rg12 lg13 H locs hw hH hp15 => ?_)
    obtain ⟨rfl, rfl, hI, hchp15, hrhp15⟩ := hp15
    have hF : Ft B [49, 54, 55, 56, 57, 58, 59, 60, 61, 63, 64, 65, 66, 67, 68, 69, 70, 71, 72, 73, 74] ig lg ig11 lg13 := Ft.tr hF hchp15 (by decide) (by decide)
    obtain ⟨rfl, hvhp15⟩ := hrhp15
    have u19 := congrArg Int32.toInt (hchp15.i 49 19 (by decide))
    have hwp : WP B ig11 288 := WP.keep hwp hvhp15 (by omega)
    refine lv_aload_n hx hb dX12_puts_74 rfl (lv_at hl 0 rfl) ?_
    refine r_get C hw (hsh 49 _ rfl) fl_X12_93 (oV_r rfl (hrm (49, 20, 63) (by decide))) dX12_puts_75 ?_
    refine lv_aload_n hx hb dX12_puts_78 rfl (lv_at hl 0 rfl) ?_
    refine r_get C hw (hsh 49 _ rfl) fl_X12_188 (oV_i rfl) dX12_puts_79 (ti_c (ig11 (B + 49) 19).toInt rfl fun z16 hz16 => ?_)
    have k17 : 0 ≤ (ig11 (B + 49) 19).toInt ∧ (ig11 (B + 49) 19).toInt ≤ 20 := hI.i 49 19 (by decide) (by decide)
    refine lv_iload_n hx hb dX12_puts_82 rfl (lv_at hl 1 rfl) ?_
    refine r_iast C hw (hsh 63 _ rfl) (by omega) (by omega) dX12_puts_83 (fun H locs hH hw => ?_)
    obtain ⟨ig18, eig18⟩ : ∃ f, f = up2 ig11 (B + 63) z16.toInt.toNat x := ⟨_, rfl⟩
    rw [← eig18] at hw
    have hF : Ft B [49, 54, 55, 56, 57, 58, 59, 60, 61, 63, 64, 65, 66, 67, 68, 69, 70, 71, 72, 73, 74] ig lg ig18 lg13 := by rw [eig18]; exact hF.pi (by decide)
    have hI : IM τ φ B kd ig18 rg := by rw [eig18]; exact hI.pi (by decide) (show okR (some (0, 287)) _ from ⟨by show (0 : Int) ≤ _; omega, by show _ ≤ (287 : Int); omega⟩)
    have wig18_49_19 : (ig18 (B + 49) 19).toInt = (ig11 (B + 49) 19).toInt := by rw [eig18, up2_a (by omega)]
    have hwp : WP B ig18 288 := by rw [eig18]; exact WP.u hwp (by decide)
    refine lv_aload_n hx hb dX12_puts_84 rfl (lv_at hl 0 rfl) ?_
    refine lv_dup hx hb dX12_puts_85 rfl ?_
    refine r_get C hw (hsh 49 _ rfl) fl_X12_188 (oV_i rfl) dX12_puts_86 (ti_c (ig18 (B + 49) 19).toInt rfl fun z19 hz19 => ?_)
    have k20 : 0 ≤ (ig18 (B + 49) 19).toInt ∧ (ig18 (B + 49) 19).toInt ≤ 20 := hI.i 49 19 (by decide) (by decide)
    refine lv_iconst (v := 1) hx hb dX12_puts_89 (by decide) (ti_c 1 (by decide) fun z21 hz21 => ?_)
    refine lv_iadd hx hb dX12_puts_90 (tc_add fun z22 hz22 => ?_)
    first | replace hz22 := hz22 (by omega) | clear hz22
    refine r_puti C hw (hsh 49 _ rfl) fl_X12_188 rfl rfl rfl dX12_puts_91 (fun H locs hH hw => ?_)
    obtain ⟨ig23, eig23⟩ : ∃ f, f = up2 ig18 (B + 49) 19 z22 := ⟨_, rfl⟩
    rw [← eig23] at hw
    have hF : Ft B [49, 54, 55, 56, 57, 58, 59, 60, 61, 63, 64, 65, 66, 67, 68, 69, 70, 71, 72, 73, 74] ig lg ig23 lg13 := by rw [eig23]; exact hF.pi (by decide)
    have hI : IM τ φ B kd ig23 rg := by rw [eig23]; exact hI.pi (by decide) (show okR (some (0, 20)) _ from ⟨by show (0 : Int) ≤ _; omega, by show _ ≤ (20 : Int); omega⟩)
    have wig23 : (ig23 (B + 49) 19).toInt = z22.toInt := by rw [eig23, up2_eq]
    have hwp : WP B ig23 288 := by rw [eig23]; exact WP.u hwp (by decide)
    refine lv_aload_n hx hb dX12_puts_94 rfl (lv_at hl 0 rfl) ?_
    refine lv_sipush (v := 288) hx hb dX12_puts_95 (by decide) (ti_c 288 (by decide) fun z24 hz24 => ?_)
    refine lv_iload_n hx hb dX12_puts_98 rfl (lv_at hl 1 rfl) ?_
    refine r_callV (As := [.int z24, .int x]) (rest := []) C hw (t_X12_copyRow l B D cA kd ig23 rg lg13 _ z24 x (by omega) (by omega) (i32_ne (by omega)) (by rw [show z24.toInt.toNat = 288 by omega]; exact hwp) hI) sv_X12_191 (hsh 49 _ rfl) rfl hl.1 rfl (Nat.le_of_ble_eq_true rfl) ⟨Nat.le_of_ble_eq_true rfl, Nat.le_of_ble_eq_true rfl⟩ ⟨Nat.le_of_ble_eq_true rfl, Nat.le_of_ble_eq_true rfl⟩ dX12_puts_99 (fun r29 kd25 ig26 rg27 lg28 H locs hw hH hp30 => ?_)
    obtain ⟨rfl, rfl, hI, hchp30, hrhp30⟩ := hp30
    have hF : Ft B [49, 54, 55, 56, 57, 58, 59, 60, 61, 63, 64, 65, 66, 67, 68, 69, 70, 71, 72, 73, 74] ig lg ig26 lg28 := Ft.tr hF hchp30 (by decide) (by decide)
    obtain ⟨rfl, hvhp30⟩ := hrhp30
    refine lv_aload_n hx hb dX12_puts_102 rfl (lv_at hl 0 rfl) ?_
    refine r_callV (As := []) (rest := []) C hw (t_X12_works l B D cA kd ig26 rg lg28 _   hI) sv_X12_195 (hsh 49 _ rfl) rfl hl.1 rfl (Nat.le_of_ble_eq_true rfl) ⟨Nat.le_of_ble_eq_true rfl, Nat.le_of_ble_eq_true rfl⟩ ⟨Nat.le_of_ble_eq_true rfl, Nat.le_of_ble_eq_true rfl⟩ dX12_puts_103 (fun r35 kd31 ig32 rg33 lg34 H locs hw hH hp36 => ?_)
    obtain ⟨rfl, rfl, hI, hchp36, hrhp36⟩ := hp36
    have hF : Ft B [49, 54, 55, 56, 57, 58, 59, 60, 61, 63, 64, 65, 66, 67, 68, 69, 70, 71, 72, 73, 74] ig lg ig32 lg34 := Ft.tr hF hchp36 (by decide) (by decide)
    obtain rfl := hrhp36
    exact r_vret C hw hr hlk (Nat.le_of_ble_eq_true rfl) (Nat.le_of_ble_eq_true rfl) dX12_puts_106 ⟨rfl, rfl, hI, hF, rfl⟩
  refine b_ne (tgt := 61) hx hb dX12_puts_6 (by decide) (fun c6 => ?_) (fun c6 => ?_)
  · exact J61 ls s.heap [] ig lg (lv_sub hl [0, 1] rfl) hw hI hF (by omega) (by omega) (hwp)
  · refine lv_iconst (v := 1) hx hb dX12_puts_9 (by decide) (ti_c 1 (by decide) fun z37 hz37 => ?_)
    refine lv_istore_n (lv' := [(2, .int z37), (0, .ref (B + 49)), (1, .int x)]) hx hb dX12_puts_10 rfl hl (by decide) rfl (fun ls hl => ?_)
    have L11 : ∀ (n : Nat) (ls : Array Slot) (H : Heap) (locs : List Loc) (ig39 : sI) (lg40 : sG) (v38 : Int32), lv_has ls 3 [(2, .int v38), (0, .ref (B + 49)), (1, .int x)] → WD B D cA s.heap kd ig39 rg lg40 H locs → IM τ φ B kd ig39 rg → Ft B [49, 54, 55, 56, 57, 58, 59, 60, 61, 63, 64, 65, 66, 67, 68, 69, 70, 71, 72, 73, 74] ig lg ig39 lg40 → (1 ≤ v38.toInt) → (v38.toInt ≤ 20) → ((ig39 (B + 49) 19).toInt = 20) → (WP B ig39 288) → 20 - v38.toInt < (n : Int) → W p l e (rL 32 0 0) s m args below meth c H locs 0 0 (MQ below (QcW B D cA (PM τ φ B [49, 54, 55, 56, 57, 58, 59, 60, 61, 63, 64, 65, 66, 67, 68, 69, 70, 71, 72, 73, 74] kd ig rg lg (fun r ig' lg' => r = none))) args s 0 0 (fun q => B ≤ q)) (F0 m 11 ls []) := by
      intro n11
      induction n11 with
      | zero => intro ls H locs ig39 lg40 v38 hl hw hI hF g11_0 g11_1 g11_2 g11_3 hmu; exact absurd hmu (by omega)
      | succ n11 ih11 =>
        intro ls H locs ig39 lg40 v38 hl hw hI hF g11_0 g11_1 g11_2 g11_3 hmu
        have hwp := g11_3
        refine lv_iload_n hx hb dX12_puts_11 rfl (lv_at hl 0 rfl) ?_
        refine lv_bipush (v := 20) hx hb dX12_puts_12 (by decide) (ti_c 20 (by decide) fun z41 hz41 => ?_)
        refine b_ge (tgt := 51) hx hb dX12_puts_14 (by decide) (fun c14 => ?_) (fun c14 => ?_)
        · refine lv_aload_n hx hb dX12_puts_51 rfl (lv_at hl 1 rfl) ?_
          refine lv_dup hx hb dX12_puts_52 rfl ?_
          refine r_get C hw (hsh 49 _ rfl) fl_X12_188 (oV_i rfl) dX12_puts_53 (ti_c (ig39 (B + 49) 19).toInt rfl fun z42 hz42 => ?_)
          have k43 : 0 ≤ (ig39 (B + 49) 19).toInt ∧ (ig39 (B + 49) 19).toInt ≤ 20 := hI.i 49 19 (by decide) (by decide)
          refine lv_iconst (v := 1) hx hb dX12_puts_56 (by decide) (ti_c 1 (by decide) fun z44 hz44 => ?_)
          refine lv_isub hx hb dX12_puts_57 (tc_sub fun z45 hz45 => ?_)
          first | replace hz45 := hz45 (by omega) | clear hz45
          refine r_puti C hw (hsh 49 _ rfl) fl_X12_188 rfl rfl rfl dX12_puts_58 (fun H locs hH hw => ?_)
          obtain ⟨ig46, eig46⟩ : ∃ f, f = up2 ig39 (B + 49) 19 z45 := ⟨_, rfl⟩
          rw [← eig46] at hw
          have hF : Ft B [49, 54, 55, 56, 57, 58, 59, 60, 61, 63, 64, 65, 66, 67, 68, 69, 70, 71, 72, 73, 74] ig lg ig46 lg40 := by rw [eig46]; exact hF.pi (by decide)
          have hI : IM τ φ B kd ig46 rg := by rw [eig46]; exact hI.pi (by decide) (show okR (some (0, 20)) _ from ⟨by show (0 : Int) ≤ _; omega, by show _ ≤ (20 : Int); omega⟩)
          have wig46 : (ig46 (B + 49) 19).toInt = z45.toInt := by rw [eig46, up2_eq]
          have hwp : WP B ig46 288 := by rw [eig46]; exact WP.u hwp (by decide)
          exact J61 ls H locs ig46 lg40 (lv_sub hl [1, 2] rfl) hw hI hF (by omega) (by omega) (hwp)
        · refine lv_aload_n hx hb dX12_puts_17 rfl (lv_at hl 1 rfl) ?_
          refine lv_sipush (v := 289) hx hb dX12_puts_18 (by decide) (ti_c 289 (by decide) fun z47 hz47 => ?_)
          refine lv_iload_n hx hb dX12_puts_21 rfl (lv_at hl 0 rfl) ?_
          refine lv_iadd hx hb dX12_puts_22 (tc_add fun z48 hz48 => ?_)
          first | replace hz48 := hz48 (by omega) | clear hz48
          refine lv_sipush (v := 288) hx hb dX12_puts_23 (by decide) (ti_c 288 (by decide) fun z49 hz49 => ?_)
          refine lv_iload_n hx hb dX12_puts_26 rfl (lv_at hl 0 rfl) ?_
          refine lv_iadd hx hb dX12_puts_27 (tc_add fun z50 hz50 => ?_)
          first | replace hz50 := hz50 (by omega) | clear hz50
          refine r_callV (As := [.int z48, .int z50]) (rest := []) C hw (t_X12_copyRow l B D cA kd ig39 rg lg40 _ z48 z50 (by omega) (by omega) (i32_ne (by omega)) (hI.wp (by omega) (by omega)) hI) sv_X12_191 (hsh 49 _ rfl) rfl hl.1 rfl (Nat.le_of_ble_eq_true rfl) ⟨Nat.le_of_ble_eq_true rfl, Nat.le_of_ble_eq_true rfl⟩ ⟨Nat.le_of_ble_eq_true rfl, Nat.le_of_ble_eq_true rfl⟩ dX12_puts_28 (fun r55 kd51 ig52 rg53 lg54 H locs hw hH hp56 => ?_)
          obtain ⟨rfl, rfl, hI, hchp56, hrhp56⟩ := hp56
          have hF : Ft B [49, 54, 55, 56, 57, 58, 59, 60, 61, 63, 64, 65, 66, 67, 68, 69, 70, 71, 72, 73, 74] ig lg ig52 lg54 := Ft.tr hF hchp56 (by decide) (by decide)
          obtain ⟨rfl, hvhp56⟩ := hrhp56
          have u19 := congrArg Int32.toInt (hchp56.i 49 19 (by decide))
          have hwp : WP B ig52 288 := WP.keep hwp hvhp56 (by omega)
          refine lv_aload_n hx hb dX12_puts_31 rfl (lv_at hl 1 rfl) ?_
          refine r_get C hw (hsh 49 _ rfl) fl_X12_93 (oV_r rfl (hrm (49, 20, 63) (by decide))) dX12_puts_32 ?_
          refine lv_iload_n hx hb dX12_puts_35 rfl (lv_at hl 0 rfl) ?_
          refine lv_iconst (v := 1) hx hb dX12_puts_36 (by decide) (ti_c 1 (by decide) fun z57 hz57 => ?_)
          refine lv_isub hx hb dX12_puts_37 (tc_sub fun z58 hz58 => ?_)
          first | replace hz58 := hz58 (by omega) | clear hz58
          refine lv_aload_n hx hb dX12_puts_38 rfl (lv_at hl 1 rfl) ?_
          refine r_get C hw (hsh 49 _ rfl) fl_X12_93 (oV_r rfl (hrm (49, 20, 63) (by decide))) dX12_puts_39 ?_
          refine lv_iload_n hx hb dX12_puts_42 rfl (lv_at hl 0 rfl) ?_
          refine r_iald C hw (hsh 63 _ rfl) (by omega) (by omega) dX12_puts_43 (ti_c (ig52 (B + 63) v38.toInt.toNat).toInt rfl fun z59 hz59 => ?_)
          have k60 : 0 ≤ (ig52 (B + 63) (v38.toInt.toNat)).toInt ∧ (ig52 (B + 63) (v38.toInt.toNat)).toInt ≤ 287 := hI.i 63 (v38.toInt.toNat) (by decide) (by decide)
          refine r_iast C hw (hsh 63 _ rfl) (by omega) (by omega) dX12_puts_44 (fun H locs hH hw => ?_)
          obtain ⟨ig61, eig61⟩ : ∃ f, f = up2 ig52 (B + 63) z58.toInt.toNat z59 := ⟨_, rfl⟩
          rw [← eig61] at hw
          have hF : Ft B [49, 54, 55, 56, 57, 58, 59, 60, 61, 63, 64, 65, 66, 67, 68, 69, 70, 71, 72, 73, 74] ig lg ig61 lg54 := by rw [eig61]; exact hF.pi (by decide)
          have hI : IM τ φ B kd ig61 rg := by rw [eig61]; exact hI.pi (by decide) (show okR (some (0, 287)) _ from ⟨by show (0 : Int) ≤ _; omega, by show _ ≤ (287 : Int); omega⟩)
          have wig61_49_19 : (ig61 (B + 49) 19).toInt = (ig52 (B + 49) 19).toInt := by rw [eig61, up2_a (by omega)]
          have hwp : WP B ig61 288 := by rw [eig61]; exact WP.u hwp (by decide)
          refine tc_inc hx hb dX12_puts_45 hl (k := 0) rfl (by decide) (by decide) (fun z62 hz62 ls hl => ?_)
          first | replace hz62 := hz62 (by omega) | clear hz62
          have hl : lv_has ls 3 [(2, .int z62), (0, .ref (B + 49)), (1, .int x)] := hl
          refine lv_goto (tgt := 11) hx hb dX12_puts_48 (by decide) ?_
          exact ih11 ls H locs ig61 lg54 z62 (lv_sub hl [0, 1, 2] rfl) hw hI hF (by omega) (by omega) (by omega) (hwp) (by omega)
    exact L11 ((20 - z37.toInt) + 1).toNat ls s.heap [] ig lg z37 (lv_sub hl [0, 1, 2] rfl) hw hI hF (by omega) (by omega) (by omega) (hwp) (by omega)

set_option maxHeartbeats 4000000 in
set_option maxRecDepth 100000 in
theorem t_X12_number {τ : Tp} {φ : Option Int} (l : Launch) (B : Nat) (D : va_G) (cA : Nat → ClassId) (kd : sK) (ig : sI) (rg : sR) (lg : sG) (sz : Nat) (x : Int32) (y : Int32) (hI : IM τ φ B kd ig rg) : MC l B D cA yX12_number cX12_number 3 (some .boolean) (rL 33 0 0) [.ref (B + 49), .int x, .int y] kd ig rg lg sz (PM τ φ B [49, 54, 55, 56, 57, 58, 59, 60, 61, 63, 64, 65, 66, 67, 68, 69, 70, 71, 72, 73, 74] kd ig rg lg (fun r ig' lg' => ∃ z : Int32, r = some (.int z) ∧ ((0 ≤ x.toInt ∧ x.toInt < 288) → z.toInt = 1) ∧ (¬ (0 ≤ x.toInt ∧ x.toInt < 288) → z.toInt = 0))) := by
  refine MC.of (own := RX12) (by decide +kernel) rfl (Nat.le_of_ble_eq_true rfl) ?_
  intro p e s m args below meth c ls C hr hlk hnm hw hsz hl
  have hx := C.1.1
  have hb := C.1.2.1
  have hown := C.1.2.2.2.1
  have hts := C.1.2.2.2.2
  have hl : lv_has ls 3 [(0, .ref (B + 49)), (1, .int x), (2, .int y)] := hl
  have hF : Ft B [49, 54, 55, 56, 57, 58, 59, 60, 61, 63, 64, 65, 66, 67, 68, 69, 70, 71, 72, 73, 74] ig lg ig lg := Ft.rf
  have hsh := hI.sh
  have hrm := hI.rm
  refine lv_aload_n hx hb dX12_number_0 rfl (lv_at hl 0 rfl) ?_
  refine lv_iconst (v := 0) hx hb dX12_number_1 (by decide) (ti_c 0 (by decide) fun z1 hz1 => ?_)
  refine r_puti C hw (hsh 49 _ rfl) fl_X12_1 rfl rfl rfl dX12_number_2 (fun H locs hH hw => ?_)
  obtain ⟨ig2, eig2⟩ : ∃ f, f = up2 ig (B + 49) 0 z1 := ⟨_, rfl⟩
  rw [← eig2] at hw
  have hF : Ft B [49, 54, 55, 56, 57, 58, 59, 60, 61, 63, 64, 65, 66, 67, 68, 69, 70, 71, 72, 73, 74] ig lg ig2 lg := by rw [eig2]; exact hF.pi (by decide)
  have hI : IM τ φ B kd ig2 rg := by rw [eig2]; exact hI.pi (by decide) (show okR none _ from trivial)
  refine lv_iload_n hx hb dX12_number_5 rfl (lv_at hl 1 rfl) ?_
  refine r_callS (As := [.int x]) (rest := []) C hw (t_X12_isPlace l B D cA kd ig2 rg lg _ x  hI) ss_X12_198 rfl hl.1 rfl (Nat.le_of_ble_eq_true rfl) ⟨Nat.le_of_ble_eq_true rfl, Nat.le_of_ble_eq_true rfl⟩ ⟨Nat.le_of_ble_eq_true rfl, Nat.le_of_ble_eq_true rfl⟩ dX12_number_6 (fun r7 kd3 ig4 rg5 lg6 H locs hw hH hp8 => ?_)
  obtain ⟨rfl, rfl, rfl, rfl, hzhp8, hrhp8⟩ := hp8
  obtain ⟨z9, rfl, hz9⟩ := hrhp8
  refine z_ne (tgt := 14) hx hb dX12_number_9 (by decide) (fun c9 => ?_) (fun c9 => ?_)
  · refine lv_aload_n hx hb dX12_number_14 rfl (lv_at hl 0 rfl) ?_
    refine lv_iconst (v := 1) hx hb dX12_number_15 (by decide) (ti_c 1 (by decide) fun z10 hz10 => ?_)
    refine lv_iload_n hx hb dX12_number_16 rfl (lv_at hl 2 rfl) ?_
    refine r_callV (As := [.int z10, .int y]) (rest := []) C hw (t_X12_clearDraft l B D cA kd ig2 rg lg _ z10 y  hI) sv_X12_204 (hsh 49 _ rfl) rfl hl.1 rfl (Nat.le_of_ble_eq_true rfl) ⟨Nat.le_of_ble_eq_true rfl, Nat.le_of_ble_eq_true rfl⟩ ⟨Nat.le_of_ble_eq_true rfl, Nat.le_of_ble_eq_true rfl⟩ dX12_number_17 (fun r15 kd11 ig12 rg13 lg14 H locs hw hH hp16 => ?_)
    obtain ⟨rfl, rfl, hI, hchp16, hrhp16⟩ := hp16
    have hF : Ft B [49, 54, 55, 56, 57, 58, 59, 60, 61, 63, 64, 65, 66, 67, 68, 69, 70, 71, 72, 73, 74] ig lg ig12 lg14 := Ft.tr hF hchp16 (by decide) (by decide)
    obtain ⟨rfl, hvhp16⟩ := hrhp16
    have hwp : WP B ig12 288 := WP.no (hvhp16.1.trans (by omega : _ = (1 : Int))) (by decide)
    refine lv_aload_n hx hb dX12_number_20 rfl (lv_at hl 0 rfl) ?_
    refine lv_iload_n hx hb dX12_number_21 rfl (lv_at hl 1 rfl) ?_
    refine r_callV (As := [.int x]) (rest := []) C hw (t_X12_puts l B D cA kd ig12 rg lg14 _ x (by omega) hwp hI) sv_X12_207 (hsh 49 _ rfl) rfl hl.1 rfl (Nat.le_of_ble_eq_true rfl) ⟨Nat.le_of_ble_eq_true rfl, Nat.le_of_ble_eq_true rfl⟩ ⟨Nat.le_of_ble_eq_true rfl, Nat.le_of_ble_eq_true rfl⟩ dX12_number_22 (fun r21 kd17 ig18 rg19 lg20 H locs hw hH hp22 => ?_)
    obtain ⟨rfl, rfl, hI, hchp22, hrhp22⟩ := hp22
    have hF : Ft B [49, 54, 55, 56, 57, 58, 59, 60, 61, 63, 64, 65, 66, 67, 68, 69, 70, 71, 72, 73, 74] ig lg ig18 lg20 := Ft.tr hF hchp22 (by decide) (by decide)
    obtain rfl := hrhp22
    refine lv_iconst (v := 1) hx hb dX12_number_25 (by decide) (ti_c 1 (by decide) fun z23 hz23 => ?_)
    exact r_iret C hw hr hlk (nar_b (by omega)) (Nat.le_of_ble_eq_true rfl) (Nat.le_of_ble_eq_true rfl) dX12_number_26 ⟨rfl, rfl, hI, hF, ⟨_, rfl, by omega⟩⟩
  · refine lv_iconst (v := 0) hx hb dX12_number_12 (by decide) (ti_c 0 (by decide) fun z24 hz24 => ?_)
    exact r_iret C hw hr hlk (nar_b (by omega)) (Nat.le_of_ble_eq_true rfl) (Nat.le_of_ble_eq_true rfl) dX12_number_13 ⟨rfl, rfl, hI, hF, ⟨_, rfl, by omega⟩⟩

set_option maxHeartbeats 4000000 in
set_option maxRecDepth 100000 in
theorem t_X12_empty {τ : Tp} {φ : Option Int} (l : Launch) (B : Nat) (D : va_G) (cA : Nat → ClassId) (kd : sK) (ig : sI) (rg : sR) (lg : sG) (sz : Nat) (x : Int32) (hI : IM τ φ B kd ig rg) : MC l B D cA yX12_empty cX12_empty 2 (some .boolean) (rL 33 0 0) [.ref (B + 49), .int x] kd ig rg lg sz (PM τ φ B [49, 54, 55, 56, 57, 58, 59, 60, 61, 63, 64, 65, 66, 67, 68, 69, 70, 71, 72, 73, 74] kd ig rg lg (fun r ig' lg' => ∃ z : Int32, r = some (.int z) ∧ ((0 ≤ x.toInt ∧ x.toInt < 288) → z.toInt = 1) ∧ (¬ (0 ≤ x.toInt ∧ x.toInt < 288) → z.toInt = 0))) := by
  refine MC.of (own := RX12) (by decide +kernel) rfl (Nat.le_of_ble_eq_true rfl) ?_
  intro p e s m args below meth c ls C hr hlk hnm hw hsz hl
  have hx := C.1.1
  have hb := C.1.2.1
  have hown := C.1.2.2.2.1
  have hts := C.1.2.2.2.2
  have hl : lv_has ls 2 [(0, .ref (B + 49)), (1, .int x)] := hl
  have hF : Ft B [49, 54, 55, 56, 57, 58, 59, 60, 61, 63, 64, 65, 66, 67, 68, 69, 70, 71, 72, 73, 74] ig lg ig lg := Ft.rf
  have hsh := hI.sh
  have hrm := hI.rm
  refine lv_aload_n hx hb dX12_empty_0 rfl (lv_at hl 0 rfl) ?_
  refine lv_iconst (v := 0) hx hb dX12_empty_1 (by decide) (ti_c 0 (by decide) fun z1 hz1 => ?_)
  refine r_puti C hw (hsh 49 _ rfl) fl_X12_1 rfl rfl rfl dX12_empty_2 (fun H locs hH hw => ?_)
  obtain ⟨ig2, eig2⟩ : ∃ f, f = up2 ig (B + 49) 0 z1 := ⟨_, rfl⟩
  rw [← eig2] at hw
  have hF : Ft B [49, 54, 55, 56, 57, 58, 59, 60, 61, 63, 64, 65, 66, 67, 68, 69, 70, 71, 72, 73, 74] ig lg ig2 lg := by rw [eig2]; exact hF.pi (by decide)
  have hI : IM τ φ B kd ig2 rg := by rw [eig2]; exact hI.pi (by decide) (show okR none _ from trivial)
  refine lv_iload_n hx hb dX12_empty_5 rfl (lv_at hl 1 rfl) ?_
  refine r_callS (As := [.int x]) (rest := []) C hw (t_X12_isPlace l B D cA kd ig2 rg lg _ x  hI) ss_X12_198 rfl hl.1 rfl (Nat.le_of_ble_eq_true rfl) ⟨Nat.le_of_ble_eq_true rfl, Nat.le_of_ble_eq_true rfl⟩ ⟨Nat.le_of_ble_eq_true rfl, Nat.le_of_ble_eq_true rfl⟩ dX12_empty_6 (fun r7 kd3 ig4 rg5 lg6 H locs hw hH hp8 => ?_)
  obtain ⟨rfl, rfl, rfl, rfl, hzhp8, hrhp8⟩ := hp8
  obtain ⟨z9, rfl, hz9⟩ := hrhp8
  refine z_ne (tgt := 14) hx hb dX12_empty_9 (by decide) (fun c9 => ?_) (fun c9 => ?_)
  · refine lv_aload_n hx hb dX12_empty_14 rfl (lv_at hl 0 rfl) ?_
    refine lv_iconst (v := 0) hx hb dX12_empty_15 (by decide) (ti_c 0 (by decide) fun z10 hz10 => ?_)
    refine lv_iconst (v := 0) hx hb dX12_empty_16 (by decide) (ti_c 0 (by decide) fun z11 hz11 => ?_)
    refine r_callV (As := [.int z10, .int z11]) (rest := []) C hw (t_X12_clearDraft l B D cA kd ig2 rg lg _ z10 z11  hI) sv_X12_204 (hsh 49 _ rfl) rfl hl.1 rfl (Nat.le_of_ble_eq_true rfl) ⟨Nat.le_of_ble_eq_true rfl, Nat.le_of_ble_eq_true rfl⟩ ⟨Nat.le_of_ble_eq_true rfl, Nat.le_of_ble_eq_true rfl⟩ dX12_empty_17 (fun r16 kd12 ig13 rg14 lg15 H locs hw hH hp17 => ?_)
    obtain ⟨rfl, rfl, hI, hchp17, hrhp17⟩ := hp17
    have hF : Ft B [49, 54, 55, 56, 57, 58, 59, 60, 61, 63, 64, 65, 66, 67, 68, 69, 70, 71, 72, 73, 74] ig lg ig13 lg15 := Ft.tr hF hchp17 (by decide) (by decide)
    obtain ⟨rfl, hvhp17⟩ := hrhp17
    have hwp : WP B ig13 288 := WP.no (hvhp17.1.trans (by omega : _ = (0 : Int))) (by decide)
    refine lv_aload_n hx hb dX12_empty_20 rfl (lv_at hl 0 rfl) ?_
    refine lv_iload_n hx hb dX12_empty_21 rfl (lv_at hl 1 rfl) ?_
    refine r_callV (As := [.int x]) (rest := []) C hw (t_X12_puts l B D cA kd ig13 rg lg15 _ x (by omega) hwp hI) sv_X12_207 (hsh 49 _ rfl) rfl hl.1 rfl (Nat.le_of_ble_eq_true rfl) ⟨Nat.le_of_ble_eq_true rfl, Nat.le_of_ble_eq_true rfl⟩ ⟨Nat.le_of_ble_eq_true rfl, Nat.le_of_ble_eq_true rfl⟩ dX12_empty_22 (fun r22 kd18 ig19 rg20 lg21 H locs hw hH hp23 => ?_)
    obtain ⟨rfl, rfl, hI, hchp23, hrhp23⟩ := hp23
    have hF : Ft B [49, 54, 55, 56, 57, 58, 59, 60, 61, 63, 64, 65, 66, 67, 68, 69, 70, 71, 72, 73, 74] ig lg ig19 lg21 := Ft.tr hF hchp23 (by decide) (by decide)
    obtain rfl := hrhp23
    refine lv_iconst (v := 1) hx hb dX12_empty_25 (by decide) (ti_c 1 (by decide) fun z24 hz24 => ?_)
    exact r_iret C hw hr hlk (nar_b (by omega)) (Nat.le_of_ble_eq_true rfl) (Nat.le_of_ble_eq_true rfl) dX12_empty_26 ⟨rfl, rfl, hI, hF, ⟨_, rfl, by omega⟩⟩
  · refine lv_iconst (v := 0) hx hb dX12_empty_12 (by decide) (ti_c 0 (by decide) fun z25 hz25 => ?_)
    exact r_iret C hw hr hlk (nar_b (by omega)) (Nat.le_of_ble_eq_true rfl) (Nat.le_of_ble_eq_true rfl) dX12_empty_13 ⟨rfl, rfl, hI, hF, ⟨_, rfl, by omega⟩⟩

set_option maxHeartbeats 4000000 in
set_option maxRecDepth 100000 in
theorem t_X12_copy {τ : Tp} {φ : Option Int} (l : Launch) (B : Nat) (D : va_G) (cA : Nat → ClassId) (kd : sK) (ig : sI) (rg : sR) (lg : sG) (sz : Nat) (x : Int32) (y : Int32) (hI : IM τ φ B kd ig rg) : MC l B D cA yX12_copy cX12_copy 3 (some .boolean) (rL 33 0 0) [.ref (B + 49), .int x, .int y] kd ig rg lg sz (PM τ φ B [49, 54, 55, 56, 57, 58, 59, 60, 61, 63, 64, 65, 66, 67, 68, 69, 70, 71, 72, 73, 74] kd ig rg lg (fun r ig' lg' => ∃ z : Int32, r = some (.int z) ∧ (z.toInt = 0 ∨ z.toInt = 1))) := by
  refine MC.of (own := RX12) (by decide +kernel) rfl (Nat.le_of_ble_eq_true rfl) ?_
  intro p e s m args below meth c ls C hr hlk hnm hw hsz hl
  have hx := C.1.1
  have hb := C.1.2.1
  have hown := C.1.2.2.2.1
  have hts := C.1.2.2.2.2
  have hl : lv_has ls 3 [(0, .ref (B + 49)), (1, .int x), (2, .int y)] := hl
  have hF : Ft B [49, 54, 55, 56, 57, 58, 59, 60, 61, 63, 64, 65, 66, 67, 68, 69, 70, 71, 72, 73, 74] ig lg ig lg := Ft.rf
  have hsh := hI.sh
  have hrm := hI.rm
  refine lv_aload_n hx hb dX12_copy_0 rfl (lv_at hl 0 rfl) ?_
  refine lv_iconst (v := 0) hx hb dX12_copy_1 (by decide) (ti_c 0 (by decide) fun z1 hz1 => ?_)
  refine r_puti C hw (hsh 49 _ rfl) fl_X12_1 rfl rfl rfl dX12_copy_2 (fun H locs hH hw => ?_)
  obtain ⟨ig2, eig2⟩ : ∃ f, f = up2 ig (B + 49) 0 z1 := ⟨_, rfl⟩
  rw [← eig2] at hw
  have hF : Ft B [49, 54, 55, 56, 57, 58, 59, 60, 61, 63, 64, 65, 66, 67, 68, 69, 70, 71, 72, 73, 74] ig lg ig2 lg := by rw [eig2]; exact hF.pi (by decide)
  have hI : IM τ φ B kd ig2 rg := by rw [eig2]; exact hI.pi (by decide) (show okR none _ from trivial)
  refine lv_iload_n hx hb dX12_copy_5 rfl (lv_at hl 1 rfl) ?_
  refine r_callS (As := [.int x]) (rest := []) C hw (t_X12_isPlace l B D cA kd ig2 rg lg _ x  hI) ss_X12_198 rfl hl.1 rfl (Nat.le_of_ble_eq_true rfl) ⟨Nat.le_of_ble_eq_true rfl, Nat.le_of_ble_eq_true rfl⟩ ⟨Nat.le_of_ble_eq_true rfl, Nat.le_of_ble_eq_true rfl⟩ dX12_copy_6 (fun r7 kd3 ig4 rg5 lg6 H locs hw hH hp8 => ?_)
  obtain ⟨rfl, rfl, rfl, rfl, hzhp8, hrhp8⟩ := hp8
  obtain ⟨z9, rfl, hz9⟩ := hrhp8
  refine z_eq (tgt := 28) hx hb dX12_copy_9 (by decide) (fun c9 => ?_) (fun c9 => ?_)
  · refine lv_iconst (v := 0) hx hb dX12_copy_28 (by decide) (ti_c 0 (by decide) fun z10 hz10 => ?_)
    exact r_iret C hw hr hlk (nar_b (by omega)) (Nat.le_of_ble_eq_true rfl) (Nat.le_of_ble_eq_true rfl) dX12_copy_29 ⟨rfl, rfl, hI, hF, ⟨_, rfl, by omega⟩⟩
  · refine lv_iload_n hx hb dX12_copy_12 rfl (lv_at hl 2 rfl) ?_
    refine r_callS (As := [.int y]) (rest := []) C hw (t_X12_isPlace l B D cA kd ig2 rg lg _ y  hI) ss_X12_198 rfl hl.1 rfl (Nat.le_of_ble_eq_true rfl) ⟨Nat.le_of_ble_eq_true rfl, Nat.le_of_ble_eq_true rfl⟩ ⟨Nat.le_of_ble_eq_true rfl, Nat.le_of_ble_eq_true rfl⟩ dX12_copy_13 (fun r15 kd11 ig12 rg13 lg14 H locs hw hH hp16 => ?_)
    obtain ⟨rfl, rfl, rfl, rfl, hzhp16, hrhp16⟩ := hp16
    obtain ⟨z17, rfl, hz17⟩ := hrhp16
    refine z_eq (tgt := 28) hx hb dX12_copy_16 (by decide) (fun c16 => ?_) (fun c16 => ?_)
    · refine lv_iconst (v := 0) hx hb dX12_copy_28 (by decide) (ti_c 0 (by decide) fun z18 hz18 => ?_)
      exact r_iret C hw hr hlk (nar_b (by omega)) (Nat.le_of_ble_eq_true rfl) (Nat.le_of_ble_eq_true rfl) dX12_copy_29 ⟨rfl, rfl, hI, hF, ⟨_, rfl, by omega⟩⟩
    · refine lv_aload_n hx hb dX12_copy_19 rfl (lv_at hl 0 rfl) ?_
      refine lv_iload_n hx hb dX12_copy_20 rfl (lv_at hl 1 rfl) ?_
      refine lv_iload_n hx hb dX12_copy_21 rfl (lv_at hl 2 rfl) ?_
      refine r_callV (As := [.int x, .int y]) (rest := []) C hw (t_X12_makesCopy l B D cA kd ig2 rg lg _ x y (by omega) (by omega) hI) sv_X12_210 (hsh 49 _ rfl) rfl hl.1 rfl (Nat.le_of_ble_eq_true rfl) ⟨Nat.le_of_ble_eq_true rfl, Nat.le_of_ble_eq_true rfl⟩ ⟨Nat.le_of_ble_eq_true rfl, Nat.le_of_ble_eq_true rfl⟩ dX12_copy_22 (fun r23 kd19 ig20 rg21 lg22 H locs hw hH hp24 => ?_)
      obtain ⟨rfl, rfl, hI, hchp24, hrhp24⟩ := hp24
      have hF : Ft B [49, 54, 55, 56, 57, 58, 59, 60, 61, 63, 64, 65, 66, 67, 68, 69, 70, 71, 72, 73, 74] ig lg ig20 lg22 := Ft.tr hF hchp24 (by decide) (by decide)
      obtain ⟨z25, rfl, hz25⟩ := hrhp24
      obtain ⟨mb, mw⟩ := hz25
      refine z_ne (tgt := 30) hx hb dX12_copy_25 (by decide) (fun c25 => ?_) (fun c25 => ?_)
      · have hwp : WP B ig20 288 := mw (by omega)
        refine lv_aload_n hx hb dX12_copy_30 rfl (lv_at hl 0 rfl) ?_
        refine lv_iload_n hx hb dX12_copy_31 rfl (lv_at hl 2 rfl) ?_
        refine r_callV (As := [.int y]) (rest := []) C hw (t_X12_puts l B D cA kd ig20 rg lg22 _ y (by omega) hwp hI) sv_X12_207 (hsh 49 _ rfl) rfl hl.1 rfl (Nat.le_of_ble_eq_true rfl) ⟨Nat.le_of_ble_eq_true rfl, Nat.le_of_ble_eq_true rfl⟩ ⟨Nat.le_of_ble_eq_true rfl, Nat.le_of_ble_eq_true rfl⟩ dX12_copy_32 (fun r30 kd26 ig27 rg28 lg29 H locs hw hH hp31 => ?_)
        obtain ⟨rfl, rfl, hI, hchp31, hrhp31⟩ := hp31
        have hF : Ft B [49, 54, 55, 56, 57, 58, 59, 60, 61, 63, 64, 65, 66, 67, 68, 69, 70, 71, 72, 73, 74] ig lg ig27 lg29 := Ft.tr hF hchp31 (by decide) (by decide)
        obtain rfl := hrhp31
        refine lv_iconst (v := 1) hx hb dX12_copy_35 (by decide) (ti_c 1 (by decide) fun z32 hz32 => ?_)
        exact r_iret C hw hr hlk (nar_b (by omega)) (Nat.le_of_ble_eq_true rfl) (Nat.le_of_ble_eq_true rfl) dX12_copy_36 ⟨rfl, rfl, hI, hF, ⟨_, rfl, by omega⟩⟩
      · refine lv_iconst (v := 0) hx hb dX12_copy_28 (by decide) (ti_c 0 (by decide) fun z33 hz33 => ?_)
        exact r_iret C hw hr hlk (nar_b (by omega)) (Nat.le_of_ble_eq_true rfl) (Nat.le_of_ble_eq_true rfl) dX12_copy_29 ⟨rfl, rfl, hI, hF, ⟨_, rfl, by omega⟩⟩

set_option maxHeartbeats 4000000 in
set_option maxRecDepth 100000 in
theorem t_X12_unit {τ : Tp} {φ : Option Int} (l : Launch) (B : Nat) (D : va_G) (cA : Nat → ClassId) (kd : sK) (ig : sI) (rg : sR) (lg : sG) (sz : Nat) (x : Int32) (y : Int32) (u : Int32) (w : Int32) (hI : IM τ φ B kd ig rg) : MC l B D cA yX12_unit cX12_unit 5 (some .boolean) (rL 32 0 0) [.ref (B + 49), .int x, .int y, .int u, .int w] kd ig rg lg sz (PM τ φ B [49, 61, 64, 65, 66, 67, 68, 69, 70, 71, 72, 73, 74] kd ig rg lg (fun r ig' lg' => ∃ z : Int32, r = some (.int z) ∧ (z.toInt = 0 ∨ z.toInt = 1))) := by
  refine MC.of (own := RX12) (by decide +kernel) rfl (Nat.le_of_ble_eq_true rfl) ?_
  intro p e s m args below meth c ls C hr hlk hnm hw hsz hl
  have hx := C.1.1
  have hb := C.1.2.1
  have hown := C.1.2.2.2.1
  have hts := C.1.2.2.2.2
  have hl : lv_has ls 5 [(0, .ref (B + 49)), (1, .int x), (2, .int y), (3, .int u), (4, .int w)] := hl
  have hF : Ft B [49, 61, 64, 65, 66, 67, 68, 69, 70, 71, 72, 73, 74] ig lg ig lg := Ft.rf
  have hsh := hI.sh
  have hrm := hI.rm
  refine lv_aload_n hx hb dX12_unit_0 rfl (lv_at hl 0 rfl) ?_
  refine lv_iconst (v := 0) hx hb dX12_unit_1 (by decide) (ti_c 0 (by decide) fun z1 hz1 => ?_)
  refine r_puti C hw (hsh 49 _ rfl) fl_X12_1 rfl rfl rfl dX12_unit_2 (fun H locs hH hw => ?_)
  obtain ⟨ig2, eig2⟩ : ∃ f, f = up2 ig (B + 49) 0 z1 := ⟨_, rfl⟩
  rw [← eig2] at hw
  have hF : Ft B [49, 61, 64, 65, 66, 67, 68, 69, 70, 71, 72, 73, 74] ig lg ig2 lg := by rw [eig2]; exact hF.pi (by decide)
  have hI : IM τ φ B kd ig2 rg := by rw [eig2]; exact hI.pi (by decide) (show okR none _ from trivial)
  refine lv_iload_n hx hb dX12_unit_5 rfl (lv_at hl 1 rfl) ?_
  refine r_callS (As := [.int x]) (rest := []) C hw (t_X12_isPlace l B D cA kd ig2 rg lg _ x  hI) ss_X12_198 rfl hl.1 rfl (Nat.le_of_ble_eq_true rfl) ⟨Nat.le_of_ble_eq_true rfl, Nat.le_of_ble_eq_true rfl⟩ ⟨Nat.le_of_ble_eq_true rfl, Nat.le_of_ble_eq_true rfl⟩ dX12_unit_6 (fun r7 kd3 ig4 rg5 lg6 H locs hw hH hp8 => ?_)
  obtain ⟨rfl, rfl, rfl, rfl, hzhp8, hrhp8⟩ := hp8
  obtain ⟨z9, rfl, hz9⟩ := hrhp8
  refine z_eq (tgt := 57) hx hb dX12_unit_9 (by decide) (fun c9 => ?_) (fun c9 => ?_)
  · refine lv_iconst (v := 0) hx hb dX12_unit_57 (by decide) (ti_c 0 (by decide) fun z10 hz10 => ?_)
    exact r_iret C hw hr hlk (nar_b (by omega)) (Nat.le_of_ble_eq_true rfl) (Nat.le_of_ble_eq_true rfl) dX12_unit_58 ⟨rfl, rfl, hI, hF, ⟨_, rfl, by omega⟩⟩
  · refine lv_aload_n hx hb dX12_unit_12 rfl (lv_at hl 0 rfl) ?_
    refine r_get C hw (hsh 49 _ rfl) fl_X12_80 (oV_r rfl (hrm (49, 15, 59) (by decide))) dX12_unit_13 ?_
    refine lv_iload_n hx hb dX12_unit_16 rfl (lv_at hl 1 rfl) ?_
    refine r_iald C hw (hsh 59 _ rfl) (by omega) (by omega) dX12_unit_17 (ti_c (ig2 (B + 59) x.toInt.toNat).toInt rfl fun z11 hz11 => ?_)
    rw [Ft.i hF 59 _ (by decide)] at hz11
    refine lv_iconst (v := 1) hx hb dX12_unit_18 (by decide) (ti_c 1 (by decide) fun z13 hz13 => ?_)
    refine b_ne (tgt := 57) hx hb dX12_unit_19 (by decide) (fun c19 => ?_) (fun c19 => ?_)
    · refine lv_iconst (v := 0) hx hb dX12_unit_57 (by decide) (ti_c 0 (by decide) fun z14 hz14 => ?_)
      exact r_iret C hw hr hlk (nar_b (by omega)) (Nat.le_of_ble_eq_true rfl) (Nat.le_of_ble_eq_true rfl) dX12_unit_58 ⟨rfl, rfl, hI, hF, ⟨_, rfl, by omega⟩⟩
    · refine lv_iload_n hx hb dX12_unit_22 rfl (lv_at hl 2 rfl) ?_
      refine lv_bipush (v := (-4)) hx hb dX12_unit_23 (by decide) (ti_c (-4) (by decide) fun z15 hz15 => ?_)
      refine b_lt (tgt := 57) hx hb dX12_unit_25 (by decide) (fun c25 => ?_) (fun c25 => ?_)
      · refine lv_iconst (v := 0) hx hb dX12_unit_57 (by decide) (ti_c 0 (by decide) fun z16 hz16 => ?_)
        exact r_iret C hw hr hlk (nar_b (by omega)) (Nat.le_of_ble_eq_true rfl) (Nat.le_of_ble_eq_true rfl) dX12_unit_58 ⟨rfl, rfl, hI, hF, ⟨_, rfl, by omega⟩⟩
      · refine lv_iload_n hx hb dX12_unit_28 rfl (lv_at hl 2 rfl) ?_
        refine lv_iconst (v := 4) hx hb dX12_unit_29 (by decide) (ti_c 4 (by decide) fun z17 hz17 => ?_)
        refine b_gt (tgt := 57) hx hb dX12_unit_30 (by decide) (fun c30 => ?_) (fun c30 => ?_)
        · refine lv_iconst (v := 0) hx hb dX12_unit_57 (by decide) (ti_c 0 (by decide) fun z18 hz18 => ?_)
          exact r_iret C hw hr hlk (nar_b (by omega)) (Nat.le_of_ble_eq_true rfl) (Nat.le_of_ble_eq_true rfl) dX12_unit_58 ⟨rfl, rfl, hI, hF, ⟨_, rfl, by omega⟩⟩
        · refine lv_iload_n hx hb dX12_unit_33 rfl (lv_at hl 3 rfl) ?_
          refine lv_bipush (v := (-4)) hx hb dX12_unit_34 (by decide) (ti_c (-4) (by decide) fun z19 hz19 => ?_)
          refine b_lt (tgt := 57) hx hb dX12_unit_36 (by decide) (fun c36 => ?_) (fun c36 => ?_)
          · refine lv_iconst (v := 0) hx hb dX12_unit_57 (by decide) (ti_c 0 (by decide) fun z20 hz20 => ?_)
            exact r_iret C hw hr hlk (nar_b (by omega)) (Nat.le_of_ble_eq_true rfl) (Nat.le_of_ble_eq_true rfl) dX12_unit_58 ⟨rfl, rfl, hI, hF, ⟨_, rfl, by omega⟩⟩
          · refine lv_iload_n hx hb dX12_unit_39 rfl (lv_at hl 3 rfl) ?_
            refine lv_iconst (v := 4) hx hb dX12_unit_40 (by decide) (ti_c 4 (by decide) fun z21 hz21 => ?_)
            refine b_gt (tgt := 57) hx hb dX12_unit_41 (by decide) (fun c41 => ?_) (fun c41 => ?_)
            · refine lv_iconst (v := 0) hx hb dX12_unit_57 (by decide) (ti_c 0 (by decide) fun z22 hz22 => ?_)
              exact r_iret C hw hr hlk (nar_b (by omega)) (Nat.le_of_ble_eq_true rfl) (Nat.le_of_ble_eq_true rfl) dX12_unit_58 ⟨rfl, rfl, hI, hF, ⟨_, rfl, by omega⟩⟩
            · refine lv_iload hx hb dX12_unit_44 (lv_at hl 4 rfl) ?_
              refine lv_bipush (v := (-4)) hx hb dX12_unit_46 (by decide) (ti_c (-4) (by decide) fun z23 hz23 => ?_)
              refine b_lt (tgt := 57) hx hb dX12_unit_48 (by decide) (fun c48 => ?_) (fun c48 => ?_)
              · refine lv_iconst (v := 0) hx hb dX12_unit_57 (by decide) (ti_c 0 (by decide) fun z24 hz24 => ?_)
                exact r_iret C hw hr hlk (nar_b (by omega)) (Nat.le_of_ble_eq_true rfl) (Nat.le_of_ble_eq_true rfl) dX12_unit_58 ⟨rfl, rfl, hI, hF, ⟨_, rfl, by omega⟩⟩
              · refine lv_iload hx hb dX12_unit_51 (lv_at hl 4 rfl) ?_
                refine lv_iconst (v := 4) hx hb dX12_unit_53 (by decide) (ti_c 4 (by decide) fun z25 hz25 => ?_)
                refine b_le (tgt := 59) hx hb dX12_unit_54 (by decide) (fun c54 => ?_) (fun c54 => ?_)
                · refine lv_aload_n hx hb dX12_unit_59 rfl (lv_at hl 0 rfl) ?_
                  refine r_get C hw (hsh 49 _ rfl) fl_X12_86 (oV_r rfl (hrm (49, 17, 61) (by decide))) dX12_unit_60 ?_
                  refine lv_iconst (v := 3) hx hb dX12_unit_63 (by decide) (ti_c 3 (by decide) fun z26 hz26 => ?_)
                  refine lv_iload_n hx hb dX12_unit_64 rfl (lv_at hl 1 rfl) ?_
                  refine lv_imul hx hb dX12_unit_65 (tc_mulL 3 hz26 fun z27 hz27 => ?_)
                  first | replace hz27 := hz27 (by omega) | clear hz27
                  refine lv_iload_n hx hb dX12_unit_66 rfl (lv_at hl 2 rfl) ?_
                  refine r_iast C hw (hsh 61 _ rfl) (by omega) (by omega) dX12_unit_67 (fun H locs hH hw => ?_)
                  obtain ⟨ig28, eig28⟩ : ∃ f, f = up2 ig2 (B + 61) z27.toInt.toNat y := ⟨_, rfl⟩
                  rw [← eig28] at hw
                  have hF : Ft B [49, 61, 64, 65, 66, 67, 68, 69, 70, 71, 72, 73, 74] ig lg ig28 lg := by rw [eig28]; exact hF.pi (by decide)
                  have hI : IM τ φ B kd ig28 rg := by rw [eig28]; exact hI.pi (by decide) (show okR none _ from trivial)
                  refine lv_aload_n hx hb dX12_unit_68 rfl (lv_at hl 0 rfl) ?_
                  refine r_get C hw (hsh 49 _ rfl) fl_X12_86 (oV_r rfl (hrm (49, 17, 61) (by decide))) dX12_unit_69 ?_
                  refine lv_iconst (v := 3) hx hb dX12_unit_72 (by decide) (ti_c 3 (by decide) fun z29 hz29 => ?_)
                  refine lv_iload_n hx hb dX12_unit_73 rfl (lv_at hl 1 rfl) ?_
                  refine lv_imul hx hb dX12_unit_74 (tc_mulL 3 hz29 fun z30 hz30 => ?_)
                  first | replace hz30 := hz30 (by omega) | clear hz30
                  refine lv_iconst (v := 1) hx hb dX12_unit_75 (by decide) (ti_c 1 (by decide) fun z31 hz31 => ?_)
                  refine lv_iadd hx hb dX12_unit_76 (tc_add fun z32 hz32 => ?_)
                  first | replace hz32 := hz32 (by omega) | clear hz32
                  refine lv_iload_n hx hb dX12_unit_77 rfl (lv_at hl 3 rfl) ?_
                  refine r_iast C hw (hsh 61 _ rfl) (by omega) (by omega) dX12_unit_78 (fun H locs hH hw => ?_)
                  obtain ⟨ig33, eig33⟩ : ∃ f, f = up2 ig28 (B + 61) z32.toInt.toNat u := ⟨_, rfl⟩
                  rw [← eig33] at hw
                  have hF : Ft B [49, 61, 64, 65, 66, 67, 68, 69, 70, 71, 72, 73, 74] ig lg ig33 lg := by rw [eig33]; exact hF.pi (by decide)
                  have hI : IM τ φ B kd ig33 rg := by rw [eig33]; exact hI.pi (by decide) (show okR none _ from trivial)
                  refine lv_aload_n hx hb dX12_unit_79 rfl (lv_at hl 0 rfl) ?_
                  refine r_get C hw (hsh 49 _ rfl) fl_X12_86 (oV_r rfl (hrm (49, 17, 61) (by decide))) dX12_unit_80 ?_
                  refine lv_iconst (v := 3) hx hb dX12_unit_83 (by decide) (ti_c 3 (by decide) fun z34 hz34 => ?_)
                  refine lv_iload_n hx hb dX12_unit_84 rfl (lv_at hl 1 rfl) ?_
                  refine lv_imul hx hb dX12_unit_85 (tc_mulL 3 hz34 fun z35 hz35 => ?_)
                  first | replace hz35 := hz35 (by omega) | clear hz35
                  refine lv_iconst (v := 2) hx hb dX12_unit_86 (by decide) (ti_c 2 (by decide) fun z36 hz36 => ?_)
                  refine lv_iadd hx hb dX12_unit_87 (tc_add fun z37 hz37 => ?_)
                  first | replace hz37 := hz37 (by omega) | clear hz37
                  refine lv_iload hx hb dX12_unit_88 (lv_at hl 4 rfl) ?_
                  refine r_iast C hw (hsh 61 _ rfl) (by omega) (by omega) dX12_unit_90 (fun H locs hH hw => ?_)
                  obtain ⟨ig38, eig38⟩ : ∃ f, f = up2 ig33 (B + 61) z37.toInt.toNat w := ⟨_, rfl⟩
                  rw [← eig38] at hw
                  have hF : Ft B [49, 61, 64, 65, 66, 67, 68, 69, 70, 71, 72, 73, 74] ig lg ig38 lg := by rw [eig38]; exact hF.pi (by decide)
                  have hI : IM τ φ B kd ig38 rg := by rw [eig38]; exact hI.pi (by decide) (show okR none _ from trivial)
                  refine lv_aload_n hx hb dX12_unit_91 rfl (lv_at hl 0 rfl) ?_
                  refine r_callV (As := []) (rest := []) C hw (t_X12_works l B D cA kd ig38 rg lg _   hI) sv_X12_195 (hsh 49 _ rfl) rfl hl.1 rfl (Nat.le_of_ble_eq_true rfl) ⟨Nat.le_of_ble_eq_true rfl, Nat.le_of_ble_eq_true rfl⟩ ⟨Nat.le_of_ble_eq_true rfl, Nat.le_of_ble_eq_true rfl⟩ dX12_unit_92 (fun r43 kd39 ig40 rg41 lg42 H locs hw hH hp44 => ?_)
                  obtain ⟨rfl, rfl, hI, hchp44, hrhp44⟩ := hp44
                  have hF : Ft B [49, 61, 64, 65, 66, 67, 68, 69, 70, 71, 72, 73, 74] ig lg ig40 lg42 := Ft.tr hF hchp44 (by decide) (by decide)
                  obtain rfl := hrhp44
                  refine lv_iconst (v := 1) hx hb dX12_unit_95 (by decide) (ti_c 1 (by decide) fun z45 hz45 => ?_)
                  exact r_iret C hw hr hlk (nar_b (by omega)) (Nat.le_of_ble_eq_true rfl) (Nat.le_of_ble_eq_true rfl) dX12_unit_96 ⟨rfl, rfl, hI, hF, ⟨_, rfl, by omega⟩⟩
                · refine lv_iconst (v := 0) hx hb dX12_unit_57 (by decide) (ti_c 0 (by decide) fun z46 hz46 => ?_)
                  exact r_iret C hw hr hlk (nar_b (by omega)) (Nat.le_of_ble_eq_true rfl) (Nat.le_of_ble_eq_true rfl) dX12_unit_58 ⟨rfl, rfl, hI, hF, ⟨_, rfl, by omega⟩⟩

set_option maxHeartbeats 4000000 in
set_option maxRecDepth 100000 in
theorem t_X12_mend {τ : Tp} {φ : Option Int} (l : Launch) (B : Nat) (D : va_G) (cA : Nat → ClassId) (kd : sK) (ig : sI) (rg : sR) (lg : sG) (sz : Nat) (x : Int32) (hI : IM τ φ B kd ig rg) : MC l B D cA yX12_mend cX12_mend 3 (some .int) (rL 33 0 0) [.ref (B + 49), .int x] kd ig rg lg sz (PM τ φ B [49, 54, 55, 56, 57, 58, 59, 60, 61, 63, 64, 65, 66, 67, 68, 69, 70, 71, 72, 73, 74, 76, 77, 78] kd ig rg lg (fun r ig' lg' => ∃ z : Int32, r = some (.int z) ∧ True)) := by
  refine MC.of (own := RX12) (by decide +kernel) rfl (Nat.le_of_ble_eq_true rfl) ?_
  intro p e s m args below meth c ls C hr hlk hnm hw hsz hl
  have hx := C.1.1
  have hb := C.1.2.1
  have hown := C.1.2.2.2.1
  have hts := C.1.2.2.2.2
  have hl : lv_has ls 3 [(0, .ref (B + 49)), (1, .int x)] := hl
  have hF : Ft B [49, 54, 55, 56, 57, 58, 59, 60, 61, 63, 64, 65, 66, 67, 68, 69, 70, 71, 72, 73, 74, 76, 77, 78] ig lg ig lg := Ft.rf
  have hsh := hI.sh
  have hrm := hI.rm
  refine lv_aload_n hx hb dX12_mend_0 rfl (lv_at hl 0 rfl) ?_
  refine lv_iconst (v := 0) hx hb dX12_mend_1 (by decide) (ti_c 0 (by decide) fun z1 hz1 => ?_)
  refine r_puti C hw (hsh 49 _ rfl) fl_X12_1 rfl rfl rfl dX12_mend_2 (fun H locs hH hw => ?_)
  obtain ⟨ig2, eig2⟩ : ∃ f, f = up2 ig (B + 49) 0 z1 := ⟨_, rfl⟩
  rw [← eig2] at hw
  have hF : Ft B [49, 54, 55, 56, 57, 58, 59, 60, 61, 63, 64, 65, 66, 67, 68, 69, 70, 71, 72, 73, 74, 76, 77, 78] ig lg ig2 lg := by rw [eig2]; exact hF.pi (by decide)
  have hI : IM τ φ B kd ig2 rg := by rw [eig2]; exact hI.pi (by decide) (show okR none _ from trivial)
  refine lv_iload_n hx hb dX12_mend_5 rfl (lv_at hl 1 rfl) ?_
  refine r_callS (As := [.int x]) (rest := []) C hw (t_X12_isPlace l B D cA kd ig2 rg lg _ x  hI) ss_X12_198 rfl hl.1 rfl (Nat.le_of_ble_eq_true rfl) ⟨Nat.le_of_ble_eq_true rfl, Nat.le_of_ble_eq_true rfl⟩ ⟨Nat.le_of_ble_eq_true rfl, Nat.le_of_ble_eq_true rfl⟩ dX12_mend_6 (fun r7 kd3 ig4 rg5 lg6 H locs hw hH hp8 => ?_)
  obtain ⟨rfl, rfl, rfl, rfl, hzhp8, hrhp8⟩ := hp8
  obtain ⟨z9, rfl, hz9⟩ := hrhp8
  refine z_eq (tgt := 20) hx hb dX12_mend_9 (by decide) (fun c9 => ?_) (fun c9 => ?_)
  · refine lv_iconst (v := (-1)) hx hb dX12_mend_20 (by decide) (ti_c (-1) (by decide) fun z10 hz10 => ?_)
    refine lv_istore_n (lv' := [(2, .int z10), (0, .ref (B + 49)), (1, .int x)]) hx hb dX12_mend_21 rfl hl (by decide) rfl (fun ls hl => ?_)
    refine lv_iload_n hx hb dX12_mend_22 rfl (lv_at hl 0 rfl) ?_
    refine z_lt (tgt := 35) hx hb dX12_mend_23 (by decide) (fun c23 => ?_) (fun c23 => ?_)
    · refine lv_iconst (v := (-1)) hx hb dX12_mend_35 (by decide) (ti_c (-1) (by decide) fun z11 hz11 => ?_)
      exact r_iret C hw hr hlk rfl (Nat.le_of_ble_eq_true rfl) (Nat.le_of_ble_eq_true rfl) dX12_mend_36 ⟨rfl, rfl, hI, hF, ⟨_, rfl, trivial⟩⟩
    · refine lv_aload_n hx hb dX12_mend_26 rfl (lv_at hl 1 rfl) ?_
      refine lv_iload_n hx hb dX12_mend_27 rfl (lv_at hl 0 rfl) ?_
      refine lv_iload_n hx hb dX12_mend_28 rfl (lv_at hl 2 rfl) ?_
      refine r_callV (As := [.int z10, .int x]) (rest := []) C hw (t_X12_makesCopy l B D cA kd ig2 rg lg _ z10 x (by omega) (by omega) hI) sv_X12_210 (hsh 49 _ rfl) rfl hl.1 rfl (Nat.le_of_ble_eq_true rfl) ⟨Nat.le_of_ble_eq_true rfl, Nat.le_of_ble_eq_true rfl⟩ ⟨Nat.le_of_ble_eq_true rfl, Nat.le_of_ble_eq_true rfl⟩ dX12_mend_29 (fun r16 kd12 ig13 rg14 lg15 H locs hw hH hp17 => ?_)
      obtain ⟨rfl, rfl, hI, hchp17, hrhp17⟩ := hp17
      have hF : Ft B [49, 54, 55, 56, 57, 58, 59, 60, 61, 63, 64, 65, 66, 67, 68, 69, 70, 71, 72, 73, 74, 76, 77, 78] ig lg ig13 lg15 := Ft.tr hF hchp17 (by decide) (by decide)
      obtain ⟨z18, rfl, hz18⟩ := hrhp17
      obtain ⟨mb, mw⟩ := hz18
      refine z_ne (tgt := 37) hx hb dX12_mend_32 (by decide) (fun c32 => ?_) (fun c32 => ?_)
      · have hwp : WP B ig13 288 := mw (by omega)
        refine lv_aload_n hx hb dX12_mend_37 rfl (lv_at hl 1 rfl) ?_
        refine r_callV (As := []) (rest := []) C hw (t_X12_remembers l B D cA kd ig13 rg lg15 _   hI) sv_X12_342 (hsh 49 _ rfl) rfl hl.1 rfl (Nat.le_of_ble_eq_true rfl) ⟨Nat.le_of_ble_eq_true rfl, Nat.le_of_ble_eq_true rfl⟩ ⟨Nat.le_of_ble_eq_true rfl, Nat.le_of_ble_eq_true rfl⟩ dX12_mend_38 (fun r23 kd19 ig20 rg21 lg22 H locs hw hH hp24 => ?_)
        obtain ⟨rfl, rfl, hI, hchp24, hrhp24⟩ := hp24
        have hF : Ft B [49, 54, 55, 56, 57, 58, 59, 60, 61, 63, 64, 65, 66, 67, 68, 69, 70, 71, 72, 73, 74, 76, 77, 78] ig lg ig20 lg22 := Ft.tr hF hchp24 (by decide) (by decide)
        obtain rfl := hrhp24
        have hwp : WP B ig20 288 := WP.ft hwp hchp24 (by decide) (by decide) (by decide) (by decide) (by decide)
        refine lv_aload_n hx hb dX12_mend_41 rfl (lv_at hl 1 rfl) ?_
        refine lv_iload_n hx hb dX12_mend_42 rfl (lv_at hl 2 rfl) ?_
        refine r_callV (As := [.int x]) (rest := []) C hw (t_X12_puts l B D cA kd ig20 rg lg22 _ x (by omega) hwp hI) sv_X12_207 (hsh 49 _ rfl) rfl hl.1 rfl (Nat.le_of_ble_eq_true rfl) ⟨Nat.le_of_ble_eq_true rfl, Nat.le_of_ble_eq_true rfl⟩ ⟨Nat.le_of_ble_eq_true rfl, Nat.le_of_ble_eq_true rfl⟩ dX12_mend_43 (fun r29 kd25 ig26 rg27 lg28 H locs hw hH hp30 => ?_)
        obtain ⟨rfl, rfl, hI, hchp30, hrhp30⟩ := hp30
        have hF : Ft B [49, 54, 55, 56, 57, 58, 59, 60, 61, 63, 64, 65, 66, 67, 68, 69, 70, 71, 72, 73, 74, 76, 77, 78] ig lg ig26 lg28 := Ft.tr hF hchp30 (by decide) (by decide)
        obtain rfl := hrhp30
        refine lv_aload_n hx hb dX12_mend_46 rfl (lv_at hl 1 rfl) ?_
        refine r_callV (As := []) (rest := []) C hw (t_X12_tells l B D cA kd ig26 rg lg28 _   hI) sv_X12_345 (hsh 49 _ rfl) rfl hl.1 rfl (Nat.le_of_ble_eq_true rfl) ⟨Nat.le_of_ble_eq_true rfl, Nat.le_of_ble_eq_true rfl⟩ ⟨Nat.le_of_ble_eq_true rfl, Nat.le_of_ble_eq_true rfl⟩ dX12_mend_47 (fun r35 kd31 ig32 rg33 lg34 H locs hw hH hp36 => ?_)
        obtain ⟨rfl, rfl, hI, hchp36, hrhp36⟩ := hp36
        have hF : Ft B [49, 54, 55, 56, 57, 58, 59, 60, 61, 63, 64, 65, 66, 67, 68, 69, 70, 71, 72, 73, 74, 76, 77, 78] ig lg ig32 lg34 := Ft.tr hF hchp36 (by decide) (by decide)
        obtain ⟨z37, rfl, hz37⟩ := hrhp36
        exact r_iret C hw hr hlk rfl (Nat.le_of_ble_eq_true rfl) (Nat.le_of_ble_eq_true rfl) dX12_mend_50 ⟨rfl, rfl, hI, hF, ⟨_, rfl, trivial⟩⟩
      · refine lv_iconst (v := (-1)) hx hb dX12_mend_35 (by decide) (ti_c (-1) (by decide) fun z38 hz38 => ?_)
        exact r_iret C hw hr hlk rfl (Nat.le_of_ble_eq_true rfl) (Nat.le_of_ble_eq_true rfl) dX12_mend_36 ⟨rfl, rfl, hI, hF, ⟨_, rfl, trivial⟩⟩
  · refine lv_aload_n hx hb dX12_mend_12 rfl (lv_at hl 0 rfl) ?_
    refine lv_iload_n hx hb dX12_mend_13 rfl (lv_at hl 1 rfl) ?_
    refine r_callV (As := [.int x]) (rest := []) C hw (t_X12_oddBy l B D cA kd ig2 rg lg _ x (by omega) hI) sv_X12_327 (hsh 49 _ rfl) rfl hl.1 rfl (Nat.le_of_ble_eq_true rfl) ⟨Nat.le_of_ble_eq_true rfl, Nat.le_of_ble_eq_true rfl⟩ ⟨Nat.le_of_ble_eq_true rfl, Nat.le_of_ble_eq_true rfl⟩ dX12_mend_14 (fun r43 kd39 ig40 rg41 lg42 H locs hw hH hp44 => ?_)
    obtain ⟨rfl, rfl, rfl, rfl, hzhp44, hrhp44⟩ := hp44
    obtain ⟨z45, rfl, hz45⟩ := hrhp44
    refine lv_goto (tgt := 21) hx hb dX12_mend_17 (by decide) ?_
    refine lv_istore_n (lv' := [(2, .int z45), (0, .ref (B + 49)), (1, .int x)]) hx hb dX12_mend_21 rfl hl (by decide) rfl (fun ls hl => ?_)
    refine lv_iload_n hx hb dX12_mend_22 rfl (lv_at hl 0 rfl) ?_
    refine z_lt (tgt := 35) hx hb dX12_mend_23 (by decide) (fun c23 => ?_) (fun c23 => ?_)
    · refine lv_iconst (v := (-1)) hx hb dX12_mend_35 (by decide) (ti_c (-1) (by decide) fun z46 hz46 => ?_)
      exact r_iret C hw hr hlk rfl (Nat.le_of_ble_eq_true rfl) (Nat.le_of_ble_eq_true rfl) dX12_mend_36 ⟨rfl, rfl, hI, hF, ⟨_, rfl, trivial⟩⟩
    · refine lv_aload_n hx hb dX12_mend_26 rfl (lv_at hl 1 rfl) ?_
      refine lv_iload_n hx hb dX12_mend_27 rfl (lv_at hl 0 rfl) ?_
      refine lv_iload_n hx hb dX12_mend_28 rfl (lv_at hl 2 rfl) ?_
      refine r_callV (As := [.int z45, .int x]) (rest := []) C hw (t_X12_makesCopy l B D cA kd ig2 rg lg _ z45 x (by omega) (by omega) hI) sv_X12_210 (hsh 49 _ rfl) rfl hl.1 rfl (Nat.le_of_ble_eq_true rfl) ⟨Nat.le_of_ble_eq_true rfl, Nat.le_of_ble_eq_true rfl⟩ ⟨Nat.le_of_ble_eq_true rfl, Nat.le_of_ble_eq_true rfl⟩ dX12_mend_29 (fun r51 kd47 ig48 rg49 lg50 H locs hw hH hp52 => ?_)
      obtain ⟨rfl, rfl, hI, hchp52, hrhp52⟩ := hp52
      have hF : Ft B [49, 54, 55, 56, 57, 58, 59, 60, 61, 63, 64, 65, 66, 67, 68, 69, 70, 71, 72, 73, 74, 76, 77, 78] ig lg ig48 lg50 := Ft.tr hF hchp52 (by decide) (by decide)
      obtain ⟨z53, rfl, hz53⟩ := hrhp52
      obtain ⟨mb, mw⟩ := hz53
      refine z_ne (tgt := 37) hx hb dX12_mend_32 (by decide) (fun c32 => ?_) (fun c32 => ?_)
      · have hwp : WP B ig48 288 := mw (by omega)
        refine lv_aload_n hx hb dX12_mend_37 rfl (lv_at hl 1 rfl) ?_
        refine r_callV (As := []) (rest := []) C hw (t_X12_remembers l B D cA kd ig48 rg lg50 _   hI) sv_X12_342 (hsh 49 _ rfl) rfl hl.1 rfl (Nat.le_of_ble_eq_true rfl) ⟨Nat.le_of_ble_eq_true rfl, Nat.le_of_ble_eq_true rfl⟩ ⟨Nat.le_of_ble_eq_true rfl, Nat.le_of_ble_eq_true rfl⟩ dX12_mend_38 (fun r58 kd54 ig55 rg56 lg57 H locs hw hH hp59 => ?_)
        obtain ⟨rfl, rfl, hI, hchp59, hrhp59⟩ := hp59
        have hF : Ft B [49, 54, 55, 56, 57, 58, 59, 60, 61, 63, 64, 65, 66, 67, 68, 69, 70, 71, 72, 73, 74, 76, 77, 78] ig lg ig55 lg57 := Ft.tr hF hchp59 (by decide) (by decide)
        obtain rfl := hrhp59
        have hwp : WP B ig55 288 := WP.ft hwp hchp59 (by decide) (by decide) (by decide) (by decide) (by decide)
        refine lv_aload_n hx hb dX12_mend_41 rfl (lv_at hl 1 rfl) ?_
        refine lv_iload_n hx hb dX12_mend_42 rfl (lv_at hl 2 rfl) ?_
        refine r_callV (As := [.int x]) (rest := []) C hw (t_X12_puts l B D cA kd ig55 rg lg57 _ x (by omega) hwp hI) sv_X12_207 (hsh 49 _ rfl) rfl hl.1 rfl (Nat.le_of_ble_eq_true rfl) ⟨Nat.le_of_ble_eq_true rfl, Nat.le_of_ble_eq_true rfl⟩ ⟨Nat.le_of_ble_eq_true rfl, Nat.le_of_ble_eq_true rfl⟩ dX12_mend_43 (fun r64 kd60 ig61 rg62 lg63 H locs hw hH hp65 => ?_)
        obtain ⟨rfl, rfl, hI, hchp65, hrhp65⟩ := hp65
        have hF : Ft B [49, 54, 55, 56, 57, 58, 59, 60, 61, 63, 64, 65, 66, 67, 68, 69, 70, 71, 72, 73, 74, 76, 77, 78] ig lg ig61 lg63 := Ft.tr hF hchp65 (by decide) (by decide)
        obtain rfl := hrhp65
        refine lv_aload_n hx hb dX12_mend_46 rfl (lv_at hl 1 rfl) ?_
        refine r_callV (As := []) (rest := []) C hw (t_X12_tells l B D cA kd ig61 rg lg63 _   hI) sv_X12_345 (hsh 49 _ rfl) rfl hl.1 rfl (Nat.le_of_ble_eq_true rfl) ⟨Nat.le_of_ble_eq_true rfl, Nat.le_of_ble_eq_true rfl⟩ ⟨Nat.le_of_ble_eq_true rfl, Nat.le_of_ble_eq_true rfl⟩ dX12_mend_47 (fun r70 kd66 ig67 rg68 lg69 H locs hw hH hp71 => ?_)
        obtain ⟨rfl, rfl, hI, hchp71, hrhp71⟩ := hp71
        have hF : Ft B [49, 54, 55, 56, 57, 58, 59, 60, 61, 63, 64, 65, 66, 67, 68, 69, 70, 71, 72, 73, 74, 76, 77, 78] ig lg ig67 lg69 := Ft.tr hF hchp71 (by decide) (by decide)
        obtain ⟨z72, rfl, hz72⟩ := hrhp71
        exact r_iret C hw hr hlk rfl (Nat.le_of_ble_eq_true rfl) (Nat.le_of_ble_eq_true rfl) dX12_mend_50 ⟨rfl, rfl, hI, hF, ⟨_, rfl, trivial⟩⟩
      · refine lv_iconst (v := (-1)) hx hb dX12_mend_35 (by decide) (ti_c (-1) (by decide) fun z73 hz73 => ?_)
        exact r_iret C hw hr hlk rfl (Nat.le_of_ble_eq_true rfl) (Nat.le_of_ble_eq_true rfl) dX12_mend_36 ⟨rfl, rfl, hI, hF, ⟨_, rfl, trivial⟩⟩

set_option maxHeartbeats 4000000 in
set_option maxRecDepth 100000 in
theorem t_X12_undo {τ : Tp} {φ : Option Int} (l : Launch) (B : Nat) (D : va_G) (cA : Nat → ClassId) (kd : sK) (ig : sI) (rg : sR) (lg : sG) (sz : Nat)  (hI : IM τ φ B kd ig rg) : MC l B D cA yX12_undo cX12_undo 1 (some .int) (rL 32 0 0) [.ref (B + 49)] kd ig rg lg sz (PM τ φ B [49, 54, 55, 56, 57, 58, 59, 60, 61, 64, 65, 66, 67, 68, 69, 70, 71, 72, 73, 74, 76, 77, 78] kd ig rg lg (fun r ig' lg' => ∃ z : Int32, r = some (.int z) ∧ True)) := by
  refine MC.of (own := RX12) (by decide +kernel) rfl (Nat.le_of_ble_eq_true rfl) ?_
  intro p e s m args below meth c ls C hr hlk hnm hw hsz hl
  have hx := C.1.1
  have hb := C.1.2.1
  have hown := C.1.2.2.2.1
  have hts := C.1.2.2.2.2
  have hl : lv_has ls 1 [(0, .ref (B + 49))] := hl
  have hF : Ft B [49, 54, 55, 56, 57, 58, 59, 60, 61, 64, 65, 66, 67, 68, 69, 70, 71, 72, 73, 74, 76, 77, 78] ig lg ig lg := Ft.rf
  have hsh := hI.sh
  have hrm := hI.rm
  refine lv_aload_n hx hb dX12_undo_0 rfl (lv_at hl 0 rfl) ?_
  refine lv_iconst (v := 0) hx hb dX12_undo_1 (by decide) (ti_c 0 (by decide) fun z1 hz1 => ?_)
  refine r_puti C hw (hsh 49 _ rfl) fl_X12_1 rfl rfl rfl dX12_undo_2 (fun H locs hH hw => ?_)
  obtain ⟨ig2, eig2⟩ : ∃ f, f = up2 ig (B + 49) 0 z1 := ⟨_, rfl⟩
  rw [← eig2] at hw
  have hF : Ft B [49, 54, 55, 56, 57, 58, 59, 60, 61, 64, 65, 66, 67, 68, 69, 70, 71, 72, 73, 74, 76, 77, 78] ig lg ig2 lg := by rw [eig2]; exact hF.pi (by decide)
  have hI : IM τ φ B kd ig2 rg := by rw [eig2]; exact hI.pi (by decide) (show okR none _ from trivial)
  have wig2_49_19 : (ig2 (B + 49) 19).toInt = (ig (B + 49) 19).toInt := by rw [eig2, up2_j (by decide)]
  refine lv_aload_n hx hb dX12_undo_5 rfl (lv_at hl 0 rfl) ?_
  refine r_get C hw (hsh 49 _ rfl) fl_X12_188 (oV_i rfl) dX12_undo_6 (ti_c (ig2 (B + 49) 19).toInt rfl fun z3 hz3 => ?_)
  have k4 : 0 ≤ (ig2 (B + 49) 19).toInt ∧ (ig2 (B + 49) 19).toInt ≤ 20 := hI.i 49 19 (by decide) (by decide)
  refine z_ne (tgt := 14) hx hb dX12_undo_9 (by decide) (fun c9 => ?_) (fun c9 => ?_)
  · refine lv_aload_n hx hb dX12_undo_14 rfl (lv_at hl 0 rfl) ?_
    refine lv_dup hx hb dX12_undo_15 rfl ?_
    refine r_get C hw (hsh 49 _ rfl) fl_X12_188 (oV_i rfl) dX12_undo_16 (ti_c (ig2 (B + 49) 19).toInt rfl fun z5 hz5 => ?_)
    have k6 : 0 ≤ (ig2 (B + 49) 19).toInt ∧ (ig2 (B + 49) 19).toInt ≤ 20 := hI.i 49 19 (by decide) (by decide)
    refine lv_iconst (v := 1) hx hb dX12_undo_19 (by decide) (ti_c 1 (by decide) fun z7 hz7 => ?_)
    refine lv_isub hx hb dX12_undo_20 (tc_sub fun z8 hz8 => ?_)
    first | replace hz8 := hz8 (by omega) | clear hz8
    refine r_puti C hw (hsh 49 _ rfl) fl_X12_188 rfl rfl rfl dX12_undo_21 (fun H locs hH hw => ?_)
    obtain ⟨ig9, eig9⟩ : ∃ f, f = up2 ig2 (B + 49) 19 z8 := ⟨_, rfl⟩
    rw [← eig9] at hw
    have hF : Ft B [49, 54, 55, 56, 57, 58, 59, 60, 61, 64, 65, 66, 67, 68, 69, 70, 71, 72, 73, 74, 76, 77, 78] ig lg ig9 lg := by rw [eig9]; exact hF.pi (by decide)
    have hI : IM τ φ B kd ig9 rg := by rw [eig9]; exact hI.pi (by decide) (show okR (some (0, 20)) _ from ⟨by show (0 : Int) ≤ _; omega, by show _ ≤ (20 : Int); omega⟩)
    have wig9 : (ig9 (B + 49) 19).toInt = z8.toInt := by rw [eig9, up2_eq]
    refine lv_aload_n hx hb dX12_undo_24 rfl (lv_at hl 0 rfl) ?_
    refine r_callV (As := []) (rest := []) C hw (t_X12_remembers l B D cA kd ig9 rg lg _   hI) sv_X12_342 (hsh 49 _ rfl) rfl hl.1 rfl (Nat.le_of_ble_eq_true rfl) ⟨Nat.le_of_ble_eq_true rfl, Nat.le_of_ble_eq_true rfl⟩ ⟨Nat.le_of_ble_eq_true rfl, Nat.le_of_ble_eq_true rfl⟩ dX12_undo_25 (fun r14 kd10 ig11 rg12 lg13 H locs hw hH hp15 => ?_)
    obtain ⟨rfl, rfl, hI, hchp15, hrhp15⟩ := hp15
    have hF : Ft B [49, 54, 55, 56, 57, 58, 59, 60, 61, 64, 65, 66, 67, 68, 69, 70, 71, 72, 73, 74, 76, 77, 78] ig lg ig11 lg13 := Ft.tr hF hchp15 (by decide) (by decide)
    obtain rfl := hrhp15
    have u19 := congrArg Int32.toInt (hchp15.i 49 19 (by decide))
    refine lv_aload_n hx hb dX12_undo_28 rfl (lv_at hl 0 rfl) ?_
    refine lv_sipush (v := 289) hx hb dX12_undo_29 (by decide) (ti_c 289 (by decide) fun z16 hz16 => ?_)
    refine lv_aload_n hx hb dX12_undo_32 rfl (lv_at hl 0 rfl) ?_
    refine r_get C hw (hsh 49 _ rfl) fl_X12_188 (oV_i rfl) dX12_undo_33 (ti_c (ig11 (B + 49) 19).toInt rfl fun z17 hz17 => ?_)
    have k18 : 0 ≤ (ig11 (B + 49) 19).toInt ∧ (ig11 (B + 49) 19).toInt ≤ 20 := hI.i 49 19 (by decide) (by decide)
    refine lv_iadd hx hb dX12_undo_36 (tc_add fun z19 hz19 => ?_)
    first | replace hz19 := hz19 (by omega) | clear hz19
    refine lv_aload_n hx hb dX12_undo_37 rfl (lv_at hl 0 rfl) ?_
    refine r_get C hw (hsh 49 _ rfl) fl_X12_93 (oV_r rfl (hrm (49, 20, 63) (by decide))) dX12_undo_38 ?_
    refine lv_aload_n hx hb dX12_undo_41 rfl (lv_at hl 0 rfl) ?_
    refine r_get C hw (hsh 49 _ rfl) fl_X12_188 (oV_i rfl) dX12_undo_42 (ti_c (ig11 (B + 49) 19).toInt rfl fun z20 hz20 => ?_)
    have k21 : 0 ≤ (ig11 (B + 49) 19).toInt ∧ (ig11 (B + 49) 19).toInt ≤ 20 := hI.i 49 19 (by decide) (by decide)
    refine r_iald C hw (hsh 63 _ rfl) (by omega) (by omega) dX12_undo_45 (ti_c (ig11 (B + 63) z20.toInt.toNat).toInt rfl fun z22 hz22 => ?_)
    have k23 : 0 ≤ (ig11 (B + 63) (z20.toInt.toNat)).toInt ∧ (ig11 (B + 63) (z20.toInt.toNat)).toInt ≤ 287 := hI.i 63 (z20.toInt.toNat) (by decide) (by decide)
    refine r_callV (As := [.int z19, .int z22]) (rest := []) C hw (t_X12_copyRow l B D cA kd ig11 rg lg13 _ z19 z22 (by omega) (by omega) (i32_ne (by omega)) (hI.wp (by omega) (by omega)) hI) sv_X12_191 (hsh 49 _ rfl) rfl hl.1 rfl (Nat.le_of_ble_eq_true rfl) ⟨Nat.le_of_ble_eq_true rfl, Nat.le_of_ble_eq_true rfl⟩ ⟨Nat.le_of_ble_eq_true rfl, Nat.le_of_ble_eq_true rfl⟩ dX12_undo_46 (fun r28 kd24 ig25 rg26 lg27 H locs hw hH hp29 => ?_)
    obtain ⟨rfl, rfl, hI, hchp29, hrhp29⟩ := hp29
    have hF : Ft B [49, 54, 55, 56, 57, 58, 59, 60, 61, 64, 65, 66, 67, 68, 69, 70, 71, 72, 73, 74, 76, 77, 78] ig lg ig25 lg27 := Ft.tr hF hchp29 (by decide) (by decide)
    obtain ⟨rfl, hvhp29⟩ := hrhp29
    refine lv_aload_n hx hb dX12_undo_49 rfl (lv_at hl 0 rfl) ?_
    refine r_callV (As := []) (rest := []) C hw (t_X12_works l B D cA kd ig25 rg lg27 _   hI) sv_X12_195 (hsh 49 _ rfl) rfl hl.1 rfl (Nat.le_of_ble_eq_true rfl) ⟨Nat.le_of_ble_eq_true rfl, Nat.le_of_ble_eq_true rfl⟩ ⟨Nat.le_of_ble_eq_true rfl, Nat.le_of_ble_eq_true rfl⟩ dX12_undo_50 (fun r34 kd30 ig31 rg32 lg33 H locs hw hH hp35 => ?_)
    obtain ⟨rfl, rfl, hI, hchp35, hrhp35⟩ := hp35
    have hF : Ft B [49, 54, 55, 56, 57, 58, 59, 60, 61, 64, 65, 66, 67, 68, 69, 70, 71, 72, 73, 74, 76, 77, 78] ig lg ig31 lg33 := Ft.tr hF hchp35 (by decide) (by decide)
    obtain rfl := hrhp35
    refine lv_aload_n hx hb dX12_undo_53 rfl (lv_at hl 0 rfl) ?_
    refine r_callV (As := []) (rest := []) C hw (t_X12_tells l B D cA kd ig31 rg lg33 _   hI) sv_X12_345 (hsh 49 _ rfl) rfl hl.1 rfl (Nat.le_of_ble_eq_true rfl) ⟨Nat.le_of_ble_eq_true rfl, Nat.le_of_ble_eq_true rfl⟩ ⟨Nat.le_of_ble_eq_true rfl, Nat.le_of_ble_eq_true rfl⟩ dX12_undo_54 (fun r40 kd36 ig37 rg38 lg39 H locs hw hH hp41 => ?_)
    obtain ⟨rfl, rfl, hI, hchp41, hrhp41⟩ := hp41
    have hF : Ft B [49, 54, 55, 56, 57, 58, 59, 60, 61, 64, 65, 66, 67, 68, 69, 70, 71, 72, 73, 74, 76, 77, 78] ig lg ig37 lg39 := Ft.tr hF hchp41 (by decide) (by decide)
    obtain ⟨z42, rfl, hz42⟩ := hrhp41
    exact r_iret C hw hr hlk rfl (Nat.le_of_ble_eq_true rfl) (Nat.le_of_ble_eq_true rfl) dX12_undo_57 ⟨rfl, rfl, hI, hF, ⟨_, rfl, trivial⟩⟩
  · refine lv_iconst (v := (-1)) hx hb dX12_undo_12 (by decide) (ti_c (-1) (by decide) fun z43 hz43 => ?_)
    exact r_iret C hw hr hlk rfl (Nat.le_of_ble_eq_true rfl) (Nat.le_of_ble_eq_true rfl) dX12_undo_13 ⟨rfl, rfl, hI, hF, ⟨_, rfl, trivial⟩⟩
