section STR
variable {τ : Tp} {φ : Option Int} {B x p w : Nat} {kd : sK} {ig ig' : sI} {rg : sR} {v : Int32}
theorem WFr.uAB {c : Nat} (h : WFr B ig p) (hc : c = 55 ∨ c = 56) (h3 : (ig (B + 54) w).toInt = 3) (hr : rOk B (up2 ig (B + c) w v) w) : WFr B (up2 ig (B + c) w v) p := by
  obtain ⟨n, h1, h2, h4, h5⟩ := h
  refine ⟨n, by rw [up2_c (by omega)]; exact h1, h2, gE.ag (L := 120 * p) (R := 120 * p + n) (fun k _ _ => ⟨?_, fun h9 => ?_⟩) (Nat.le_refl _) (Nat.le_refl _) h4, fun k a b => ?_⟩
  · simp only [mK]; rw [up2_c (by omega)]
  · simp only [mA]
    rw [up2_j (by rintro rfl; simp only [mK] at h9; rw [h3] at h9; cases h9)]
  · by_cases e : k = w
    · subst e
      exact hr
    · have h9 := h5 k a b
      have e9 : ∀ c9, up2 ig (B + c) w v (B + c9) k = ig (B + c9) k := fun c9 => up2_j e
      simp only [rOk, mK, mA, mB, e9] at h9 ⊢
      exact h9
theorem WFr.uB (h : WFr B ig p) (h3 : (ig (B + 54) w).toInt = 3) (ha : 0 ≤ (ig (B + 55) w).toInt ∧ (ig (B + 55) w).toInt < 12) (hv : 0 ≤ v.toInt ∧ v.toInt < 24) : WFr B (up2 ig (B + 56) w v) p := h.uAB (Or.inr rfl) h3 (fun _ => by
  simp only [mA, mB]
  rw [up2_c (by decide), up2_eq]
  exact ⟨ha, hv⟩)
theorem WFr.uA (h : WFr B ig p) (h3 : (ig (B + 54) w).toInt = 3) (hv : 0 ≤ v.toInt ∧ v.toInt < 12) (hb : 0 ≤ (ig (B + 56) w).toInt ∧ (ig (B + 56) w).toInt < 24) : WFr B (up2 ig (B + 55) w v) p := h.uAB (Or.inl rfl) h3 (fun _ => by
  simp only [mA, mB]
  rw [up2_eq, up2_c (by decide)]
  exact ⟨hv, hb⟩)
theorem CRw.f4 {q : Nat} (hc : CRw B x 288 ig ig') (hq : (q : Int) < (ig (B + 58) x).toInt) : (ig' (B + 54) (34560 + q)).toInt = (ig (B + 54) (120 * x + q)).toInt ∧ (ig' (B + 55) (34560 + q)).toInt = (ig (B + 55) (120 * x + q)).toInt ∧ (ig' (B + 56) (34560 + q)).toInt = (ig (B + 56) (120 * x + q)).toInt := by
  have h := hc.2.2.2.1
  exact ⟨congrArg Int32.toInt (h 54 q (by decide) (by decide) hq), congrArg Int32.toInt (h 55 q (by decide) (by decide) hq), congrArg Int32.toInt (h 56 q (by decide) (by decide) hq)⟩
theorem IM.sm4 {υ : Option Int} (h : IM τ φ υ B kd ig rg) {p k i : Int32} (hp : 0 ≤ p.toInt ∧ p.toInt < 288) (hk : 0 ≤ k.toInt ∧ k.toInt < (ig (B + 58) p.toInt.toNat).toInt) (hi : i.toInt = 120 * p.toInt + k.toInt) (hkd : (ig (B + 59) p.toInt.toNat).toInt = 2) (h2 : (ig (B + 54) i.toInt.toNat).toInt = 2) : (ig (B + 54) (i.toInt.toNat + 4)).toInt = 3 := by
  have e : 120 * p.toInt.toNat + k.toInt.toNat = i.toInt.toNat := by omega
  have h9 := (h.at (p := p.toInt.toNat) (k := k.toInt.toNat) (by omega) (by omega) hkd (by omega)).1
  rw [e] at h9
  exact (h9.1 h2).2.2
end STR
