/-! the draft -/
section DRAFT
variable {τ : Tp} {φ : Option Int} {B x y p : Nat} {kd : sK} {ig ig' : sI} {rg : sR} {lg lg' : sG} {T : List Nat}
theorem IM.wp {υ : Option Int} (h : IM τ φ υ B kd ig rg) (h1 : p < 309) (h2 : p ≠ 288) : WP B ig p := fun h3 => h.row h1 h2 h3
theorem WP.cr (h : WP B ig x) (hc : CRw B x y ig ig') : WP B ig' y := fun q => (h (by rw [← hc.1]; exact q)).copy hc
theorem WP.keep (h : WP B ig p) (hc : CRw B x y ig ig') (hp : p ≠ y) : WP B ig' p := fun q => by
  obtain ⟨c1, c2, c3, c4, c5⟩ := hc
  rw [c3 59 p (Or.inr rfl) hp] at q
  exact (h q).same (c3 58 p (Or.inl rfl) hp) (fun k a b => ⟨c5 54 k (by decide) (by decide) (by omega), c5 55 k (by decide) (by decide) (by omega), c5 56 k (by decide) (by decide) (by omega)⟩)
theorem WP.ft (h : WP B ig p) (hF : Ft B T ig lg ig' lg') (h4 : ∀ q ∈ T, 54 ≠ q) (h5 : ∀ q ∈ T, 55 ≠ q) (h6 : ∀ q ∈ T, 56 ≠ q) (h8 : ∀ q ∈ T, 58 ≠ q) (h9 : ∀ q ∈ T, 59 ≠ q) : WP B ig' p := fun q => by
  rw [hF.i 59 p h9] at q
  exact (h q).same (hF.i 58 p h8) (fun k _ _ => ⟨hF.i 54 k h4, hF.i 55 k h5, hF.i 56 k h6⟩)
theorem WP.no {v : Int} (h : (ig (B + 59) p).toInt = v) (hv : v ≠ 2) : WP B ig p := fun q => absurd (h.symm.trans q) hv
theorem WP.u {c i : Nat} {v : Int32} (h : WP B ig p) (hc : c ≠ 54 ∧ c ≠ 55 ∧ c ≠ 56 ∧ c ≠ 58 ∧ c ≠ 59) : WP B (up2 ig (B + c) i v) p := fun q => by
  rw [up2_c (by omega)] at q
  exact (h q).same (up2_c (by omega)) (fun k _ _ => ⟨up2_c (by omega), up2_c (by omega), up2_c (by omega)⟩)
/-- the draft's grammar alone; its REFS so far -/
def WG (B : Nat) (ig : sI) : Prop := (ig (B + 59) 288).toInt = 2 → ∃ n : Nat, (ig (B + 58) 288).toInt = (n : Int) ∧ n ≤ 120 ∧ gE (mK B ig) (mA B ig) 8 (120 * 288) (120 * 288 + n)
def RK (B : Nat) (ig : sI) (q : Nat) (fl : Int32) : Prop := fl.toInt ≠ 0 → ∀ k, 120 * 288 ≤ k → k < 120 * 288 + q → rOk B ig k
def FW (B : Nat) (ig : sI) (fl : Int32) : Prop := fl.toInt ≠ 0 → WP B ig 288
theorem WP.g (h : WP B ig 288) : WG B ig := fun q => by
  obtain ⟨n, h1, h2, h3, -⟩ := h q
  exact ⟨n, h1, h2, h3⟩
theorem RK.z {fl : Int32} {q : Nat} (hq : q = 0) : RK B ig q fl := fun _ k h1 h2 => by omega
theorem WG.u {c i : Nat} {v : Int32} (h : WG B ig) (hc : c ≠ 54 ∧ c ≠ 55 ∧ c ≠ 58 ∧ c ≠ 59) : WG B (up2 ig (B + c) i v) := fun q => by
  rw [up2_c (by omega)] at q
  obtain ⟨n, h1, h2, h3⟩ := h q
  refine ⟨n, by rw [up2_c (by omega)]; exact h1, h2, gE.ag (L := 120 * 288) (R := 120 * 288 + n) (fun k _ _ => ⟨?_, fun _ => ?_⟩) (Nat.le_refl _) (Nat.le_refl _) h3⟩
  · simp only [mK]; rw [up2_c (by omega)]
  · simp only [mA]; rw [up2_c (by omega)]
theorem WG.uA {i : Nat} {v : Int32} (h : WG B ig) (h3 : (ig (B + 54) i).toInt = 3) : WG B (up2 ig (B + 55) i v) := fun q => by
  rw [up2_c (by omega)] at q
  obtain ⟨n, h1, h2, h4⟩ := h q
  refine ⟨n, by rw [up2_c (by omega)]; exact h1, h2, gE.ag (L := 120 * 288) (R := 120 * 288 + n) (fun k _ _ => ⟨?_, fun h9 => ?_⟩) (Nat.le_refl _) (Nat.le_refl _) h4⟩
  · simp only [mK]; rw [up2_c (by omega)]
  · simp only [mA]
    rw [up2_j (by rintro rfl; simp only [mK] at h9; rw [h3] at h9; cases h9)]
theorem RK.u {c i q : Nat} {v fl : Int32} (h : RK B ig q fl) (hc : c = 55 ∨ c = 56) (hi : nEq i (34560 + q)) : RK B (up2 ig (B + c) i v) q fl := fun hf k h1 h2 => by
  have hi : i = 34560 + q := hi
  have h9 := h hf k h1 h2
  have e : ∀ c9, up2 ig (B + c) i v (B + c9) k = ig (B + c9) k := fun c9 => up2_j (by omega)
  simp only [rOk, mK, mA, mB, e] at h9 ⊢
  exact h9
theorem RK.st {q q' i : Nat} {fl fl' : Int32} (h : RK B ig q fl) (hf : fl'.toInt ≠ 0 → fl.toInt ≠ 0) (hi : nEq i (34560 + q)) (hq : q' = q + 1) (hr : fl'.toInt ≠ 0 → rOk B ig i) : RK B ig q' fl' := fun hx k h1 h2 => by
  have hi : i = 34560 + q := hi
  by_cases e : k = i
  · subst e
    exact hr hx
  · exact h (hf hx) k h1 (by omega)
theorem RK.fw {q : Nat} {fl : Int32} (h : RK B ig q fl) (hg : WG B ig) (hq : (ig (B + 58) 288).toInt ≤ (q : Int)) : FW B ig fl := fun hf hk => by
  obtain ⟨n, h1, h2, h3⟩ := hg hk
  exact ⟨n, h1, h2, h3, fun k a b => h hf k a (by omega)⟩
theorem FW.st {fl fl' : Int32} (h : FW B ig fl) (hf : fl'.toInt ≠ 0 → fl.toInt ≠ 0) : FW B ig fl' := fun q => h (hf q)
theorem rOk.n3 {i : Nat} (h : (ig (B + 54) i).toInt ≠ 3) : rOk B ig i := fun q => absurd q h
theorem i32_ne {a b : Int32} (h : a.toInt ≠ b.toInt) : a ≠ b := fun e => h (by rw [e])
theorem CRw.toY {B x y : Nat} {q : Int32} (h : CRw B x q.toInt.toNat ig ig') (hq : q.toInt = (y : Int)) : CRw B x y ig ig' := by
  rw [show q.toInt.toNat = y by omega] at h
  exact h
theorem CRw.toX {B x y : Nat} {q : Int32} (h : CRw B q.toInt.toNat y ig ig') (hq : q.toInt = (x : Int)) : CRw B x y ig ig' := by
  rw [show q.toInt.toNat = x by omega] at h
  exact h
theorem IM.pdr2 {υ : Option Int} (h : IM τ φ υ B kd ig rg) {c i q : Nat} {v : Int32} (hc : c = 55 ∨ c = 56) (hi : nEq i (34560 + q)) (hq : q < 120) : IM τ φ υ B kd (up2 ig (B + c) i v) rg := by
  have hi : i = 34560 + q := hi
  exact h.pdr (by omega) (by omega) (by omega)
end DRAFT
