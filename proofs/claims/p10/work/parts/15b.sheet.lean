/-! THE SHEET as it is: of each place kind, number, unit, formula; and what can be taken back -/
abbrev Cl : Type := (Int × Int) × (Int × Int × Int) × Fm
def blk : Cl := ((0, 0), (0, 0, 0), [])
def kdO (c : Cl) : Int := c.1.1
def fmO (c : Cl) : Fm := c.2.2
/-- f is the formula L -/
def FnL (B : Nat) (kd : sK) (ig : sI) (rg : sR) (f : Nat) (L : Fm) : Prop :=
  isFn B kd rg f L.length ∧ B + 80 ≤ f ∧ ∀ j a, rg f j = some a → ∀ i (h : i < L.length), (j = 0 → (ig a i).toInt = (L[i]).1) ∧ (j = 1 → (ig a i).toInt = (L[i]).2.1) ∧ (j = 2 → (ig a i).toInt = (L[i]).2.2)
/-- q is a cell with c in it -/
def ClQ (B : Nat) (kd : sK) (ig : sI) (rg : sR) (q : Nat) (c : Cl) : Prop :=
  (∃ n, kd q = some (0, n)) ∧ (q = B + 10 ∨ B + 80 ≤ q) ∧ ((ig q 0).toInt = c.1.1 ∧ (ig q 1).toInt = c.1.2 ∧ (ig q 3).toInt = c.2.1.1 ∧ (ig q 4).toInt = c.2.1.2.1 ∧ (ig q 5).toInt = c.2.1.2.2) ∧ ((kdO c ≠ 2 ∧ rg q 2 = none) ∨ (kdO c = 2 ∧ ∃ f, rg q 2 = some f ∧ FnL B kd ig rg f (fmO c)))
abbrev Sg : Type := Nat → Cl
abbrev Ps : Type := List (Nat × Cl)
def SCh (B : Nat) (σ : Sg) (π : Ps) (ν : Nat) (kd : sK) (ig : sI) (rg : sR) : Prop :=
  (∀ p, p < 288 → ∃ q, rg (B + 11) p = some q ∧ ClQ B kd ig rg q (σ p)) ∧ ClQ B kd ig rg (B + 10) blk ∧ ((ig (B + 9) 5).toInt = (π.length : Int) ∧ π.length ≤ 20) ∧
  (∀ i (h : i < π.length), (ig (B + 13) i).toInt = ((π[i]).1 : Int) ∧ (π[i]).1 < 288 ∧ ∃ q, rg (B + 14) i = some q ∧ ClQ B kd ig rg q (π[i]).2) ∧ (ig (B + 9) 6).toInt = (ν : Int)
/-- FAMILIES: the first formula that is the same -/
def FmR (σ : Sg) (p : Nat) (z : Int) : Prop := (kdO (σ p) ≠ 2 → z = -1) ∧ (kdO (σ p) = 2 → ∃ q : Nat, q ≤ p ∧ z = (q : Int) ∧ kdO (σ q) = 2 ∧ fmO (σ q) = fmO (σ p) ∧ ∀ r, r < q → kdO (σ r) = 2 → fmO (σ r) ≠ fmO (σ p))
/-- the class's families: right where their version is the sheet's -/
def FV (B : Nat) (σ : Sg) (ν : Nat) (ig : sI) : Prop := (-1 ≤ (ig (B + 29) 4).toInt ∧ (ig (B + 29) 4).toInt ≤ (ν : Int)) ∧ ((ig (B + 29) 4).toInt = (ν : Int) → ∀ p, p < 288 → FmR σ p (ig (B + 30) p).toInt)
section SHEET
variable {B : Nat} {b : Nat} {σ : Sg} {π : Ps} {ν : Nat} {kd kd' : sK} {ig ig' : sI} {rg rg' : sR} {lg lg' : sG} {f q : Nat} {L : Fm} {c : Cl}
theorem FmR.det {p : Nat} {y z : Int} (h1 : FmR σ p y) (h2 : FmR σ p z) : y = z := by
  by_cases h : kdO (σ p) = 2
  · obtain ⟨q, a1, a2, a3, a4, a5⟩ := h1.2 h
    obtain ⟨r, b1, b2, b3, b4, b5⟩ := h2.2 h
    rcases Nat.lt_trichotomy q r with w | w | w
    · exact (b5 q w a3 a4).elim
    · omega
    · exact (a5 r w b3 b4).elim
  · rw [h1.1 h, h2.1 h]
theorem FnL.F (h : FnL B kd ig rg f L) : isFn B kd rg f L.length := h.1
theorem FnL.s (h : FnL B kd ig rg f L) {a i : Nat} (ha : rg f 0 = some a) (hi : i < L.length) : (ig a i).toInt = (L[i]).1 := (h.2.2 0 a ha i hi).1 rfl
theorem FnL.a (h : FnL B kd ig rg f L) {a i : Nat} (ha : rg f 1 = some a) (hi : i < L.length) : (ig a i).toInt = (L[i]).2.1 := (h.2.2 1 a ha i hi).2.1 rfl
theorem FnL.l (h : FnL B kd ig rg f L) {a i : Nat} (ha : rg f 2 = some a) (hi : i < L.length) : (ig a i).toInt = (L[i]).2.2 := (h.2.2 2 a ha i hi).2.2 rfl
theorem FnL.nx (h : FnL B kd ig rg f L) (hN : Nx b B none kd ig rg lg kd' ig' rg' lg') : FnL B kd' ig' rg' f L := by
  refine ⟨hN.F h.1, h.2.1, fun j a ha i hi => ?_⟩
  have e : rg' f j = rg f j := hN.1.2.1 f j (by simp) ⟨0, Or.inr h.1.1⟩
  rw [e] at ha
  by_cases hj : j < 3
  · obtain ⟨a2, r2, k2, g2⟩ := h.1.2.2 j hj
    rw [ha] at r2
    cases r2
    rw [hN.2.1 a i (Or.inr ⟨g2, by rw [k2]; simp, by simp⟩)]
    exact h.2.2 j a ha i hi
  · exact ⟨fun q => by omega, fun q => by omega, fun q => by omega⟩
theorem ClQ.nx (h : ClQ B kd ig rg q c) (hN : Nx b B none kd ig rg lg kd' ig' rg' lg') : ClQ B kd' ig' rg' q c := by
  obtain ⟨⟨n, h1⟩, h2, h3, h4⟩ := h
  have e : ∀ j, ig' q j = ig q j := fun j => hN.2.1 q j (h2.imp id (fun w => ⟨w, by rw [h1]; simp, by simp⟩))
  have e2 : rg' q 2 = rg q 2 := hN.1.2.1 q 2 (by simp) ⟨n, Or.inl h1⟩
  refine ⟨⟨n, hN.k h1⟩, h2, by rw [e, e, e, e, e]; exact h3, ?_⟩
  rw [e2]
  exact h4.imp id (fun w => ⟨w.1, w.2.elim fun f g => ⟨f, g.1, g.2.nx hN⟩⟩)
theorem SCh.nx (h : SCh B σ π ν kd ig rg) (hN : Nx b B none kd ig rg lg kd' ig' rg' lg') (hb : b.testBit 1 = true := by decide) : SCh B σ π ν kd' ig' rg' := by
  obtain ⟨h1, h2, h3, h4, h5⟩ := h
  have r1 := hN.2.2.1 hb
  have r2 : ∀ c j, gO c j = 1 → ig' (B + c) j = ig (B + c) j := fun c j hc => hN.2.2.2.1 c j (by rw [hc]; exact hb)
  refine ⟨fun p hp => ?_, h2.nx hN, by rw [r2 9 5 rfl]; exact h3, fun i hi => ?_, by rw [r2 9 6 rfl]; exact h5⟩
  · obtain ⟨q, g1, g2⟩ := h1 p hp
    exact ⟨q, (r1 p).1.trans g1, g2.nx hN⟩
  · obtain ⟨g1, g2, q, g3, g4⟩ := h4 i hi
    exact ⟨by rw [r2 13 i rfl]; exact g1, g2, q, (r1 i).2.trans g3, g4.nx hN⟩
theorem FV.nx (h : FV B σ ν ig) (hN : Nx b B none kd ig rg lg kd' ig' rg' lg') (hb : b.testBit 2 = true := by decide) : FV B σ ν ig' := by
  have r : ∀ c j, gO c j = 2 → ig' (B + c) j = ig (B + c) j := fun c j hc => hN.2.2.2.1 c j (by rw [hc]; exact hb)
  unfold FV
  rw [r 29 4 rfl]
  exact ⟨h.1, fun q p hp => by rw [r 30 p rfl]; exact h.2 q p hp⟩
/-- what stands at a place, or off the sheet -/
def atC (σ : Sg) (x : Int) : Cl := if 0 ≤ x ∧ x < 288 then σ x.toNat else blk
theorem atC_on {x : Int} (h : 0 ≤ x ∧ x < 288) : atC σ x = σ x.toNat := if_pos h
theorem atC_off {x : Int} (h : ¬ (0 ≤ x ∧ x < 288)) : atC σ x = blk := if_neg h
theorem SCh.at (h : SCh B σ π ν kd ig rg) {x : Int} (hx : 0 ≤ x ∧ x < 288) (hq : rg (B + 11) x.toNat = some q) : ClQ B kd ig rg q (atC σ x) := by
  obtain ⟨q2, g1, g2⟩ := h.1 x.toNat (by omega)
  rw [hq] at g1
  cases g1
  rw [atC_on hx]
  exact g2
theorem SCh.off (h : SCh B σ π ν kd ig rg) {x : Int} (hx : ¬ (0 ≤ x ∧ x < 288)) : ClQ B kd ig rg (B + 10) (atC σ x) := by
  rw [atC_off hx]
  exact h.2.1
end SHEET
