/-! THE SPEC of what formula() answers: the tokens of a tape, and how they are read -/
def ch (τ : Tp) (i : Nat) : Int := if h : i < τ.length then (τ[i]).toInt else 0
def cL (c : Int) : Bool := decide (97 ≤ c) && decide (c ≤ 122)
def cD (c : Int) : Bool := decide (48 ≤ c) && decide (c ≤ 57)
def cB (c : Int) : Bool := decide (c = 32)
def cS (c : Int) : Bool := decide (c = 40) || decide (c = 41) || decide (c = 43) || decide (c = 45) || decide (c = 42) || decide (c = 47) || decide (c = 58) || decide (c = 36)
/-- the end of a run from i -/
def rE (p : Int → Bool) (τ : Tp) : Nat → Nat → Nat
  | 0, i => i
  | n + 1, i => if p (ch τ i) = true then rE p τ n (i + 1) else i
theorem ch_out {τ : Tp} {i : Nat} (h : τ.length ≤ i) : ch τ i = 0 := by unfold ch; rw [dif_neg (by omega)]
theorem ch_in {τ : Tp} {i : Nat} (h : i < τ.length) : ch τ i = (τ[i]).toInt := by unfold ch; rw [dif_pos h]
theorem rE_eq {p : Int → Bool} {τ : Tp} : ∀ (n i e : Nat), i ≤ e → e < i + n → (∀ j, i ≤ j → j < e → p (ch τ j) = true) → p (ch τ e) = false → rE p τ n i = e
  | 0, i, e, h1, h2, _, _ => by omega
  | n + 1, i, e, h1, h2, h3, h4 => by
    unfold rE
    by_cases he : i = e
    · subst he
      rw [if_neg (by rw [h4]; decide)]
    · rw [if_pos (h3 i (Nat.le_refl i) (by omega))]
      exact rE_eq n (i + 1) e (by omega) (by omega) (fun j a b => h3 j (by omega) b) h4
theorem rE_ge {p : Int → Bool} {τ : Tp} : ∀ (n i : Nat), i ≤ rE p τ n i
  | 0, i => Nat.le_refl i
  | n + 1, i => by
    unfold rE
    split
    · have := rE_ge (p := p) (τ := τ) n (i + 1); omega
    · exact Nat.le_refl i
def eL (τ : Tp) (i : Nat) : Nat := rE cL τ 200 i
def eD (τ : Tp) (i : Nat) : Nat := rE cD τ 200 i
def sk (τ : Tp) (i : Nat) : Nat := rE cB τ 200 i
def tE (τ : Tp) (i : Nat) : Nat := if cL (ch τ i) = true then eL τ i else if cD (ch τ i) = true then eD τ i else i + 1
def pos (τ : Tp) : Nat → Nat
  | 0 => sk τ 0
  | k + 1 => sk τ (tE τ (pos τ k))
/-- the number that the digits from i to e spell -/
def dv (τ : Tp) (i : Nat) : Nat → Int
  | 0 => 0
  | n + 1 => 10 * dv τ i n + (ch τ (i + n) - 48)
def wV (τ : Tp) (i : Nat) : Int := if eL τ i = i + 1 then ch τ i - 97 else if eL τ i = i + 3 ∧ ch τ i = 115 ∧ ch τ (i + 1) = 117 ∧ ch τ (i + 2) = 109 then 26 else 27
/-- a token's code: 0 the end, 119 a WORD, 110 a NUMBER, a sign itself, 63 none -/
def kAt (τ : Tp) (i : Nat) : Int := if τ.length ≤ i then 0 else if cL (ch τ i) = true then (if eL τ i ≤ i + 3 then 119 else 63) else if cD (ch τ i) = true then (if eD τ i ≤ i + 6 then 110 else 63) else if cS (ch τ i) = true then ch τ i else 63
def vAt (τ : Tp) (i : Nat) : Int := if kAt τ i = 119 then wV τ i else if kAt τ i = 110 then dv τ i (eD τ i - i) else 0
def tK (τ : Tp) (k : Nat) : Int := kAt τ (pos τ k)
def tV (τ : Tp) (k : Nat) : Int := vAt τ (pos τ k)
def tS (τ : Tp) (k : Nat) : Int := (pos τ k : Int)
/-! how tokens are read: K their codes, V their amounts, S where they stand -/
section READ
variable (K V S : Nat → Int)
def sg (v : Int) (a : Nat) : Prop := K a = v
def fw (k : Int) (a : Nat) : Int := k + 16 * S a
def oCol (a : Nat) : Prop := K a = 119 ∧ V a < 12
def sPt (a : Nat) : Prop := K a = 110 ∨ oCol K V a ∨ (K a = 119 ∧ V a = 26) ∨ sg K 36 a ∨ sg K 40 a ∨ sg K 45 a
/-- a dollar may stand at a: behind it -/
def dol (a a1 : Nat) : Prop := (sg K 36 a ∧ a1 = a + 1) ∨ (¬ sg K 36 a ∧ a1 = a)
/-- the row of a REF from a on -/
def pRow (lr : Int) (a : Nat) (f : Int) (a' : Nat) (r : Int) : Prop :=
  (K a ≠ 110 ∧ f = fw S 1 a) ∨ (K a = 110 ∧ (V a < 1 ∨ 24 < V a) ∧ f = fw S 4 a) ∨ (K a = 110 ∧ 1 ≤ V a ∧ V a ≤ 24 ∧ V a - 1 < lr ∧ f = fw S 7 a) ∨ (K a = 110 ∧ 1 ≤ V a ∧ V a ≤ 24 ∧ lr ≤ V a - 1 ∧ f = 0 ∧ a' = a + 1 ∧ r = V a - 1)
def pRef (lc lr : Int) (a : Nat) (f : Int) (a' : Nat) (c r : Int) : Prop :=
  ∃ a1, dol K a a1 ∧ ((¬ oCol K V a1 ∧ f = fw S 1 a1) ∨ (oCol K V a1 ∧ V a1 < lc ∧ f = fw S 6 a1) ∨ (oCol K V a1 ∧ lc ≤ V a1 ∧ c = V a1 ∧ ∃ a2, dol K (a1 + 1) a2 ∧ pRow K V S lr a2 f a' r))
/-- a sign v must stand at a -/
def pTk (v : Int) (a : Nat) (f : Int) (a' : Nat) : Prop := (sg K v a ∧ f = 0 ∧ a' = a + 1) ∨ (¬ sg K v a ∧ f = fw S 1 a)
def pSpan (a : Nat) (f : Int) (a' : Nat) : Prop :=
  (¬ sg K 40 a ∧ f = fw S 1 a) ∨ (sg K 40 a ∧ ∃ f1 a1 c r, pRef K V S 0 0 (a + 1) f1 a1 c r ∧ ((f1 ≠ 0 ∧ f = f1) ∨ (f1 = 0 ∧ ¬ sg K 58 a1 ∧ f = fw S 1 a1) ∨ (f1 = 0 ∧ sg K 58 a1 ∧ ∃ f2 a2 c2 r2, pRef K V S c r (a1 + 1) f2 a2 c2 r2 ∧ ((f2 ≠ 0 ∧ f = f2) ∨ (f2 = 0 ∧ pTk K S 41 a2 f a')))))
/-- P, and as long as a sign of s stands behind it: the sign and P again -/
def qCh (P : Nat → Int → Nat → Prop) (s : Nat → Prop) : Nat → Nat → Nat → Prop
  | 0, a, c => P a 0 c
  | n + 1, a, c => ∃ m, P a 0 m ∧ s m ∧ qCh P s n (m + 1) c
def pCh (P : Nat → Int → Nat → Prop) (s : Nat → Prop) (a : Nat) (f : Int) (a' : Nat) : Prop :=
  (f ≠ 0 ∧ P a f a') ∨ ∃ n c, qCh P s n a c ∧ ((¬ s c ∧ f = 0 ∧ a' = c) ∨ (s c ∧ f ≠ 0 ∧ P (c + 1) f a'))
def sMu (a : Nat) : Prop := sg K 42 a ∨ sg K 47 a
def sAd (a : Nat) : Prop := sg K 43 a ∨ sg K 45 a
/-- d: how many PARTS may still stand within one another here -/
def pPart : Nat → Nat → Int → Nat → Prop
  | 0, a, f, _ => (¬ sPt K V a ∧ f = fw S 1 a) ∨ (sPt K V a ∧ f = fw S 5 a)
  | d + 1, a, f, a' => (¬ sPt K V a ∧ f = fw S 1 a) ∨ (K a = 110 ∧ f = 0 ∧ a' = a + 1) ∨ (K a = 119 ∧ V a = 26 ∧ pSpan K V S (a + 1) f a') ∨ (sg K 45 a ∧ pPart d (a + 1) f a') ∨
      (sg K 40 a ∧ ∃ f1 a1, pCh (pCh (pPart d) (sMu K)) (sAd K) (a + 1) f1 a1 ∧ ((f1 ≠ 0 ∧ f = f1) ∨ (f1 = 0 ∧ pTk K S 41 a1 f a'))) ∨
      ((oCol K V a ∨ sg K 36 a) ∧ ∃ c r, pRef K V S 0 0 a f a' c r)
def pProd (d : Nat) : Nat → Int → Nat → Prop := pCh (pPart K V S d) (sMu K)
def pE (d : Nat) : Nat → Int → Nat → Prop := pCh (pProd K V S d) (sAd K)
/-- what formula() answers on the sheet -/
def pTop (f : Int) : Prop := ∃ f1 a1, pE K V S 8 0 f1 a1 ∧ ((f1 ≠ 0 ∧ f = f1) ∨ (f1 = 0 ∧ K a1 ≠ 0 ∧ f = fw S 1 a1) ∨ (f1 = 0 ∧ K a1 = 0 ∧ f = 0))
end READ
section DET
variable {K V S : Nat → Int}
theorem dol.det {a a1 a2 : Nat} (h1 : dol K a a1) (h2 : dol K a a2) : a1 = a2 := by
  unfold dol at h1 h2
  rcases h1 with ⟨p, e⟩ | ⟨p, e⟩ <;> rcases h2 with ⟨q, e'⟩ | ⟨q, e'⟩
  · omega
  · exact (q p).elim
  · exact (p q).elim
  · omega
/-- two readings are one -/
def Det (P : Nat → Int → Nat → Prop) : Prop := ∀ a f g b c, P a f b → P a g c → f = g ∧ (f = 0 → b = c)
theorem fw_pos (hS : ∀ a, 0 ≤ S a) {k : Int} {a : Nat} (hk : 0 < k) : fw S k a ≠ 0 := by have := hS a; unfold fw; omega
theorem pRow.det (hS : ∀ a, 0 ≤ S a) {lr : Int} {a : Nat} {f g : Int} {b c : Nat} {r t : Int} (h1 : pRow K V S lr a f b r) (h2 : pRow K V S lr a g c t) : f = g ∧ (f = 0 → b = c ∧ r = t) := by
  have p1 := fw_pos hS (k := 1) (a := a) (by decide)
  have p4 := fw_pos hS (k := 4) (a := a) (by decide)
  have p7 := fw_pos hS (k := 7) (a := a) (by decide)
  unfold pRow at h1 h2
  generalize fw S 1 a = w1 at *
  generalize fw S 4 a = w4 at *
  generalize fw S 7 a = w7 at *
  omega
theorem pRef.det (hS : ∀ a, 0 ≤ S a) {lc lr : Int} {a : Nat} {f g : Int} {b c : Nat} {x r y t : Int} (h1 : pRef K V S lc lr a f b x r) (h2 : pRef K V S lc lr a g c y t) : f = g ∧ (f = 0 → b = c ∧ x = y ∧ r = t) := by
  obtain ⟨a1, d1, h1⟩ := h1
  obtain ⟨a2, d2, h2⟩ := h2
  obtain rfl := d1.det d2
  have p1 := fw_pos hS (k := 1) (a := a1) (by decide)
  have p6 := fw_pos hS (k := 6) (a := a1) (by decide)
  rcases h1 with ⟨q1, e1⟩ | ⟨q1, l1, e1⟩ | ⟨q1, l1, e1, b1, o1, r1⟩ <;> rcases h2 with ⟨q2, e2⟩ | ⟨q2, l2, e2⟩ | ⟨q2, l2, e2, b2, o2, r2⟩
  · exact ⟨by omega, fun h => absurd (e1.symm.trans h) p1⟩
  · exact (q1 q2).elim
  · exact (q1 q2).elim
  · exact (q2 q1).elim
  · exact ⟨by omega, fun h => absurd (e1.symm.trans h) p6⟩
  · omega
  · exact (q2 q1).elim
  · omega
  · obtain rfl := o1.det o2
    obtain ⟨k1, k2⟩ := pRow.det hS r1 r2
    exact ⟨k1, fun h => ⟨(k2 h).1, by omega, (k2 h).2⟩⟩
theorem pTk.det (hS : ∀ a, 0 ≤ S a) {v : Int} : Det (pTk K S v) := by
  intro a f g b c h1 h2
  have p1 := fw_pos hS (k := 1) (a := a) (by decide)
  rcases h1 with ⟨q1, e1, n1⟩ | ⟨q1, e1⟩ <;> rcases h2 with ⟨q2, e2, n2⟩ | ⟨q2, e2⟩
  · exact ⟨by omega, fun _ => by omega⟩
  · exact (q2 q1).elim
  · exact (q1 q2).elim
  · exact ⟨by omega, fun h => absurd (e1.symm.trans h) p1⟩
theorem pSpan.det (hS : ∀ a, 0 ≤ S a) : Det (pSpan K V S) := by
  intro a f g b c h1 h2
  have p1 := fw_pos hS (k := 1) (a := a) (by decide)
  rcases h1 with ⟨q1, e1⟩ | ⟨q1, f1, a1, c1, r1, w1, h1⟩ <;> rcases h2 with ⟨q2, e2⟩ | ⟨q2, f2, a2, c2, r2, w2, h2⟩
  · exact ⟨by omega, fun h => absurd (e1.symm.trans h) p1⟩
  · exact (q1 q2).elim
  · exact (q2 q1).elim
  · obtain ⟨k1, k2⟩ := pRef.det hS w1 w2
    subst k1
    by_cases hf : f1 = 0
    · obtain ⟨rfl, rfl, rfl⟩ := k2 hf
      have p2 := fw_pos hS (k := 1) (a := a1) (by decide)
      rcases h1 with ⟨n1, _⟩ | ⟨_, n1, e1⟩ | ⟨_, n1, f3, a3, c3, r3, w3, h1⟩
      · exact (n1 hf).elim
      · rcases h2 with ⟨n2, _⟩ | ⟨_, n2, e2⟩ | ⟨_, n2, _⟩
        · exact (n2 hf).elim
        · exact ⟨by omega, fun h => absurd (e1.symm.trans h) p2⟩
        · exact (n1 n2).elim
      · rcases h2 with ⟨n2, _⟩ | ⟨_, n2, e2⟩ | ⟨_, n2, f4, a4, c4, r4, w4, h2⟩
        · exact (n2 hf).elim
        · exact (n2 n1).elim
        · obtain ⟨k1, k2⟩ := pRef.det hS w3 w4
          subst k1
          by_cases hg : f3 = 0
          · obtain ⟨rfl, -, -⟩ := k2 hg
            rcases h1 with ⟨m1, _⟩ | ⟨_, m1⟩
            · exact (m1 hg).elim
            · rcases h2 with ⟨m2, _⟩ | ⟨_, m2⟩
              · exact (m2 hg).elim
              · exact pTk.det hS _ _ _ _ _ m1 m2
          · rcases h1 with ⟨_, m1⟩ | ⟨m1, _⟩
            · rcases h2 with ⟨_, m2⟩ | ⟨m2, _⟩
              · exact ⟨by omega, fun h => absurd (m1.symm.trans h) hg⟩
              · exact (hg m2).elim
            · exact (hg m1).elim
    · rcases h1 with ⟨_, m1⟩ | ⟨m1, _⟩ | ⟨m1, _⟩
      · rcases h2 with ⟨_, m2⟩ | ⟨m2, _⟩ | ⟨m2, _⟩
        · exact ⟨by omega, fun h => absurd (m1.symm.trans h) hf⟩
        · exact (hf m2).elim
        · exact (hf m2).elim
      · exact (hf m1).elim
      · exact (hf m1).elim
theorem pCh.det {P : Nat → Int → Nat → Prop} {s : Nat → Prop} (hP : Det P) : Det (pCh P s) := by
  have key : ∀ n1 n2 a c1 c2 f g b c, qCh P s n1 a c1 → qCh P s n2 a c2 → ((¬ s c1 ∧ f = 0 ∧ b = c1) ∨ (s c1 ∧ f ≠ 0 ∧ P (c1 + 1) f b)) → ((¬ s c2 ∧ g = 0 ∧ c = c2) ∨ (s c2 ∧ g ≠ 0 ∧ P (c2 + 1) g c)) → f = g ∧ (f = 0 → b = c) := by
    intro n1
    induction n1 with
    | zero =>
      intro n2 a c1 c2 f g b c h1 h2 e1 e2
      cases n2 with
      | zero =>
        obtain ⟨-, k⟩ := hP _ _ _ _ _ h1 h2
        obtain rfl := k rfl
        rcases e1 with ⟨x1, y1, z1⟩ | ⟨x1, y1, z1⟩ <;> rcases e2 with ⟨x2, y2, z2⟩ | ⟨x2, y2, z2⟩
        · exact ⟨by omega, fun _ => by omega⟩
        · exact (x1 x2).elim
        · exact (x2 x1).elim
        · exact hP _ _ _ _ _ z1 z2
      | succ n2 =>
        obtain ⟨m, p1, p2, p3⟩ := h2
        obtain ⟨-, k⟩ := hP _ _ _ _ _ h1 p1
        obtain rfl := k rfl
        rcases e1 with ⟨x1, y1, z1⟩ | ⟨x1, y1, z1⟩
        · exact (x1 p2).elim
        · have : ∃ m2, P (c1 + 1) 0 m2 := by
            cases n2 with
            | zero => exact ⟨_, p3⟩
            | succ n2 => obtain ⟨m2, q1, -⟩ := p3; exact ⟨m2, q1⟩
          obtain ⟨m2, q⟩ := this
          exact absurd (hP _ _ _ _ _ z1 q).1 y1
    | succ n1 ih =>
      intro n2 a c1 c2 f g b c h1 h2 e1 e2
      obtain ⟨m, p1, p2, p3⟩ := h1
      cases n2 with
      | zero =>
        obtain ⟨-, k⟩ := hP _ _ _ _ _ p1 h2
        obtain rfl := k rfl
        rcases e2 with ⟨x1, y1, z1⟩ | ⟨x1, y1, z1⟩
        · exact (x1 p2).elim
        · have : ∃ m2, P (m + 1) 0 m2 := by
            cases n1 with
            | zero => exact ⟨_, p3⟩
            | succ n1 => obtain ⟨m2, q1, -⟩ := p3; exact ⟨m2, q1⟩
          obtain ⟨m2, q⟩ := this
          exact absurd (hP _ _ _ _ _ z1 q).1 y1
      | succ n2 =>
        obtain ⟨m', q1, q2, q3⟩ := h2
        obtain ⟨-, k⟩ := hP _ _ _ _ _ p1 q1
        obtain rfl := k rfl
        exact ih n2 _ _ _ _ _ _ _ p3 q3 e1 e2
  have first : ∀ n a c, qCh P s n a c → ∃ m, P a 0 m := by
    intro n a c h
    cases n with
    | zero => exact ⟨_, h⟩
    | succ n => obtain ⟨m, q1, -⟩ := h; exact ⟨m, q1⟩
  intro a f g b c h1 h2
  rcases h1 with ⟨n1, h1⟩ | ⟨n1, c1, h1, e1⟩ <;> rcases h2 with ⟨n2, h2⟩ | ⟨n2, c2, h2, e2⟩
  · exact hP _ _ _ _ _ h1 h2
  · obtain ⟨m, q⟩ := first _ _ _ h2
    exact absurd (hP _ _ _ _ _ h1 q).1 n1
  · obtain ⟨m, q⟩ := first _ _ _ h1
    exact absurd (hP _ _ _ _ _ h2 q).1 n2
  · exact key _ _ _ _ _ _ _ _ _ h1 h2 e1 e2
theorem pPart.det (hS : ∀ a, 0 ≤ S a) : ∀ d, Det (pPart K V S d)
  | 0 => by
    intro a f g b c h1 h2
    have p1 := fw_pos hS (k := 1) (a := a) (by decide)
    have p5 := fw_pos hS (k := 5) (a := a) (by decide)
    rcases h1 with ⟨q1, e1⟩ | ⟨q1, e1⟩ <;> rcases h2 with ⟨q2, e2⟩ | ⟨q2, e2⟩
    · exact ⟨by omega, fun h => absurd (e1.symm.trans h) p1⟩
    · exact (q1 q2).elim
    · exact (q2 q1).elim
    · exact ⟨by omega, fun h => absurd (e1.symm.trans h) p5⟩
  | d + 1 => by
    intro a f g b c h1 h2
    have p1 := fw_pos hS (k := 1) (a := a) (by decide)
    have ih := pPart.det hS d
    have s2 : K a = 110 → sPt K V a := fun h => Or.inl h
    have s26 : K a = 119 → V a = 26 → sPt K V a := fun h h' => Or.inr (Or.inr (Or.inl ⟨h, h'⟩))
    have s45 : sg K 45 a → sPt K V a := fun h => Or.inr (Or.inr (Or.inr (Or.inr (Or.inr h))))
    have s40 : sg K 40 a → sPt K V a := fun h => Or.inr (Or.inr (Or.inr (Or.inr (Or.inl h))))
    have sR : oCol K V a ∨ sg K 36 a → sPt K V a := fun h => h.elim (fun h => Or.inr (Or.inl h)) (fun h => Or.inr (Or.inr (Or.inr (Or.inl h))))
    rcases h1 with ⟨q1, e1⟩ | ⟨q1, e1, n1⟩ | ⟨q1, v1, w1⟩ | ⟨q1, w1⟩ | ⟨q1, f1, a1, w1, y1⟩ | ⟨q1, c1, r1, w1⟩
    · rcases h2 with ⟨q2, e2⟩ | ⟨q2, e2, n2⟩ | ⟨q2, v2, w2⟩ | ⟨q2, w2⟩ | ⟨q2, f2, a2, w2, y2⟩ | ⟨q2, c2, r2, w2⟩
      · exact ⟨by omega, fun h => absurd (e1.symm.trans h) p1⟩
      · exact (q1 (s2 q2)).elim
      · exact (q1 (s26 q2 v2)).elim
      · exact (q1 (s45 q2)).elim
      · exact (q1 (s40 q2)).elim
      · exact (q1 (sR q2)).elim
    all_goals try simp only [sg, oCol] at q1
    all_goals rcases h2 with ⟨q2, e2⟩ | ⟨q2, e2, n2⟩ | ⟨q2, v2, w2⟩ | ⟨q2, w2⟩ | ⟨q2, f2, a2, w2, y2⟩ | ⟨q2, c2, r2, w2⟩
    · exact (q2 (s2 q1)).elim
    · exact ⟨by omega, fun _ => by omega⟩
    · omega
    · simp only [sg] at q2; omega
    · simp only [sg] at q2; omega
    · simp only [sg, oCol] at q2; omega
    · exact (q2 (s26 q1 v1)).elim
    · omega
    · exact pSpan.det hS _ _ _ _ _ w1 w2
    · simp only [sg] at q2; omega
    · simp only [sg] at q2; omega
    · simp only [sg, oCol] at q2; omega
    · exact (q2 (s45 q1)).elim
    · omega
    · omega
    · exact ih _ _ _ _ _ w1 w2
    · simp only [sg] at q2; omega
    · simp only [sg, oCol] at q2; omega
    · exact (q2 (s40 q1)).elim
    · omega
    · omega
    · simp only [sg] at q2; omega
    · obtain ⟨k1, k2⟩ := pCh.det (pCh.det ih) _ _ _ _ _ w1 w2
      subst k1
      rcases y1 with ⟨m1, e1⟩ | ⟨m1, z1⟩ <;> rcases y2 with ⟨m2, e2⟩ | ⟨m2, z2⟩
      · exact ⟨by omega, fun h => by omega⟩
      · exact (m1 m2).elim
      · exact (m2 m1).elim
      · obtain rfl := k2 m1
        exact pTk.det hS _ _ _ _ _ z1 z2
    · simp only [sg, oCol] at q2; omega
    · exact (q2 (sR q1)).elim
    · omega
    · omega
    · simp only [sg] at q2; omega
    · simp only [sg] at q2; omega
    · obtain ⟨k1, k2⟩ := pRef.det hS w1 w2
      exact ⟨k1, fun h => (k2 h).1⟩
theorem pE.det (hS : ∀ a, 0 ≤ S a) (d : Nat) : Det (pE K V S d) := pCh.det (pCh.det (pPart.det hS d))
theorem pTop.det (hS : ∀ a, 0 ≤ S a) {f g : Int} (h1 : pTop K V S f) (h2 : pTop K V S g) : f = g := by
  obtain ⟨f1, a1, w1, e1⟩ := h1
  obtain ⟨f2, a2, w2, e2⟩ := h2
  obtain ⟨k1, k2⟩ := pE.det hS 8 _ _ _ _ _ w1 w2
  subst k1
  by_cases h : f1 = 0
  · obtain rfl := k2 h
    generalize fw S 1 a1 = w at *
    omega
  · omega
end DET
theorem qCh.snoc {P : Nat → Int → Nat → Prop} {s : Nat → Prop} : ∀ n a m c, qCh P s n a m → s m → P (m + 1) 0 c → qCh P s (n + 1) a c
  | 0, a, m, c, h1, h2, h3 => ⟨m, h1, h2, h3⟩
  | n + 1, a, m, c, h1, h2, h3 => by
    obtain ⟨q, g1, g2, g3⟩ := h1
    exact ⟨q, g1, g2, qCh.snoc n (q + 1) m c g3 h2 h3⟩
/-! the class's reader: its tokens are the tape's -/
def CK (B : Nat) (τ : Tp) (N : Nat) (ig : sI) : Prop := N ≤ 120 ∧ (ig (B + 1) 6).toInt = (N : Int) + 1 ∧ tK τ N = 0 ∧ ∀ q, q ≤ N → ((ig (B + 3) q).toInt = tK τ q ∧ (ig (B + 4) q).toInt = tV τ q ∧ (ig (B + 5) q).toInt = tS τ q) ∧ (0 ≤ tS τ q ∧ tS τ q ≤ 120) ∧ 0 ≤ tV τ q ∧ tV τ q ≤ 999999
def RZ (B : Nat) (τ : Tp) (N h a : Nat) (ig : sI) : Prop := CK B τ N ig ∧ (ig (B + 1) 2).toInt = (h : Int) ∧ h < 288 ∧ (ig (B + 1) 7).toInt = (a : Int) ∧ a ≤ N
def nRZ (c j : Nat) : Prop := (c ≠ 1 ∧ c ≠ 3 ∧ c ≠ 4 ∧ c ≠ 5) ∨ (c = 1 ∧ j ≠ 2 ∧ j ≠ 6 ∧ j ≠ 7)
/-- what a step leaves of the reader as it was -/
def RZk (B : Nat) (ig ig' : sI) : Prop := ∀ (τ : Tp) (N h a : Nat), RZ B τ N h a ig → RZ B τ N h a ig'
section RZZ
variable {B N h a i : Nat} {τ : Tp} {ig ig' ig2 : sI} {v z : Int32} {P Q : Int → Nat → Prop}
theorem RZ.nums (r : RZ B τ N h a ig) : (N ≤ 120 ∧ (ig (B + 1) 6).toInt = (N : Int) + 1) ∧ ((ig (B + 1) 2).toInt = (h : Int) ∧ h < 288) ∧ (ig (B + 1) 7).toInt = (a : Int) ∧ a ≤ N := ⟨⟨r.1.1, r.1.2.1⟩, ⟨r.2.1, r.2.2.1⟩, r.2.2.2⟩
theorem RZ.kE (r : RZ B τ N h a ig) (hi : i = a) : (ig (B + 3) i).toInt = tK τ a := by subst hi; exact (r.1.2.2.2 i r.2.2.2.2).1.1
theorem RZ.vE (r : RZ B τ N h a ig) (hi : i = a) : (ig (B + 4) i).toInt = tV τ a := by subst hi; exact (r.1.2.2.2 i r.2.2.2.2).1.2.1
theorem RZ.sE (r : RZ B τ N h a ig) (hi : i = a) : (ig (B + 5) i).toInt = tS τ a := by subst hi; exact (r.1.2.2.2 i r.2.2.2.2).1.2.2
theorem RZ.bd (r : RZ B τ N h a ig) : (0 ≤ tS τ a ∧ tS τ a ≤ 120) ∧ 0 ≤ tV τ a ∧ tV τ a ≤ 999999 := (r.1.2.2.2 a r.2.2.2.2).2
theorem RZ.lt (r : RZ B τ N h a ig) (hk : tK τ a ≠ 0) : a < N := by
  rcases Nat.lt_or_ge a N with q | q
  · exact q
  · have e : a = N := Nat.le_antisymm r.2.2.2.2 q
    exact absurd (e ▸ r.1.2.2.1) hk
theorem RZ.wr (r : RZ B τ N h a ig) {c j : Nat} (hn : nRZ c j) : RZ B τ N h a (up2 ig (B + c) j v) := by
  have e : ∀ b k, (b = B + 1 ∧ (k = 2 ∨ k = 6 ∨ k = 7)) ∨ b = B + 3 ∨ b = B + 4 ∨ b = B + 5 → up2 ig (B + c) j v b k = ig b k := fun b k hb => by
    unfold nRZ at hn
    simp only [up2]; rw [if_neg (by omega)]
  refine ⟨⟨r.1.1, by rw [e _ _ (Or.inl ⟨rfl, Or.inr (Or.inl rfl)⟩)]; exact r.1.2.1, r.1.2.2.1, fun q hq => ?_⟩, by rw [e _ _ (Or.inl ⟨rfl, Or.inl rfl⟩)]; exact r.2.1, r.2.2.1, by rw [e _ _ (Or.inl ⟨rfl, Or.inr (Or.inr rfl)⟩)]; exact r.2.2.2.1, r.2.2.2.2⟩
  rw [e _ _ (Or.inr (Or.inl rfl)), e _ _ (Or.inr (Or.inr (Or.inl rfl))), e _ _ (Or.inr (Or.inr (Or.inr rfl)))]
  exact r.1.2.2.2 q hq
theorem RZ.nx {a1 : Nat} (r : RZ B τ N h a ig) (hv : v.toInt = (a1 : Int)) (h1 : a1 ≤ N) : RZ B τ N h a1 (up2 ig (B + 1) 7 v) := by
  have e : ∀ b k, (b = B + 1 ∧ (k = 2 ∨ k = 6)) ∨ b = B + 3 ∨ b = B + 4 ∨ b = B + 5 → up2 ig (B + 1) 7 v b k = ig b k := fun b k hb => by
    simp only [up2]; rw [if_neg (by omega)]
  refine ⟨⟨r.1.1, by rw [e _ _ (Or.inl ⟨rfl, Or.inr rfl⟩)]; exact r.1.2.1, r.1.2.2.1, fun q hq => ?_⟩, by rw [e _ _ (Or.inl ⟨rfl, Or.inl rfl⟩)]; exact r.2.1, r.2.2.1, by rw [up2_eq]; exact hv, h1⟩
  rw [e _ _ (Or.inr (Or.inl rfl)), e _ _ (Or.inr (Or.inr (Or.inl rfl))), e _ _ (Or.inr (Or.inr (Or.inr rfl)))]
  exact r.1.2.2.2 q hq
theorem RZk.rf : RZk B ig ig := fun _ _ _ _ r => r
theorem RZk.wr (k : RZk B ig ig') {c j : Nat} (hn : nRZ c j) : RZk B ig (up2 ig' (B + c) j v) := fun τ N h a r => (k τ N h a r).wr hn
/-- a reading's answer: 1 behind what was read, or 0 and the fault -/
def RB (B : Nat) (τ : Tp) (N h : Nat) (ig' : sI) (P : Int → Nat → Prop) (z : Int32) : Prop := ∃ f a', P f a' ∧ ((f = 0 ∧ z.toInt = 1 ∧ RZ B τ N h a' ig') ∨ (f ≠ 0 ∧ z.toInt = 0 ∧ (ig' (B + 1) 8).toInt = f))
theorem RB.bz (q : RB B τ N h ig P z) : z.toInt = 0 ∨ z.toInt = 1 := by
  obtain ⟨f, a', -, ⟨-, e, -⟩ | ⟨-, e, -⟩⟩ := q
  · exact Or.inr e
  · exact Or.inl e
theorem RB.yes (q : RB B τ N h ig P z) (hz : z.toInt ≠ 0) : ∃ a', P 0 a' ∧ RZ B τ N h a' ig := by
  obtain ⟨f, a', p, ⟨e, -, r⟩ | ⟨-, e, -⟩⟩ := q
  · subst e; exact ⟨a', p, r⟩
  · exact (hz e).elim
theorem RB.no (q : RB B τ N h ig P z) (hz : z.toInt = 0) : ∃ f a', f ≠ 0 ∧ P f a' ∧ (ig (B + 1) 8).toInt = f := by
  obtain ⟨f, a', p, ⟨-, e, -⟩ | ⟨e, -, r⟩⟩ := q
  · rw [e] at hz; cases hz
  · exact ⟨f, a', e, p, r⟩
theorem RB.mk {a' : Nat} (p : P 0 a') (r : RZ B τ N h a' ig) (hz : z.toInt = 1) : RB B τ N h ig P z := ⟨0, a', p, Or.inl ⟨rfl, hz, r⟩⟩
theorem RB.mkf {f : Int} {a' : Nat} (p : P f a') (hf : f ≠ 0) (h8 : (ig (B + 1) 8).toInt = f) (hz : z.toInt = 0) : RB B τ N h ig P z := ⟨f, a', p, Or.inr ⟨hf, hz, h8⟩⟩
theorem RB.to (q : RB B τ N h ig P z) (hPQ : ∀ f a, P f a → Q f a) : RB B τ N h ig Q z := by
  obtain ⟨f, a', p, o⟩ := q
  exact ⟨f, a', hPQ f a' p, o⟩
theorem RZ.fw_ne (r : RZ B τ N h a ig) {k : Int} (hk : 0 < k) : fw (tS τ) k a ≠ 0 := by have := r.bd; unfold fw; omega
/-- a reference as a formula keeps it -/
def colv (z h : Int) : Int := if 8192 ≤ z then z / 128 % 64 else z / 128 % 64 - 32 + h % 12
def rowv (z h : Int) : Int := if z / 64 % 2 = 1 then z % 64 else z % 64 - 32 + h / 12
theorem pk_ok {z x w p q : Int} {cf rf : Int} (hx : 0 ≤ x ∧ x < 288) (hw : 0 ≤ w ∧ w < 288) (hp : (cf = 1 ∧ p = 8192 + 128 * (x % 12)) ∨ (cf = 0 ∧ p = 128 * (x % 12 - w % 12 + 32))) (hq : (rf = 1 ∧ q = 64 + x / 12) ∨ (rf = 0 ∧ q = x / 12 - w / 12 + 32)) (hz : z = p + q) : 0 ≤ z ∧ colv z w = x % 12 ∧ rowv z w = x / 12 := by
  have b1 : 0 ≤ x % 12 ∧ x % 12 < 12 := by omega
  have b2 : 0 ≤ w % 12 ∧ w % 12 < 12 := by omega
  have b3 : 0 ≤ x / 12 ∧ x / 12 < 24 := by omega
  have b4 : 0 ≤ w / 12 ∧ w / 12 < 24 := by omega
  unfold colv rowv
  generalize x % 12 = xc at *
  generalize x / 12 = xr at *
  generalize w % 12 = wc at *
  generalize w / 12 = wr at *
  obtain ⟨A, hA, hA2⟩ : ∃ A : Int, p = 128 * A ∧ ((cf = 1 ∧ A = 64 + xc) ∨ (cf = 0 ∧ A = xc - wc + 32)) := by
    rcases hp with ⟨h1, h2⟩ | ⟨h1, h2⟩
    · exact ⟨64 + xc, by omega, Or.inl ⟨h1, rfl⟩⟩
    · exact ⟨xc - wc + 32, by omega, Or.inr ⟨h1, rfl⟩⟩
  have hq0 : 0 ≤ q ∧ q < 128 := by omega
  have e1 : z / 128 = A := by omega
  have e2 : z % 64 = q % 64 := by omega
  have e3 : z / 64 = 2 * A + q / 64 := by omega
  refine ⟨by omega, ?_, ?_⟩
  · rw [e1]
    rcases hA2 with ⟨-, e⟩ | ⟨-, e⟩
    · rw [if_pos (by omega)]; omega
    · rw [if_neg (by omega)]; omega
  · rw [e2, e3]
    rcases hq with ⟨-, e⟩ | ⟨-, e⟩
    · rw [if_pos (by omega)]; omega
    · rw [if_neg (by omega)]; omega
/-- what reference() answers -/
def RF (B : Nat) (τ : Tp) (N h : Nat) (ig' : sI) (lc lr : Int) (a : Nat) (z : Int32) : Prop := ∃ f a' c r, pRef (tK τ) (tV τ) (tS τ) lc lr a f a' c r ∧ ((f = 0 ∧ (0 ≤ z.toInt ∧ colv z.toInt (h : Int) = c ∧ rowv z.toInt (h : Int) = r) ∧ (0 ≤ c ∧ c < 12 ∧ 0 ≤ r ∧ r < 24) ∧ RZ B τ N h a' ig') ∨ (f ≠ 0 ∧ z.toInt = -1 ∧ (ig' (B + 1) 8).toInt = f))
theorem RF.yes {lc lr : Int} (q : RF B τ N h ig lc lr a z) (hz : z.toInt ≠ -1) : ∃ a' c r, pRef (tK τ) (tV τ) (tS τ) lc lr a 0 a' c r ∧ (0 ≤ z.toInt ∧ colv z.toInt (h : Int) = c ∧ rowv z.toInt (h : Int) = r) ∧ (0 ≤ c ∧ c < 12 ∧ 0 ≤ r ∧ r < 24) ∧ RZ B τ N h a' ig := by
  obtain ⟨f, a', c, r, p, ⟨e, e2, e3, e4⟩ | ⟨-, e, -⟩⟩ := q
  · subst e; exact ⟨a', c, r, p, e2, e3, e4⟩
  · exact (hz e).elim
theorem RF.no {lc lr : Int} (q : RF B τ N h ig lc lr a z) (hz : z.toInt = -1) : ∃ f a' c r, f ≠ 0 ∧ pRef (tK τ) (tV τ) (tS τ) lc lr a f a' c r ∧ (ig (B + 1) 8).toInt = f := by
  obtain ⟨f, a', c, r, p, ⟨-, ⟨e, -⟩, -⟩ | ⟨e, -, e2⟩⟩ := q
  · omega
  · exact ⟨f, a', c, r, e, p, e2⟩
end RZZ
/-! a reading goes on -/
def Pos (P : Nat → Int → Nat → Prop) : Prop := ∀ a c, P a 0 c → a < c
theorem dol.le {K : Nat → Int} {a a1 : Nat} (h : dol K a a1) : a ≤ a1 := by rcases h with ⟨-, e⟩ | ⟨-, e⟩ <;> omega
theorem pRef.lt {τ : Tp} {lc lr : Int} {a a' : Nat} {c r : Int} (hS : ∀ k q, 0 < k → fw (tS τ) k q ≠ 0) (h : pRef (tK τ) (tV τ) (tS τ) lc lr a 0 a' c r) : a < a' := by
  obtain ⟨a1, d1, ⟨-, e⟩ | ⟨-, -, e⟩ | ⟨-, -, -, a2, d2, q⟩⟩ := h
  · exact absurd e.symm (hS 1 a1 (by decide))
  · exact absurd e.symm (hS 6 a1 (by decide))
  · have := d1.le
    have := d2.le
    rcases q with ⟨-, e⟩ | ⟨-, -, e⟩ | ⟨-, -, -, -, e⟩ | ⟨-, -, -, -, -, e, -⟩
    · exact absurd e.symm (hS 1 a2 (by decide))
    · exact absurd e.symm (hS 4 a2 (by decide))
    · exact absurd e.symm (hS 7 a2 (by decide))
    · omega
theorem pTk.lt {τ : Tp} {v : Int} {a a' : Nat} (hS : ∀ k q, 0 < k → fw (tS τ) k q ≠ 0) (h : pTk (tK τ) (tS τ) v a 0 a') : a < a' := by
  rcases h with ⟨-, -, e⟩ | ⟨-, e⟩
  · omega
  · exact absurd e.symm (hS 1 a (by decide))
theorem pCh.lt {P : Nat → Int → Nat → Prop} {s : Nat → Prop} (hP : Pos P) : Pos (pCh P s) := by
  have key : ∀ n a c, qCh P s n a c → a < c := by
    intro n
    induction n with
    | zero => intro a c h; exact hP a c h
    | succ n ih =>
      intro a c h
      obtain ⟨m, h1, -, h3⟩ := h
      have := hP a m h1
      have := ih _ _ h3
      omega
  intro a c h
  rcases h with ⟨h, -⟩ | ⟨n, m, h1, ⟨-, -, e⟩ | ⟨-, h, -⟩⟩
  · exact (h rfl).elim
  · have := key n a m h1; omega
  · exact (h rfl).elim
theorem fw_ne {τ : Tp} : ∀ (k : Int) (q : Nat), 0 < k → fw (tS τ) k q ≠ 0 := fun k q hk => by unfold fw tS; omega
theorem pPart.lt {τ : Tp} : ∀ d, Pos (pPart (tK τ) (tV τ) (tS τ) d)
  | 0 => by
    intro a c h
    rcases h with ⟨-, e⟩ | ⟨-, e⟩
    · exact absurd e.symm (fw_ne 1 a (by decide))
    · exact absurd e.symm (fw_ne 5 a (by decide))
  | d + 1 => by
    intro a c h
    rcases h with ⟨-, e⟩ | ⟨-, -, e⟩ | ⟨-, -, e⟩ | ⟨-, e⟩ | ⟨-, f1, a1, e1, e2⟩ | ⟨-, c1, r1, e⟩
    · exact absurd e.symm (fw_ne 1 a (by decide))
    · omega
    · rcases e with ⟨-, e⟩ | ⟨-, f1, a1, c1, r1, w1, h1⟩
      · exact absurd e.symm (fw_ne 1 _ (by decide))
      · rcases h1 with ⟨n1, e⟩ | ⟨-, -, e⟩ | ⟨e0, -, f2, a2, c2, r2, w2, h2⟩
        · omega
        · exact absurd e.symm (fw_ne 1 _ (by decide))
        · subst e0
          have k1 := pRef.lt fw_ne w1
          rcases h2 with ⟨n2, e⟩ | ⟨e0, h2⟩
          · omega
          · subst e0
            have k2 := pRef.lt fw_ne w2
            have k3 := pTk.lt fw_ne h2
            omega
    · have := pPart.lt d _ _ e; omega
    · rcases e2 with ⟨n1, e⟩ | ⟨e0, e⟩
      · omega
      · subst e0
        have k1 := pCh.lt (pCh.lt (pPart.lt d)) _ _ e1
        have k2 := pTk.lt fw_ne e
        omega
    · exact pRef.lt fw_ne e
theorem pProd.lt {τ : Tp} (d : Nat) : Pos (pProd (tK τ) (tV τ) (tS τ) d) := pCh.lt (pPart.lt d)
section SPECS
variable {K V S : Nat → Int} {lc lr c r f z : Int} {a a1 a2 a' d : Nat}
theorem pRef.cF (dl : dol K a a1) (hz : (z = 1 ∧ ¬ (K a1 = 119 ∧ V a1 < 12)) ∨ (z = 6 ∧ (K a1 = 119 ∧ V a1 < 12) ∧ V a1 < lc)) : pRef K V S lc lr a (fw S z a1) a' c r := by
  refine ⟨a1, dl, ?_⟩
  rcases hz with ⟨rfl, h⟩ | ⟨rfl, h, h2⟩
  · exact Or.inl ⟨h, rfl⟩
  · exact Or.inr (Or.inl ⟨h, h2, rfl⟩)
theorem pRef.rF (dl : dol K a a1) (ho : K a1 = 119 ∧ V a1 < 12) (hl : lc ≤ V a1) (d2 : dol K (a1 + 1) a2) (hz : (z = 1 ∧ K a2 ≠ 110) ∨ (z = 4 ∧ K a2 = 110 ∧ (V a2 < 1 ∨ 24 < V a2)) ∨ (z = 7 ∧ K a2 = 110 ∧ (1 ≤ V a2 ∧ V a2 ≤ 24) ∧ V a2 - 1 < lr)) : pRef K V S lc lr a (fw S z a2) a' (V a1) r := by
  refine ⟨a1, dl, Or.inr (Or.inr ⟨ho, hl, rfl, a2, d2, ?_⟩)⟩
  rcases hz with ⟨rfl, h⟩ | ⟨rfl, h, h2⟩ | ⟨rfl, h, ⟨h1, h2⟩, h3⟩
  · exact Or.inl ⟨h, rfl⟩
  · exact Or.inr (Or.inl ⟨h, h2, rfl⟩)
  · exact Or.inr (Or.inr (Or.inl ⟨h, h1, h2, h3, rfl⟩))
theorem pRef.ok (dl : dol K a a1) (ho : K a1 = 119 ∧ V a1 < 12) (hl : lc ≤ V a1) (d2 : dol K (a1 + 1) a2) (h : K a2 = 110 ∧ (1 ≤ V a2 ∧ V a2 ≤ 24) ∧ lr ≤ V a2 - 1) : pRef K V S lc lr a 0 (a2 + 1) (V a1) (V a2 - 1) :=
  ⟨a1, dl, Or.inr (Or.inr ⟨ho, hl, rfl, a2, d2, Or.inr (Or.inr (Or.inr ⟨h.1, h.2.1.1, h.2.1.2, h.2.2, rfl, rfl, rfl⟩))⟩)⟩
theorem pTk.yes {v : Int} (hS : ∀ k q, 0 < k → fw S k q ≠ 0) (p : pTk K S v a 0 a') : sg K v a ∧ a' = a + 1 := by
  rcases p with ⟨h, -, e⟩ | ⟨-, e⟩
  · exact ⟨h, e⟩
  · exact absurd e.symm (hS 1 a (by decide))
theorem pTk.no {v : Int} (p : pTk K S v a f a') (hf : f ≠ 0) : ¬ sg K v a ∧ f = fw S 1 a := by
  rcases p with ⟨-, e, -⟩ | ⟨h, e⟩
  · exact (hf e).elim
  · exact ⟨h, e⟩
theorem pPart.no (h : ¬ sPt K V a) : pPart K V S d a (fw S 1 a) a' := by
  cases d with
  | zero => exact Or.inl ⟨h, rfl⟩
  | succ d => exact Or.inl ⟨h, rfl⟩
theorem pPart.num (h : K a = 110) : pPart K V S (d + 1) a 0 (a + 1) := Or.inr (Or.inl ⟨h, rfl, rfl⟩)
theorem pPart.sp (h : K a = 119 ∧ V a = 26) (p : pSpan K V S (a + 1) f a') : pPart K V S (d + 1) a f a' := Or.inr (Or.inr (Or.inl ⟨h.1, h.2, p⟩))
theorem pPart.ng (h : K a = 45) (p : pPart K V S d (a + 1) f a') : pPart K V S (d + 1) a f a' := Or.inr (Or.inr (Or.inr (Or.inl ⟨h, p⟩)))
theorem pPart.br (h : K a = 40) (p : ∃ f1 a1, pE K V S d (a + 1) f1 a1 ∧ ((f1 ≠ 0 ∧ f = f1) ∨ (f1 = 0 ∧ pTk K S 41 a1 f a'))) : pPart K V S (d + 1) a f a' := Or.inr (Or.inr (Or.inr (Or.inr (Or.inl ⟨h, p⟩))))
theorem pPart.rf (h : (K a = 119 ∧ V a < 12) ∨ K a = 36) (p : ∃ c r, pRef K V S 0 0 a f a' c r) : pPart K V S (d + 1) a f a' := Or.inr (Or.inr (Or.inr (Or.inr (Or.inr ⟨h, p⟩))))
end SPECS
/-! cutting the tape into tokens -/
def Rn (p : Int → Bool) (τ : Tp) (i e : Nat) : Prop := i ≤ e ∧ ∀ j, i ≤ j → j < e → p (ch τ j) = true
theorem cL_t {c : Int} (h : 97 ≤ c ∧ c ≤ 122) : cL c = true := by unfold cL; simp [h.1, h.2]
theorem cL_f {c : Int} (h : ¬ (97 ≤ c ∧ c ≤ 122)) : cL c = false := by
  unfold cL
  rw [Bool.and_eq_false_iff, decide_eq_false_iff_not, decide_eq_false_iff_not]
  omega
theorem cL_i {c : Int} (h : cL c = true) : 97 ≤ c ∧ c ≤ 122 := by unfold cL at h; simpa using h
theorem cL_n {c : Int} (h : cL c = false) : ¬ (97 ≤ c ∧ c ≤ 122) := fun h2 => by rw [cL_t h2] at h; cases h
theorem cD_t {c : Int} (h : 48 ≤ c ∧ c ≤ 57) : cD c = true := by unfold cD; simp [h.1, h.2]
theorem cD_f {c : Int} (h : ¬ (48 ≤ c ∧ c ≤ 57)) : cD c = false := by
  unfold cD
  rw [Bool.and_eq_false_iff, decide_eq_false_iff_not, decide_eq_false_iff_not]
  omega
theorem cD_i {c : Int} (h : cD c = true) : 48 ≤ c ∧ c ≤ 57 := by unfold cD at h; simpa using h
theorem cD_n {c : Int} (h : cD c = false) : ¬ (48 ≤ c ∧ c ≤ 57) := fun h2 => by rw [cD_t h2] at h; cases h
theorem cS_t {c : Int} (h : c = 40 ∨ c = 41 ∨ c = 43 ∨ c = 45 ∨ c = 42 ∨ c = 47 ∨ c = 58 ∨ c = 36) : cS c = true := by
  rcases h with rfl | rfl | rfl | rfl | rfl | rfl | rfl | rfl <;> rfl
theorem cS_f {c : Int} (h : ¬ (c = 40 ∨ c = 41 ∨ c = 43 ∨ c = 45 ∨ c = 42 ∨ c = 47 ∨ c = 58 ∨ c = 36)) : cS c = false := by
  unfold cS
  simp only [Bool.or_eq_false_iff, decide_eq_false_iff_not]
  omega
theorem cS_i {c : Int} (h : cS c = true) : c = 40 ∨ c = 41 ∨ c = 43 ∨ c = 45 ∨ c = 42 ∨ c = 47 ∨ c = 58 ∨ c = 36 := by
  by_cases q : c = 40 ∨ c = 41 ∨ c = 43 ∨ c = 45 ∨ c = 42 ∨ c = 47 ∨ c = 58 ∨ c = 36
  · exact q
  · rw [cS_f q] at h; cases h
section LEX
variable {τ : Tp} {p : Int → Bool} {i e k : Nat}
theorem Rn.z : Rn p τ i i := ⟨Nat.le_refl i, fun j a b => by omega⟩
theorem Rn.s (h : Rn p τ i e) (hp : p (ch τ e) = true) : Rn p τ i (e + 1) := ⟨by have := h.1; omega, fun j a b => by
  by_cases q : j = e
  · subst q; exact hp
  · exact h.2 j a (by omega)⟩
theorem Rn.fin (h : Rn p τ i e) (hp : p (ch τ e) = false) (hb : e ≤ 150) : rE p τ 200 i = e := rE_eq 200 i e h.1 (by omega) h.2 hp
theorem rn_ex (hp0 : p 0 = false) : ∀ n i, i ≤ τ.length → τ.length - i ≤ n → ∃ e, e ≤ τ.length ∧ Rn p τ i e ∧ p (ch τ e) = false := by
  intro n
  induction n with
  | zero =>
    intro i h1 h2
    exact ⟨i, h1, Rn.z, by rw [ch_out (by omega)]; exact hp0⟩
  | succ n ih =>
    intro i h1 h2
    by_cases q : p (ch τ i) = true
    · by_cases hl : i < τ.length
      · obtain ⟨e, a, b, c⟩ := ih (i + 1) (by omega) (by omega)
        refine ⟨e, a, ⟨by have := b.1; omega, fun j x y => ?_⟩, c⟩
        by_cases r : j = i
        · subst r; exact q
        · exact b.2 j (by omega) y
      · rw [ch_out (by omega), hp0] at q; cases q
    · exact ⟨i, h1, Rn.z, by simpa using q⟩
theorem rE_spec (hl : τ.length ≤ 120) (hp0 : p 0 = false) (hi : i ≤ τ.length) : Rn p τ i (rE p τ 200 i) ∧ p (ch τ (rE p τ 200 i)) = false ∧ rE p τ 200 i ≤ τ.length := by
  obtain ⟨e, a, b, c⟩ := rn_ex (τ := τ) hp0 _ i hi (Nat.le_refl _)
  rw [b.fin c (by omega)]
  exact ⟨b, c, a⟩
theorem eL_spec (hl : τ.length ≤ 120) (hi : i ≤ τ.length) : Rn cL τ i (eL τ i) ∧ cL (ch τ (eL τ i)) = false ∧ eL τ i ≤ τ.length := rE_spec hl rfl hi
theorem eD_spec (hl : τ.length ≤ 120) (hi : i ≤ τ.length) : Rn cD τ i (eD τ i) ∧ cD (ch τ (eD τ i)) = false ∧ eD τ i ≤ τ.length := rE_spec hl rfl hi
theorem sk_spec (hl : τ.length ≤ 120) (hi : i ≤ τ.length) : Rn cB τ i (sk τ i) ∧ cB (ch τ (sk τ i)) = false ∧ sk τ i ≤ τ.length := rE_spec hl rfl hi
theorem in_len (h : ch τ i ≠ 0) : i < τ.length := by
  rcases Nat.lt_or_ge i τ.length with q | q
  · exact q
  · exact (h (ch_out q)).elim
theorem sk_blank (hl : τ.length ≤ 120) (hb : ch τ i = 32) : sk τ i = sk τ (i + 1) := by
  have hi : i < τ.length := in_len (by omega)
  obtain ⟨a, b, c⟩ := sk_spec (i := i + 1) hl (by omega)
  have h : Rn cB τ i (sk τ (i + 1)) := ⟨by have := a.1; omega, fun j x y => by
    by_cases r : j = i
    · subst r; unfold cB; simp [hb]
    · exact a.2 j (by omega) y⟩
  exact h.fin b (by omega)
theorem sk_stop (hb : ch τ i ≠ 32) : sk τ i = i := by
  unfold sk rE
  rw [if_neg (by unfold cB; simp [hb])]
theorem sk_end : sk τ τ.length = τ.length := sk_stop (by rw [ch_out (Nat.le_refl _)]; decide)
theorem tE_gt (hl : τ.length ≤ 120) (hi : i < τ.length) : i < tE τ i ∧ tE τ i ≤ τ.length := by
  unfold tE
  split
  · rename_i h
    obtain ⟨a, b, c⟩ := eL_spec (i := i) hl (by omega)
    refine ⟨?_, c⟩
    rcases Nat.lt_or_ge i (eL τ i) with q | q
    · exact q
    · have e : eL τ i = i := by have := a.1; omega
      rw [e, h] at b; cases b
  · split
    · rename_i h
      obtain ⟨a, b, c⟩ := eD_spec (i := i) hl (by omega)
      refine ⟨?_, c⟩
      rcases Nat.lt_or_ge i (eD τ i) with q | q
      · exact q
      · have e : eD τ i = i := by have := a.1; omega
        rw [e, h] at b; cases b
    · omega
/-- the amounts are small -/
theorem dv_bd (hl : τ.length ≤ 120) (hi : i ≤ τ.length) : ∀ n, i + n ≤ eD τ i → 0 ≤ dv τ i n ∧ dv τ i n < 10 ^ n
  | 0, _ => by unfold dv; decide
  | n + 1, h => by
    obtain ⟨b0, b1⟩ := dv_bd hl hi n (by omega)
    have hd := cD_i ((eD_spec (i := i) hl hi).1.2 (i + n) (by omega) (by omega))
    unfold dv
    rw [Int.pow_succ]
    omega
theorem vAt_bd (hl : τ.length ≤ 120) (hi : i ≤ τ.length) : 0 ≤ vAt τ i ∧ vAt τ i ≤ 999999 := by
  unfold vAt
  split
  · rename_i h
    have hL : cL (ch τ i) = true := by
      unfold kAt at h
      by_cases q : cL (ch τ i) = true
      · exact q
      · rw [if_neg q] at h
        split at h
        · cases h
        · split at h
          · split at h <;> cases h
          · split at h
            · rename_i h2; have := cS_i h2; omega
            · cases h
    have := cL_i hL
    unfold wV
    split
    · omega
    · split <;> decide
  · split
    · rename_i h
      have hD : eD τ i ≤ i + 6 ∧ cD (ch τ i) = true := by
        unfold kAt at h
        split at h
        · cases h
        · split at h
          · split at h <;> cases h
          · split at h
            · split at h
              · rename_i h2 h3; exact ⟨h3, h2⟩
              · cases h
            · split at h
              · rename_i h2; have := cS_i h2; omega
              · cases h
      obtain ⟨a, b, c⟩ := eD_spec (i := i) hl hi
      have a1 := a.1
      obtain ⟨b0, b1⟩ := dv_bd hl hi (eD τ i - i) (by omega)
      refine ⟨b0, ?_⟩
      have : (10 : Int) ^ (eD τ i - i) ≤ 1000000 := by
        have hk : eD τ i - i ≤ 6 := by omega
        generalize eD τ i - i = k at hk
        have hh : ∀ k : Nat, k ≤ 6 → (10 : Int) ^ k ≤ 1000000 := by decide
        exact hh k hk
      omega
    · decide
end LEX
/-- the tokens that have been cut so far -/
def CT (B : Nat) (τ : Tp) (i k : Nat) (ig : sI) : Prop := (ig (B + 1) 6).toInt = (k : Int) ∧ k ≤ i ∧ i ≤ τ.length ∧ sk τ i = pos τ k ∧ ∀ q, q < k → ((ig (B + 3) q).toInt = tK τ q ∧ (ig (B + 4) q).toInt = tV τ q ∧ (ig (B + 5) q).toInt = tS τ q) ∧ pos τ q < τ.length
section CTS
variable {B i k : Nat} {τ : Tp} {ig ig' : sI} {v : Int32}
theorem CT.le (h : CT B τ i k ig) : k ≤ i ∧ i ≤ τ.length ∧ (ig (B + 1) 6).toInt = (k : Int) := ⟨h.2.1, h.2.2.1, h.1⟩
theorem CT.bl (h : CT B τ i k ig) (hl : τ.length ≤ 120) (hb : ch τ i = 32) : CT B τ (i + 1) k ig := by
  have hi : i < τ.length := in_len (by omega)
  exact ⟨h.1, by have := h.2.1; omega, by omega, (sk_blank hl hb).symm.trans h.2.2.2.1, h.2.2.2.2⟩
theorem CT.at (h : CT B τ i k ig) (hb : ch τ i ≠ 32) : pos τ k = i := h.2.2.2.1.symm.trans (sk_stop hb)
/-- what addToken() leaves -/
def AT (B k : Nat) (x y w : Int) (ig ig' : sI) : Prop := (ig' (B + 1) 6).toInt = (k : Int) + 1 ∧ ((ig' (B + 3) k).toInt = x ∧ (ig' (B + 4) k).toInt = w ∧ (ig' (B + 5) k).toInt = y) ∧ (∀ q, q < k → ig' (B + 3) q = ig (B + 3) q ∧ ig' (B + 4) q = ig (B + 4) q ∧ ig' (B + 5) q = ig (B + 5) q) ∧ (ig' (B + 1) 2).toInt = (ig (B + 1) 2).toInt
theorem CT.add (h : CT B τ i k ig) (hl : τ.length ≤ 120) (hi : i < τ.length) (hb : ch τ i ≠ 32) (ha : AT B k (kAt τ i) (i : Int) (vAt τ i) ig ig') : CT B τ (tE τ i) (k + 1) ig' := by
  have hp := h.at hb
  obtain ⟨g1, g2⟩ := tE_gt hl hi
  obtain ⟨a1, a2, a3, -⟩ := ha
  refine ⟨by rw [a1]; omega, by have := h.2.1; omega, g2, by show _ = sk τ (tE τ (pos τ k)); rw [hp], fun q hq => ?_⟩
  by_cases e : q = k
  · subst e
    unfold tK tV tS
    rw [hp]
    exact ⟨a2, hi⟩
  · obtain ⟨b1, b2, b3⟩ := a3 q (by omega)
    rw [b1, b2, b3]
    exact h.2.2.2.2 q (by omega)
theorem CT.fin (h : CT B τ i k ig) (hl : τ.length ≤ 120) (hi : i = τ.length) (ha : AT B k 0 (i : Int) 0 ig ig') : CK B τ k ig' := by
  subst hi
  have hp : pos τ k = τ.length := h.2.2.2.1.symm.trans sk_end
  have k0 : kAt τ τ.length = 0 := by unfold kAt; rw [if_pos (Nat.le_refl _)]
  have v0 : vAt τ τ.length = 0 := by unfold vAt; rw [k0]; rfl
  obtain ⟨a1, a2, a3, -⟩ := ha
  have hk := h.2.1
  refine ⟨by omega, by rw [a1], by unfold tK; rw [hp, k0], fun q hq => ?_⟩
  by_cases e : q = k
  · subst e
    unfold tK tV tS
    rw [hp, k0, v0]
    exact ⟨a2, by omega, by decide⟩
  · obtain ⟨b1, b2, b3⟩ := a3 q (by omega)
    rw [b1, b2, b3]
    obtain ⟨c1, c2⟩ := h.2.2.2.2 q (by omega)
    refine ⟨c1, ?_, ?_⟩
    · unfold tS; omega
    · unfold tV; exact vAt_bd hl (by omega)
end CTS
section LEX2
variable {τ : Tp} {i e : Nat}
theorem rn1 {p : Int → Bool} (h : p (ch τ i) = true) (he : e = i + 1) : Rn p τ i e := by subst he; exact Rn.z.s h
theorem tE_eL (h : cL (ch τ i) = true) : tE τ i = eL τ i := by unfold tE; rw [if_pos h]
theorem tE_eD (h : cL (ch τ i) = false) (h2 : cD (ch τ i) = true) : tE τ i = eD τ i := by unfold tE; rw [if_neg (by rw [h]; decide), if_pos h2]
theorem tE_L (h : cL (ch τ i) = true) (hr : Rn cL τ i e) (hp : cL (ch τ e) = false) (hb : e ≤ 150) : tE τ i = e := (tE_eL h).trans (hr.fin hp hb)
theorem tE_D (h : cL (ch τ i) = false) (h2 : cD (ch τ i) = true) (hr : Rn cD τ i e) (hp : cD (ch τ e) = false) (hb : e ≤ 150) : tE τ i = e := (tE_eD h h2).trans (hr.fin hp hb)
theorem tE_N (h : cL (ch τ i) = false) (h2 : cD (ch τ i) = false) : tE τ i = i + 1 := by unfold tE; rw [if_neg (by rw [h]; decide), if_neg (by rw [h2]; decide)]
theorem tE_b (h : ch τ i = 32) : tE τ i = i + 1 := tE_N (cL_f (by omega)) (cD_f (by omega))
theorem kAt_w (hi : i < τ.length) (h : cL (ch τ i) = true) (h3 : tE τ i ≤ i + 3) : kAt τ i = 119 := by
  rw [tE_eL h] at h3
  unfold kAt; rw [if_neg (by omega), if_pos h, if_pos h3]
theorem kAt_wb (hi : i < τ.length) (h : cL (ch τ i) = true) (h3 : ¬ tE τ i ≤ i + 3) : kAt τ i = 63 := by
  rw [tE_eL h] at h3
  unfold kAt; rw [if_neg (by omega), if_pos h, if_neg h3]
theorem kAt_n (hi : i < τ.length) (h : cL (ch τ i) = false) (h2 : cD (ch τ i) = true) (h3 : tE τ i ≤ i + 6) : kAt τ i = 110 := by
  rw [tE_eD h h2] at h3
  unfold kAt; rw [if_neg (by omega), if_neg (by rw [h]; decide), if_pos h2, if_pos h3]
theorem kAt_nb (hi : i < τ.length) (h : cL (ch τ i) = false) (h2 : cD (ch τ i) = true) (h3 : ¬ tE τ i ≤ i + 6) : kAt τ i = 63 := by
  rw [tE_eD h h2] at h3
  unfold kAt; rw [if_neg (by omega), if_neg (by rw [h]; decide), if_pos h2, if_neg h3]
theorem kAt_s (hi : i < τ.length) (h : cL (ch τ i) = false) (h2 : cD (ch τ i) = false) (h3 : cS (ch τ i) = true) : kAt τ i = ch τ i := by
  unfold kAt; rw [if_neg (by omega), if_neg (by rw [h]; decide), if_neg (by rw [h2]; decide), if_pos h3]
theorem kAt_o (hi : i < τ.length) (h : cL (ch τ i) = false) (h2 : cD (ch τ i) = false) (h3 : cS (ch τ i) = false) : kAt τ i = 63 := by
  unfold kAt; rw [if_neg (by omega), if_neg (by rw [h]; decide), if_neg (by rw [h2]; decide), if_neg (by rw [h3]; decide)]
/-- what a code tells of the text -/
theorem kAt_119 (h : kAt τ i = 119) : i < τ.length ∧ cL (ch τ i) = true ∧ tE τ i ≤ i + 3 := by
  rcases Nat.lt_or_ge i τ.length with hi | hi
  · by_cases hL : cL (ch τ i) = true
    · refine ⟨hi, hL, ?_⟩
      by_cases h3 : tE τ i ≤ i + 3
      · exact h3
      · rw [kAt_wb hi hL h3] at h; cases h
    · have hL : cL (ch τ i) = false := by simpa using hL
      exfalso
      by_cases hD : cD (ch τ i) = true
      · by_cases h3 : tE τ i ≤ i + 6
        · rw [kAt_n hi hL hD h3] at h; cases h
        · rw [kAt_nb hi hL hD h3] at h; cases h
      · have hD : cD (ch τ i) = false := by simpa using hD
        by_cases hS : cS (ch τ i) = true
        · rw [kAt_s hi hL hD hS] at h; have := cS_i hS; omega
        · rw [kAt_o hi hL hD (by simpa using hS)] at h; cases h
  · unfold kAt at h; rw [if_pos hi] at h; cases h
theorem kAt_110 (h : kAt τ i = 110) : i < τ.length ∧ cL (ch τ i) = false ∧ cD (ch τ i) = true ∧ tE τ i ≤ i + 6 := by
  rcases Nat.lt_or_ge i τ.length with hi | hi
  · by_cases hL : cL (ch τ i) = true
    · exfalso
      by_cases h3 : tE τ i ≤ i + 3
      · rw [kAt_w hi hL h3] at h; cases h
      · rw [kAt_wb hi hL h3] at h; cases h
    · have hL : cL (ch τ i) = false := by simpa using hL
      by_cases hD : cD (ch τ i) = true
      · by_cases h3 : tE τ i ≤ i + 6
        · exact ⟨hi, hL, hD, h3⟩
        · rw [kAt_nb hi hL hD h3] at h; cases h
      · exfalso
        have hD : cD (ch τ i) = false := by simpa using hD
        by_cases hS : cS (ch τ i) = true
        · rw [kAt_s hi hL hD hS] at h; have := cS_i hS; omega
        · rw [kAt_o hi hL hD (by simpa using hS)] at h; cases h
  · unfold kAt at h; rw [if_pos hi] at h; cases h
theorem wV_1 (hL : cL (ch τ i) = true) (h : tE τ i = i + 1) : wV τ i = ch τ i - 97 := by unfold wV; rw [if_pos (by rw [← tE_eL hL]; exact h)]
theorem wV_s (hL : cL (ch τ i) = true) (h1 : ¬ tE τ i = i + 1) (h : tE τ i = i + 3 ∧ ch τ i = 115 ∧ ch τ (i + 1) = 117 ∧ ch τ (i + 2) = 109) : wV τ i = 26 := by
  rw [tE_eL hL] at h h1
  unfold wV; rw [if_neg h1, if_pos h]
theorem wV_o (hL : cL (ch τ i) = true) (h1 : ¬ tE τ i = i + 1) (h : ¬ (tE τ i = i + 3 ∧ ch τ i = 115 ∧ ch τ (i + 1) = 117 ∧ ch τ (i + 2) = 109)) : wV τ i = 27 := by
  rw [tE_eL hL] at h h1
  unfold wV; rw [if_neg h1, if_neg h]
theorem vAt_w (h : kAt τ i = 119) : vAt τ i = wV τ i := by unfold vAt; rw [if_pos h]
theorem vAt_n (h : kAt τ i = 110) : vAt τ i = dv τ i (tE τ i - i) := by
  obtain ⟨-, h1, h2, -⟩ := kAt_110 h
  unfold vAt; rw [if_neg (by rw [h]; decide), if_pos h, tE_eD h1 h2]
theorem vAt_0 (h : kAt τ i ≠ 119) (h2 : kAt τ i ≠ 110) : vAt τ i = 0 := by unfold vAt; rw [if_neg h, if_neg h2]
theorem dv_le (hl : τ.length ≤ 120) (h : kAt τ i = 110) {n : Nat} (hn : i + n ≤ tE τ i) : 0 ≤ dv τ i n ∧ dv τ i n ≤ 999999 := by
  obtain ⟨h0, h1, h2, h3⟩ := kAt_110 h
  rw [tE_eD h1 h2] at hn h3
  obtain ⟨b0, b1⟩ := dv_bd hl (by omega) n hn
  refine ⟨b0, ?_⟩
  have : (10 : Int) ^ n ≤ 1000000 := by
    have hk : n ≤ 6 := by omega
    have hh : ∀ k : Nat, k ≤ 6 → (10 : Int) ^ k ≤ 1000000 := by decide
    exact hh n hk
  omega
end LEX2
section ADDT
variable {B k : Nat} {x y w : Int} {ig ig' : sI}
/-- addToken() halfway -/
def A2 (B k : Nat) (x y : Int) (ig ig' : sI) : Prop := (ig' (B + 1) 6).toInt = (k : Int) ∧ ((ig' (B + 3) k).toInt = x ∧ (ig' (B + 5) k).toInt = y) ∧ (∀ q, q < k → ig' (B + 3) q = ig (B + 3) q ∧ ig' (B + 4) q = ig (B + 4) q ∧ ig' (B + 5) q = ig (B + 5) q) ∧ (ig' (B + 1) 2).toInt = (ig (B + 1) 2).toInt
theorem up2_n {f : sI} {a j b i : Nat} {v : Int32} (h : ¬ (b = a ∧ i = j)) : up2 f a j v b i = f b i := by simp only [up2]; rw [if_neg h]
theorem A2.mk {i1 i2 : Nat} {v1 v2 : Int32} (h6 : (ig (B + 1) 6).toInt = (k : Int)) (h1 : i1 = k) (h2 : i2 = k) (e1 : v1.toInt = x) (e2 : v2.toInt = y) : A2 B k x y ig (up2 (up2 ig (B + 3) i1 v1) (B + 5) i2 v2) := by
  subst h1
  subst h2
  refine ⟨?_, ⟨?_, ?_⟩, fun q hq => ⟨?_, ?_, ?_⟩, ?_⟩
  · rw [up2_n (by omega), up2_n (by omega)]; exact h6
  · rw [up2_n (by omega), up2_eq]; exact e1
  · rw [up2_eq]; exact e2
  · rw [up2_n (by omega), up2_n (by omega)]
  · rw [up2_n (by omega), up2_n (by omega)]
  · rw [up2_n (by omega), up2_n (by omega)]
  · rw [up2_n (by omega), up2_n (by omega)]
theorem A2.fin {i1 : Nat} {v1 v2 : Int32} (h : A2 B k x y ig ig') (h1 : i1 = k) (e1 : v1.toInt = w) (e2 : v2.toInt = (k : Int) + 1) : AT B k x y w ig (up2 (up2 ig' (B + 4) i1 v1) (B + 1) 6 v2) := by
  subst h1
  obtain ⟨g1, ⟨g2, g3⟩, g4, g5⟩ := h
  refine ⟨?_, ⟨?_, ?_, ?_⟩, fun q hq => ⟨?_, ?_, ?_⟩, ?_⟩
  · rw [up2_eq]; exact e2
  · rw [up2_n (by omega), up2_n (by omega)]; exact g2
  · rw [up2_n (by omega), up2_eq]; exact e1
  · rw [up2_n (by omega), up2_n (by omega)]; exact g3
  · rw [up2_n (by omega), up2_n (by omega)]; exact (g4 q hq).1
  · rw [up2_n (by omega), up2_n (by omega)]; exact (g4 q hq).2.1
  · rw [up2_n (by omega), up2_n (by omega)]; exact (g4 q hq).2.2
  · rw [up2_n (by omega), up2_n (by omega)]; exact g5
theorem CT.init {τ : Tp} (h : (ig (B + 1) 6).toInt = 0) : CT B τ 0 0 ig := ⟨h, Nat.le_refl 0, Nat.zero_le _, rfl, fun q hq => absurd hq (Nat.not_lt_zero q)⟩
theorem RZ.of {τ : Tp} {N h : Nat} (c : CK B τ N ig) (h2 : (ig (B + 1) 2).toInt = (h : Int)) (hh : h < 288) (h7 : (ig (B + 1) 7).toInt = 0) : RZ B τ N h 0 ig := ⟨c, h2, hh, h7, Nat.zero_le _⟩
theorem CK.wr {τ : Tp} {N c j : Nat} {v : Int32} (r : CK B τ N ig) (hn : (c ≠ 1 ∧ c ≠ 3 ∧ c ≠ 4 ∧ c ≠ 5) ∨ (c = 1 ∧ j ≠ 6)) : CK B τ N (up2 ig (B + c) j v) := by
  have e : ∀ b k, (b = B + 1 ∧ k = 6) ∨ b = B + 3 ∨ b = B + 4 ∨ b = B + 5 → up2 ig (B + c) j v b k = ig b k := fun b k hb => up2_n (by omega)
  refine ⟨r.1, by rw [e _ _ (Or.inl ⟨rfl, rfl⟩)]; exact r.2.1, r.2.2.1, fun q hq => ?_⟩
  rw [e _ _ (Or.inr (Or.inl rfl)), e _ _ (Or.inr (Or.inr (Or.inl rfl))), e _ _ (Or.inr (Or.inr (Or.inr rfl)))]
  exact r.2.2.2 q hq
end ADDT
/-! readings that go on over a fault: from (fault, place) to (fault, place) -/
def FS (P : Nat → Int → Nat → Prop) (f a f' a' : Int) : Prop := (f = 0 → ∃ b, P a.toNat f' b ∧ (f' = 0 → a' = (b : Int))) ∧ (f ≠ 0 → f' = f)
def FR (K V S : Nat → Int) (lc lr f a f' a' c r : Int) : Prop := (f = 0 → ∃ b, pRef K V S lc lr a.toNat f' b c r ∧ (f' = 0 → a' = (b : Int))) ∧ (f ≠ 0 → f' = f)
section FSS
variable {K V S : Nat → Int} {P Q : Nat → Int → Nat → Prop} {s : Nat → Prop} {d : Nat} {f a f1 a1 f2 a2 f3 a3 f4 a4 f5 a5 c r c2 r2' lc lr v : Int}
theorem FS.no (h : FS P f a f1 a1) (hf : f ≠ 0) : f1 = f := h.2 hf
theorem FS.to (h : FS P f a f1 a1) (hPQ : f = 0 → ∀ g b, P a.toNat g b → Q a.toNat g b) : FS Q f a f1 a1 := ⟨fun q => by
  obtain ⟨b, p, e⟩ := h.1 q
  exact ⟨b, hPQ q _ _ p, e⟩, h.2⟩
theorem FS.mk (p : f = 0 → ∃ b, P a.toNat f1 b ∧ (f1 = 0 → a1 = (b : Int))) (q : f ≠ 0 → f1 = f) : FS P f a f1 a1 := ⟨p, q⟩
/-- - PART -/
theorem FS.neg (h1 : f = 0 ∧ K a.toNat = 45) (h2 : f1 = 0 ∧ a1 = a + 1) (ha : 0 ≤ a) (h : FS (pPart K V S d) f1 a1 f2 a2) : FS (pPart K V S (d + 1)) f a f2 a2 := by
  refine ⟨fun _ => ?_, fun q => (q h1.1).elim⟩
  obtain ⟨b, p, e⟩ := h.1 h2.1
  rw [show a1.toNat = a.toNat + 1 by omega] at p
  exact ⟨b, pPart.ng h1.2 p, e⟩
/-- ( E ) -/
theorem FS.par (h1 : f = 0 ∧ K a.toNat = 40) (h2 : f1 = 0 ∧ a1 = a + 1) (ha : 0 ≤ a) (h : FS (pE K V S d) f1 a1 f2 a2) (t : FS (pTk K S 41) f2 a2 f3 a3) : FS (pPart K V S (d + 1)) f a f3 a3 := by
  refine ⟨fun _ => ?_, fun q => (q h1.1).elim⟩
  obtain ⟨b, p, e⟩ := h.1 h2.1
  rw [show a1.toNat = a.toNat + 1 by omega] at p
  by_cases hf : f2 = 0
  · obtain ⟨b2, p2, e2⟩ := t.1 hf
    rw [e hf, Int.toNat_natCast] at p2
    subst hf
    exact ⟨b2, pPart.br h1.2 ⟨0, b, p, Or.inr ⟨rfl, p2⟩⟩, e2⟩
  · have e3 := t.2 hf
    exact ⟨0, pPart.br h1.2 ⟨f2, b, p, Or.inl ⟨hf, e3⟩⟩, fun q => absurd (e3.symm.trans q) hf⟩
/-- sum( SPAN ) -/
theorem FS.span (hS : ∀ k q, 0 < k → fw S k q ≠ 0) (t1 : FS (pTk K S 40) f a f1 a1) (r2 : FR K V S 0 0 f1 a1 f2 a2 c r) (t3 : FS (pTk K S 58) f2 a2 f3 a3) (r4 : FR K V S lc lr f3 a3 f4 a4 c2 r2') (hl : f3 = 0 → lc = c ∧ lr = r) (t5 : FS (pTk K S 41) f4 a4 f5 a5) : FS (pSpan K V S) f a f5 a5 := by
  refine ⟨fun h0 => ?_, fun q => (t5.2 (by rw [r4.2 (by rw [t3.2 (by rw [r2.2 (by rw [t1.2 q]; exact q), t1.2 q]; exact q), r2.2 (by rw [t1.2 q]; exact q), t1.2 q]; exact q), t3.2 (by rw [r2.2 (by rw [t1.2 q]; exact q), t1.2 q]; exact q), r2.2 (by rw [t1.2 q]; exact q), t1.2 q]; exact q)).trans (by rw [r4.2 (by rw [t3.2 (by rw [r2.2 (by rw [t1.2 q]; exact q), t1.2 q]; exact q), r2.2 (by rw [t1.2 q]; exact q), t1.2 q]; exact q), t3.2 (by rw [r2.2 (by rw [t1.2 q]; exact q), t1.2 q]; exact q), r2.2 (by rw [t1.2 q]; exact q), t1.2 q])⟩
  obtain ⟨b1, p1, e1⟩ := t1.1 h0
  by_cases g1 : f1 = 0
  · rw [g1] at p1
    obtain ⟨s1, rfl⟩ := pTk.yes hS p1
    obtain ⟨b2, p2, e2⟩ := r2.1 g1
    rw [e1 g1, Int.toNat_natCast] at p2
    by_cases g2 : f2 = 0
    · rw [g2] at p2
      obtain ⟨b3, p3, e3⟩ := t3.1 g2
      rw [e2 g2, Int.toNat_natCast] at p3
      by_cases g3 : f3 = 0
      · rw [g3] at p3
        obtain ⟨s3, rfl⟩ := pTk.yes hS p3
        obtain ⟨rfl, rfl⟩ := hl g3
        obtain ⟨b4, p4, e4⟩ := r4.1 g3
        rw [e3 g3, Int.toNat_natCast] at p4
        by_cases g4 : f4 = 0
        · rw [g4] at p4
          obtain ⟨b5, p5, e5⟩ := t5.1 g4
          rw [e4 g4, Int.toNat_natCast] at p5
          exact ⟨b5, Or.inr ⟨s1, 0, b2, lc, lr, p2, Or.inr (Or.inr ⟨rfl, s3, 0, b4, c2, r2', p4, Or.inr ⟨rfl, p5⟩⟩)⟩, e5⟩
        · have e5 := t5.2 g4
          exact ⟨0, Or.inr ⟨s1, 0, b2, lc, lr, p2, Or.inr (Or.inr ⟨rfl, s3, f4, b4, c2, r2', p4, Or.inl ⟨g4, e5⟩⟩)⟩, fun q => absurd (e5.symm.trans q) g4⟩
      · obtain ⟨n3, e⟩ := pTk.no p3 g3
        have k4 := r4.2 g3
        have k5 := t5.2 (by rw [k4]; exact g3)
        exact ⟨0, Or.inr ⟨s1, 0, b2, c, r, p2, Or.inr (Or.inl ⟨rfl, n3, by rw [k5, k4, e]⟩)⟩, fun q => absurd (by rw [← q, k5, k4]) g3⟩
    · have k3 := t3.2 g2
      have k4 := r4.2 (by rw [k3]; exact g2)
      have k5 := t5.2 (by rw [k4, k3]; exact g2)
      exact ⟨0, Or.inr ⟨s1, f2, b2, c, r, p2, Or.inl ⟨g2, by rw [k5, k4, k3]⟩⟩, fun q => absurd (by rw [← q, k5, k4, k3]) g2⟩
  · obtain ⟨n1, e⟩ := pTk.no p1 g1
    have k2 := r2.2 g1
    have k3 := t3.2 (by rw [k2]; exact g1)
    have k4 := r4.2 (by rw [k3, k2]; exact g1)
    have k5 := t5.2 (by rw [k4, k3, k2]; exact g1)
    exact ⟨0, Or.inl ⟨n1, by rw [k5, k4, k3, k2, e]⟩, fun q => absurd (by rw [← q, k5, k4, k3, k2]) g1⟩
theorem FS.sum (h1 : f = 0 ∧ K a.toNat = 119 ∧ V a.toNat = 26) (ha : 0 ≤ a) (e0 : a1 = a + 1) (h : FS (pSpan K V S) 0 a1 f2 a2) : FS (pPart K V S (d + 1)) f a f2 a2 := by
  refine ⟨fun _ => ?_, fun q => (q h1.1).elim⟩
  obtain ⟨b, p, e⟩ := h.1 rfl
  rw [show a1.toNat = a.toNat + 1 by omega] at p
  exact ⟨b, pPart.sp h1.2 p, e⟩
theorem FS.ref (h1 : f = 0 ∧ ((K a.toNat = 119 ∧ V a.toNat < 12) ∨ K a.toNat = 36)) (h : FR K V S 0 0 f a f1 a1 c r) : FS (pPart K V S (d + 1)) f a f1 a1 := by
  refine ⟨fun _ => ?_, fun q => (q h1.1).elim⟩
  obtain ⟨b, p, e⟩ := h.1 h1.1
  exact ⟨b, pPart.rf h1.2 ⟨c, r, p⟩, e⟩
/-- a chain as it is read: so far -/
def FC1 (P : Nat → Int → Nat → Prop) (s : Nat → Prop) (f a f1 a1 : Int) : Prop := (f = 0 → (f1 = 0 ∧ ∃ n b, qCh P s n a.toNat b ∧ a1 = (b : Int)) ∨ (f1 ≠ 0 ∧ ∃ b, pCh P s a.toNat f1 b)) ∧ (f ≠ 0 → f1 = f)
theorem FC1.one (h : FS P f a f1 a1) : FC1 P s f a f1 a1 := ⟨fun q => by
  obtain ⟨b, p, e⟩ := h.1 q
  by_cases g : f1 = 0
  · rw [g] at p
    exact Or.inl ⟨g, 0, b, p, e g⟩
  · exact Or.inr ⟨g, b, Or.inl ⟨g, p⟩⟩, h.2⟩
/-- a sign and the next -/
theorem FC1.turn (h : FC1 P s f a f1 a1) (h1 : f1 = 0 ∧ s a1.toNat) (h2 : f2 = 0 ∧ a2 = a1 + 1) (ha : 0 ≤ a1) (g : FS P f2 a2 f3 a3) : FC1 P s f a f3 a3 := by
  refine ⟨fun q => ?_, fun q => absurd ((h.2 q).symm.trans h1.1) q⟩
  rcases h.1 q with ⟨-, n, b, p, e⟩ | ⟨w, -⟩
  · obtain ⟨b2, p2, e2⟩ := g.1 h2.1
    have eb : a1.toNat = b := by omega
    rw [show a2.toNat = b + 1 by omega] at p2
    have hs := h1.2
    rw [eb] at hs
    by_cases g3 : f3 = 0
    · rw [g3] at p2
      exact Or.inl ⟨g3, n + 1, b2, qCh.snoc n _ b b2 p hs p2, e2 g3⟩
    · exact Or.inr ⟨g3, b2, Or.inr ⟨n, b, p, Or.inr ⟨hs, g3, p2⟩⟩⟩
  · exact (w h1.1).elim
theorem FC1.fin (h : FC1 P s f a f1 a1) (hn : f1 = 0 → ¬ s a1.toNat) : FS (pCh P s) f a f1 a1 := ⟨fun q => by
  rcases h.1 q with ⟨g, n, b, p, e⟩ | ⟨g, b, p⟩
  · have hs := hn g
    rw [e, Int.toNat_natCast] at hs
    exact ⟨b, Or.inr ⟨n, b, p, Or.inl ⟨hs, g, rfl⟩⟩, fun _ => e⟩
  · exact ⟨b, p, fun q => (g q).elim⟩, h.2⟩
/-- a PART that can't begin, or stands too deep -/
theorem FS.part0 (h : f = 0 → ¬ sPt K V a.toNat ∧ f1 = fw S 1 a.toNat) (hS : ∀ k q, 0 < k → fw S k q ≠ 0) (h2 : f ≠ 0 → f1 = f) : FS (pPart K V S d) f a f1 a1 := ⟨fun q => by
  obtain ⟨n, e⟩ := h q
  exact ⟨0, by rw [e]; exact pPart.no n, fun g => absurd (e.symm.trans g) (hS 1 _ (by decide))⟩, h2⟩
theorem FS.part5 (h : f = 0 ∧ sPt K V a.toNat ∧ f1 = fw S 5 a.toNat) (hS : ∀ k q, 0 < k → fw S k q ≠ 0) : FS (pPart K V S 0) f a f1 a1 := ⟨fun _ => ⟨0, Or.inr ⟨h.2.1, h.2.2⟩, fun g => absurd (h.2.2.symm.trans g) (hS 5 _ (by decide))⟩, fun q => (q h.1).elim⟩
theorem FS.num (h : f = 0 ∧ K a.toNat = 110) (h1 : f1 = 0 ∧ a1 = a + 1) (ha : 0 ≤ a) : FS (pPart K V S (d + 1)) f a f1 a1 := ⟨fun _ => ⟨a.toNat + 1, by rw [h1.1]; exact pPart.num h.2, fun _ => by omega⟩, fun q => (q h.1).elim⟩
end FSS
/-- the reference's token against the tape's: its sort and value, code and amount -/
def mtk (s v K V : Int) : Prop := (s = 0 ∧ K = 0) ∨ (s = 1 ∧ K = 119 ∧ ((v = V + 1 ∧ 0 ≤ V ∧ V ≤ 25) ∨ (v = 14431 ∧ V = 26) ∨ (28 ≤ v ∧ v ≠ 14431 ∧ V = 27))) ∨ (s = 2 ∧ K = 110 ∧ v = V ∧ 0 ≤ V ∧ V ≤ 999999) ∨ (s = 3 ∧ K = v ∧ (v = 40 ∨ v = 41 ∨ v = 43 ∨ v = 45 ∨ v = 42 ∨ v = 47 ∨ v = 58 ∨ v = 36)) ∨ (s = 4 ∧ K = 63)
/-! readRef() of the reference, step by step: f0, a0 where it began; f, a where it is -/
section QRS
variable {K V S : Nat → Int} {lc lr f0 a0 f a f' a' co : Int} {X Y : Nat → Prop}
def Q1 (K : Nat → Int) (f0 a0 f a : Int) : Prop := f = f0 ∧ (f0 = 0 → dol K a0.toNat a.toNat ∧ 0 ≤ a)
/-- a fault was there, or has been found -/
def QB (K V S : Nat → Int) (lc lr f0 a0 f : Int) : Prop := (f0 ≠ 0 ∧ f = f0) ∨ (f0 = 0 ∧ f ≠ 0 ∧ ∃ c, pRef K V S lc lr a0.toNat f 0 c 0)
def Q2 (K V S : Nat → Int) (lc lr f0 a0 f a : Int) : Prop := QB K V S lc lr f0 a0 f ∨ (f0 = 0 ∧ f = 0 ∧ dol K a0.toNat a.toNat ∧ 0 ≤ a ∧ oCol K V a.toNat ∧ lc ≤ V a.toNat)
def Q3 (K V S : Nat → Int) (lc lr f0 a0 f a co : Int) : Prop := QB K V S lc lr f0 a0 f ∨ (f0 = 0 ∧ f = 0 ∧ ∃ a1 : Nat, dol K a0.toNat a1 ∧ oCol K V a1 ∧ lc ≤ V a1 ∧ co = V a1 ∧ a = (a1 : Int) + 1)
def QR (K V S : Nat → Int) (lc lr f0 a0 f a co : Int) (X : Nat → Prop) : Prop := QB K V S lc lr f0 a0 f ∨ (f0 = 0 ∧ f = 0 ∧ ∃ a1 : Nat, dol K a0.toNat a1 ∧ oCol K V a1 ∧ lc ≤ V a1 ∧ co = V a1 ∧ dol K (a1 + 1) a.toNat ∧ 0 ≤ a ∧ X a.toNat)
theorem Q1.mk (hf : f = f0) (h0 : 0 ≤ a0) (h : f0 = 0 → (K a0.toNat = 36 ∧ a = a0 + 1) ∨ (K a0.toNat ≠ 36 ∧ a = a0)) : Q1 K f0 a0 f a := ⟨hf, fun q => by
  rcases h q with ⟨h1, h2⟩ | ⟨h1, h2⟩
  · exact ⟨Or.inl ⟨h1, by omega⟩, by omega⟩
  · exact ⟨Or.inr ⟨h1, by omega⟩, by omega⟩⟩
theorem QB.ne (h : QB K V S lc lr f0 a0 f) : f ≠ 0 := by
  rcases h with ⟨h1, h2⟩ | ⟨-, h, -⟩
  · rw [h2]; exact h1
  · exact h
theorem QB.keep (h : QB K V S lc lr f0 a0 f) (e : f ≠ 0 → f' = f) : QB K V S lc lr f0 a0 f' := by rw [e h.ne]; exact h
theorem Q2.ok (h : Q1 K f0 a0 f a) (hf : f = 0) (ho : K a.toNat = 119 ∧ V a.toNat < 12) (hl : lc ≤ V a.toNat) : Q2 K V S lc lr f0 a0 f a := by
  have e0 : f0 = 0 := by rw [← h.1]; exact hf
  exact Or.inr ⟨e0, hf, (h.2 e0).1, (h.2 e0).2, ho, hl⟩
theorem Q2.bad {k : Int} (h : Q1 K f0 a0 f a) (hk : 0 < k) (hS : ∀ k q, 0 < k → fw S k q ≠ 0) (hz : f = 0 → (k = 1 ∧ ¬ (K a.toNat = 119 ∧ V a.toNat < 12)) ∨ (k = 6 ∧ (K a.toNat = 119 ∧ V a.toNat < 12) ∧ V a.toNat < lc)) (e1 : f = 0 → f' = fw S k a.toNat) (e2 : f ≠ 0 → f' = f) : Q2 K V S lc lr f0 a0 f' a' := by
  by_cases hf : f = 0
  · have e0 : f0 = 0 := by rw [← h.1]; exact hf
    refine Or.inl (Or.inr ⟨e0, by rw [e1 hf]; exact hS k _ hk, 0, ?_⟩)
    rw [e1 hf]
    exact pRef.cF (h.2 e0).1 (hz hf)
  · exact Or.inl (Or.inl ⟨by rw [← h.1]; exact hf, by rw [e2 hf, h.1]⟩)
theorem Q3.mk (h : Q2 K V S lc lr f0 a0 f a) (hf : f' = f) (h1 : f = 0 → a' = a + 1 ∧ co = V a.toNat) : Q3 K V S lc lr f0 a0 f' a' co := by
  rw [hf]
  rcases h with h | ⟨e0, e1, d1, ha, ho, hl⟩
  · exact Or.inl h
  · obtain ⟨g1, g2⟩ := h1 e1
    exact Or.inr ⟨e0, e1, a.toNat, d1, ho, hl, g2, by omega⟩
theorem QR.mk (h : Q3 K V S lc lr f0 a0 f a co) (hf : f' = f) (h1 : f = 0 → (K a.toNat = 36 ∧ a' = a + 1) ∨ (K a.toNat ≠ 36 ∧ a' = a)) : QR K V S lc lr f0 a0 f' a' co (fun _ => True) := by
  rw [hf]
  rcases h with h | ⟨e0, e1, a1, d1, ho, hl, hc, ha⟩
  · exact Or.inl h
  · have e : a.toNat = a1 + 1 := by omega
    rw [e] at h1
    refine Or.inr ⟨e0, e1, a1, d1, ho, hl, hc, ?_, ?_, trivial⟩
    · rcases h1 e1 with ⟨g1, g2⟩ | ⟨g1, g2⟩
      · exact Or.inl ⟨g1, by omega⟩
      · exact Or.inr ⟨g1, by omega⟩
    · rcases h1 e1 with ⟨-, g2⟩ | ⟨-, g2⟩ <;> omega
theorem QR.st (h : QR K V S lc lr f0 a0 f a co X) (hX : f = 0 → X a.toNat → Y a.toNat) : QR K V S lc lr f0 a0 f a co Y := by
  rcases h with h | ⟨e0, e1, a1, d1, ho, hl, hc, d2, ha, x⟩
  · exact Or.inl h
  · exact Or.inr ⟨e0, e1, a1, d1, ho, hl, hc, d2, ha, hX e1 x⟩
theorem QR.bad {k : Int} (h : QR K V S lc lr f0 a0 f a co X) (hk : 0 < k) (hS : ∀ k q, 0 < k → fw S k q ≠ 0) (hz : f = 0 → X a.toNat → (k = 1 ∧ K a.toNat ≠ 110) ∨ (k = 4 ∧ K a.toNat = 110 ∧ (V a.toNat < 1 ∨ 24 < V a.toNat)) ∨ (k = 7 ∧ K a.toNat = 110 ∧ (1 ≤ V a.toNat ∧ V a.toNat ≤ 24) ∧ V a.toNat - 1 < lr)) (e1 : f = 0 → f' = fw S k a.toNat) (e2 : f ≠ 0 → f' = f) : QB K V S lc lr f0 a0 f' := by
  rcases h with h | ⟨e0, g1, a1, d1, ho, hl, hc, d2, ha, x⟩
  · exact h.keep e2
  · refine Or.inr ⟨e0, by rw [e1 g1]; exact hS k _ hk, V a1, ?_⟩
    rw [e1 g1]
    exact pRef.rF d1 ho hl d2 (hz g1 x)
theorem QB.fr (h : QB K V S lc lr f0 a0 f) : ∃ c r, FR K V S lc lr f0 a0 f a c r := by
  rcases h with ⟨h1, h2⟩ | ⟨h1, h2, c, p⟩
  · exact ⟨0, 0, fun q => (h1 q).elim, fun _ => h2⟩
  · exact ⟨c, 0, fun _ => ⟨0, p, fun q => (h2 q).elim⟩, fun q => (q h1).elim⟩
theorem QR.ok (h : QR K V S lc lr f0 a0 f a co (fun q => K q = 110 ∧ (1 ≤ V q ∧ V q ≤ 24) ∧ lr ≤ V q - 1)) (hf : f = 0) (e1 : f' = 0) (e2 : a' = a + 1) : FR K V S lc lr f0 a0 f' a' co (V a.toNat - 1) := by
  rcases h with h | ⟨e0, g1, a1, d1, ho, hl, hc, d2, ha, x⟩
  · exact absurd hf h.ne
  · refine ⟨fun _ => ⟨a.toNat + 1, ?_, fun _ => by omega⟩, fun q => (q e0).elim⟩
    rw [e1, hc]
    exact pRef.ok d1 ho hl d2 x
end QRS
/-! the reference cuts the tape -/
def wv (τ : Tp) (i : Nat) : Nat → Int
  | 0 => 0
  | n + 1 => 27 * wv τ i n + (ch τ (i + n) - 96)
theorem wv_bd {τ : Tp} {i e : Nat} (h : Rn cL τ i e) : ∀ n, n ≤ 3 → i + n ≤ e → 0 ≤ wv τ i n ∧ wv τ i n ≤ 19682
  | 0, _, _ => by unfold wv; decide
  | 1, _, h1 => by
    have := cL_i (h.2 i (by omega) (by omega))
    simp only [wv, Nat.add_zero]; omega
  | 2, _, h1 => by
    have := cL_i (h.2 i (by omega) (by omega))
    have := cL_i (h.2 (i + 1) (by omega) (by omega))
    simp only [wv, Nat.add_zero]; omega
  | 3, _, h1 => by
    have := cL_i (h.2 i (by omega) (by omega))
    have := cL_i (h.2 (i + 1) (by omega) (by omega))
    have := cL_i (h.2 (i + 2) (by omega) (by omega))
    simp only [wv, Nat.add_zero]; omega
  | n + 4, h0, _ => by omega
/-- a WORD's value and amount -/
theorem mtk_w {τ : Tp} {i : Nat} (hl : τ.length ≤ 120) (hi : i < τ.length) (hL : cL (ch τ i) = true) (h3 : tE τ i ≤ i + 3) : mtk 1 (wv τ i (tE τ i - i)) (kAt τ i) (vAt τ i) := by
  have hk := kAt_w hi hL h3
  obtain ⟨g1, g2⟩ := tE_gt hl hi
  have hr := (eL_spec (i := i) hl (by omega)).1
  rw [← tE_eL hL] at hr
  rw [hk, vAt_w hk]
  have c0 := cL_i (hr.2 i (by omega) (by omega))
  refine Or.inr (Or.inl ⟨rfl, rfl, ?_⟩)
  rcases (show tE τ i = i + 1 ∨ tE τ i = i + 2 ∨ tE τ i = i + 3 by omega) with e | e | e
  · rw [wV_1 hL e, show tE τ i - i = 1 by omega]
    simp only [wv, Nat.add_zero]
    exact Or.inl ⟨by omega, by omega, by omega⟩
  · have c1 := cL_i (hr.2 (i + 1) (by omega) (by omega))
    rw [wV_o hL (by omega) (by omega), show tE τ i - i = 2 by omega]
    simp only [wv, Nat.add_zero]
    exact Or.inr (Or.inr ⟨by omega, by omega, trivial⟩)
  · have c1 := cL_i (hr.2 (i + 1) (by omega) (by omega))
    have c2 := cL_i (hr.2 (i + 2) (by omega) (by omega))
    rw [show tE τ i - i = 3 by omega]
    by_cases hs : ch τ i = 115 ∧ ch τ (i + 1) = 117 ∧ ch τ (i + 2) = 109
    · rw [wV_s hL (by omega) ⟨e, hs⟩]
      simp only [wv, Nat.add_zero]
      exact Or.inr (Or.inl ⟨by omega, trivial⟩)
    · rw [wV_o hL (by omega) (fun q => hs q.2)]
      simp only [wv, Nat.add_zero]
      exact Or.inr (Or.inr ⟨by omega, by omega, trivial⟩)
theorem mtk_n {τ : Tp} {i : Nat} (hl : τ.length ≤ 120) (hi : i < τ.length) (hL : cL (ch τ i) = false) (hD : cD (ch τ i) = true) (h3 : tE τ i ≤ i + 6) : mtk 2 (dv τ i (tE τ i - i)) (kAt τ i) (vAt τ i) := by
  have hk := kAt_n hi hL hD h3
  rw [hk, vAt_n hk]
  have hb := dv_le hl hk (n := tE τ i - i) (by have := tE_gt hl hi; omega)
  exact Or.inr (Or.inr (Or.inl ⟨rfl, rfl, rfl, hb.1, hb.2⟩))
theorem mtk_b {τ : Tp} {i : Nat} {v : Int} (h : kAt τ i = 63) : mtk 4 v (kAt τ i) (vAt τ i) := Or.inr (Or.inr (Or.inr (Or.inr ⟨rfl, h⟩)))
theorem mtk_s {τ : Tp} {i : Nat} (hi : i < τ.length) (hL : cL (ch τ i) = false) (hD : cD (ch τ i) = false) (hS : cS (ch τ i) = true) : mtk 3 (ch τ i) (kAt τ i) (vAt τ i) := Or.inr (Or.inr (Or.inr (Or.inl ⟨rfl, kAt_s hi hL hD hS, cS_i hS⟩)))
theorem l_step {v x1 x2 x3 k c0 : Int64} {c : Int32} {m : Int} (h1 : x1 = k * v) (h2 : x2 = x1 + c.toInt64) (h3 : x3 = x2 - c0) (hk : k.toInt = m) (hm : 0 ≤ m ∧ m ≤ 27) (hv : 0 ≤ v.toInt ∧ v.toInt ≤ 10000000) {q : Int} (hq : c0.toInt = q) (hq2 : 0 ≤ q ∧ q ≤ 100) : x3.toInt = m * v.toInt + c.toInt - q := by
  subst h1 h2 h3
  have b1 := Int32.le_toInt c
  have b2 := Int32.toInt_lt c
  have b3 : 0 ≤ m * v.toInt := Int.mul_nonneg hm.1 hv.1
  have b4 : m * v.toInt ≤ 27 * 10000000 := Int.mul_le_mul hm.2 hv.2 hv.1 (by decide)
  have e1 : (k * v).toInt = m * v.toInt := by rw [Int64.toInt_mul, hk, Int.bmod_eq_of_le (by omega) (by omega)]
  have e2 : (k * v + c.toInt64).toInt = m * v.toInt + c.toInt := by rw [Int64.toInt_add, e1, Int32.toInt_toInt64, Int.bmod_eq_of_le (by omega) (by omega)]
  rw [Int64.toInt_sub, e2, hq, Int.bmod_eq_of_le (by omega) (by omega)]
theorem dv_bd6 {τ : Tp} {i e : Nat} (h : Rn cD τ i e) {n : Nat} (h1 : n ≤ 6) (h2 : i + n ≤ e) : 0 ≤ dv τ i n ∧ dv τ i n ≤ 999999 := by
  have key : ∀ n, i + n ≤ e → 0 ≤ dv τ i n ∧ dv τ i n < 10 ^ n := by
    intro n
    induction n with
    | zero => intro _; unfold dv; decide
    | succ n ih =>
      intro hn
      obtain ⟨b0, b1⟩ := ih (by omega)
      have hd := cD_i (h.2 (i + n) (by omega) (by omega))
      unfold dv
      rw [Int.pow_succ]
      omega
  obtain ⟨b0, b1⟩ := key n h2
  have : (10 : Int) ^ n ≤ 1000000 := by
    have hh : ∀ k : Nat, k ≤ 6 → (10 : Int) ^ k ≤ 1000000 := by decide
    exact hh n h1
  exact ⟨b0, by omega⟩
theorem IC.tch {τ : Tp} {B : Nat} {kd : sK} {ig : sI} {rg : sR} (hI : IC τ B kd ig rg) {i : Nat} (h : i < τ.length) : (ig (B + 2) i).toInt = ch τ i := by rw [hI.2.2.2 i h, ch_in h]
theorem IC.tchn {τ : Tp} {B : Nat} {kd : sK} {ig : sI} {rg : sR} (hI : IC τ B kd ig rg) {i j : Nat} (hj : j = i) (h : i < τ.length) : (ig (B + 2) j).toInt = ch τ i := by rw [hj]; exact hI.tch h
