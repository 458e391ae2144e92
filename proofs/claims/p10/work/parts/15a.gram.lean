/-! A FORMULA'S GRAMMAR over any row of tokens or items: what it reads is a list of steps -/
abbrev St : Type := Int × Int × Int
abbrev Fm : Type := List St
def opS (o : Int) : Int := if o = 43 then 5 else if o = 45 then 6 else if o = 42 then 7 else 8
/-- n further turns of a chain: acc is read already, b is where it stands -/
def hCt (P : Nat → Nat → Fm → Prop) (s : Nat → Int → Prop) : Nat → Fm → Nat → Nat → Fm → Prop
  | 0, acc, b, c, x => (∀ o, ¬ s b o) ∧ c = b ∧ x = acc
  | n + 1, acc, b, c, x => ∃ o m y, s b o ∧ P (b + 1) m y ∧ hCt P s n (acc ++ (y ++ [(opS o, 0, 0)])) m c x
def hCh (P : Nat → Nat → Fm → Prop) (s : Nat → Int → Prop) (a c : Nat) (x : Fm) : Prop := ∃ n m y, P a m y ∧ hCt P s n y m c x
section GRAM
variable (nu : Nat → Int → Prop) (si : Int → Nat → Prop) (rf : Nat → Nat → Int → Prop) (sm : Nat → Prop)
def hMu (b : Nat) (o : Int) : Prop := si o b ∧ (o = 42 ∨ o = 47)
def hAd (b : Nat) (o : Int) : Prop := si o b ∧ (o = 43 ∨ o = 45)
def hSp (a c : Nat) (w u : Int) : Prop := sm a ∧ si 40 (a + 1) ∧ ∃ b1 b2, rf (a + 2) b1 w ∧ si 58 b1 ∧ rf (b1 + 1) b2 u ∧ si 41 b2 ∧ c = b2 + 1
def hPart : Nat → Nat → Nat → Fm → Prop
  | 0, _, _, _ => False
  | d + 1, a, c, x => (∃ v, nu a v ∧ c = a + 1 ∧ x = [(0, v, 0)]) ∨ (∃ w u, hSp si rf sm a c w u ∧ x = [(2, w, u)]) ∨ (si 45 a ∧ ∃ y, hPart d (a + 1) c y ∧ x = y ++ [(4, 0, 0)]) ∨
      (si 40 a ∧ ∃ b y, hCh (hCh (hPart d) (hMu si)) (hAd si) (a + 1) b y ∧ si 41 b ∧ c = b + 1 ∧ x = y ++ [(3, 0, 0)]) ∨ (∃ w, rf a c w ∧ x = [(1, w, w)])
def hProd (d : Nat) : Nat → Nat → Fm → Prop := hCh (hPart nu si rf sm d) (hMu si)
def hE (d : Nat) : Nat → Nat → Fm → Prop := hCh (hProd nu si rf sm d) (hAd si)
/-- what stands somewhere is one thing -/
def GD : Prop := (∀ a v w, nu a v → nu a w → v = w) ∧ (∀ a c e, si c a → si e a → c = e) ∧ (∀ a b c v w, rf a b v → rf a c w → b = c ∧ v = w) ∧ (∀ a v c, nu a v → ¬ si c a) ∧ (∀ a v, nu a v → ¬ sm a) ∧ (∀ a c, si c a → ¬ sm a) ∧ ∀ a b w, rf a b w → (∀ v, ¬ nu a v) ∧ ¬ sm a ∧ ¬ si 45 a ∧ ¬ si 40 a
end GRAM
def HDet (P : Nat → Nat → Fm → Prop) : Prop := ∀ a b c x y, P a b x → P a c y → b = c ∧ x = y
theorem hCt.det {P : Nat → Nat → Fm → Prop} {s : Nat → Int → Prop} (hP : HDet P) (hs : ∀ b o q, s b o → s b q → o = q) : ∀ n m acc b c e x y, hCt P s n acc b c x → hCt P s m acc b e y → c = e ∧ x = y := by
  intro n
  induction n with
  | zero =>
    intro m acc b c e x y h1 h2
    cases m with
    | zero => exact ⟨by rw [h1.2.1, h2.2.1], by rw [h1.2.2, h2.2.2]⟩
    | succ m =>
      obtain ⟨o, _, _, q, _⟩ := h2
      exact (h1.1 o q).elim
  | succ n ih =>
    intro m acc b c e x y h1 h2
    obtain ⟨o, k, z, q1, q2, q3⟩ := h1
    cases m with
    | zero => exact (h2.1 o q1).elim
    | succ m =>
      obtain ⟨o', k', z', r1, r2, r3⟩ := h2
      obtain rfl := hs b o o' q1 r1
      obtain ⟨rfl, rfl⟩ := hP _ _ _ _ _ q2 r2
      exact ih m _ _ _ _ _ _ q3 r3
theorem hCh.det {P : Nat → Nat → Fm → Prop} {s : Nat → Int → Prop} (hP : HDet P) (hs : ∀ b o q, s b o → s b q → o = q) : HDet (hCh P s) := by
  intro a b c x y h1 h2
  obtain ⟨n, m, z, q1, q2⟩ := h1
  obtain ⟨n', m', z', r1, r2⟩ := h2
  obtain ⟨rfl, rfl⟩ := hP _ _ _ _ _ q1 r1
  exact hCt.det hP hs n n' _ _ _ _ _ _ q2 r2
section GDET
variable {nu : Nat → Int → Prop} {si : Int → Nat → Prop} {rf : Nat → Nat → Int → Prop} {sm : Nat → Prop}
theorem hSp.det (g : GD nu si rf sm) {a b c : Nat} {w u w' u' : Int} (h1 : hSp si rf sm a b w u) (h2 : hSp si rf sm a c w' u') : b = c ∧ w = w' ∧ u = u' := by
  obtain ⟨-, -, b1, b2, q1, -, q2, -, rfl⟩ := h1
  obtain ⟨-, -, e1, e2, r1, -, r2, -, rfl⟩ := h2
  obtain ⟨rfl, rfl⟩ := g.2.2.1 _ _ _ _ _ q1 r1
  obtain ⟨rfl, rfl⟩ := g.2.2.1 _ _ _ _ _ q2 r2
  exact ⟨rfl, rfl, rfl⟩
theorem hMu.det (g : GD nu si rf sm) : ∀ b o q, hMu si b o → hMu si b q → o = q := fun b o q h1 h2 => g.2.1 b o q h1.1 h2.1
theorem hAd.det (g : GD nu si rf sm) : ∀ b o q, hAd si b o → hAd si b q → o = q := fun b o q h1 h2 => g.2.1 b o q h1.1 h2.1
theorem hPart.det (g : GD nu si rf sm) : ∀ d, HDet (hPart nu si rf sm d)
  | 0 => fun _ _ _ _ _ h => h.elim
  | d + 1 => by
    have ih := hPart.det g d
    have ihE := hCh.det (hCh.det ih (hMu.det g)) (hAd.det g)
    intro a b c x y h1 h2
    obtain ⟨g1, g2, g3, g4, g5, g6, g7⟩ := g
    rcases h1 with ⟨v, p1, p2, p3⟩ | ⟨w, u, p1, p2⟩ | ⟨p1, z, p2, p3⟩ | ⟨p1, e, z, p2, p3, p4, p5⟩ | ⟨w, p1, p2⟩ <;> rcases h2 with ⟨v', q1, q2, q3⟩ | ⟨w', u', q1, q2⟩ | ⟨q1, z', q2, q3⟩ | ⟨q1, e', z', q2, q3, q4, q5⟩ | ⟨w', q1, q2⟩
    · obtain rfl := g1 _ _ _ p1 q1
      exact ⟨by omega, by rw [p3, q3]⟩
    · exact (g5 _ _ p1 q1.1).elim
    · exact (g4 _ _ _ p1 q1).elim
    · exact (g4 _ _ _ p1 q1).elim
    · exact ((g7 _ _ _ q1).1 _ p1).elim
    · exact (g5 _ _ q1 p1.1).elim
    · obtain ⟨rfl, rfl, rfl⟩ := hSp.det ⟨g1, g2, g3, g4, g5, g6, g7⟩ p1 q1
      exact ⟨rfl, by rw [p2, q2]⟩
    · exact (g6 _ _ q1 p1.1).elim
    · exact (g6 _ _ q1 p1.1).elim
    · exact ((g7 _ _ _ q1).2.1 p1.1).elim
    · exact (g4 _ _ _ q1 p1).elim
    · exact (g6 _ _ p1 q1.1).elim
    · obtain ⟨rfl, rfl⟩ := ih _ _ _ _ _ p2 q2
      exact ⟨rfl, by rw [p3, q3]⟩
    · exact absurd (g2 _ _ _ p1 q1) (by decide)
    · exact ((g7 _ _ _ q1).2.2.1 p1).elim
    · exact (g4 _ _ _ q1 p1).elim
    · exact (g6 _ _ p1 q1.1).elim
    · exact absurd (g2 _ _ _ p1 q1) (by decide)
    · obtain ⟨rfl, rfl⟩ := ihE _ _ _ _ _ p2 q2
      exact ⟨by omega, by rw [p5, q5]⟩
    · exact ((g7 _ _ _ q1).2.2.2 p1).elim
    · exact ((g7 _ _ _ p1).1 _ q1).elim
    · exact ((g7 _ _ _ p1).2.1 q1.1).elim
    · exact ((g7 _ _ _ p1).2.2.1 q1).elim
    · exact ((g7 _ _ _ p1).2.2.2 q1).elim
    · obtain ⟨rfl, rfl⟩ := g3 _ _ _ _ _ p1 q1
      exact ⟨rfl, by rw [p2, q2]⟩
theorem hE.det (g : GD nu si rf sm) (d : Nat) : HDet (hE nu si rf sm d) := hCh.det (hCh.det (hPart.det g d) (hMu.det g)) (hAd.det g)
end GDET
/-- a chain that goes on: from a, acc is read, b is where it stands -/
def hK (P : Nat → Nat → Fm → Prop) (s : Nat → Int → Prop) (a : Nat) (acc : Fm) (b : Nat) : Prop := ∀ n c x, hCt P s n acc b c x → hCh P s a c x
section HKS
variable {P : Nat → Nat → Fm → Prop} {s : Nat → Int → Prop} {a b m : Nat} {acc y : Fm} {o : Int}
theorem hK.one (h : P a m y) : hK P s a y m := fun n _ _ hx => ⟨n, m, y, h, hx⟩
theorem hK.turn (h : hK P s a acc b) (hs : s b o) (hp : P (b + 1) m y) : hK P s a (acc ++ (y ++ [(opS o, 0, 0)])) m := fun n c x hx => h (n + 1) c x ⟨o, m, y, hs, hp, hx⟩
theorem hK.fin (h : hK P s a acc b) (hs : ∀ o, ¬ s b o) : hCh P s a b acc := h 0 b acc ⟨hs, rfl, rfl⟩
end HKS
/-! over the items of a row: (0, number), (1, sign), (2, 0) sum, (3, REF) -/
abbrev Rw : Type := Nat → Int × Int
section ITEMROW
variable (R : Rw)
def iN (a : Nat) (v : Int) : Prop := R a = (0, v)
def iS (c : Int) (a : Nat) : Prop := R a = (1, c)
def iR (a b : Nat) (w : Int) : Prop := R a = (3, w) ∧ b = a + 1
def iM (a : Nat) : Prop := R a = (2, 0)
def iE (d : Nat) : Nat → Nat → Fm → Prop := hE (iN R) (iS R) (iR R) (iM R) d
def iPd (d : Nat) : Nat → Nat → Fm → Prop := hProd (iN R) (iS R) (iR R) (iM R) d
def iP (d : Nat) : Nat → Nat → Fm → Prop := hPart (iN R) (iS R) (iR R) (iM R) d
end ITEMROW
theorem pr_ne {R : Rw} {a : Nat} {x y u v : Int} (h1 : R a = (x, u)) (h2 : R a = (y, v)) : x = y ∧ u = v := by
  rw [h1] at h2
  exact ⟨congrArg Prod.fst h2, congrArg Prod.snd h2⟩
theorem iGD (R : Rw) : GD (iN R) (iS R) (iR R) (iM R) :=
  ⟨fun _ _ _ h1 h2 => (pr_ne h1 h2).2, fun _ _ _ h1 h2 => (pr_ne h1 h2).2, fun _ _ _ _ _ h1 h2 => ⟨h1.2.trans h2.2.symm, (pr_ne h1.1 h2.1).2⟩, fun _ _ _ h1 h2 => absurd (pr_ne h1 h2).1 (by decide), fun _ _ h1 h2 => absurd (pr_ne h1 h2).1 (by decide), fun _ _ h1 h2 => absurd (pr_ne h1 h2).1 (by decide),
   fun _ _ _ h => ⟨fun _ h2 => absurd (pr_ne h.1 h2).1 (by decide), fun h2 => absurd (pr_ne h.1 h2).1 (by decide), fun h2 => absurd (pr_ne h.1 h2).1 (by decide), fun h2 => absurd (pr_ne h.1 h2).1 (by decide)⟩⟩
theorem iE.det (R : Rw) (d : Nat) : HDet (iE R d) := hE.det (iGD R) d
/-! a row that grows: what was read of it stays -/
theorem hCt.le {P : Nat → Nat → Fm → Prop} {s : Nat → Int → Prop} (hl : ∀ a e y, P a e y → a < e) : ∀ n acc b c x, hCt P s n acc b c x → b ≤ c
  | 0, acc, b, c, x, h => Nat.le_of_eq h.2.1.symm
  | n + 1, acc, b, c, x, h => by
    obtain ⟨_, m, _, _, q2, q3⟩ := h
    have := hl _ _ _ q2
    have := hCt.le hl n _ _ _ _ q3
    omega
theorem hCh.lt {P : Nat → Nat → Fm → Prop} {s : Nat → Int → Prop} (hl : ∀ a e y, P a e y → a < e) : ∀ a c x, hCh P s a c x → a < c := by
  intro a c x h
  obtain ⟨n, m, y, q1, q2⟩ := h
  have := hl _ _ _ q1
  have := hCt.le hl n _ _ _ _ q2
  omega
theorem hCt.mono {P P' : Nat → Nat → Fm → Prop} {s s' : Nat → Int → Prop} {e c : Nat} (hl : ∀ a e y, P a e y → a < e) (hP : ∀ a m y, e ≤ a → m ≤ c → P a m y → P' a m y) (hs : ∀ a o, e ≤ a → a ≤ c → (s a o ↔ s' a o)) : ∀ n acc b x, e ≤ b → hCt P s n acc b c x → hCt P' s' n acc b c x
  | 0, acc, b, x, eb, h => ⟨fun o q => h.1 o ((hs b o eb (by have := h.2.1; omega)).mpr q), h.2⟩
  | n + 1, acc, b, x, eb, h => by
    obtain ⟨o, m, y, q1, q2, q3⟩ := h
    have l1 := hl _ _ _ q2
    have l2 := hCt.le hl n _ _ _ _ q3
    exact ⟨o, m, y, (hs b o eb (by omega)).mp q1, hP _ _ _ (by omega) l2 q2, hCt.mono hl hP hs n _ _ _ (by omega) q3⟩
theorem hCh.mono {P P' : Nat → Nat → Fm → Prop} {s s' : Nat → Int → Prop} {a c : Nat} (hl : ∀ a e y, P a e y → a < e) (hP : ∀ b m y, a ≤ b → m ≤ c → P b m y → P' b m y) (hs : ∀ b o, a ≤ b → b ≤ c → (s b o ↔ s' b o)) {x : Fm} (h : hCh P s a c x) : hCh P' s' a c x := by
  obtain ⟨n, m, y, q1, q2⟩ := h
  have l1 := hl _ _ _ q1
  have l2 := hCt.le hl n _ _ _ _ q2
  exact ⟨n, m, y, hP _ _ _ (Nat.le_refl a) l2 q1, hCt.mono hl hP hs n _ _ _ (by omega) q2⟩
section AGREE
variable {R Q : Rw}
theorem iP.lt : ∀ d a c x, iP R d a c x → a < c
  | 0, _, _, _, h => h.elim
  | d + 1, a, c, x, h => by
    have ih := iP.lt d
    have ihE := hCh.lt (s := hAd (iS R)) (hCh.lt (s := hMu (iS R)) ih)
    rcases h with ⟨v, p1, p2, p3⟩ | ⟨w, u, p1, p2⟩ | ⟨p1, z, p2, p3⟩ | ⟨p1, e, z, p2, p3, p4, p5⟩ | ⟨w, p1, p2⟩
    · omega
    · obtain ⟨-, -, b1, b2, ⟨-, q1⟩, -, ⟨-, q2⟩, -, q3⟩ := p1
      omega
    · have := ih _ _ _ p2; omega
    · have := ihE _ _ _ p2; omega
    · have := p1.2; omega
theorem iPd.lt {d a c : Nat} {x : Fm} (h : iPd R d a c x) : a < c := hCh.lt (iP.lt d) a c x h
theorem iE.lt {d a c : Nat} {x : Fm} (h : iE R d a c x) : a < c := hCh.lt (P := iPd R d) (fun _ _ _ h => iPd.lt h) a c x h
theorem hMu.ag {e c : Nat} (h : ∀ k, e ≤ k → k ≤ c → Q k = R k) (a : Nat) (o : Int) (ea : e ≤ a) (ha : a ≤ c) : hMu (iS R) a o ↔ hMu (iS Q) a o := by
  unfold hMu iS
  rw [h a ea ha]
theorem hAd.ag {e c : Nat} (h : ∀ k, e ≤ k → k ≤ c → Q k = R k) (a : Nat) (o : Int) (ea : e ≤ a) (ha : a ≤ c) : hAd (iS R) a o ↔ hAd (iS Q) a o := by
  unfold hAd iS
  rw [h a ea ha]
theorem iP.ag : ∀ d a c x, (∀ k, a ≤ k → k < c → Q k = R k) → iP R d a c x → iP Q d a c x
  | 0, _, _, _, _, h => h.elim
  | d + 1, a, c, x, hR, h => by
    have ih := iP.ag d
    have lP : ∀ a c x, iP R d a c x → a < c := iP.lt d
    have lM := hCh.lt (s := hMu (iS R)) lP
    rcases h with ⟨v, p1, p2, p3⟩ | ⟨w, u, p1, p2⟩ | ⟨p1, z, p2, p3⟩ | ⟨p1, e, z, p2, p3, p4, p5⟩ | ⟨w, p1, p2⟩
    · exact Or.inl ⟨v, (hR a (by omega) (by omega)).trans p1, p2, p3⟩
    · obtain ⟨s1, s2, b1, b2, ⟨s3, q1⟩, s4, ⟨s5, q2⟩, s6, q3⟩ := p1
      exact Or.inr (Or.inl ⟨w, u, ⟨(hR _ (by omega) (by omega)).trans s1, (hR _ (by omega) (by omega)).trans s2, b1, b2, ⟨(hR _ (by omega) (by omega)).trans s3, q1⟩, (hR _ (by omega) (by omega)).trans s4, ⟨(hR _ (by omega) (by omega)).trans s5, q2⟩, (hR _ (by omega) (by omega)).trans s6, q3⟩, p2⟩)
    · have l := lP _ _ _ p2
      exact Or.inr (Or.inr (Or.inl ⟨(hR a (by omega) (by omega)).trans p1, z, ih _ _ _ (fun k k1 k2 => hR k (by omega) k2) p2, p3⟩))
    · have l := hCh.lt (s := hAd (iS R)) lM _ _ _ p2
      have hR2 : ∀ k, a + 1 ≤ k → k ≤ e → Q k = R k := fun k k1 hk => hR k (by omega) (by omega)
      refine Or.inr (Or.inr (Or.inr (Or.inl ⟨(hR a (by omega) (by omega)).trans p1, e, z, ?_, (hR e (by omega) (by omega)).trans p3, p4, p5⟩)))
      exact hCh.mono lM (fun a' c' y ha hc q => hCh.mono lP (fun a2 c2 y2 ha2 hc2 q2 => ih a2 c2 y2 (fun k k1 hk => hR2 k (by omega) (by omega)) q2) (hMu.ag (fun k k1 hk => hR2 k (by omega) (by omega))) q) (hAd.ag hR2) p2
    · exact Or.inr (Or.inr (Or.inr (Or.inr ⟨w, ⟨(hR a (by omega) (by have := p1.2; omega)).trans p1.1, p1.2⟩, p2⟩)))
theorem iPd.ag {d a c : Nat} {x : Fm} (hR : ∀ k, a ≤ k → k ≤ c → Q k = R k) (h : iPd R d a c x) : iPd Q d a c x := hCh.mono (iP.lt d) (fun a2 c2 y2 ha hc q => iP.ag d a2 c2 y2 (fun k k1 hk => hR k (by omega) (by omega)) q) (hMu.ag hR) h
theorem iE.ag {d a c : Nat} {x : Fm} (hR : ∀ k, a ≤ k → k ≤ c → Q k = R k) (h : iE R d a c x) : iE Q d a c x := hCh.mono (P := iPd R d) (P' := iPd Q d) (fun _ _ _ h => iPd.lt h) (fun a2 c2 y2 ha hc q => iPd.ag (fun k k1 hk => hR k (by omega) (by omega)) q) (hAd.ag hR) h
end AGREE
/-! chains that are still open: nothing is said of what stands behind them -/
def oCt (P : Nat → Nat → Fm → Prop) (s : Nat → Int → Prop) : Nat → Nat → Nat → Fm → Prop
  | 0, a, c, x => P a c x
  | n + 1, a, c, x => ∃ b o y z, oCt P s n a b z ∧ s b o ∧ P (b + 1) c y ∧ x = z ++ (y ++ [(opS o, 0, 0)])
theorem oCt.k {P : Nat → Nat → Fm → Prop} {s : Nat → Int → Prop} {a : Nat} : ∀ n c x, oCt P s n a c x → hK P s a x c
  | 0, c, x, h => hK.one h
  | n + 1, c, x, h => by
    obtain ⟨b, o, y, z, q1, q2, q3, rfl⟩ := h
    exact (oCt.k n b z q1).turn q2 q3
theorem oCt.mono {P P' : Nat → Nat → Fm → Prop} {s s' : Nat → Int → Prop} {a : Nat} : ∀ n c x, (∀ a e y, P a e y → a < e) → (∀ a e y, e ≤ c → P a e y → P' a e y) → (∀ a o, a < c → s a o → s' a o) → oCt P s n a c x → oCt P' s' n a c x
  | 0, c, x, _, hP, _, h => hP _ _ _ (Nat.le_refl _) h
  | n + 1, c, x, hl, hP, hs, h => by
    obtain ⟨b, o, y, z, q1, q2, q3, e⟩ := h
    have l := hl _ _ _ q3
    exact ⟨b, o, y, z, oCt.mono n b z hl (fun a e y he => hP a e y (by omega)) (fun a o ha => hs a o (by omega)) q1, hs b o (by omega) q2, hP _ _ _ (Nat.le_refl _) q3, e⟩
section OPEN
variable {R Q : Rw} {d a b c : Nat} {x y z : Fm} {o : Int}
def oPd (R : Rw) (d a c : Nat) (x : Fm) : Prop := ∃ n, oCt (iP R d) (hMu (iS R)) n a c x
def oE (R : Rw) (d a c : Nat) (x : Fm) : Prop := oPd R d a c x ∨ ∃ n b o y z, oCt (iPd R d) (hAd (iS R)) n a b z ∧ hAd (iS R) b o ∧ oPd R d (b + 1) c y ∧ x = z ++ (y ++ [(opS o, 0, 0)])
theorem oPd.one (h : iP R d a c x) : oPd R d a c x := ⟨0, h⟩
theorem oPd.turn (h : oPd R d a b z) (hs : hMu (iS R) b o) (hp : iP R d (b + 1) c y) : oPd R d a c (z ++ (y ++ [(opS o, 0, 0)])) := h.elim fun n q => ⟨n + 1, b, o, y, z, q, hs, hp, rfl⟩
theorem oPd.fin (h : oPd R d a c x) (hs : ∀ o, ¬ hMu (iS R) c o) : iPd R d a c x := h.elim fun n q => (oCt.k n c x q).fin hs
theorem oPd.ag (hR : ∀ k, k < c → Q k = R k) (h : oPd R d a c x) : oPd Q d a c x := h.elim fun n q => ⟨n, oCt.mono n c x (iP.lt d) (fun a2 c2 y2 hc q => iP.ag d a2 c2 y2 (fun k _ hk => hR k (by omega)) q) (fun a o ha q => ⟨(hR a ha).trans q.1, q.2⟩) q⟩
theorem oPd.lt (h : oPd R d a c x) : a < c := by
  obtain ⟨n, q⟩ := h
  have key : ∀ n c x, oCt (iP R d) (hMu (iS R)) n a c x → a < c := by
    intro n
    induction n with
    | zero => intro c x h; exact iP.lt d a c x h
    | succ n ih => intro c x h; obtain ⟨b, o, y, z, q1, -, q3, -⟩ := h; have := ih _ _ q1; have := iP.lt d _ _ _ q3; omega
  exact key n c x q
theorem oE.one (h : oPd R d a c x) : oE R d a c x := Or.inl h
/-- behind an open E a sign + or - and an open PRODUCT -/
theorem oE.turn (h : oE R d a b z) (hs : hAd (iS R) b o) (hp : oPd R d (b + 1) c y) : oE R d a c (z ++ (y ++ [(opS o, 0, 0)])) := by
  have hn : ∀ q, ¬ hMu (iS R) b q := fun q h2 => by
    have e := (pr_ne hs.1 h2.1).2
    have h3 := hs.2
    have h4 := h2.2
    omega
  rcases h with h | ⟨n, e, q, y2, z2, h1, h2, h3, rfl⟩
  · exact Or.inr ⟨0, b, o, y, z, h.fin hn, hs, hp, rfl⟩
  · exact Or.inr ⟨n + 1, b, o, y, _, ⟨e, q, y2, z2, h1, h2, h3.fin hn, rfl⟩, hs, hp, rfl⟩
theorem oE.fin (h : oE R d a c x) (hs : ∀ o, ¬ hMu (iS R) c o ∧ ¬ hAd (iS R) c o) : iE R d a c x := by
  rcases h with h | ⟨n, b, o, y, z, h1, h2, h3, rfl⟩
  · exact hK.fin (hK.one (h.fin fun o => (hs o).1)) fun o => (hs o).2
  · exact hK.fin ((oCt.k n b z h1).turn h2 (h3.fin fun o => (hs o).1)) fun o => (hs o).2
theorem oE.ag (hR : ∀ k, k < c → Q k = R k) (h : oE R d a c x) : oE Q d a c x := by
  rcases h with h | ⟨n, b, o, y, z, h1, h2, h3, e⟩
  · exact Or.inl (h.ag hR)
  · have l := h3.lt
    exact Or.inr ⟨n, b, o, y, z, oCt.mono n b z (fun _ _ _ h => iPd.lt h) (fun a2 c2 y2 hc q => iPd.ag (fun k _ hk => hR k (by omega)) q) (fun a o ha q => ⟨(hR a (by omega)).trans q.1, q.2⟩) h1, ⟨(hR b (by omega)).trans h2.1, h2.2⟩, h3.ag hR, e⟩
end OPEN
/-! a formula's items out of its steps: by a pile of rows -/
abbrev Its : Type := List (Int × Int)
def sgS (s : Int) : Int := if s = 5 then 43 else if s = 6 then 45 else if s = 7 then 42 else 47
def unS (k : List Its) (s : St) : List Its :=
  if s.1 = 0 then [(0, s.2.1)] :: k else if s.1 = 1 then [(3, s.2.1)] :: k else if s.1 = 2 then [(2, 0), (1, 40), (3, s.2.1), (1, 58), (3, s.2.2), (1, 41)] :: k
  else if s.1 = 3 then (match k with
    | x :: r => ((1, 40) :: (x ++ [(1, 41)])) :: r
    | [] => [])
  else if s.1 = 4 then (match k with
    | x :: r => ((1, 45) :: x) :: r
    | [] => [])
  else (match k with
    | y :: x :: r => (x ++ ((1, sgS s.1) :: y)) :: r
    | _ => [])
def un (k : List Its) (L : Fm) : List Its := L.foldl unS k
def seg (R : Rw) (a c : Nat) : Its := (List.range' a (c - a)).map R
theorem un_app (k : List Its) (x y : Fm) : un k (x ++ y) = un (un k x) y := List.foldl_append
theorem un_one (k : List Its) (s : St) : un k [s] = unS k s := rfl
section SEG
variable {R : Rw} {a b c : Nat}
theorem seg_cons (h : a < c) : seg R a c = R a :: seg R (a + 1) c := by
  unfold seg
  rw [show c - a = (c - (a + 1)) + 1 by omega, List.range'_succ]
  rfl
theorem seg_nil : seg R a a = [] := by
  unfold seg
  rw [Nat.sub_self]
  rfl
theorem seg_app (h1 : a ≤ b) (h2 : b ≤ c) : seg R a b ++ seg R b c = seg R a c := by
  obtain ⟨k, rfl⟩ := Nat.le.dest h1
  obtain ⟨j, rfl⟩ := Nat.le.dest h2
  have e := List.range'_append (s := a) (m := k) (n := j) (step := 1)
  rw [Nat.one_mul] at e
  unfold seg
  rw [← List.map_append, show a + k - a = k by omega, show a + k + j - (a + k) = j by omega, show a + k + j - a = k + j by omega, e]
theorem seg_snoc (h : a ≤ b) : seg R a (b + 1) = seg R a b ++ [R b] := by
  rw [← seg_app h (Nat.le_succ b), seg_cons (Nat.lt_succ_self b), seg_nil]
theorem seg_len : (seg R a c).length = c - a := by
  unfold seg
  rw [List.length_map, List.length_range']
theorem seg_get {k : Nat} (h : k < c - a) : (seg R a c)[k]'(by rw [seg_len]; exact h) = R (a + k) := by
  unfold seg
  rw [List.getElem_map, List.getElem_range', Nat.one_mul]
theorem opS_n {o : Int} : opS o ≠ 0 ∧ opS o ≠ 1 ∧ opS o ≠ 2 ∧ opS o ≠ 3 ∧ opS o ≠ 4 := by
  unfold opS
  repeat' split
  all_goals decide
theorem sgS_op {o : Int} (h : o = 43 ∨ o = 45 ∨ o = 42 ∨ o = 47) : sgS (opS o) = o := by
  rcases h with rfl | rfl | rfl | rfl <;> decide
theorem unS_op {o : Int} {k : List Its} {x y : Its} (h : o = 43 ∨ o = 45 ∨ o = 42 ∨ o = 47) : unS (y :: x :: k) (opS o, 0, 0) = (x ++ ((1, o) :: y)) :: k := by
  obtain ⟨h0, h1, h2, h3, h4⟩ := opS_n (o := o)
  unfold unS
  rw [if_neg h0, if_neg h1, if_neg h2, if_neg h3, if_neg h4, sgS_op h]
theorem hCt.un {P : Nat → Nat → Fm → Prop} {s : Nat → Int → Prop} (hl : ∀ a e y, P a e y → a < e) (hP : ∀ a e y, P a e y → ∀ k, un k y = seg R a e :: k) (hs : ∀ b o, s b o → R b = (1, o) ∧ (o = 43 ∨ o = 45 ∨ o = 42 ∨ o = 47)) {a : Nat} : ∀ n acc b c x, a ≤ b → (∀ k, un k acc = seg R a b :: k) → hCt P s n acc b c x → ∀ k, un k x = seg R a c :: k
  | 0, acc, b, c, x, _, hu, h, k => by rw [h.2.2, h.2.1]; exact hu k
  | n + 1, acc, b, c, x, ab, hu, h, k => by
    obtain ⟨o, m, y, q1, q2, q3⟩ := h
    obtain ⟨s1, s2⟩ := hs b o q1
    have l := hl _ _ _ q2
    refine hCt.un hl hP hs n _ m c x (by omega) (fun k => ?_) q3 k
    rw [un_app, un_app, hu, hP _ _ _ q2, un_one, unS_op s2, ← seg_app ab (show b ≤ m by omega), seg_cons (show b < m by omega), s1]
theorem hCh.un {P : Nat → Nat → Fm → Prop} {s : Nat → Int → Prop} (hl : ∀ a e y, P a e y → a < e) (hP : ∀ a e y, P a e y → ∀ k, un k y = seg R a e :: k) (hs : ∀ b o, s b o → R b = (1, o) ∧ (o = 43 ∨ o = 45 ∨ o = 42 ∨ o = 47)) {a c : Nat} {x : Fm} (h : hCh P s a c x) (k : List Its) : un k x = seg R a c :: k := by
  obtain ⟨n, m, y, q1, q2⟩ := h
  have l := hl _ _ _ q1
  exact hCt.un hl hP hs n y m c x (by omega) (hP _ _ _ q1) q2 k
theorem mu_s (b : Nat) (o : Int) (h : hMu (iS R) b o) : R b = (1, o) ∧ (o = 43 ∨ o = 45 ∨ o = 42 ∨ o = 47) := ⟨h.1, by have := h.2; omega⟩
theorem ad_s (b : Nat) (o : Int) (h : hAd (iS R) b o) : R b = (1, o) ∧ (o = 43 ∨ o = 45 ∨ o = 42 ∨ o = 47) := ⟨h.1, by have := h.2; omega⟩
theorem iP.un : ∀ d a c x, iP R d a c x → ∀ k, un k x = seg R a c :: k
  | 0, _, _, _, h, _ => h.elim
  | d + 1, a, c, x, h, k => by
    have ih := iP.un d
    have lP : ∀ a c x, iP R d a c x → a < c := iP.lt d
    have lM := hCh.lt (s := hMu (iS R)) lP
    rcases h with ⟨v, p1, p2, p3⟩ | ⟨w, u, p1, p2⟩ | ⟨p1, z, p2, p3⟩ | ⟨p1, e, z, p2, p3, p4, p5⟩ | ⟨w, p1, p2⟩
    · have p1 : R a = (0, v) := p1
      rw [p3, p2, seg_cons (Nat.lt_succ_self a), seg_nil, p1]
      rfl
    · obtain ⟨s1, s2, b1, b2, ⟨s3, q1⟩, s4, ⟨s5, q2⟩, s6, q3⟩ := p1
      have s1 : R a = (2, 0) := s1
      have s2 : R (a + 1) = (1, 40) := s2
      subst q1 q2
      have s4 : R (a + 2 + 1) = (1, 58) := s4
      have s6 : R (a + 2 + 1 + 1 + 1) = (1, 41) := s6
      rw [p2, q3, seg_cons (by omega), seg_cons (by omega), seg_cons (by omega), seg_cons (by omega), seg_cons (by omega), seg_cons (by omega), seg_nil, s1, s2, s3, s4, s5, s6]
      rfl
    · have p1 : R a = (1, 45) := p1
      have l := lP _ _ _ p2
      rw [p3, un_app, ih _ _ _ p2, seg_cons (show a < c by omega), p1]
      rfl
    · have p1 : R a = (1, 40) := p1
      have p3 : R e = (1, 41) := p3
      have l := hCh.lt (s := hAd (iS R)) lM _ _ _ p2
      have hu := hCh.un lM (fun _ _ _ h k => hCh.un lP ih mu_s h k) ad_s p2 k
      rw [p5, un_app, hu, p4, seg_cons (show a < e + 1 by omega), seg_snoc (by omega), p1, p3]
      rfl
    · have q1 : R a = (3, w) := p1.1
      rw [p2, p1.2, seg_cons (Nat.lt_succ_self a), seg_nil, q1]
      rfl
theorem iPd.un {d : Nat} {x : Fm} (h : iPd R d a c x) (k : List Its) : un k x = seg R a c :: k := hCh.un (iP.lt d) (iP.un d) mu_s h k
theorem iE.un {d : Nat} {x : Fm} (h : iE R d a c x) (k : List Its) : un k x = seg R a c :: k := hCh.un (P := iPd R d) (fun _ _ _ h => iPd.lt h) (fun _ _ _ h k => iPd.un h k) ad_s h k
end SEG
/-- the same steps: the same items -/
theorem iE.same {R Q : Rw} {d n m : Nat} {x : Fm} (h1 : iE R d 0 n x) (h2 : iE Q d 0 m x) : n = m ∧ ∀ k, k < n → R k = Q k := by
  have e : seg R 0 n = seg Q 0 m := (List.cons.inj ((h1.un []).symm.trans (h2.un []))).1
  have e1 : n = m := by
    have := congrArg List.length e
    rw [seg_len, seg_len] at this
    omega
  subst e1
  refine ⟨rfl, fun k hk => ?_⟩
  have g1 := seg_get (R := R) (a := 0) (c := n) (k := k) (by omega)
  have g2 := seg_get (R := Q) (a := 0) (c := n) (k := k) (by omega)
  rw [Nat.zero_add] at g1 g2
  rw [← g1, ← g2]
  simp only [e]
/-! what is asked of each REF and each SPAN, of steps and of items -/
section REFS6
variable {R : Rw} {g : Int → Prop} {h : Int → Int → Prop}
def okL (g : Int → Prop) (h : Int → Int → Prop) (L : Fm) : Prop := ∀ s ∈ L, (s.1 = 1 ∨ s.1 = 2) → g s.2.1 ∧ g s.2.2 ∧ h s.2.1 s.2.2
def okI (R : Rw) (g : Int → Prop) (h : Int → Int → Prop) (k : Nat) : Prop := (∀ w, R k = (3, w) → g w) ∧ (R k = (2, 0) → ∀ w u, R (k + 2) = (3, w) → R (k + 4) = (3, u) → h w u)
def okIs (R : Rw) (g : Int → Prop) (h : Int → Int → Prop) (a c : Nat) : Prop := ∀ k, a ≤ k → k < c → okI R g h k
theorem okL.app {x y : Fm} : okL g h (x ++ y) ↔ okL g h x ∧ okL g h y := by
  constructor
  · exact fun q => ⟨fun s hs => q s (List.mem_append.mpr (Or.inl hs)), fun s hs => q s (List.mem_append.mpr (Or.inr hs))⟩
  · exact fun q s hs => (List.mem_append.mp hs).elim (q.1 s) (q.2 s)
theorem okL.one {s : St} : okL g h [s] ↔ ((s.1 = 1 ∨ s.1 = 2) → g s.2.1 ∧ g s.2.2 ∧ h s.2.1 s.2.2) := by
  constructor
  · exact fun q => q s List.mem_cons_self
  · intro q t ht
    rw [List.mem_singleton] at ht
    subst ht
    exact q
theorem okIs.app {a b c : Nat} (h1 : a ≤ b) (h2 : b ≤ c) : okIs R g h a c ↔ okIs R g h a b ∧ okIs R g h b c := by
  constructor
  · exact fun q => ⟨fun k k1 k2 => q k k1 (by omega), fun k k1 k2 => q k (by omega) k2⟩
  · intro q k k1 k2
    by_cases e : k < b
    · exact q.1 k k1 e
    · exact q.2 k (by omega) k2
theorem okIs.one {a : Nat} : okIs R g h a (a + 1) ↔ okI R g h a := by
  constructor
  · exact fun q => q a (Nat.le_refl a) (Nat.lt_succ_self a)
  · intro q k k1 k2
    have : k = a := by omega
    subst this
    exact q
theorem okI.o {a : Nat} {v c : Int} (ha : R a = (c, v)) (hc : c ≠ 2 ∧ c ≠ 3) : okI R g h a := ⟨fun w q => absurd (pr_ne ha q).1 hc.2, fun q => absurd (pr_ne ha q).1 hc.1⟩
theorem hCt.ok {P : Nat → Nat → Fm → Prop} {s : Nat → Int → Prop} (hl : ∀ a e y, P a e y → a < e) (hP : ∀ a e y, P a e y → (okL g h y ↔ okIs R g h a e)) (hs : ∀ b o, s b o → R b = (1, o) ∧ (o = 43 ∨ o = 45 ∨ o = 42 ∨ o = 47)) {a : Nat} : ∀ n acc b c x, a ≤ b → (okL g h acc ↔ okIs R g h a b) → hCt P s n acc b c x → (okL g h x ↔ okIs R g h a c)
  | 0, acc, b, c, x, _, hu, q => by rw [q.2.2, q.2.1]; exact hu
  | n + 1, acc, b, c, x, ab, hu, q => by
    obtain ⟨o, m, y, q1, q2, q3⟩ := q
    obtain ⟨s1, s2⟩ := hs b o q1
    have l := hl _ _ _ q2
    refine hCt.ok hl hP hs n _ m c x (by omega) ?_ q3
    rw [okL.app, okL.app, hu, hP _ _ _ q2, okIs.app ab (show b ≤ m by omega), okIs.app (show b ≤ b + 1 by omega) (show b + 1 ≤ m by omega), okIs.one, okL.one]
    have e1 : okI R g h b := okI.o s1 (by decide)
    have e2 := opS_n (o := o)
    constructor
    · exact fun w => ⟨w.1, e1, w.2.1⟩
    · exact fun w => ⟨w.1, w.2.2, fun z => by rcases z with z | z; exact absurd z e2.2.1; exact absurd z e2.2.2.1⟩
theorem hCh.ok {P : Nat → Nat → Fm → Prop} {s : Nat → Int → Prop} (hl : ∀ a e y, P a e y → a < e) (hP : ∀ a e y, P a e y → (okL g h y ↔ okIs R g h a e)) (hs : ∀ b o, s b o → R b = (1, o) ∧ (o = 43 ∨ o = 45 ∨ o = 42 ∨ o = 47)) {a c : Nat} {x : Fm} (q : hCh P s a c x) : okL g h x ↔ okIs R g h a c := by
  obtain ⟨n, m, y, q1, q2⟩ := q
  have l := hl _ _ _ q1
  exact hCt.ok hl hP hs n y m c x (by omega) (hP _ _ _ q1) q2
theorem iP.ok (hh : ∀ w, h w w) : ∀ d a c x, iP R d a c x → (okL g h x ↔ okIs R g h a c)
  | 0, _, _, _, q => q.elim
  | d + 1, a, c, x, q => by
    have ih := iP.ok hh d
    have lP : ∀ a c x, iP R d a c x → a < c := iP.lt d
    have lM := hCh.lt (s := hMu (iS R)) lP
    rcases q with ⟨v, p1, p2, p3⟩ | ⟨w, u, p1, p2⟩ | ⟨p1, z, p2, p3⟩ | ⟨p1, e, z, p2, p3, p4, p5⟩ | ⟨w, p1, p2⟩
    · rw [p3, p2, okL.one, okIs.one]
      exact ⟨fun _ => okI.o p1 (by decide), fun _ z => by rcases z with z | z; exact absurd z (show ¬ (0 : Int) = 1 by decide); exact absurd z (show ¬ (0 : Int) = 2 by decide)⟩
    · obtain ⟨s1, s2, b1, b2, ⟨s3, q1⟩, s4, ⟨s5, q2⟩, s6, q3⟩ := p1
      have s1 : R a = (2, 0) := s1
      subst q1 q2
      rw [p2, q3, okL.one]
      constructor
      · intro z
        obtain ⟨z1, z2, z3⟩ := z (Or.inr rfl)
        intro k k1 k2
        rcases (show k = a ∨ k = a + 1 ∨ k = a + 2 ∨ k = a + 2 + 1 ∨ k = a + 2 + 1 + 1 ∨ k = a + 2 + 1 + 1 + 1 by omega) with rfl | rfl | rfl | rfl | rfl | rfl
        · exact ⟨fun w2 q => absurd (pr_ne s1 q).1 (by decide), fun _ w2 u2 e1 e2 => by
            rw [← (pr_ne s3 e1).2, ← (pr_ne s5 e2).2]; exact z3⟩
        · exact okI.o s2 (by decide)
        · exact ⟨fun w2 q => by rw [← (pr_ne s3 q).2]; exact z1, fun q => absurd (pr_ne s3 q).1 (by decide)⟩
        · exact okI.o s4 (by decide)
        · exact ⟨fun w2 q => by rw [← (pr_ne s5 q).2]; exact z2, fun q => absurd (pr_ne s5 q).1 (by decide)⟩
        · exact okI.o s6 (by decide)
      · intro z _
        exact ⟨(z (a + 2) (by omega) (by omega)).1 _ s3, (z (a + 2 + 1 + 1) (by omega) (by omega)).1 _ s5, (z a (by omega) (by omega)).2 s1 _ _ s3 s5⟩
    · have p1 : R a = (1, 45) := p1
      have l := lP _ _ _ p2
      rw [p3, okL.app, ih _ _ _ p2, okL.one, okIs.app (show a ≤ a + 1 by omega) (show a + 1 ≤ c by omega), okIs.one]
      exact ⟨fun z => ⟨okI.o p1 (by decide), z.1⟩, fun z => ⟨z.2, fun q => by rcases q with q | q <;> exact absurd q (by decide)⟩⟩
    · have p1 : R a = (1, 40) := p1
      have p3 : R e = (1, 41) := p3
      have l := hCh.lt (s := hAd (iS R)) lM _ _ _ p2
      have hu := hCh.ok lM (fun _ _ _ h => hCh.ok lP ih mu_s h) ad_s p2
      rw [p5, okL.app, hu, okL.one, p4, okIs.app (show a ≤ a + 1 by omega) (show a + 1 ≤ e + 1 by omega), okIs.one, okIs.app (show a + 1 ≤ e by omega) (show e ≤ e + 1 by omega), okIs.one]
      exact ⟨fun z => ⟨okI.o p1 (by decide), z.1, okI.o p3 (by decide)⟩, fun z => ⟨z.2.1, fun q => by rcases q with q | q <;> exact absurd q (by decide)⟩⟩
    · have q1 : R a = (3, w) := p1.1
      rw [p2, p1.2, okL.one, okIs.one]
      exact ⟨fun z => ⟨fun w2 q => by rw [← (pr_ne q1 q).2]; exact (z (Or.inl rfl)).1, fun q => absurd (pr_ne q1 q).1 (by decide)⟩, fun z _ => ⟨z.1 _ q1, z.1 _ q1, hh w⟩⟩
theorem iE.ok (hh : ∀ w, h w w) {d a c : Nat} {x : Fm} (q : iE R d a c x) : okL g h x ↔ okIs R g h a c := hCh.ok (P := iPd R d) (fun _ _ _ h => iPd.lt h) (fun _ _ _ q => hCh.ok (iP.lt d) (iP.ok hh d) mu_s q) ad_s q
end REFS6
/-! the sums of a formula, in their order: one of them made longer -/
def is2 (s : St) : Bool := decide (s.1 = 2)
def is2i (s : Int × Int) : Bool := decide (s.1 = 2)
def upR1 (R : Rw) (j : Nat) (v : Int × Int) : Rw := fun k => if k = j then v else R k
theorem upR1_ne {R : Rw} {j k : Nat} {v : Int × Int} (h : k ≠ j) : upR1 R j v k = R k := if_neg h
theorem upR1_eq {R : Rw} {j : Nat} {v : Int × Int} : upR1 R j v j = v := if_pos rfl
def STp (P : Rw → Nat → Nat → Fm → Prop) (R : Rw) (a c : Nat) (x : Fm) : Prop := x.countP is2 = (seg R a c).countP is2i ∧ ∀ l (hl : l < x.length), (x[l]).1 = 2 → ∃ j, a ≤ j ∧ j + 5 < c ∧ R j = (2, 0) ∧ R (j + 2) = (3, (x[l]).2.1) ∧ R (j + 4) = (3, (x[l]).2.2) ∧ (x.take l).countP is2 = (seg R a j).countP is2i ∧ ∀ u, P (upR1 R (j + 4) (3, u)) a c (x.set l (2, (x[l]).2.1, u))
theorem is2_op {o : Int} : List.countP is2 [(opS o, 0, 0)] = 0 := by
  rw [List.countP_singleton]
  have : is2 (opS o, 0, 0) = false := by
    unfold is2
    exact decide_eq_false (opS_n (o := o)).2.2.1
  rw [this]; rfl
section STS
variable {P : Rw → Nat → Nat → Fm → Prop} {s : Rw → Nat → Int → Prop}
/-- what is known of the chain's part that is read already -/
def SA (P : Rw → Nat → Nat → Fm → Prop) (s : Rw → Nat → Int → Prop) (R : Rw) (a b : Nat) (x : Fm) : Prop := x.countP is2 = (seg R a b).countP is2i ∧ (∀ Q : Rw, (∀ k, a ≤ k → k ≤ b → Q k = R k) → hK (P Q) (s Q) a x b) ∧
  ∀ l (hl : l < x.length), (x[l]).1 = 2 → ∃ j, a ≤ j ∧ j + 5 < b ∧ R j = (2, 0) ∧ R (j + 2) = (3, (x[l]).2.1) ∧ R (j + 4) = (3, (x[l]).2.2) ∧ (x.take l).countP is2 = (seg R a j).countP is2i ∧ ∀ u, hK (P (upR1 R (j + 4) (3, u))) (s (upR1 R (j + 4) (3, u))) a (x.set l (2, (x[l]).2.1, u)) b
theorem hCt.st (hl : ∀ R a e y, P R a e y → a < e) (hag : ∀ Q R a c y, (∀ k, a ≤ k → k ≤ c → Q k = R k) → P R a c y → P Q a c y) (hST : ∀ R a c y, P R a c y → STp P R a c y) (hs : ∀ R b o, s R b o → R b = (1, o)) (hsa : ∀ Q R b o, Q b = R b → (s Q b o ↔ s R b o)) {R : Rw} {a : Nat} : ∀ n acc b c x, a ≤ b → SA P s R a b acc → hCt (P R) (s R) n acc b c x → STp (fun R => hCh (P R) (s R)) R a c x
  | 0, acc, b, c, x, ab, ⟨h1, h2, h3⟩, h => by
    obtain ⟨g1, g2, g3⟩ := h
    subst g2 g3
    refine ⟨h1, fun l hl2 q => ?_⟩
    obtain ⟨j, j1, j2, j3, j4, j5, j6, j7⟩ := h3 l hl2 q
    exact ⟨j, j1, j2, j3, j4, j5, j6, fun u => (j7 u).fin (fun o w => g1 o ((hsa _ _ _ _ (upR1_ne (by omega))).mp w))⟩
  | n + 1, acc, b, c, x, ab, ⟨h1, h2, h3⟩, h => by
    obtain ⟨o, m, y, q1, q2, q3⟩ := h
    have l := hl _ _ _ _ q2
    obtain ⟨i1, i2⟩ := hST _ _ _ _ q2
    have rb := hs _ _ _ q1
    have es : ∀ e, b ≤ e → seg R a e = seg R a b ++ seg R b e := fun e he => (seg_app ab he).symm
    have eb : ∀ e, b < e → seg R b e = R b :: seg R (b + 1) e := fun e he => seg_cons he
    have nb : is2i (R b) = false := by rw [rb]; rfl
    have cnt : ∀ e, b < e → (seg R a e).countP is2i = (seg R a b).countP is2i + (seg R (b + 1) e).countP is2i := fun e he => by
      rw [es e (by omega), eb e he, List.countP_append, List.countP_cons_of_neg (by rw [nb]; decide)]
    refine hCt.st hl hag hST hs hsa n _ m c x (by omega) ⟨?_, fun Q hQ => ?_, fun l2 hl2 q => ?_⟩ q3
    · rw [List.countP_append, List.countP_append, is2_op, h1, i1, cnt m (by omega)]; rfl
    · exact (h2 Q (fun k k1 k2 => hQ k k1 (by omega))).turn ((hsa _ _ _ _ (hQ b ab (by omega))).mpr q1) (hag Q R _ _ _ (fun k k1 k2 => hQ k (by omega) k2) q2)
    · by_cases e1 : l2 < acc.length
      · have ge : (acc ++ (y ++ [(opS o, 0, 0)]))[l2] = acc[l2] := List.getElem_append_left e1
        rw [ge] at q ⊢
        obtain ⟨j, j1, j2, j3, j4, j5, j6, j7⟩ := h3 l2 e1 q
        refine ⟨j, j1, by omega, j3, j4, j5, by rw [List.take_append_of_le_length (by omega)]; exact j6, fun u => ?_⟩
        rw [List.set_append_left _ _ e1]
        exact (j7 u).turn ((hsa _ _ _ _ (upR1_ne (by omega))).mpr q1) (hag _ R _ _ _ (fun k k1 k2 => upR1_ne (by omega)) q2)
      · obtain ⟨l3, rfl⟩ : ∃ l3, l2 = acc.length + l3 := ⟨l2 - acc.length, by omega⟩
        by_cases e2 : l3 < y.length
        · have ge : (acc ++ (y ++ [(opS o, 0, 0)]))[acc.length + l3] = y[l3] := by
            rw [List.getElem_append_right (by omega)]
            simp only [Nat.add_sub_cancel_left]
            exact List.getElem_append_left e2
          rw [ge] at q ⊢
          obtain ⟨j, j1, j2, j3, j4, j5, j6, j7⟩ := i2 l3 e2 q
          refine ⟨j, by omega, j2, j3, j4, j5, ?_, fun u => ?_⟩
          · rw [List.take_append, List.take_of_length_le (by omega), Nat.add_sub_cancel_left, List.take_append_of_le_length (by omega), List.countP_append, h1, j6, cnt j (by omega)]
          · rw [List.set_append_right _ _ (by omega), Nat.add_sub_cancel_left, List.set_append_left _ _ e2]
            exact (h2 _ (fun k k1 k2 => upR1_ne (by omega))).turn ((hsa _ _ _ _ (upR1_ne (by omega))).mpr q1) (j7 u)
        · exfalso
          have e3 : l3 = y.length := by
            rw [List.length_append, List.length_append, List.length_singleton] at hl2
            omega
          subst e3
          have ge : (acc ++ (y ++ [(opS o, 0, 0)]))[acc.length + y.length] = (opS o, 0, 0) := by
            rw [List.getElem_append_right (by omega)]
            simp only [Nat.add_sub_cancel_left]
            rw [List.getElem_append_right (by omega)]
            simp
          rw [ge] at q
          exact (opS_n (o := o)).2.2.1 q
theorem hCh.st (hl : ∀ R a e y, P R a e y → a < e) (hag : ∀ Q R a c y, (∀ k, a ≤ k → k ≤ c → Q k = R k) → P R a c y → P Q a c y) (hST : ∀ R a c y, P R a c y → STp P R a c y) (hs : ∀ R b o, s R b o → R b = (1, o)) (hsa : ∀ Q R b o, Q b = R b → (s Q b o ↔ s R b o)) (R : Rw) (a c : Nat) (x : Fm) (h : hCh (P R) (s R) a c x) : STp (fun R => hCh (P R) (s R)) R a c x := by
  obtain ⟨n, m, y, q1, q2⟩ := h
  have l := hl _ _ _ _ q1
  obtain ⟨i1, i2⟩ := hST _ _ _ _ q1
  refine hCt.st hl hag hST hs hsa n y m c x (by omega) ⟨i1, fun Q hQ => hK.one (hag Q R _ _ _ hQ q1), fun l2 hl2 q => ?_⟩ q2
  obtain ⟨j, j1, j2, j3, j4, j5, j6, j7⟩ := i2 l2 hl2 q
  exact ⟨j, j1, j2, j3, j4, j5, j6, fun u => hK.one (j7 u)⟩
end STS
theorem mu_a (Q R : Rw) (b : Nat) (o : Int) (h : Q b = R b) : hMu (iS Q) b o ↔ hMu (iS R) b o := by unfold hMu iS; rw [h]
theorem ad_a (Q R : Rw) (b : Nat) (o : Int) (h : Q b = R b) : hAd (iS Q) b o ↔ hAd (iS R) b o := by unfold hAd iS; rw [h]
/-- a sign behind or ahead: the sums are those of what it joins -/
theorem is2_one {s : St} (h : s.1 ≠ 2) : List.countP is2 [s] = 0 := by
  rw [List.countP_singleton]
  have : is2 s = false := decide_eq_false h
  rw [this]; rfl
theorem iP.st : ∀ d (R : Rw) a c x, iP R d a c x → STp (fun R => iP R d) R a c x
  | 0, _, _, _, _, h => h.elim
  | d + 1, R, a, c, x, h => by
    have ih := iP.st d
    have lP : ∀ R a c x, iP R d a c x → a < c := fun R => iP.lt d
    have aP : ∀ (Q R : Rw) a c y, (∀ k, a ≤ k → k ≤ c → Q k = R k) → iP R d a c y → iP Q d a c y := fun Q R a c y hR => iP.ag d a c y (fun k k1 k2 => hR k k1 (by omega))
    have iM := hCh.st (s := fun R => hMu (iS R)) lP aP ih (fun _ _ _ h => h.1) mu_a
    have lM : ∀ R a c x, hCh (iP R d) (hMu (iS R)) a c x → a < c := fun R => hCh.lt (lP R)
    have aM : ∀ (Q R : Rw) a c y, (∀ k, a ≤ k → k ≤ c → Q k = R k) → hCh (iP R d) (hMu (iS R)) a c y → hCh (iP Q d) (hMu (iS Q)) a c y := fun Q R a c y hR h => iPd.ag hR h
    have iA := hCh.st (P := fun R => hCh (iP R d) (hMu (iS R))) (s := fun R => hAd (iS R)) lM aM iM (fun _ _ _ h => h.1) ad_a
    rcases h with ⟨v, p1, p2, p3⟩ | ⟨w, u, p1, p2⟩ | ⟨p1, z, p2, p3⟩ | ⟨p1, e, z, p2, p3, p4, p5⟩ | ⟨w, p1, p2⟩
    · have p1 : R a = (0, v) := p1
      subst p2 p3
      refine ⟨by rw [seg_cons (Nat.lt_succ_self a), seg_nil, p1]; rfl, fun l hl q => ?_⟩
      rw [List.length_singleton] at hl
      obtain rfl : l = 0 := by omega
      exact absurd q (show ¬ (0 : Int) = 2 by decide)
    · obtain ⟨s1, s2, b1, b2, ⟨s3, q1⟩, s4, ⟨s5, q2⟩, s6, q3⟩ := p1
      have s1 : R a = (2, 0) := s1
      have s2 : R (a + 1) = (1, 40) := s2
      subst q1 q2 p2
      have s4 : R (a + 2 + 1) = (1, 58) := s4
      have s6 : R (a + 2 + 1 + 1 + 1) = (1, 41) := s6
      refine ⟨?_, fun l hl q => ?_⟩
      · rw [q3, seg_cons (by omega), seg_cons (by omega), seg_cons (by omega), seg_cons (by omega), seg_cons (by omega), seg_cons (by omega), seg_nil, s1, s2, s3, s4, s5, s6]
        rfl
      · rw [List.length_singleton] at hl
        obtain rfl : l = 0 := by omega
        refine ⟨a, Nat.le_refl a, by omega, s1, s3, s5, by rw [seg_nil]; rfl, fun u2 => Or.inr (Or.inl ⟨w, u2, ⟨?_, ?_, a + 2 + 1, a + 2 + 1 + 1 + 1, ⟨?_, rfl⟩, ?_, ⟨upR1_eq, rfl⟩, ?_, q3⟩, rfl⟩)⟩
        · exact (upR1_ne (by omega)).trans s1
        · exact (upR1_ne (by omega)).trans s2
        · exact (upR1_ne (by omega)).trans s3
        · exact (upR1_ne (by omega)).trans s4
        · exact (upR1_ne (by omega)).trans s6
    · have p1 : R a = (1, 45) := p1
      have l := lP _ _ _ _ p2
      obtain ⟨i1, i2⟩ := ih _ _ _ _ p2
      subst p3
      have nb : is2i (R a) = false := by rw [p1]; rfl
      refine ⟨by rw [List.countP_append, is2_one (by decide), i1, seg_cons (show a < c by omega), List.countP_cons_of_neg (by rw [nb]; decide)]; rfl, fun l2 hl2 q => ?_⟩
      by_cases e1 : l2 < z.length
      · have ge : (z ++ [((4 : Int), (0 : Int), (0 : Int))])[l2] = z[l2] := List.getElem_append_left e1
        rw [ge] at q ⊢
        obtain ⟨j, j1, j2, j3, j4, j5, j6, j7⟩ := i2 l2 e1 q
        refine ⟨j, by omega, j2, j3, j4, j5, ?_, fun u => ?_⟩
        · rw [List.take_append_of_le_length (by omega), j6, seg_cons (show a < j by omega), List.countP_cons_of_neg (by rw [nb]; decide)]
        · rw [List.set_append_left _ _ e1]
          exact Or.inr (Or.inr (Or.inl ⟨(upR1_ne (by omega)).trans p1, _, j7 u, rfl⟩))
      · exfalso
        rw [List.length_append, List.length_singleton] at hl2
        obtain rfl : l2 = z.length := by omega
        rw [List.getElem_append_right (by omega)] at q
        simp at q
    · have p1 : R a = (1, 40) := p1
      have p3 : R e = (1, 41) := p3
      have l := hCh.lt (s := hAd (iS R)) (lM R) _ _ _ p2
      obtain ⟨i1, i2⟩ := iA _ _ _ _ p2
      subst p4 p5
      have nb : is2i (R a) = false := by rw [p1]; rfl
      have ne : is2i (R e) = false := by rw [p3]; rfl
      refine ⟨?_, fun l2 hl2 q => ?_⟩
      · rw [List.countP_append, is2_one (by decide), i1, seg_cons (show a < e + 1 by omega), List.countP_cons_of_neg (by rw [nb]; decide), seg_snoc (by omega), List.countP_append, List.countP_singleton, ne]; rfl
      · by_cases e1 : l2 < z.length
        · have ge : (z ++ [((3 : Int), (0 : Int), (0 : Int))])[l2] = z[l2] := List.getElem_append_left e1
          rw [ge] at q ⊢
          obtain ⟨j, j1, j2, j3, j4, j5, j6, j7⟩ := i2 l2 e1 q
          refine ⟨j, by omega, by omega, j3, j4, j5, ?_, fun u => ?_⟩
          · rw [List.take_append_of_le_length (by omega), j6, seg_cons (show a < j by omega), List.countP_cons_of_neg (by rw [nb]; decide)]
          · rw [List.set_append_left _ _ e1]
            exact Or.inr (Or.inr (Or.inr (Or.inl ⟨(upR1_ne (by omega)).trans p1, e, _, j7 u, (upR1_ne (by omega)).trans p3, rfl, rfl⟩)))
        · exfalso
          rw [List.length_append, List.length_singleton] at hl2
          obtain rfl : l2 = z.length := by omega
          rw [List.getElem_append_right (by omega)] at q
          simp at q
    · have q1 : R a = (3, w) := p1.1
      have q2 := p1.2
      subst q2 p2
      refine ⟨by rw [seg_cons (Nat.lt_succ_self a), seg_nil, q1]; rfl, fun l hl q => ?_⟩
      rw [List.length_singleton] at hl
      obtain rfl : l = 0 := by omega
      exact absurd q (show ¬ (1 : Int) = 2 by decide)
theorem iE.st {d : Nat} {R : Rw} {a c : Nat} {x : Fm} (h : iE R d a c x) : STp (fun R => iE R d) R a c x :=
  hCh.st (P := fun R => iPd R d) (s := fun R => hAd (iS R)) (fun _ _ _ _ h => iPd.lt h) (fun _ _ _ _ _ hR h => iPd.ag hR h) (fun R a c y h => hCh.st (P := fun R => iP R d) (s := fun R => hMu (iS R)) (fun R => iP.lt d) (fun Q R a c y hR => iP.ag d a c y (fun k k1 k2 => hR k k1 (by omega))) (iP.st d) (fun _ _ _ h => h.1) mu_a R a c y h) (fun _ _ _ h => h.1) ad_a R a c x h
