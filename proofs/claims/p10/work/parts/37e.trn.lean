/-! THE REFERENCE'S ITEMS are the tape's tokens, one by one -/
def itM (τ : Tp) (h : Nat) (r : Int × Int) (b a : Nat) : Prop := (∃ v, r = (0, v) ∧ tNu τ b v ∧ a = b + 1) ∨ (∃ c, r = (1, c) ∧ tSi τ c b ∧ (c ≠ 0 ∧ c ≠ 36) ∧ a = b + 1) ∨ (r = (2, 0) ∧ tSm τ b ∧ a = b + 1) ∨ (∃ w, r = (3, w) ∧ tRf τ h b a w)
def Trn (τ : Tp) (h : Nat) (R : Nat → Int × Int) : Nat → Nat → Prop
  | 0, a => a = 0
  | i + 1, a => ∃ b, Trn τ h R i b ∧ itM τ h (R i) b a
section TRN
variable {τ : Tp} {h : Nat} {R R' : Nat → Int × Int} {i j a b : Nat}
theorem Trn.ag : ∀ i a, (∀ k, k < i → R' k = R k) → Trn τ h R i a → Trn τ h R' i a
  | 0, a, _, t => t
  | i + 1, a, e, t => by
    obtain ⟨b, t1, t2⟩ := t
    exact ⟨b, Trn.ag i b (fun k hk => e k (by omega)) t1, by rw [e i (by omega)]; exact t2⟩
theorem itM.lt {r : Int × Int} (m : itM τ h r b a) : b < a := by
  rcases m with ⟨v, -, -, e⟩ | ⟨c, -, -, -, e⟩ | ⟨-, -, e⟩ | ⟨w, -, t⟩
  · omega
  · omega
  · omega
  · have := t.lt; omega
theorem dlf.nz {a a1 : Nat} {cf : Int} (d : dlf τ a a1 cf) : ∀ k, a ≤ k → k < a1 → tK τ k ≠ 0 := fun k h1 h2 => by
  rcases d with ⟨e, e2, -⟩ | ⟨-, e2, -⟩
  · obtain rfl : k = a := by omega
    omega
  · omega
theorem tRf.nz {w : Int} (t : tRf τ h a b w) : ∀ k, a ≤ k → k < b → tK τ k ≠ 0 := fun k h1 h2 => by
  obtain ⟨a1, a2, cf, rf, d1, o1, d2, o2, e, -⟩ := t
  by_cases q1 : k < a1
  · exact d1.nz k h1 q1
  · by_cases q2 : k = a1
    · subst q2; omega
    · by_cases q3 : k < a2
      · exact d2.nz k (by omega) q3
      · obtain rfl : k = a2 := by omega
        omega
theorem itM.nz {r : Int × Int} (m : itM τ h r b a) : ∀ k, b ≤ k → k < a → tK τ k ≠ 0 := fun k h1 h2 => by
  rcases m with ⟨v, -, t, e⟩ | ⟨c, -, t, t2, e⟩ | ⟨-, t, e⟩ | ⟨w, -, t⟩
  · obtain rfl : k = b := by omega
    rw [t.1]; decide
  · obtain rfl : k = b := by omega
    rw [t.1]; exact t2.1
  · obtain rfl : k = b := by omega
    rw [t.1]; decide
  · exact t.nz k h1 h2
theorem Trn.nz : ∀ i a, Trn τ h R i a → ∀ k, k < a → tK τ k ≠ 0
  | 0, a, t, k, hk => by have : a = 0 := t; omega
  | i + 1, a, t, k, hk => by
    obtain ⟨b, t1, t2⟩ := t
    by_cases e : k < b
    · exact Trn.nz i b t1 k e
    · exact t2.nz k (by omega) hk
theorem itM.det {r : Int × Int} {c : Nat} (m : itM τ h r b a) (m2 : itM τ h r b c) : a = c := by
  rcases m with ⟨v, e, t, q⟩ | ⟨x, e, t, -, q⟩ | ⟨e, t, q⟩ | ⟨w, e, t⟩ <;> rcases m2 with ⟨v', e', t', q'⟩ | ⟨x', e', t', -, q'⟩ | ⟨e', t', q'⟩ | ⟨w', e', t'⟩
  all_goals first | omega | exact ((tGD τ h).2.2.1 _ _ _ _ _ t t').1 | (rw [e] at e'; simp at e')
theorem Trn.det : ∀ i a b, Trn τ h R i a → Trn τ h R i b → a = b
  | 0, a, b, t, t' => by have e : a = 0 := t; have e' : b = 0 := t'; omega
  | i + 1, a, b, t, t' => by
    obtain ⟨c, t1, t2⟩ := t
    obtain ⟨c', t1', t2'⟩ := t'
    obtain rfl := Trn.det i c c' t1 t1'
    exact t2.det t2'
theorem Trn.down : ∀ j a, Trn τ h R j a → ∀ i, i ≤ j → ∃ b, Trn τ h R i b ∧ b ≤ a
  | 0, a, t, i, hi => ⟨a, by rw [show i = 0 by omega]; exact t, Nat.le_refl _⟩
  | j + 1, a, t, i, hi => by
    by_cases e : i = j + 1
    · subst e; exact ⟨a, t, Nat.le_refl _⟩
    · obtain ⟨b, t1, t2⟩ := t
      obtain ⟨c, q1, q2⟩ := Trn.down j b t1 i (by omega)
      have := t2.lt
      exact ⟨c, q1, by omega⟩
theorem Trn.lt (t : Trn τ h R i a) (t2 : Trn τ h R j b) (hij : i < j) : a < b := by
  cases j with
  | zero => omega
  | succ j =>
    obtain ⟨c, q1, q2⟩ := t2
    obtain ⟨d, d1, d2⟩ := Trn.down j c q1 i (by omega)
    obtain rfl := Trn.det i _ _ t d1
    have := q2.lt
    omega
theorem Trn.inj (t : Trn τ h R i a) (t2 : Trn τ h R j a) : i = j := by
  rcases Nat.lt_trichotomy i j with w | w | w
  · have := t.lt t2 w; omega
  · exact w
  · have := t2.lt t w; omega
/-- the item that stands for the token at a -/
theorem Trn.step {n N : Nat} (tn : Trn τ h R n N) (t : Trn τ h R i a) (ha : a < N) : i < n ∧ ∃ b, Trn τ h R (i + 1) b ∧ itM τ h (R i) a b := by
  have hi : i < n := by
    rcases Nat.lt_trichotomy i n with w | w | w
    · exact w
    · subst w; have := Trn.det i _ _ t tn; omega
    · have := tn.lt t w; omega
  obtain ⟨b, t1, -⟩ := Trn.down n N tn (i + 1) hi
  obtain ⟨c, q1, q2⟩ := id t1
  obtain rfl := Trn.det i _ _ t q1
  exact ⟨hi, b, t1, q2⟩
end TRN
section TRG
variable {τ : Tp} {h : Nat} {R : Nat → Int × Int} {n N : Nat} {Q : Rw}
/-- the row as it stands: nothing behind its end -/
def RwQ (R : Nat → Int × Int) (n : Nat) (Q : Rw) : Prop := (∀ k, k < n → Q k = R k) ∧ ∀ k, n ≤ k → Q k = (4, 0)
theorem tr_nu (tn : Trn τ h R n N) (hq : RwQ R n Q) {i a : Nat} {v : Int} (t : Trn τ h R i a) (ha : a < N) (x : tNu τ a v) : Q i = (0, v) ∧ Trn τ h R (i + 1) (a + 1) := by
  obtain ⟨hi, b, t1, m⟩ := tn.step t ha
  have g := tGD τ h
  rcases m with ⟨v', e, x', q⟩ | ⟨c, e, x', -, q⟩ | ⟨e, x', q⟩ | ⟨w, e, x'⟩
  · rw [hq.1 i hi, e, g.1 _ _ _ x' x]; subst q; exact ⟨rfl, t1⟩
  · exact (g.2.2.2.1 _ _ _ x x').elim
  · exact (g.2.2.2.2.1 _ _ x x').elim
  · exact ((g.2.2.2.2.2.2 _ _ _ x').1 _ x).elim
theorem tr_si (tn : Trn τ h R n N) (hq : RwQ R n Q) {i a : Nat} {c : Int} (t : Trn τ h R i a) (ha : a < N) (x : tSi τ c a) (hc : c ≠ 36) : Q i = (1, c) ∧ Trn τ h R (i + 1) (a + 1) := by
  obtain ⟨hi, b, t1, m⟩ := tn.step t ha
  have g := tGD τ h
  rcases m with ⟨v', e, x', q⟩ | ⟨c', e, x', -, q⟩ | ⟨e, x', q⟩ | ⟨w, e, x'⟩
  · exact (g.2.2.2.1 _ _ _ x' x).elim
  · rw [hq.1 i hi, e, g.2.1 _ _ _ x' x]; subst q; exact ⟨rfl, t1⟩
  · exact (g.2.2.2.2.2.1 _ _ x x').elim
  · obtain ⟨a1, a2, cf, rf, d1, o1, -⟩ := x'
    rcases d1 with ⟨e1, -⟩ | ⟨-, e2, -⟩
    · exact (hc (x.1.symm.trans e1)).elim
    · rw [e2] at o1
      exact (x.2.2 (x.1.symm.trans o1.1)).elim
theorem tr_sm (tn : Trn τ h R n N) (hq : RwQ R n Q) {i a : Nat} (t : Trn τ h R i a) (ha : a < N) (x : tSm τ a) : Q i = (2, 0) ∧ Trn τ h R (i + 1) (a + 1) := by
  obtain ⟨hi, b, t1, m⟩ := tn.step t ha
  have g := tGD τ h
  rcases m with ⟨v', e, x', q⟩ | ⟨c', e, x', -, q⟩ | ⟨e, x', q⟩ | ⟨w, e, x'⟩
  · exact (g.2.2.2.2.1 _ _ x' x).elim
  · exact (g.2.2.2.2.2.1 _ _ x' x).elim
  · rw [hq.1 i hi, e]; subst q; exact ⟨rfl, t1⟩
  · exact ((g.2.2.2.2.2.2 _ _ _ x').2.1 x).elim
theorem tr_rf (tn : Trn τ h R n N) (hq : RwQ R n Q) {i a c : Nat} {w : Int} (t : Trn τ h R i a) (ha : a < N) (x : tRf τ h a c w) : Q i = (3, w) ∧ Trn τ h R (i + 1) c := by
  obtain ⟨hi, b, t1, m⟩ := tn.step t ha
  have g := tGD τ h
  rcases m with ⟨v', e, x', q⟩ | ⟨c', e, x', x3, q⟩ | ⟨e, x', q⟩ | ⟨w', e, x'⟩
  · exact ((g.2.2.2.2.2.2 _ _ _ x).1 _ x').elim
  · obtain ⟨a1, a2, cf, rf, d1, o1, -⟩ := x
    rcases d1 with ⟨e1, -⟩ | ⟨-, e2, -⟩
    · exact (x3.2 (x'.1.symm.trans e1)).elim
    · rw [e2] at o1
      exact (x'.2.2 (x'.1.symm.trans o1.1)).elim
  · exact ((g.2.2.2.2.2.2 _ _ _ x).2.1 x').elim
  · obtain ⟨e1, e2⟩ := g.2.2.1 _ _ _ _ _ x' x
    rw [hq.1 i hi, e, e2]; subst e1; exact ⟨rfl, t1⟩
theorem hCt.tr {P P' : Nat → Nat → Fm → Prop} {s s' : Nat → Int → Prop} (hl : ∀ a e y, P a e y → a < e) (hP : ∀ a m y, P a m y → m ≤ N → ∀ i, Trn τ h R i a → ∃ j, Trn τ h R j m ∧ P' i j y) (hs : ∀ b o i, s b o → b < N → Trn τ h R i b → s' i o ∧ Trn τ h R (i + 1) (b + 1)) (h0 : ∀ b i, (∀ o, ¬ s b o) → Trn τ h R i b → ∀ o, ¬ s' i o) : ∀ k acc b c x, hCt P s k acc b c x → c ≤ N → ∀ i, Trn τ h R i b → ∃ j, Trn τ h R j c ∧ hCt P' s' k acc i j x
  | 0, acc, b, c, x, q, hc, i, t => ⟨i, by rw [q.2.1]; exact t, h0 b i q.1 t, rfl, q.2.2⟩
  | k + 1, acc, b, c, x, q, hc, i, t => by
    obtain ⟨o, m, y, q1, q2, q3⟩ := q
    have l1 := hl _ _ _ q2
    have l2 := hCt.le hl k _ _ _ _ q3
    obtain ⟨s1, t1⟩ := hs b o i q1 (by omega) t
    obtain ⟨j, t2, p⟩ := hP _ _ _ q2 (by omega) _ t1
    obtain ⟨j2, t3, p3⟩ := hCt.tr hl hP hs h0 k _ _ _ _ q3 hc j t2
    exact ⟨j2, t3, o, j, y, s1, p, p3⟩
theorem hCh.tr {P P' : Nat → Nat → Fm → Prop} {s s' : Nat → Int → Prop} (hl : ∀ a e y, P a e y → a < e) (hP : ∀ a m y, P a m y → m ≤ N → ∀ i, Trn τ h R i a → ∃ j, Trn τ h R j m ∧ P' i j y) (hs : ∀ b o i, s b o → b < N → Trn τ h R i b → s' i o ∧ Trn τ h R (i + 1) (b + 1)) (h0 : ∀ b i, (∀ o, ¬ s b o) → Trn τ h R i b → ∀ o, ¬ s' i o) : ∀ a m y, hCh P s a m y → m ≤ N → ∀ i, Trn τ h R i a → ∃ j, Trn τ h R j m ∧ hCh P' s' i j y := by
  intro a m y q hm i t
  obtain ⟨k, m1, y1, q1, q2⟩ := q
  have l2 := hCt.le hl k _ _ _ _ q2
  obtain ⟨j, t1, p1⟩ := hP _ _ _ q1 (by omega) i t
  obtain ⟨j2, t2, p2⟩ := hCt.tr hl hP hs h0 k _ _ _ _ q2 hm j t1
  exact ⟨j2, t2, k, j, y1, p1, p2⟩
theorem tPa.lt : ∀ d a c x, tPa τ h d a c x → a < c
  | 0, _, _, _, q => q.elim
  | d + 1, a, c, x, q => by
    have ih := tPa.lt d
    have ihE := hCh.lt (s := hAd (tSi τ)) (hCh.lt (s := hMu (tSi τ)) ih)
    rcases q with ⟨v, p1, p2, p3⟩ | ⟨w, u, p1, p2⟩ | ⟨p1, z, p2, p3⟩ | ⟨p1, e, z, p2, p3, p4, p5⟩ | ⟨w, p1, p2⟩
    · omega
    · obtain ⟨-, -, b1, b2, r1, -, r2, -, q3⟩ := p1
      have := r1.lt; have := r2.lt
      omega
    · have := ih _ _ _ p2; omega
    · have := ihE _ _ _ p2; omega
    · have := p1.lt; omega
theorem mu_tr (tn : Trn τ h R n N) (hq : RwQ R n Q) : (∀ b o i, hMu (tSi τ) b o → b < N → Trn τ h R i b → hMu (iS Q) i o ∧ Trn τ h R (i + 1) (b + 1)) ∧ ∀ b i, (∀ o, ¬ hMu (tSi τ) b o) → Trn τ h R i b → ∀ o, ¬ hMu (iS Q) i o := by
  refine ⟨fun b o i s hb t => ?_, fun b i s t o s' => ?_⟩
  · obtain ⟨e, t1⟩ := tr_si tn hq t hb s.1 (by have := s.2; omega)
    exact ⟨⟨e, s.2⟩, t1⟩
  · by_cases hi : i < n
    · have hb : b < N := t.lt tn hi
      obtain ⟨-, b2, -, m⟩ := tn.step t hb
      have e := s'.1
      unfold iS at e
      rw [hq.1 i hi] at e
      rcases m with ⟨v', e2, -⟩ | ⟨c', e2, x', -⟩ | ⟨e2, -⟩ | ⟨w', e2, -⟩
      · rw [e] at e2; exact absurd (congrArg Prod.fst e2) (show ¬ (1 : Int) = 0 by decide)
      · rw [e] at e2
        have e3 : o = c' := congrArg Prod.snd e2
        subst e3
        exact s o ⟨x', s'.2⟩
      · rw [e] at e2; exact absurd (congrArg Prod.fst e2) (show ¬ (1 : Int) = 2 by decide)
      · rw [e] at e2; exact absurd (congrArg Prod.fst e2) (show ¬ (1 : Int) = 3 by decide)
    · have e := s'.1
      unfold iS at e
      rw [hq.2 i (by omega)] at e
      exact absurd (congrArg Prod.fst e) (show ¬ (4 : Int) = 1 by decide)
theorem ad_tr (tn : Trn τ h R n N) (hq : RwQ R n Q) : (∀ b o i, hAd (tSi τ) b o → b < N → Trn τ h R i b → hAd (iS Q) i o ∧ Trn τ h R (i + 1) (b + 1)) ∧ ∀ b i, (∀ o, ¬ hAd (tSi τ) b o) → Trn τ h R i b → ∀ o, ¬ hAd (iS Q) i o := by
  refine ⟨fun b o i s hb t => ?_, fun b i s t o s' => ?_⟩
  · obtain ⟨e, t1⟩ := tr_si tn hq t hb s.1 (by have := s.2; omega)
    exact ⟨⟨e, s.2⟩, t1⟩
  · by_cases hi : i < n
    · have hb : b < N := t.lt tn hi
      obtain ⟨-, b2, -, m⟩ := tn.step t hb
      have e := s'.1
      unfold iS at e
      rw [hq.1 i hi] at e
      rcases m with ⟨v', e2, -⟩ | ⟨c', e2, x', -⟩ | ⟨e2, -⟩ | ⟨w', e2, -⟩
      · rw [e] at e2; exact absurd (congrArg Prod.fst e2) (show ¬ (1 : Int) = 0 by decide)
      · rw [e] at e2
        have e3 : o = c' := congrArg Prod.snd e2
        subst e3
        exact s o ⟨x', s'.2⟩
      · rw [e] at e2; exact absurd (congrArg Prod.fst e2) (show ¬ (1 : Int) = 2 by decide)
      · rw [e] at e2; exact absurd (congrArg Prod.fst e2) (show ¬ (1 : Int) = 3 by decide)
    · have e := s'.1
      unfold iS at e
      rw [hq.2 i (by omega)] at e
      exact absurd (congrArg Prod.fst e) (show ¬ (4 : Int) = 1 by decide)
theorem tPa.tr (tn : Trn τ h R n N) (hq : RwQ R n Q) : ∀ d a c y, tPa τ h d a c y → c ≤ N → ∀ i, Trn τ h R i a → ∃ j, Trn τ h R j c ∧ iP Q d i j y
  | 0, _, _, _, q, _, _, _ => q.elim
  | d + 1, a, c, y, q, hc, i, t => by
    have ih := tPa.tr tn hq d
    have lP : ∀ a c x, tPa τ h d a c x → a < c := tPa.lt d
    have lM := hCh.lt (s := hMu (tSi τ)) lP
    have lt := tPa.lt (d + 1) a c y q
    rcases q with ⟨v, p1, p2, p3⟩ | ⟨w, u, p1, p2⟩ | ⟨p1, z, p2, p3⟩ | ⟨p1, e, z, p2, p3, p4, p5⟩ | ⟨w, p1, p2⟩
    · obtain ⟨e1, t1⟩ := tr_nu tn hq t (by omega) p1
      exact ⟨i + 1, by rw [p2]; exact t1, Or.inl ⟨v, e1, rfl, p3⟩⟩
    · obtain ⟨s1, s2, b1, b2, r1, s4, r2, s6, q3⟩ := p1
      have l1 := r1.lt
      have l2 := r2.lt
      obtain ⟨e1, t1⟩ := tr_sm tn hq t (by omega) s1
      obtain ⟨e2, t2⟩ := tr_si tn hq t1 (by omega) s2 (by decide)
      obtain ⟨e3, t3⟩ := tr_rf tn hq t2 (by omega) r1
      obtain ⟨e4, t4⟩ := tr_si tn hq t3 (by omega) s4 (by decide)
      obtain ⟨e5, t5⟩ := tr_rf tn hq t4 (by omega) r2
      obtain ⟨e6, t6⟩ := tr_si tn hq t5 (by omega) s6 (by decide)
      exact ⟨i + 6, by rw [q3]; exact t6, Or.inr (Or.inl ⟨w, u, ⟨e1, e2, i + 3, i + 5, ⟨e3, rfl⟩, e4, ⟨e5, rfl⟩, e6, rfl⟩, p2⟩)⟩
    · obtain ⟨e1, t1⟩ := tr_si tn hq t (by omega) p1 (by decide)
      obtain ⟨j, t2, p⟩ := ih _ _ _ p2 hc _ t1
      exact ⟨j, t2, Or.inr (Or.inr (Or.inl ⟨e1, z, p, p3⟩))⟩
    · have l := hCh.lt (s := hAd (tSi τ)) lM _ _ _ p2
      obtain ⟨e1, t1⟩ := tr_si tn hq t (by omega) p1 (by decide)
      obtain ⟨j, t2, p⟩ := hCh.tr lM (hCh.tr lP ih (mu_tr tn hq).1 (mu_tr tn hq).2) (ad_tr tn hq).1 (ad_tr tn hq).2 _ _ _ p2 (by omega) _ t1
      obtain ⟨e2, t3⟩ := tr_si tn hq t2 (by omega) p3 (by decide)
      exact ⟨j + 1, by rw [p4]; exact t3, Or.inr (Or.inr (Or.inr (Or.inl ⟨e1, j, z, p, e2, rfl, p5⟩)))⟩
    · have l := p1.lt
      obtain ⟨e1, t1⟩ := tr_rf tn hq t (by omega) p1
      exact ⟨i + 1, t1, Or.inr (Or.inr (Or.inr (Or.inr ⟨w, ⟨e1, rfl⟩, p2⟩)))⟩
/-! no END within what is read -/
def NzP (τ : Tp) (P : Nat → Nat → Fm → Prop) : Prop := ∀ a c y, P a c y → a < c ∧ ∀ k, a ≤ k → k < c → tK τ k ≠ 0
theorem hCt.nz {P : Nat → Nat → Fm → Prop} {s : Nat → Int → Prop} (hP : NzP τ P) (hs : ∀ b o, s b o → tK τ b ≠ 0) : ∀ k acc b c x, hCt P s k acc b c x → b ≤ c ∧ ∀ q, b ≤ q → q < c → tK τ q ≠ 0
  | 0, acc, b, c, x, h => by have := h.2.1; exact ⟨by omega, fun q h1 h2 => by omega⟩
  | k + 1, acc, b, c, x, h => by
    obtain ⟨o, m, y, q1, q2, q3⟩ := h
    obtain ⟨l1, n1⟩ := hP _ _ _ q2
    obtain ⟨l2, n2⟩ := hCt.nz hP hs k _ _ _ _ q3
    refine ⟨by omega, fun q h1 h2 => ?_⟩
    by_cases e : q = b
    · subst e; exact hs _ _ q1
    · by_cases e2 : q < m
      · exact n1 q (by omega) e2
      · exact n2 q (by omega) h2
theorem hCh.nz {P : Nat → Nat → Fm → Prop} {s : Nat → Int → Prop} (hP : NzP τ P) (hs : ∀ b o, s b o → tK τ b ≠ 0) : NzP τ (hCh P s) := fun a c y h => by
  obtain ⟨k, m, y1, q1, q2⟩ := h
  obtain ⟨l1, n1⟩ := hP _ _ _ q1
  obtain ⟨l2, n2⟩ := hCt.nz hP hs k _ _ _ _ q2
  refine ⟨by omega, fun q h1 h2 => ?_⟩
  by_cases e2 : q < m
  · exact n1 q (by omega) e2
  · exact n2 q (by omega) h2
theorem mu_nz (b : Nat) (o : Int) (s : hMu (tSi τ) b o) : tK τ b ≠ 0 := by have := s.1.1; have := s.2; omega
theorem ad_nz (b : Nat) (o : Int) (s : hAd (tSi τ) b o) : tK τ b ≠ 0 := by have := s.1.1; have := s.2; omega
theorem tPa.nz : ∀ d, NzP τ (tPa τ h d)
  | 0 => fun _ _ _ q => q.elim
  | d + 1 => fun a c y q => by
    have lt := tPa.lt (d + 1) a c y q
    refine ⟨lt, fun k h1 h2 => ?_⟩
    rcases q with ⟨v, p1, p2, p3⟩ | ⟨w, u, p1, p2⟩ | ⟨p1, z, p2, p3⟩ | ⟨p1, e, z, p2, p3, p4, p5⟩ | ⟨w, p1, p2⟩
    · obtain rfl : k = a := by omega
      rw [p1.1]; decide
    · obtain ⟨s1, s2, b1, b2, r1, s4, r2, s6, q3⟩ := p1
      have l1 := r1.lt
      have l2 := r2.lt
      by_cases e0 : k = a
      · subst e0; rw [s1.1]; decide
      · by_cases e1 : k = a + 1
        · subst e1; rw [s2.1]; decide
        · by_cases e2 : k < b1
          · exact r1.nz k (by omega) e2
          · by_cases e3 : k = b1
            · subst e3; rw [s4.1]; decide
            · by_cases e4 : k < b2
              · exact r2.nz k (by omega) e4
              · obtain rfl : k = b2 := by omega
                rw [s6.1]; decide
    · by_cases e0 : k = a
      · subst e0; rw [p1.1]; decide
      · exact (tPa.nz d _ _ _ p2).2 k (by omega) h2
    · have n := (hCh.nz (hCh.nz (tPa.nz d) mu_nz) ad_nz _ _ _ p2).2
      by_cases e0 : k = a
      · subst e0; rw [p1.1]; decide
      · by_cases e1 : k < e
        · exact n k (by omega) e1
        · obtain rfl : k = e := by omega
          rw [p3.1]; decide
    · exact p1.nz k h1 h2
/-- what the tape spells is what the items spell -/
theorem tTop.it {L : Fm} (tn : Trn τ h R n N) (hq : RwQ R n Q) (hN : tK τ N = 0) (tt : tTop τ h L) : iE Q 8 0 n L := by
  obtain ⟨c, p, hc⟩ := tt
  have nz := (hCh.nz (hCh.nz (tPa.nz 8) mu_nz) ad_nz _ _ _ p).2
  obtain rfl : c = N := by
    rcases Nat.lt_trichotomy c N with w | w | w
    · exact absurd hc (Trn.nz n N tn c w)
    · exact w
    · exact absurd hN (nz N (Nat.zero_le _) w)
  have lP : ∀ a c x, tPa τ h 8 a c x → a < c := tPa.lt 8
  obtain ⟨j, t1, q⟩ := hCh.tr (hCh.lt (s := hMu (tSi τ)) lP) (hCh.tr lP (tPa.tr tn hq 8) (mu_tr tn hq).1 (mu_tr tn hq).2) (ad_tr tn hq).1 (ad_tr tn hq).2 _ _ _ p (Nat.le_refl _) 0 (show Trn τ h R 0 0 from rfl)
  rw [t1.inj tn] at q
  exact q
end TRG
/-- the draft so far -/
def dI (B : Nat) (ig : sI) (h : Nat) : Nat → Int × Int := fun k => itR B ig (h : Int) (34560 + k)
def TRI (B : Nat) (τ : Tp) (h : Nat) (ig : sI) : Prop := (ig (B + 49) 8).toInt = 0 → Trn τ h (dI B ig h) (ig (B + 58) 288).toInt.toNat (ig (B + 49) 7).toInt.toNat ∧ ∀ k, k < (ig (B + 58) 288).toInt.toNat → itO B ig (34560 + k)
def TRk (B : Nat) (τ : Tp) (ig ig' : sI) : Prop := (∀ h, TRI B τ h ig → TRI B τ h ig') ∧ NDr B ig ig'
section TRKS
variable {B : Nat} {τ : Tp} {ig ig' ig2 : sI} {v : Int32}
theorem TRk.rf : TRk B τ ig ig := ⟨fun _ t => t, NDr.rf⟩
theorem TRk.tr (h1 : TRk B τ ig ig') (h2 : TRk B τ ig' ig2) : TRk B τ ig ig2 := ⟨fun h t => h2.1 h (h1.1 h t), h1.2.tr h2.2⟩
theorem TRk.no (hn : NDr B ig ig') (hf : (ig' (B + 49) 8).toInt ≠ 0) : TRk B τ ig ig' := ⟨fun _ _ q => (hf q).elim, hn⟩
theorem TRk.dp : TRk B τ ig (up2 ig (B + 49) 14 v) := ⟨fun h t => by
  unfold TRI dI at *
  rw [up2_j (by decide), up2_c (by decide), up2_j (by decide)]
  intro q
  obtain ⟨t1, t2⟩ := t q
  exact ⟨Trn.ag _ _ (fun k hk => itR.ag (fun c a b => up2_c (by omega))) t1, fun k hk => (t2 k hk).ag (fun c a b => up2_c (by omega))⟩, NDr.wo NDr.rf (by omega)⟩
/-- one item more -/
theorem TRk.one (hn : NDr B ig ig') (h0 : 0 ≤ (ig (B + 58) 288).toInt) (h58 : (ig' (B + 58) 288).toInt = (ig (B + 58) 288).toInt + 1) (he : ∀ c k, 54 ≤ c → c ≤ 57 → k < 34560 + (ig (B + 58) 288).toInt.toNat → ig' (B + c) k = ig (B + c) k) (ho : (ig' (B + 49) 8).toInt = 0 → itO B ig' (34560 + (ig (B + 58) 288).toInt.toNat)) (hm : (ig' (B + 49) 8).toInt = 0 → (ig (B + 49) 8).toInt = 0 ∧ ∀ h, itM τ h (dI B ig' h (ig (B + 58) 288).toInt.toNat) (ig (B + 49) 7).toInt.toNat (ig' (B + 49) 7).toInt.toNat) : TRk B τ ig ig' := ⟨fun h t q => by
  obtain ⟨q0, m⟩ := hm q
  obtain ⟨t1, t2⟩ := t q0
  rw [show (ig' (B + 58) 288).toInt.toNat = (ig (B + 58) 288).toInt.toNat + 1 by omega]
  refine ⟨⟨_, Trn.ag _ _ (fun k hk => itR.ag (fun c a b => he c _ a b (by omega))) t1, m h⟩, fun k hk => ?_⟩
  by_cases e : k = (ig (B + 58) 288).toInt.toNat
  · subst e; exact ho q
  · exact (t2 k (by omega)).ag (fun c a b => he c _ a b (by omega)), hn⟩
end TRKS
