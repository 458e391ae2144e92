/-! THE REFERENCE: a row of REFS, sums and + alone -/
section LKT
variable {R : Rw} {n a b d : Nat} {L : Fm}
theorem TL.app {x y : Fm} : TL (x ++ y) ↔ TL x ∧ TL y := by
  unfold TL
  simp only [List.mem_append]
  constructor
  · intro h
    exact ⟨fun s hs => h s (Or.inl hs), fun s hs => h s (Or.inr hs)⟩
  · rintro ⟨h1, h2⟩ s (hs | hs)
    · exact h1 s hs
    · exact h2 s hs
theorem TL.one {s : St} : TL [s] ↔ TsS s := by
  unfold TL
  simp
theorem TL.nil : TL [] := fun s hs => absurd hs List.not_mem_nil
theorem hCt.TL {P : Nat → Nat → Fm → Prop} {s : Nat → Int → Prop} : ∀ k acc b c x, hCt P s k acc b c x → TL x → TL acc
  | 0, _, _, _, _, h, t => by rw [← h.2.2]; exact t
  | k + 1, acc, _, c, x, h, t => by
    obtain ⟨o, m, y, _, _, h3⟩ := h
    exact (TL.app.mp (hCt.TL k _ m c x h3 t)).1
theorem iP.TL {c : Nat} {x : Fm} (h : iP R d a c x) (t : TL x) : (R a).1 = 3 ∨ (R a).1 = 2 := by
  obtain ⟨d1, ed, ⟨w, e, p1, p2⟩ | ⟨w, u, e, _⟩ | ⟨e, y, p1, p2⟩ | ⟨e, b, y, p1, p2, p3, p4⟩ | ⟨w, e, p1, p2⟩⟩ := h.inv
  · rw [p2] at t
    have q : _ ∨ _ ∨ _ := TL.one.mp t
    exact absurd q (by show ¬ ((0 : Int) = 1 ∨ (0 : Int) = 2 ∨ (0 : Int) = 5); decide)
  · rw [e]; exact Or.inr rfl
  · rw [p2] at t
    have q : _ ∨ _ ∨ _ := TL.one.mp (TL.app.mp t).2
    exact absurd q (by show ¬ ((4 : Int) = 1 ∨ (4 : Int) = 2 ∨ (4 : Int) = 5); decide)
  · rw [p4] at t
    have q : _ ∨ _ ∨ _ := TL.one.mp (TL.app.mp t).2
    exact absurd q (by show ¬ ((3 : Int) = 1 ∨ (3 : Int) = 2 ∨ (3 : Int) = 5); decide)
  · rw [e]; exact Or.inl rfl
/-- a PRODUCT begins at a -/
def LA9 (R : Rw) (n : Nat) (L : Fm) (a : Nat) : Prop := ∃ (m : Nat) (y p s : Fm) (k : Nat), iPd R 8 a m y ∧ hCt (iPd R 8) (hAd (iS R)) k (p ++ (y ++ s)) m n L ∧ TL p ∧ TL s
/-- behind its first PART, at b -/
def LB9 (R : Rw) (n : Nat) (L : Fm) (b : Nat) : Prop := ∃ (m k0 k : Nat) (y y0 p s : Fm), hCt (iP R 8) (hMu (iS R)) k0 y0 b m y ∧ hCt (iPd R 8) (hAd (iS R)) k (p ++ (y ++ s)) m n L ∧ TL p ∧ TL s ∧ TL y0
theorem LA9.start (h : iE R 8 0 n L) : LA9 R n L 0 := by
  obtain ⟨k, m, y, h1, h2⟩ := h
  exact ⟨m, y, [], [], k, h1, by rw [List.nil_append, List.append_nil]; exact h2, TL.nil, TL.nil⟩
theorem LA9.lt (h : LA9 R n L a) : a < n := by
  obtain ⟨m, y, p, s, k, h1, h2, _⟩ := h
  have a1 := iPd.lt h1
  have a2 := hCt.le (fun _ _ _ w => iPd.lt w) _ _ _ _ _ h2
  omega
theorem LB9.le (h : LB9 R n L b) : b ≤ n := by
  obtain ⟨m, k0, k, y, y0, p, s, h1, h2, _⟩ := h
  have a1 := hCt.le (fun i j y w => iP.lt 8 i j y w) _ _ _ _ _ h1
  have a2 := hCt.le (fun _ _ _ w => iPd.lt w) _ _ _ _ _ h2
  omega
theorem LA9.bad (h : LA9 R n L a) (h3 : (R a).1 ≠ 3) (h2 : (R a).1 ≠ 2) : ¬ TL L := fun t => by
  obtain ⟨m, y, p, s, k, ⟨k0, m0, y0, g1, g2⟩, g3, _⟩ := h
  have t1 := (TL.app.mp (TL.app.mp (hCt.TL _ _ _ _ _ g3 t)).2).1
  have t2 := hCt.TL _ _ _ _ _ g2 t1
  rcases iP.TL g1 t2 with q | q
  · exact h3 q
  · exact h2 q
theorem LA9.ref (h : LA9 R n L a) (h3 : (R a).1 = 3) : LB9 R n L (a + 1) := by
  obtain ⟨m, y, p, s, k, ⟨k0, m0, y0, g1, g2⟩, g3, g4, g5⟩ := h
  obtain ⟨e1, e2⟩ := iP.inv3 g1 h3
  subst e1
  exact ⟨m, k0, k, y, y0, p, s, g2, g3, g4, g5, by rw [e2]; exact TL.one.mpr (Or.inl rfl)⟩
theorem LA9.sum (h : LA9 R n L a) (h2 : (R a).1 = 2) : LB9 R n L (a + 6) := by
  obtain ⟨m, y, p, s, k, ⟨k0, m0, y0, g1, g2⟩, g3, g4, g5⟩ := h
  obtain ⟨w, u, _, _, e1, e2⟩ := iP.inv2 g1 h2
  subst e1
  exact ⟨m, k0, k, y, y0, p, s, g2, g3, g4, g5, by rw [e2]; exact TL.one.mpr (Or.inr (Or.inl rfl))⟩
theorem LB9.fin (h : LB9 R n L n) (hn : R n = (4, 0)) : TL L := by
  obtain ⟨m, k0, k, y, y0, p, s, h1, h2, h3, h4, h5⟩ := h
  obtain ⟨e1, e2⟩ := hCt.off h1 (fun o w => by have q : R n = (1, o) := w.1; rw [hn] at q; exact absurd (Prod.mk.inj q).1 (by decide))
  subst e1 e2
  obtain ⟨_, e4⟩ := hCt.off h2 (fun o w => by have q : R _ = (1, o) := w.1; rw [hn] at q; exact absurd (Prod.mk.inj q).1 (by decide))
  rw [e4]
  exact TL.app.mpr ⟨h3, TL.app.mpr ⟨h5, h4⟩⟩
theorem LB9.plus (h : LB9 R n L b) (hb : R b = (1, 43)) : LA9 R n L (b + 1) := by
  obtain ⟨m, k0, k, y, y0, p, s, h1, h2, h3, h4, h5⟩ := h
  obtain ⟨e1, e2⟩ := hCt.off h1 (fun o w => by
    have q : R b = (1, o) := w.1
    rw [hb] at q
    have e := (Prod.mk.inj q).2
    rcases w.2 with r | r <;> omega)
  subst e1 e2
  obtain ⟨k1, m2, y2, g1, g2⟩ := hCt.on h2 (fun _ _ => ad_d) (o := 43) ⟨hb, Or.inl rfl⟩
  exact ⟨m2, y2, _, _, k1, g1, g2, TL.app.mpr ⟨h3, TL.app.mpr ⟨h5, h4⟩⟩, TL.one.mpr (Or.inr (Or.inr (by simp [opS])))⟩
theorem LB9.bad (h : LB9 R n L b) (hb : R b ≠ (1, 43)) (hn : b ≠ n) : ¬ TL L := fun t => by
  obtain ⟨m, k0, k, y, y0, p, s, h1, h2, h3, h4, h5⟩ := h
  have t1 := (TL.app.mp (TL.app.mp (hCt.TL _ _ _ _ _ h2 t)).2).1
  cases k0 with
  | succ k0 =>
    obtain ⟨o, m1, y1, w, _, g⟩ := h1
    have q : _ ∨ _ ∨ _ := TL.one.mp (TL.app.mp (TL.app.mp (hCt.TL _ _ _ _ _ g t1)).2).2
    rcases w.2 with r | r
    · rw [r] at q; exact absurd q (by simp [opS])
    · rw [r] at q; exact absurd q (by simp [opS])
  | zero =>
    obtain ⟨_, e1, e2⟩ := h1
    subst e1
    cases k with
    | zero => exact hn h2.2.1.symm
    | succ k =>
      obtain ⟨o, m1, y1, w, _, g⟩ := h2
      have q : _ ∨ _ ∨ _ := TL.one.mp (TL.app.mp (TL.app.mp (hCt.TL _ _ _ _ _ g t)).2).2
      rcases w.2 with r | r
      · rw [r] at w; exact hb w.1
      · rw [r] at q; exact absurd q (by simp [opS])
end LKT
/-! THE REFERENCE counts ways: a total's items, one after another -/
section CNW
variable {R : Rw} {n a b d : Nat} {L : Fm} {h : Int} {l : List Int}
theorem rdL_app {x y : Fm} : rdL (x ++ y) h = rdL x h ++ rdL y h := List.flatMap_append
theorem rdL_nil : rdL [] h = [] := rfl
theorem rdL_one {s : St} : rdL [s] h = rdI s h := by unfold rdL; simp
/-- a PRODUCT begins at a, and l was read before it -/
def CA9 (R : Rw) (n : Nat) (L : Fm) (h : Int) (a : Nat) (l : List Int) : Prop := (∃ (m : Nat) (y p s : Fm) (k : Nat), iPd R 8 a m y ∧ hCt (iPd R 8) (hAd (iS R)) k (p ++ (y ++ s)) m n L ∧ rdL p h = l ∧ rdL s h = []) ∧ ∀ j, j < a → (R j).1 = 2 → j + 7 ≤ a
/-- behind a PART, at b: the end, or a + -/
def CB9 (R : Rw) (n : Nat) (L : Fm) (h : Int) (b : Nat) (l : List Int) : Prop := (b = n ∧ rdL L h = l) ∨ (R b = (1, 43) ∧ CA9 R n L h (b + 1) l)
theorem CA9.start (g : iE R 8 0 n L) : CA9 R n L h 0 [] := by
  obtain ⟨k, m, y, h1, h2⟩ := g
  exact ⟨⟨m, y, [], [], k, h1, by rw [List.nil_append, List.append_nil]; exact h2, rfl, rfl⟩, fun j hj => absurd hj (Nat.not_lt_zero j)⟩
theorem CA9.lt (g : CA9 R n L h a l) : a < n := by
  obtain ⟨⟨m, y, p, s, k, h1, h2, _⟩, _⟩ := g
  have a1 := iPd.lt h1
  have a2 := hCt.le (fun _ _ _ w => iPd.lt w) _ _ _ _ _ h2
  omega
/-- the PART is all of its PRODUCT -/
theorem CA9.part (g : CA9 R n L h a l) (t : TL L) : ∃ b y0, iP R 8 a b y0 ∧ (b ≤ n ∧ TL y0) ∧ ((∀ j, j < b → (R j).1 = 2 → j + 7 ≤ b + 1) → CB9 R n L h b (l ++ rdL y0 h)) := by
  obtain ⟨⟨m, y, p, s, k, ⟨k0, m0, y0, g1, g2⟩, g3, g4, g5⟩, _⟩ := g
  have t1 := (TL.app.mp (TL.app.mp (hCt.TL _ _ _ _ _ g3 t)).2).1
  have le3 := hCt.le (fun _ _ _ w => iPd.lt w) _ _ _ _ _ g3
  have le2 := hCt.le (fun i j y w => iP.lt 8 i j y w) _ _ _ _ _ g2
  refine ⟨m0, y0, g1, ⟨by omega, hCt.TL _ _ _ _ _ g2 t1⟩, fun hj => ?_⟩
  cases k0 with
  | succ k0 =>
    obtain ⟨o, m1, y1, w, _, g⟩ := g2
    have q : _ ∨ _ ∨ _ := TL.one.mp (TL.app.mp (TL.app.mp (hCt.TL _ _ _ _ _ g t1)).2).2
    rcases w.2 with r | r
    · rw [r] at q; exact absurd q (by simp [opS])
    · rw [r] at q; exact absurd q (by simp [opS])
  | zero =>
    obtain ⟨_, e1, e2⟩ := g2
    subst e1 e2
    have er : rdL (p ++ (y ++ s)) h = l ++ rdL y h := by rw [rdL_app, rdL_app, g4, g5, List.append_nil]
    cases k with
    | zero =>
      obtain ⟨_, e3, e4⟩ := g3
      exact Or.inl ⟨e3.symm, by rw [e4, er]⟩
    | succ k =>
      obtain ⟨o, m1, y1, w, g6, g7⟩ := g3
      have q : _ ∨ _ ∨ _ := TL.one.mp (TL.app.mp (TL.app.mp (hCt.TL _ _ _ _ _ g7 t)).2).2
      rcases w.2 with r | r
      · subst r
        exact Or.inr ⟨w.1, ⟨m1, y1, _, _, k, g6, g7, er, by rw [rdL_one]; exact rdI_n (by unfold rdS; simp [opS])⟩, fun j h1 h2 => by
          by_cases c : j = m
          · rw [c, w.1] at h2; exact absurd h2 (by show ¬ (1 : Int) = 2; decide)
          · exact hj j (by omega) h2⟩
      · rw [r] at q; exact absurd q (by simp [opS])
theorem CA9.ref (g : CA9 R n L h a l) (t : TL L) {w : Int} (e : R a = (3, w)) : CB9 R n L h (a + 1) (l ++ plS (1, w, w) h) := by
  obtain ⟨b, y0, g1, g2, g3⟩ := g.part t
  obtain ⟨e1, e2⟩ := iP.inv3 g1 (by rw [e])
  subst e1
  have q := g3 (fun j hj k => by
    by_cases c : j = a
    · rw [c, e] at k; exact absurd k (by show ¬ (3 : Int) = 2; decide)
    · have := g.2 j (by omega) k; omega)
  rw [e2, e, rdL_one, rdI_y (Or.inl rfl)] at q
  exact q
theorem iP.inv2x {c : Nat} {x : Fm} (g : iP R d a c x) (h0 : (R a).1 = 2) : ∃ w u, R a = (2, 0) ∧ R (a + 1) = (1, 40) ∧ R (a + 2) = (3, w) ∧ R (a + 3) = (1, 58) ∧ R (a + 4) = (3, u) ∧ R (a + 5) = (1, 41) ∧ c = a + 6 ∧ x = [(2, w, u)] := by
  cases d with
  | zero => exact g.elim
  | succ d =>
    rcases g with ⟨w, p1, p2, p3⟩ | ⟨w, u, p1, p2⟩ | ⟨p1, z, p2, p3⟩ | ⟨p1, b, z, p2, p3, p4, p5⟩ | ⟨w, p1, p2⟩
    · have q : R a = (0, w) := p1
      rw [q] at h0; exact absurd h0 (by show ¬ (0 : Int) = 2; decide)
    · obtain ⟨s1, s2, b1, b2, ⟨s3, q1⟩, s4, ⟨s5, q2⟩, s6, q3⟩ := p1
      subst q1 q2
      exact ⟨w, u, s1, s2, s3, s4, s5, s6, by omega, p2⟩
    · have q : R a = (1, 45) := p1
      rw [q] at h0; exact absurd h0 (by show ¬ (1 : Int) = 2; decide)
    · have q : R a = (1, 40) := p1
      rw [q] at h0; exact absurd h0 (by show ¬ (1 : Int) = 2; decide)
    · have q : R a = (3, w) := p1.1
      rw [q] at h0; exact absurd h0 (by show ¬ (3 : Int) = 2; decide)
/-- inside a sum that began at a -/
def CS9 (R : Rw) (n : Nat) (L : Fm) (h : Int) (a i : Nat) (l : List Int) : Prop := ∃ w u, (R a = (2, 0) ∧ R (a + 1) = (1, 40) ∧ R (a + 2) = (3, w) ∧ R (a + 3) = (1, 58) ∧ R (a + 4) = (3, u) ∧ R (a + 5) = (1, 41)) ∧ a + 6 ≤ n ∧ (∀ j, j < a → (R j).1 = 2 → j + 7 ≤ a) ∧ ∃ l0, CB9 R n L h (a + 6) (l0 ++ plS (2, w, u) h) ∧ (i ≤ 2 → l = l0) ∧ (3 ≤ i → l = l0 ++ plS (2, w, u) h)
theorem CA9.sum (g : CA9 R n L h a l) (t : TL L) (e : (R a).1 = 2) : CS9 R n L h a 1 l := by
  obtain ⟨b, y0, g1, g2, g3⟩ := g.part t
  obtain ⟨w, u, r0, r1, r2, r3, r4, r5, e1, e2⟩ := iP.inv2x g1 e
  subst e1
  have q := g3 (fun j hj k => by
    by_cases c : j < a
    · have := g.2 j c k; omega
    · by_cases c0 : j = a
      · omega
      · exfalso
        rcases (show j = a + 1 ∨ j = a + 2 ∨ j = a + 3 ∨ j = a + 4 ∨ j = a + 5 by omega) with c | c | c | c | c
        · rw [c, r1] at k; exact absurd k (by show ¬ (1 : Int) = 2; decide)
        · rw [c, r2] at k; exact absurd k (by show ¬ (3 : Int) = 2; decide)
        · rw [c, r3] at k; exact absurd k (by show ¬ (1 : Int) = 2; decide)
        · rw [c, r4] at k; exact absurd k (by show ¬ (3 : Int) = 2; decide)
        · rw [c, r5] at k; exact absurd k (by show ¬ (1 : Int) = 2; decide))
  rw [e2, rdL_one, rdI_y (Or.inr rfl)] at q
  exact ⟨w, u, ⟨r0, r1, r2, r3, r4, r5⟩, g2.1, g.2, l, q, fun _ => rfl, fun w => by omega⟩
end CNW
section WST
variable {R : Rw} {n k : Nat} {L : Fm} {h : Int} {l : List Int}
/-- the items before k were gone through, and l was read -/
def WSt (R : Rw) (n : Nat) (L : Fm) (h : Int) (k : Nat) (l : List Int) : Prop := CA9 R n L h k l ∨ (∃ a i, k = a + i ∧ (1 ≤ i ∧ i ≤ 5) ∧ CS9 R n L h a i l) ∨ CB9 R n L h k l
theorem WSt.start (g : iE R 8 0 n L) : WSt R n L h 0 [] := Or.inl (CA9.start g)
theorem WSt.fin (g : WSt R n L h n l) : rdL L h = l := by
  rcases g with g | ⟨a, i, e, hi, w, u, _, g, _⟩ | ⟨_, g⟩ | ⟨_, g⟩
  · have := g.lt; omega
  · omega
  · exact g
  · have := g.lt; omega
theorem hCt.mem {P : Nat → Nat → Fm → Prop} {s : Nat → Int → Prop} : ∀ k acc b c x, hCt P s k acc b c x → ∀ z ∈ acc, z ∈ x
  | 0, _, _, _, _, g, z, hz => by rw [g.2.2]; exact hz
  | k + 1, acc, _, c, x, g, z, hz => by
    obtain ⟨o, m, y, _, _, g3⟩ := g
    exact hCt.mem k _ m c x g3 z (List.mem_append_left _ hz)
theorem CA9.sub {a : Nat} (g : CA9 R n L h a l) : ∀ y ∈ l, y ∈ rdL L h := fun y hy => by
  obtain ⟨⟨m, y1, p, s, k, _, g2, g3, _⟩, _⟩ := g
  rw [← g3] at hy
  obtain ⟨z, hz, rz, mz⟩ := rdL_mem.mp hy
  exact rdL_mem.mpr ⟨z, hCt.mem _ _ _ _ _ g2 z (List.mem_append_left _ hz), rz, mz⟩
theorem CB9.sub {b : Nat} (g : CB9 R n L h b l) : ∀ y ∈ l, y ∈ rdL L h := by
  rcases g with ⟨_, g⟩ | ⟨_, g⟩
  · intro y hy; rw [g]; exact hy
  · exact g.sub
theorem WSt.sub (g : WSt R n L h k l) : ∀ y ∈ l, y ∈ rdL L h := by
  rcases g with g | ⟨a, i, e, hi, w, u, _, _, _, l0, g1, g2, g3⟩ | g
  · exact g.sub
  · intro y hy
    by_cases c : i ≤ 2
    · rw [g2 c] at hy; exact g1.sub y (List.mem_append_left _ hy)
    · rw [g3 (by omega)] at hy; exact g1.sub y hy
  · exact g.sub
theorem WSt.skip (g : WSt R n L h k l) (t : TL L) (hk : k < n) (h3 : (R k).1 ≠ 3 ∨ (4 ≤ k ∧ (R (k - 4)).1 = 2)) : WSt R n L h (k + 1) l := by
  rcases g with g | ⟨a, i, e, hi, w, u, ⟨r0, r1, r2, r3, r4, r5⟩, le, hj, l0, g1, g2, g3⟩ | ⟨g, _⟩ | ⟨_, g⟩
  · obtain ⟨b, y0, p1, p2, p3⟩ := g.part t
    rcases iP.TL p1 p2.2 with c | c
    · rcases h3 with q | ⟨q1, q2⟩
      · exact absurd c q
      · have := g.2 (k - 4) (by omega) q2; omega
    · exact Or.inr (Or.inl ⟨k, 1, rfl, ⟨by omega, by omega⟩, g.sum t c⟩)
  · subst e
    have i3 : i = 2 → False := fun c => by
      subst c
      rcases h3 with q | ⟨q1, q2⟩
      · exact q (by rw [r2])
      · have := hj (a + 2 - 4) (by omega) q2; omega
    have n2 : i ≠ 2 := i3
    by_cases c5 : i = 5
    · subst c5
      exact Or.inr (Or.inr (by rw [g3 (by omega)]; exact g1))
    · exact Or.inr (Or.inl ⟨a, i + 1, by omega, ⟨by omega, by omega⟩, w, u, ⟨r0, r1, r2, r3, r4, r5⟩, le, hj, l0, g1, fun q => g2 (by omega), fun q => g3 (by omega)⟩)
  · omega
  · exact Or.inl g
theorem WSt.take (g : WSt R n L h k l) (hk : k < n) (t : TL L) (h3 : (R k).1 = 3) (hn : ¬ (4 ≤ k ∧ (R (k - 4)).1 = 2)) : ∃ s w u, R k = (3, w) ∧ ((2 ≤ k ∧ (R (k - 2)).1 = 2 → s = 2 ∧ R (k + 2) = (3, u) ∧ k + 2 < n) ∧ (¬ (2 ≤ k ∧ (R (k - 2)).1 = 2) → s = 1 ∧ u = w)) ∧ WSt R n L h (k + 1) (l ++ plS (s, w, u) h) := by
  rcases g with g | ⟨a, i, e, hi, w, u, ⟨r0, r1, r2, r3, r4, r5⟩, le, hj, l0, g1, g2, g3⟩ | ⟨g, _⟩ | ⟨g, _⟩
  · have e : R k = (3, (R k).2) := Prod.ext h3 rfl
    exact ⟨1, (R k).2, (R k).2, e, ⟨fun q => (by have := g.2 (k - 2) (by omega) q.2; omega), fun _ => ⟨rfl, rfl⟩⟩, Or.inr (Or.inr (g.ref t e))⟩
  · subst e
    rcases (show i = 1 ∨ i = 2 ∨ i = 3 ∨ i = 4 ∨ i = 5 by omega) with c | c | c | c | c
    · subst c; rw [r1] at h3; exact absurd h3 (by show ¬ (1 : Int) = 3; decide)
    · subst c
      exact ⟨2, w, u, r2, ⟨fun _ => ⟨rfl, by rw [show a + 2 + 2 = a + 4 by omega]; exact r4, by omega⟩, fun q => absurd ⟨by omega, by rw [show a + 2 - 2 = a by omega, r0]⟩ q⟩, Or.inr (Or.inl ⟨a, 3, by omega, ⟨by omega, by omega⟩, w, u, ⟨r0, r1, r2, r3, r4, r5⟩, le, hj, l0, g1, fun q => by omega, fun _ => by rw [g2 (by omega)]⟩)⟩
    · subst c; rw [r3] at h3; exact absurd h3 (by show ¬ (1 : Int) = 3; decide)
    · subst c; exact absurd ⟨by omega, by rw [show a + 4 - 4 = a by omega, r0]⟩ hn
    · subst c; rw [r5] at h3; exact absurd h3 (by show ¬ (1 : Int) = 3; decide)
  · omega
  · rw [g] at h3; exact absurd h3 (by show ¬ (1 : Int) = 3; decide)
end WST
/-! one more place is read -/
def AwR (B X n : Nat) (c : Nat → Int) (ig ig' : sI) : Prop := (∀ j, ¬ (288 * X ≤ j ∧ j < 288 * X + n) → ig' (B + 72) j = ig (B + 72) j) ∧ ∀ r, r < n → wyV B ig' X r = m10 (wyV B ig X r + c r)
section AWR
variable {B X n r : Nat} {c : Nat → Int} {ig ig' ig2 : sI}
theorem AwR.zero : AwR B X 0 c ig ig := ⟨fun _ _ => rfl, fun r hr => absurd hr (Nat.not_lt_zero r)⟩
theorem AwR.step (h : AwR B X n c ig ig') (h1 : ∀ j, j ≠ 288 * X + n → ig2 (B + 72) j = ig' (B + 72) j) (h2 : (ig2 (B + 72) (288 * X + n)).toInt = m10 ((ig' (B + 72) (288 * X + n)).toInt + c n)) : AwR B X (n + 1) c ig ig2 := by
  refine ⟨fun j hj => ?_, fun r hr => ?_⟩
  · rw [h1 j (by omega)]; exact h.1 j (by omega)
  · by_cases e : r = n
    · subst e
      unfold wyV
      rw [h2, h.1 _ (by omega)]
    · have q := h.2 r (by omega)
      unfold wyV at q ⊢
      rw [h1 _ (by omega)]
      exact q
theorem m10_id {z : Int} (h : z ≤ 10) : m10 (z + 0) = z := by unfold m10; split <;> omega
theorem AwR.one {q : Nat} {k : Int} (hb : ∀ r, r < 288 → 0 ≤ wyV B ig X r ∧ wyV B ig X r ≤ 10) (hq : q < 288) (h1 : ∀ j, j ≠ 288 * X + q → ig' (B + 72) j = ig (B + 72) j) (h2 : (ig' (B + 72) (288 * X + q)).toInt = m10 ((ig (B + 72) (288 * X + q)).toInt + k)) (hc : ∀ r, r < 288 → c r = if r = q then k else 0) : AwR B X 288 c ig ig' := by
  refine ⟨fun j hj => h1 j (by omega), fun r hr => ?_⟩
  rw [hc r hr]
  by_cases e : r = q
  · subst e
    rw [if_pos rfl]; exact h2
  · rw [if_neg e, m10_id (hb r hr).2]
    unfold wyV
    rw [h1 _ (by omega)]
theorem AwR.b (h : AwR B X 288 c ig ig') (hb : ∀ r, r < 288 → 0 ≤ wyV B ig X r ∧ wyV B ig X r ≤ 10) (hc : ∀ r, r < 288 → 0 ≤ c r) : ∀ r, r < 288 → 0 ≤ wyV B ig' X r ∧ wyV B ig' X r ≤ 10 := fun r hr => by
  rw [h.2 r hr]
  have a := hb r hr
  have b := hc r hr
  unfold m10
  split <;> omega
/-- the row of X after l was read; the other rows are as they were -/
def WsR (B : Nat) (σ : Sg) (X : Nat) (ig : sI) (l : List Int) (ig' : sI) : Prop := (∀ j, ¬ (288 * X ≤ j ∧ j < 288 * X + 288) → ig' (B + 72) j = ig (B + 72) j) ∧ ∀ r, r < 288 → wyV B ig' X r = l.foldl (wyS 10 (ctr σ (wyV B ig) r)) 0
theorem WsR.row {σ : Sg} {l : List Int} {q : Nat} (h : WsR B σ X ig l ig') (hq : q ≠ X) (hr : r < 288) : wyV B ig' q r = wyV B ig q r := by
  unfold wyV
  rw [h.1 _ (by omega)]
theorem WsR.b {σ : Sg} {l : List Int} (h : WsR B σ X ig l ig') (hl : ∀ y ∈ l, ∀ r, r < 288 → 0 ≤ ctr σ (wyV B ig) r y) : ∀ r, r < 288 → 0 ≤ wyV B ig' X r ∧ wyV B ig' X r ≤ 10 := fun r hr => by
  rw [h.2 r hr]
  exact wyF_b (by decide) l 0 (fun y hy => hl y hy r hr) ⟨by decide, by decide⟩
theorem WsR.step {σ : Sg} {l : List Int} {q : Int} (h : WsR B σ X ig l ig') (hA : AwR B X 288 c ig' ig2) (hc : ∀ r, r < 288 → c r = ctr σ (wyV B ig) r q) : WsR B σ X ig (l ++ [q]) ig2 :=
  ⟨fun j hj => (hA.1 j hj).trans (h.1 j hj), fun r hr => by
    rw [hA.2 r hr, h.2 r hr, hc r hr, List.foldl_append]
    rfl⟩
/-- all ways lie in 0 .. 10 -/
def W10 (B : Nat) (ig : sI) : Prop := ∀ j, 0 ≤ (ig (B + 72) j).toInt ∧ (ig (B + 72) j).toInt ≤ 10
theorem W10.ctr {σ : Sg} {q : Int} (h : W10 B ig) : 0 ≤ ctr σ (wyV B ig) r q := by
  by_cases c : isTot σ q.toNat
  · rw [ctr_t c]; exact (h _).1
  · by_cases e : q = (r : Int) ∧ kdO (σ r) ≠ 0
    · rw [ctr_1 c e]; decide
    · rw [ctr_0 c e]; decide
theorem WsR.w10 {σ : Sg} {l : List Int} (h : WsR B σ X ig l ig') (h0 : W10 B ig) : W10 B ig' := fun j => by
  by_cases c : 288 * X ≤ j ∧ j < 288 * X + 288
  · have q := h.b (fun y _ r _ => h0.ctr) (j - 288 * X) (by omega)
    unfold wyV at q
    rw [show 288 * X + (j - 288 * X) = j by omega] at q
    exact q
  · rw [h.1 j c]; exact h0 j
theorem WsR.add {σ : Sg} {l : List Int} {q : Nat} {K0 : Int} (h : WsR B σ X ig l ig') (hq : q ≠ X) (hk : K0 = kdO (σ q)) (hA : (isTot σ q → AwR B X 288 (wyV B ig' q) ig' ig2) ∧ (¬ isTot σ q → AwR B X 288 (fun r => if r = q then (if K0 = 0 then 0 else 1) else 0) ig' ig2)) : WsR B σ X ig (l ++ [(q : Int)]) ig2 := by
  by_cases c : isTot σ q
  · exact h.step (hA.1 c) (fun r hr => by rw [ctr_t (by rw [Int.toNat_natCast]; exact c), Int.toNat_natCast]; exact h.row hq hr)
  · refine h.step (hA.2 c) (fun r hr => ?_)
    have c2 : ¬ isTot σ ((q : Int)).toNat := by rw [Int.toNat_natCast]; exact c
    show (if r = q then (if K0 = 0 then (0 : Int) else 1) else 0) = _
    by_cases e : r = q
    · rw [if_pos e]
      subst e
      by_cases z : K0 = 0
      · rw [if_pos z, ctr_0 c2 (fun w => w.2 (by rw [← hk]; exact z))]
      · rw [if_neg z, ctr_1 c2 ⟨rfl, by rw [← hk]; exact z⟩]
    · rw [if_neg e, ctr_0 c2 (fun w => e (by have := w.1; omega))]
end AWR
set_option maxHeartbeats 4000000 in
set_option maxRecDepth 100000 in
theorem t_X12_looksTotalE {υ : Option Int} {τ : Tp} {φ : Option Int} (l : Launch) (B : Nat) (D : va_G) (cA : Nat → ClassId) (kd : sK) (ig : sI) (rg : sR) (lg : sG) (sz : Nat) (x : Int32) (hx0 : 0 ≤ x.toInt ∧ x.toInt < 288) (n9 : Nat) (R9 : Rw) (L9 : Fm) (hG : GoS B x.toInt.toNat n9 R9 (ig (B + 66)) (ig (B + 67)) ig) (hie : iE R9 8 0 n9 L9) (hI : IM τ φ υ B kd ig rg) : MC l B D cA yX12_looksTotal cX12_looksTotal 5 (some .boolean) (rL 0 0 0) [.ref (B + 49), .int x] kd ig rg lg sz (Pu kd ig rg lg sz (fun r => ∃ z : Int32, r = some (.int z) ∧ ((z.toInt = 1 ∧ TL L9) ∨ (z.toInt = 0 ∧ ¬ TL L9)))) := by
  refine MC.of (own := RX12) (by decide +kernel) rfl (Nat.le_of_ble_eq_true rfl) ?_
  intro p e s m args below meth c ls C hr hlk hnm hw hsz hl
  have hx := C.1.1
  have hb := C.1.2.1
  have hown := C.1.2.2.2.1
  have hts := C.1.2.2.2.2
  have hl : lv_has ls 5 [(0, .ref (B + 49)), (1, .int x)] := hl
  have hsh := hI.sh
  have hrm := hI.rm
  have hq9 := hG.2.2.2.1
  have hnn := hG.2.2.1
  have la0 := (LA9.start hie).lt
  have kit := hI.its (j := x.toInt.toNat) (by omega)
  refine lv_bipush (v := 120) hx hb dX12_looksTotal_0 (by decide) (ti_c 120 (by decide) fun z1 hz1 => ?_)
  refine lv_iload_n hx hb dX12_looksTotal_2 rfl (lv_at hl 1 rfl) ?_
  refine lv_imul hx hb dX12_looksTotal_3 (tc_mulL 120 hz1 fun z2 hz2 => ?_)
  first | replace hz2 := hz2 (by omega) | clear hz2
  refine lv_istore_n (lv' := [(2, .int z2), (0, .ref (B + 49)), (1, .int x)]) hx hb dX12_looksTotal_4 rfl hl (by decide) rfl (fun ls hl => ?_)
  refine lv_iload_n hx hb dX12_looksTotal_5 rfl (lv_at hl 0 rfl) ?_
  refine lv_aload_n hx hb dX12_looksTotal_6 rfl (lv_at hl 1 rfl) ?_
  refine r_get C hw (hsh 49 _ rfl) fl_X12_77 (oV_r rfl (hrm (49, 13, 58) (by decide))) dX12_looksTotal_7 ?_
  refine lv_iload_n hx hb dX12_looksTotal_10 rfl (lv_at hl 2 rfl) ?_
  refine r_iald C hw (hsh 58 _ rfl) (by omega) (by omega) dX12_looksTotal_11 (ti_c (ig (B + 58) x.toInt.toNat).toInt rfl fun z3 hz3 => ?_)
  have k4 := hI.its (j := (x.toInt.toNat)) (by omega)
  refine lv_iadd hx hb dX12_looksTotal_12 (tc_add fun z5 hz5 => ?_)
  first | replace hz5 := hz5 (by omega) | clear hz5
  refine lv_istore_n (lv' := [(3, .int z5), (2, .int z2), (0, .ref (B + 49)), (1, .int x)]) hx hb dX12_looksTotal_13 rfl hl (by decide) rfl (fun ls hl => ?_)
  refine lv_iconst (v := 1) hx hb dX12_looksTotal_14 (by decide) (ti_c 1 (by decide) fun z6 hz6 => ?_)
  refine lv_istore (lv' := [(4, .int z6), (3, .int z5), (2, .int z2), (0, .ref (B + 49)), (1, .int x)]) hx hb dX12_looksTotal_15 hl (by decide) rfl (fun ls hl => ?_)
  have L17 : ∀ (n : Nat) (ls : Array Slot) (H : Heap) (locs : List Loc) (v7 : Int32) (v8 : Int32), lv_has ls 5 [(4, .int v7), (3, .int z5), (2, .int v8), (0, .ref (B + 49))] → WD B D cA s.heap kd ig rg lg H locs → H.size = sz → (120 * x.toInt ≤ v8.toInt) → (v8.toInt ≤ 120 * x.toInt + (n9 : Int) + 1) → ((v7.toInt = 1 ∧ LA9 R9 n9 L9 (v8.toInt - 120 * x.toInt).toNat) ∨ (v7.toInt = 0 ∧ ¬ TL L9)) → 120 * x.toInt + (n9 : Int) + 1 - v8.toInt < (n : Int) → W p l e (rL 0 0 0) s m args below meth c H locs 0 0 (MQ below (QcW B D cA (Pu kd ig rg lg sz (fun r => ∃ z : Int32, r = some (.int z) ∧ ((z.toInt = 1 ∧ TL L9) ∨ (z.toInt = 0 ∧ ¬ TL L9))))) args s 0 0 (fun q => B ≤ q)) (F0 m 17 ls []) := by
    intro n17
    induction n17 with
    | zero => intro ls H locs v7 v8 hl hw hsz g17_0 g17_1 g17_2 hmu; exact absurd hmu (by omega)
    | succ n17 ih17 =>
      intro ls H locs v7 v8 hl hw hsz g17_0 g17_1 g17_2 hmu
      refine lv_iload hx hb dX12_looksTotal_17 (lv_at hl 0 rfl) ?_
      refine z_eq (tgt := 115) hx hb dX12_looksTotal_19 (by decide) (fun c19 => ?_) (fun c19 => ?_)
      · refine lv_iconst (v := 0) hx hb dX12_looksTotal_115 (by decide) (ti_c 0 (by decide) fun z9 hz9 => ?_)
        exact r_iret C hw hr hlk (nar_b (by omega)) (Nat.le_of_ble_eq_true rfl) (Nat.le_of_ble_eq_true rfl) dX12_looksTotal_116 ⟨rfl, rfl, rfl, rfl, hsz, ⟨_, rfl, (Or.inr ⟨by omega, (by rcases g17_2 with ⟨q9, -⟩ | ⟨-, q9⟩; (exfalso; omega); exact q9)⟩)⟩⟩
      · obtain ⟨a9, ha9⟩ : ∃ a : Nat, v8.toInt = 120 * x.toInt + (a : Int) := ⟨(v8.toInt - 120 * x.toInt).toNat, by omega⟩
        have la9 : LA9 R9 n9 L9 a9 := (by rcases g17_2 with ⟨-, q9⟩ | ⟨q9, -⟩; (rw [show (v8.toInt - 120 * x.toInt).toNat = a9 by omega] at q9; exact q9); omega)
        have lt9 := la9.lt
        have ri9 := hG.ri (a := a9) (by omega)
        refine lv_aload_n hx hb dX12_looksTotal_22 rfl (lv_at hl 3 rfl) ?_
        refine r_get C hw (hsh 49 _ rfl) fl_X12_65 (oV_r rfl (hrm (49, 9, 54) (by decide))) dX12_looksTotal_23 ?_
        refine lv_iload_n hx hb dX12_looksTotal_26 rfl (lv_at hl 2 rfl) ?_
        refine r_iald C hw (hsh 54 _ rfl) (by omega) (by omega) dX12_looksTotal_27 (ti_c (ig (B + 54) v8.toInt.toNat).toInt rfl fun z10 hz10 => ?_)
        have k1 : (R9 a9).1 = z10.toInt := by rw [ri9, itR_k, hz10, show v8.toInt.toNat = 120 * x.toInt.toNat + a9 by omega]; rfl
        refine lv_iconst (v := 3) hx hb dX12_looksTotal_28 (by decide) (ti_c 3 (by decide) fun z12 hz12 => ?_)
        refine b_eq (tgt := 42) hx hb dX12_looksTotal_29 (by decide) (fun c29 => ?_) (fun c29 => ?_)
        · refine lv_iconst (v := 1) hx hb dX12_looksTotal_42 (by decide) (ti_c 1 (by decide) fun z13 hz13 => ?_)
          refine lv_goto (tgt := 47) hx hb dX12_looksTotal_43 (by decide) ?_
          refine lv_istore (lv' := [(4, .int z13), (3, .int z5), (2, .int v8), (0, .ref (B + 49))]) hx hb dX12_looksTotal_47 hl (by decide) rfl (fun ls hl => ?_)
          refine lv_iload_n hx hb dX12_looksTotal_49 rfl (lv_at hl 2 rfl) ?_
          refine lv_aload_n hx hb dX12_looksTotal_50 rfl (lv_at hl 3 rfl) ?_
          refine r_get C hw (hsh 49 _ rfl) fl_X12_65 (oV_r rfl (hrm (49, 9, 54) (by decide))) dX12_looksTotal_51 ?_
          refine lv_iload_n hx hb dX12_looksTotal_54 rfl (lv_at hl 2 rfl) ?_
          refine r_iald C hw (hsh 54 _ rfl) (by omega) (by omega) dX12_looksTotal_55 (ti_c (ig (B + 54) v8.toInt.toNat).toInt rfl fun z14 hz14 => ?_)
          have k2 : (R9 a9).1 = z14.toInt := by rw [ri9, itR_k, hz14, show v8.toInt.toNat = 120 * x.toInt.toNat + a9 by omega]; rfl
          refine lv_iconst (v := 2) hx hb dX12_looksTotal_56 (by decide) (ti_c 2 (by decide) fun z16 hz16 => ?_)
          refine b_ne (tgt := 65) hx hb dX12_looksTotal_57 (by decide) (fun c57 => ?_) (fun c57 => ?_)
          · refine lv_iconst (v := 1) hx hb dX12_looksTotal_65 (by decide) (ti_c 1 (by decide) fun z17 hz17 => ?_)
            refine lv_iadd hx hb dX12_looksTotal_66 (tc_add fun z18 hz18 => ?_)
            first | replace hz18 := hz18 (by omega) | clear hz18
            refine lv_istore_n (lv' := [(2, .int z18), (4, .int z13), (3, .int z5), (0, .ref (B + 49))]) hx hb dX12_looksTotal_67 rfl hl (by decide) rfl (fun ls hl => ?_)
            obtain ⟨b9, hb9⟩ : ∃ b : Nat, z18.toInt = 120 * x.toInt + (b : Int) := ⟨(z18.toInt - 120 * x.toInt).toNat, by omega⟩
            have lb9 : LB9 R9 n9 L9 b9 := (by rw [show b9 = a9 + 1 by omega]; exact la9.ref (by omega))
            refine lv_iload hx hb dX12_looksTotal_68 (lv_at hl 1 rfl) ?_
            refine z_eq (tgt := 78) hx hb dX12_looksTotal_70 (by decide) (fun c70 => ?_) (fun c70 => ?_)
            · refine lv_iload hx hb dX12_looksTotal_78 (lv_at hl 1 rfl) ?_
              exact r_iret C hw hr hlk (nar_b (by omega)) (Nat.le_of_ble_eq_true rfl) (Nat.le_of_ble_eq_true rfl) dX12_looksTotal_80 ⟨rfl, rfl, rfl, rfl, hsz, ⟨_, rfl, (by exfalso; omega)⟩⟩
            · have lbl := lb9.le
              refine lv_iload_n hx hb dX12_looksTotal_73 rfl (lv_at hl 0 rfl) ?_
              refine lv_iload_n hx hb dX12_looksTotal_74 rfl (lv_at hl 2 rfl) ?_
              refine b_ne (tgt := 81) hx hb dX12_looksTotal_75 (by decide) (fun c75 => ?_) (fun c75 => ?_)
              · refine lv_aload_n hx hb dX12_looksTotal_81 rfl (lv_at hl 3 rfl) ?_
                refine r_get C hw (hsh 49 _ rfl) fl_X12_65 (oV_r rfl (hrm (49, 9, 54) (by decide))) dX12_looksTotal_82 ?_
                refine lv_iload_n hx hb dX12_looksTotal_85 rfl (lv_at hl 0 rfl) ?_
                refine r_iald C hw (hsh 54 _ rfl) (by omega) (by omega) dX12_looksTotal_86 (ti_c (ig (B + 54) z18.toInt.toNat).toInt rfl fun z19 hz19 => ?_)
                have k54 : (ig (B + 54) (120 * x.toInt.toNat + b9)).toInt = z19.toInt := by rw [show 120 * x.toInt.toNat + b9 = z18.toInt.toNat by omega]; exact hz19.symm
                refine lv_iconst (v := 1) hx hb dX12_looksTotal_87 (by decide) (ti_c 1 (by decide) fun z21 hz21 => ?_)
                refine b_ne (tgt := 106) hx hb dX12_looksTotal_88 (by decide) (fun c88 => ?_) (fun c88 => ?_)
                · refine lv_iconst (v := 0) hx hb dX12_looksTotal_106 (by decide) (ti_c 0 (by decide) fun z22 hz22 => ?_)
                  refine lv_istore (lv' := [(4, .int z22), (2, .int z18), (3, .int z5), (0, .ref (B + 49))]) hx hb dX12_looksTotal_107 hl (by decide) rfl (fun ls hl => ?_)
                  refine tc_inc hx hb dX12_looksTotal_109 hl (k := 1) rfl (by decide) (by decide) (fun z23 hz23 ls hl => ?_)
                  first | replace hz23 := hz23 (by omega) | clear hz23
                  have hl : lv_has ls 5 [(2, .int z23), (4, .int z22), (3, .int z5), (0, .ref (B + 49))] := hl
                  refine lv_goto (tgt := 17) hx hb dX12_looksTotal_112 (by decide) ?_
                  exact ih17 ls H locs z22 z23 (lv_sub hl [1, 2, 0, 3] rfl) hw hsz (by omega) (by omega) (Or.inr ⟨by omega, lb9.bad (fun q9 => by have q8 := (hG.nx (a := b9) (o := 43) (by omega)).mpr q9; omega) (by omega)⟩) (by omega)
                · refine lv_aload_n hx hb dX12_looksTotal_91 rfl (lv_at hl 3 rfl) ?_
                  refine r_get C hw (hsh 49 _ rfl) fl_X12_68 (oV_r rfl (hrm (49, 10, 55) (by decide))) dX12_looksTotal_92 ?_
                  refine lv_iload_n hx hb dX12_looksTotal_95 rfl (lv_at hl 0 rfl) ?_
                  refine r_iald C hw (hsh 55 _ rfl) (by omega) (by omega) dX12_looksTotal_96 (ti_c (ig (B + 55) z18.toInt.toNat).toInt rfl fun z24 hz24 => ?_)
                  have k55 : (ig (B + 55) (120 * x.toInt.toNat + b9)).toInt = z24.toInt := by rw [show 120 * x.toInt.toNat + b9 = z18.toInt.toNat by omega]; exact hz24.symm
                  refine lv_bipush (v := 43) hx hb dX12_looksTotal_97 (by decide) (ti_c 43 (by decide) fun z26 hz26 => ?_)
                  refine b_ne (tgt := 106) hx hb dX12_looksTotal_99 (by decide) (fun c99 => ?_) (fun c99 => ?_)
                  · refine lv_iconst (v := 0) hx hb dX12_looksTotal_106 (by decide) (ti_c 0 (by decide) fun z27 hz27 => ?_)
                    refine lv_istore (lv' := [(4, .int z27), (2, .int z18), (3, .int z5), (0, .ref (B + 49))]) hx hb dX12_looksTotal_107 hl (by decide) rfl (fun ls hl => ?_)
                    refine tc_inc hx hb dX12_looksTotal_109 hl (k := 1) rfl (by decide) (by decide) (fun z28 hz28 ls hl => ?_)
                    first | replace hz28 := hz28 (by omega) | clear hz28
                    have hl : lv_has ls 5 [(2, .int z28), (4, .int z27), (3, .int z5), (0, .ref (B + 49))] := hl
                    refine lv_goto (tgt := 17) hx hb dX12_looksTotal_112 (by decide) ?_
                    exact ih17 ls H locs z27 z28 (lv_sub hl [1, 2, 0, 3] rfl) hw hsz (by omega) (by omega) (Or.inr ⟨by omega, lb9.bad (fun q9 => by have q8 := (hG.nx (a := b9) (o := 43) (by omega)).mpr q9; omega) (by omega)⟩) (by omega)
                  · refine lv_iconst (v := 1) hx hb dX12_looksTotal_102 (by decide) (ti_c 1 (by decide) fun z29 hz29 => ?_)
                    refine lv_goto (tgt := 107) hx hb dX12_looksTotal_103 (by decide) ?_
                    refine lv_istore (lv' := [(4, .int z29), (2, .int z18), (3, .int z5), (0, .ref (B + 49))]) hx hb dX12_looksTotal_107 hl (by decide) rfl (fun ls hl => ?_)
                    refine tc_inc hx hb dX12_looksTotal_109 hl (k := 1) rfl (by decide) (by decide) (fun z30 hz30 ls hl => ?_)
                    first | replace hz30 := hz30 (by omega) | clear hz30
                    have hl : lv_has ls 5 [(2, .int z30), (4, .int z29), (3, .int z5), (0, .ref (B + 49))] := hl
                    refine lv_goto (tgt := 17) hx hb dX12_looksTotal_112 (by decide) ?_
                    exact ih17 ls H locs z29 z30 (lv_sub hl [1, 2, 0, 3] rfl) hw hsz (by omega) (by omega) (Or.inl ⟨by omega, by rw [show (z30.toInt - 120 * x.toInt).toNat = b9 + 1 by omega]; exact lb9.plus ((hG.nx (a := b9) (o := 43) (by omega)).mp ⟨by omega, by omega, by omega⟩)⟩) (by omega)
              · refine lv_iload hx hb dX12_looksTotal_78 (lv_at hl 1 rfl) ?_
                exact r_iret C hw hr hlk (nar_b (by omega)) (Nat.le_of_ble_eq_true rfl) (Nat.le_of_ble_eq_true rfl) dX12_looksTotal_80 ⟨rfl, rfl, rfl, rfl, hsz, ⟨_, rfl, (Or.inl ⟨by omega, LB9.fin (show LB9 R9 n9 L9 n9 by have q9 := lb9; rw [show b9 = n9 by omega] at q9; exact q9) hG.oo⟩)⟩⟩
          · refine lv_bipush (v := 6) hx hb dX12_looksTotal_60 (by decide) (ti_c 6 (by decide) fun z31 hz31 => ?_)
            refine lv_goto (tgt := 66) hx hb dX12_looksTotal_62 (by decide) ?_
            refine lv_iadd hx hb dX12_looksTotal_66 (tc_add fun z32 hz32 => ?_)
            first | replace hz32 := hz32 (by omega) | clear hz32
            refine lv_istore_n (lv' := [(2, .int z32), (4, .int z13), (3, .int z5), (0, .ref (B + 49))]) hx hb dX12_looksTotal_67 rfl hl (by decide) rfl (fun ls hl => ?_)
            obtain ⟨b9, hb9⟩ : ∃ b : Nat, z32.toInt = 120 * x.toInt + (b : Int) := ⟨(z32.toInt - 120 * x.toInt).toNat, by omega⟩
            have lb9 : LB9 R9 n9 L9 b9 := (by rw [show b9 = a9 + 6 by omega]; exact la9.sum (by omega))
            refine lv_iload hx hb dX12_looksTotal_68 (lv_at hl 1 rfl) ?_
            refine z_eq (tgt := 78) hx hb dX12_looksTotal_70 (by decide) (fun c70 => ?_) (fun c70 => ?_)
            · refine lv_iload hx hb dX12_looksTotal_78 (lv_at hl 1 rfl) ?_
              exact r_iret C hw hr hlk (nar_b (by omega)) (Nat.le_of_ble_eq_true rfl) (Nat.le_of_ble_eq_true rfl) dX12_looksTotal_80 ⟨rfl, rfl, rfl, rfl, hsz, ⟨_, rfl, (by exfalso; omega)⟩⟩
            · have lbl := lb9.le
              refine lv_iload_n hx hb dX12_looksTotal_73 rfl (lv_at hl 0 rfl) ?_
              refine lv_iload_n hx hb dX12_looksTotal_74 rfl (lv_at hl 2 rfl) ?_
              refine b_ne (tgt := 81) hx hb dX12_looksTotal_75 (by decide) (fun c75 => ?_) (fun c75 => ?_)
              · refine lv_aload_n hx hb dX12_looksTotal_81 rfl (lv_at hl 3 rfl) ?_
                refine r_get C hw (hsh 49 _ rfl) fl_X12_65 (oV_r rfl (hrm (49, 9, 54) (by decide))) dX12_looksTotal_82 ?_
                refine lv_iload_n hx hb dX12_looksTotal_85 rfl (lv_at hl 0 rfl) ?_
                refine r_iald C hw (hsh 54 _ rfl) (by omega) (by omega) dX12_looksTotal_86 (ti_c (ig (B + 54) z32.toInt.toNat).toInt rfl fun z33 hz33 => ?_)
                have k54 : (ig (B + 54) (120 * x.toInt.toNat + b9)).toInt = z33.toInt := by rw [show 120 * x.toInt.toNat + b9 = z32.toInt.toNat by omega]; exact hz33.symm
                refine lv_iconst (v := 1) hx hb dX12_looksTotal_87 (by decide) (ti_c 1 (by decide) fun z35 hz35 => ?_)
                refine b_ne (tgt := 106) hx hb dX12_looksTotal_88 (by decide) (fun c88 => ?_) (fun c88 => ?_)
                · refine lv_iconst (v := 0) hx hb dX12_looksTotal_106 (by decide) (ti_c 0 (by decide) fun z36 hz36 => ?_)
                  refine lv_istore (lv' := [(4, .int z36), (2, .int z32), (3, .int z5), (0, .ref (B + 49))]) hx hb dX12_looksTotal_107 hl (by decide) rfl (fun ls hl => ?_)
                  refine tc_inc hx hb dX12_looksTotal_109 hl (k := 1) rfl (by decide) (by decide) (fun z37 hz37 ls hl => ?_)
                  first | replace hz37 := hz37 (by omega) | clear hz37
                  have hl : lv_has ls 5 [(2, .int z37), (4, .int z36), (3, .int z5), (0, .ref (B + 49))] := hl
                  refine lv_goto (tgt := 17) hx hb dX12_looksTotal_112 (by decide) ?_
                  exact ih17 ls H locs z36 z37 (lv_sub hl [1, 2, 0, 3] rfl) hw hsz (by omega) (by omega) (Or.inr ⟨by omega, lb9.bad (fun q9 => by have q8 := (hG.nx (a := b9) (o := 43) (by omega)).mpr q9; omega) (by omega)⟩) (by omega)
                · refine lv_aload_n hx hb dX12_looksTotal_91 rfl (lv_at hl 3 rfl) ?_
                  refine r_get C hw (hsh 49 _ rfl) fl_X12_68 (oV_r rfl (hrm (49, 10, 55) (by decide))) dX12_looksTotal_92 ?_
                  refine lv_iload_n hx hb dX12_looksTotal_95 rfl (lv_at hl 0 rfl) ?_
                  refine r_iald C hw (hsh 55 _ rfl) (by omega) (by omega) dX12_looksTotal_96 (ti_c (ig (B + 55) z32.toInt.toNat).toInt rfl fun z38 hz38 => ?_)
                  have k55 : (ig (B + 55) (120 * x.toInt.toNat + b9)).toInt = z38.toInt := by rw [show 120 * x.toInt.toNat + b9 = z32.toInt.toNat by omega]; exact hz38.symm
                  refine lv_bipush (v := 43) hx hb dX12_looksTotal_97 (by decide) (ti_c 43 (by decide) fun z40 hz40 => ?_)
                  refine b_ne (tgt := 106) hx hb dX12_looksTotal_99 (by decide) (fun c99 => ?_) (fun c99 => ?_)
                  · refine lv_iconst (v := 0) hx hb dX12_looksTotal_106 (by decide) (ti_c 0 (by decide) fun z41 hz41 => ?_)
                    refine lv_istore (lv' := [(4, .int z41), (2, .int z32), (3, .int z5), (0, .ref (B + 49))]) hx hb dX12_looksTotal_107 hl (by decide) rfl (fun ls hl => ?_)
                    refine tc_inc hx hb dX12_looksTotal_109 hl (k := 1) rfl (by decide) (by decide) (fun z42 hz42 ls hl => ?_)
                    first | replace hz42 := hz42 (by omega) | clear hz42
                    have hl : lv_has ls 5 [(2, .int z42), (4, .int z41), (3, .int z5), (0, .ref (B + 49))] := hl
                    refine lv_goto (tgt := 17) hx hb dX12_looksTotal_112 (by decide) ?_
                    exact ih17 ls H locs z41 z42 (lv_sub hl [1, 2, 0, 3] rfl) hw hsz (by omega) (by omega) (Or.inr ⟨by omega, lb9.bad (fun q9 => by have q8 := (hG.nx (a := b9) (o := 43) (by omega)).mpr q9; omega) (by omega)⟩) (by omega)
                  · refine lv_iconst (v := 1) hx hb dX12_looksTotal_102 (by decide) (ti_c 1 (by decide) fun z43 hz43 => ?_)
                    refine lv_goto (tgt := 107) hx hb dX12_looksTotal_103 (by decide) ?_
                    refine lv_istore (lv' := [(4, .int z43), (2, .int z32), (3, .int z5), (0, .ref (B + 49))]) hx hb dX12_looksTotal_107 hl (by decide) rfl (fun ls hl => ?_)
                    refine tc_inc hx hb dX12_looksTotal_109 hl (k := 1) rfl (by decide) (by decide) (fun z44 hz44 ls hl => ?_)
                    first | replace hz44 := hz44 (by omega) | clear hz44
                    have hl : lv_has ls 5 [(2, .int z44), (4, .int z43), (3, .int z5), (0, .ref (B + 49))] := hl
                    refine lv_goto (tgt := 17) hx hb dX12_looksTotal_112 (by decide) ?_
                    exact ih17 ls H locs z43 z44 (lv_sub hl [1, 2, 0, 3] rfl) hw hsz (by omega) (by omega) (Or.inl ⟨by omega, by rw [show (z44.toInt - 120 * x.toInt).toNat = b9 + 1 by omega]; exact lb9.plus ((hG.nx (a := b9) (o := 43) (by omega)).mp ⟨by omega, by omega, by omega⟩)⟩) (by omega)
              · refine lv_iload hx hb dX12_looksTotal_78 (lv_at hl 1 rfl) ?_
                exact r_iret C hw hr hlk (nar_b (by omega)) (Nat.le_of_ble_eq_true rfl) (Nat.le_of_ble_eq_true rfl) dX12_looksTotal_80 ⟨rfl, rfl, rfl, rfl, hsz, ⟨_, rfl, (Or.inl ⟨by omega, LB9.fin (show LB9 R9 n9 L9 n9 by have q9 := lb9; rw [show b9 = n9 by omega] at q9; exact q9) hG.oo⟩)⟩⟩
        · refine lv_aload_n hx hb dX12_looksTotal_32 rfl (lv_at hl 3 rfl) ?_
          refine r_get C hw (hsh 49 _ rfl) fl_X12_65 (oV_r rfl (hrm (49, 9, 54) (by decide))) dX12_looksTotal_33 ?_
          refine lv_iload_n hx hb dX12_looksTotal_36 rfl (lv_at hl 2 rfl) ?_
          refine r_iald C hw (hsh 54 _ rfl) (by omega) (by omega) dX12_looksTotal_37 (ti_c (ig (B + 54) v8.toInt.toNat).toInt rfl fun z45 hz45 => ?_)
          refine lv_iconst (v := 2) hx hb dX12_looksTotal_38 (by decide) (ti_c 2 (by decide) fun z47 hz47 => ?_)
          refine b_ne (tgt := 46) hx hb dX12_looksTotal_39 (by decide) (fun c39 => ?_) (fun c39 => ?_)
          · refine lv_iconst (v := 0) hx hb dX12_looksTotal_46 (by decide) (ti_c 0 (by decide) fun z48 hz48 => ?_)
            refine lv_istore (lv' := [(4, .int z48), (3, .int z5), (2, .int v8), (0, .ref (B + 49))]) hx hb dX12_looksTotal_47 hl (by decide) rfl (fun ls hl => ?_)
            refine lv_iload_n hx hb dX12_looksTotal_49 rfl (lv_at hl 2 rfl) ?_
            refine lv_aload_n hx hb dX12_looksTotal_50 rfl (lv_at hl 3 rfl) ?_
            refine r_get C hw (hsh 49 _ rfl) fl_X12_65 (oV_r rfl (hrm (49, 9, 54) (by decide))) dX12_looksTotal_51 ?_
            refine lv_iload_n hx hb dX12_looksTotal_54 rfl (lv_at hl 2 rfl) ?_
            refine r_iald C hw (hsh 54 _ rfl) (by omega) (by omega) dX12_looksTotal_55 (ti_c (ig (B + 54) v8.toInt.toNat).toInt rfl fun z49 hz49 => ?_)
            have k2 : (R9 a9).1 = z49.toInt := by rw [ri9, itR_k, hz49, show v8.toInt.toNat = 120 * x.toInt.toNat + a9 by omega]; rfl
            refine lv_iconst (v := 2) hx hb dX12_looksTotal_56 (by decide) (ti_c 2 (by decide) fun z51 hz51 => ?_)
            refine b_ne (tgt := 65) hx hb dX12_looksTotal_57 (by decide) (fun c57 => ?_) (fun c57 => ?_)
            · refine lv_iconst (v := 1) hx hb dX12_looksTotal_65 (by decide) (ti_c 1 (by decide) fun z52 hz52 => ?_)
              refine lv_iadd hx hb dX12_looksTotal_66 (tc_add fun z53 hz53 => ?_)
              first | replace hz53 := hz53 (by omega) | clear hz53
              refine lv_istore_n (lv' := [(2, .int z53), (4, .int z48), (3, .int z5), (0, .ref (B + 49))]) hx hb dX12_looksTotal_67 rfl hl (by decide) rfl (fun ls hl => ?_)
              obtain ⟨b9, hb9⟩ : ∃ b : Nat, z53.toInt = 120 * x.toInt + (b : Int) := ⟨(z53.toInt - 120 * x.toInt).toNat, by omega⟩
              refine lv_iload hx hb dX12_looksTotal_68 (lv_at hl 1 rfl) ?_
              refine z_eq (tgt := 78) hx hb dX12_looksTotal_70 (by decide) (fun c70 => ?_) (fun c70 => ?_)
              · refine lv_iload hx hb dX12_looksTotal_78 (lv_at hl 1 rfl) ?_
                exact r_iret C hw hr hlk (nar_b (by omega)) (Nat.le_of_ble_eq_true rfl) (Nat.le_of_ble_eq_true rfl) dX12_looksTotal_80 ⟨rfl, rfl, rfl, rfl, hsz, ⟨_, rfl, (Or.inr ⟨by omega, la9.bad (by omega) (by omega)⟩)⟩⟩
              · have lb9 : LB9 R9 n9 L9 b9 := (show False by omega).elim
                have lbl := lb9.le
                refine lv_iload_n hx hb dX12_looksTotal_73 rfl (lv_at hl 0 rfl) ?_
                refine lv_iload_n hx hb dX12_looksTotal_74 rfl (lv_at hl 2 rfl) ?_
                refine b_ne (tgt := 81) hx hb dX12_looksTotal_75 (by decide) (fun c75 => ?_) (fun c75 => ?_)
                · refine lv_aload_n hx hb dX12_looksTotal_81 rfl (lv_at hl 3 rfl) ?_
                  refine r_get C hw (hsh 49 _ rfl) fl_X12_65 (oV_r rfl (hrm (49, 9, 54) (by decide))) dX12_looksTotal_82 ?_
                  refine lv_iload_n hx hb dX12_looksTotal_85 rfl (lv_at hl 0 rfl) ?_
                  refine r_iald C hw (hsh 54 _ rfl) (by omega) (by omega) dX12_looksTotal_86 (ti_c (ig (B + 54) z53.toInt.toNat).toInt rfl fun z54 hz54 => ?_)
                  have k54 : (ig (B + 54) (120 * x.toInt.toNat + b9)).toInt = z54.toInt := by rw [show 120 * x.toInt.toNat + b9 = z53.toInt.toNat by omega]; exact hz54.symm
                  refine lv_iconst (v := 1) hx hb dX12_looksTotal_87 (by decide) (ti_c 1 (by decide) fun z56 hz56 => ?_)
                  refine b_ne (tgt := 106) hx hb dX12_looksTotal_88 (by decide) (fun c88 => ?_) (fun c88 => ?_)
                  · refine lv_iconst (v := 0) hx hb dX12_looksTotal_106 (by decide) (ti_c 0 (by decide) fun z57 hz57 => ?_)
                    refine lv_istore (lv' := [(4, .int z57), (2, .int z53), (3, .int z5), (0, .ref (B + 49))]) hx hb dX12_looksTotal_107 hl (by decide) rfl (fun ls hl => ?_)
                    refine tc_inc hx hb dX12_looksTotal_109 hl (k := 1) rfl (by decide) (by decide) (fun z58 hz58 ls hl => ?_)
                    first | replace hz58 := hz58 (by omega) | clear hz58
                    have hl : lv_has ls 5 [(2, .int z58), (4, .int z57), (3, .int z5), (0, .ref (B + 49))] := hl
                    refine lv_goto (tgt := 17) hx hb dX12_looksTotal_112 (by decide) ?_
                    exact ih17 ls H locs z57 z58 (lv_sub hl [1, 2, 0, 3] rfl) hw hsz (by omega) (by omega) (Or.inr ⟨by omega, lb9.bad (fun q9 => by have q8 := (hG.nx (a := b9) (o := 43) (by omega)).mpr q9; omega) (by omega)⟩) (by omega)
                  · refine lv_aload_n hx hb dX12_looksTotal_91 rfl (lv_at hl 3 rfl) ?_
                    refine r_get C hw (hsh 49 _ rfl) fl_X12_68 (oV_r rfl (hrm (49, 10, 55) (by decide))) dX12_looksTotal_92 ?_
                    refine lv_iload_n hx hb dX12_looksTotal_95 rfl (lv_at hl 0 rfl) ?_
                    refine r_iald C hw (hsh 55 _ rfl) (by omega) (by omega) dX12_looksTotal_96 (ti_c (ig (B + 55) z53.toInt.toNat).toInt rfl fun z59 hz59 => ?_)
                    have k55 : (ig (B + 55) (120 * x.toInt.toNat + b9)).toInt = z59.toInt := by rw [show 120 * x.toInt.toNat + b9 = z53.toInt.toNat by omega]; exact hz59.symm
                    refine lv_bipush (v := 43) hx hb dX12_looksTotal_97 (by decide) (ti_c 43 (by decide) fun z61 hz61 => ?_)
                    refine b_ne (tgt := 106) hx hb dX12_looksTotal_99 (by decide) (fun c99 => ?_) (fun c99 => ?_)
                    · refine lv_iconst (v := 0) hx hb dX12_looksTotal_106 (by decide) (ti_c 0 (by decide) fun z62 hz62 => ?_)
                      refine lv_istore (lv' := [(4, .int z62), (2, .int z53), (3, .int z5), (0, .ref (B + 49))]) hx hb dX12_looksTotal_107 hl (by decide) rfl (fun ls hl => ?_)
                      refine tc_inc hx hb dX12_looksTotal_109 hl (k := 1) rfl (by decide) (by decide) (fun z63 hz63 ls hl => ?_)
                      first | replace hz63 := hz63 (by omega) | clear hz63
                      have hl : lv_has ls 5 [(2, .int z63), (4, .int z62), (3, .int z5), (0, .ref (B + 49))] := hl
                      refine lv_goto (tgt := 17) hx hb dX12_looksTotal_112 (by decide) ?_
                      exact ih17 ls H locs z62 z63 (lv_sub hl [1, 2, 0, 3] rfl) hw hsz (by omega) (by omega) (Or.inr ⟨by omega, lb9.bad (fun q9 => by have q8 := (hG.nx (a := b9) (o := 43) (by omega)).mpr q9; omega) (by omega)⟩) (by omega)
                    · refine lv_iconst (v := 1) hx hb dX12_looksTotal_102 (by decide) (ti_c 1 (by decide) fun z64 hz64 => ?_)
                      refine lv_goto (tgt := 107) hx hb dX12_looksTotal_103 (by decide) ?_
                      refine lv_istore (lv' := [(4, .int z64), (2, .int z53), (3, .int z5), (0, .ref (B + 49))]) hx hb dX12_looksTotal_107 hl (by decide) rfl (fun ls hl => ?_)
                      refine tc_inc hx hb dX12_looksTotal_109 hl (k := 1) rfl (by decide) (by decide) (fun z65 hz65 ls hl => ?_)
                      first | replace hz65 := hz65 (by omega) | clear hz65
                      have hl : lv_has ls 5 [(2, .int z65), (4, .int z64), (3, .int z5), (0, .ref (B + 49))] := hl
                      refine lv_goto (tgt := 17) hx hb dX12_looksTotal_112 (by decide) ?_
                      exact ih17 ls H locs z64 z65 (lv_sub hl [1, 2, 0, 3] rfl) hw hsz (by omega) (by omega) (Or.inl ⟨by omega, by rw [show (z65.toInt - 120 * x.toInt).toNat = b9 + 1 by omega]; exact lb9.plus ((hG.nx (a := b9) (o := 43) (by omega)).mp ⟨by omega, by omega, by omega⟩)⟩) (by omega)
                · refine lv_iload hx hb dX12_looksTotal_78 (lv_at hl 1 rfl) ?_
                  exact r_iret C hw hr hlk (nar_b (by omega)) (Nat.le_of_ble_eq_true rfl) (Nat.le_of_ble_eq_true rfl) dX12_looksTotal_80 ⟨rfl, rfl, rfl, rfl, hsz, ⟨_, rfl, (by exfalso; omega)⟩⟩
            · refine lv_bipush (v := 6) hx hb dX12_looksTotal_60 (by decide) (ti_c 6 (by decide) fun z66 hz66 => ?_)
              refine lv_goto (tgt := 66) hx hb dX12_looksTotal_62 (by decide) ?_
              refine lv_iadd hx hb dX12_looksTotal_66 (tc_add fun z67 hz67 => ?_)
              first | replace hz67 := hz67 (by omega) | clear hz67
              refine lv_istore_n (lv' := [(2, .int z67), (4, .int z48), (3, .int z5), (0, .ref (B + 49))]) hx hb dX12_looksTotal_67 rfl hl (by decide) rfl (fun ls hl => ?_)
              obtain ⟨b9, hb9⟩ : ∃ b : Nat, z67.toInt = 120 * x.toInt + (b : Int) := ⟨(z67.toInt - 120 * x.toInt).toNat, by omega⟩
              refine lv_iload hx hb dX12_looksTotal_68 (lv_at hl 1 rfl) ?_
              refine z_eq (tgt := 78) hx hb dX12_looksTotal_70 (by decide) (fun c70 => ?_) (fun c70 => ?_)
              · refine lv_iload hx hb dX12_looksTotal_78 (lv_at hl 1 rfl) ?_
                exact r_iret C hw hr hlk (nar_b (by omega)) (Nat.le_of_ble_eq_true rfl) (Nat.le_of_ble_eq_true rfl) dX12_looksTotal_80 ⟨rfl, rfl, rfl, rfl, hsz, ⟨_, rfl, (Or.inr ⟨by omega, la9.bad (by omega) (by omega)⟩)⟩⟩
              · have lb9 : LB9 R9 n9 L9 b9 := (show False by omega).elim
                have lbl := lb9.le
                refine lv_iload_n hx hb dX12_looksTotal_73 rfl (lv_at hl 0 rfl) ?_
                refine lv_iload_n hx hb dX12_looksTotal_74 rfl (lv_at hl 2 rfl) ?_
                refine b_ne (tgt := 81) hx hb dX12_looksTotal_75 (by decide) (fun c75 => ?_) (fun c75 => ?_)
                · refine lv_aload_n hx hb dX12_looksTotal_81 rfl (lv_at hl 3 rfl) ?_
                  refine r_get C hw (hsh 49 _ rfl) fl_X12_65 (oV_r rfl (hrm (49, 9, 54) (by decide))) dX12_looksTotal_82 ?_
                  refine lv_iload_n hx hb dX12_looksTotal_85 rfl (lv_at hl 0 rfl) ?_
                  refine r_iald C hw (hsh 54 _ rfl) (by omega) (by omega) dX12_looksTotal_86 (ti_c (ig (B + 54) z67.toInt.toNat).toInt rfl fun z68 hz68 => ?_)
                  have k54 : (ig (B + 54) (120 * x.toInt.toNat + b9)).toInt = z68.toInt := by rw [show 120 * x.toInt.toNat + b9 = z67.toInt.toNat by omega]; exact hz68.symm
                  refine lv_iconst (v := 1) hx hb dX12_looksTotal_87 (by decide) (ti_c 1 (by decide) fun z70 hz70 => ?_)
                  refine b_ne (tgt := 106) hx hb dX12_looksTotal_88 (by decide) (fun c88 => ?_) (fun c88 => ?_)
                  · refine lv_iconst (v := 0) hx hb dX12_looksTotal_106 (by decide) (ti_c 0 (by decide) fun z71 hz71 => ?_)
                    refine lv_istore (lv' := [(4, .int z71), (2, .int z67), (3, .int z5), (0, .ref (B + 49))]) hx hb dX12_looksTotal_107 hl (by decide) rfl (fun ls hl => ?_)
                    refine tc_inc hx hb dX12_looksTotal_109 hl (k := 1) rfl (by decide) (by decide) (fun z72 hz72 ls hl => ?_)
                    first | replace hz72 := hz72 (by omega) | clear hz72
                    have hl : lv_has ls 5 [(2, .int z72), (4, .int z71), (3, .int z5), (0, .ref (B + 49))] := hl
                    refine lv_goto (tgt := 17) hx hb dX12_looksTotal_112 (by decide) ?_
                    exact ih17 ls H locs z71 z72 (lv_sub hl [1, 2, 0, 3] rfl) hw hsz (by omega) (by omega) (Or.inr ⟨by omega, lb9.bad (fun q9 => by have q8 := (hG.nx (a := b9) (o := 43) (by omega)).mpr q9; omega) (by omega)⟩) (by omega)
                  · refine lv_aload_n hx hb dX12_looksTotal_91 rfl (lv_at hl 3 rfl) ?_
                    refine r_get C hw (hsh 49 _ rfl) fl_X12_68 (oV_r rfl (hrm (49, 10, 55) (by decide))) dX12_looksTotal_92 ?_
                    refine lv_iload_n hx hb dX12_looksTotal_95 rfl (lv_at hl 0 rfl) ?_
                    refine r_iald C hw (hsh 55 _ rfl) (by omega) (by omega) dX12_looksTotal_96 (ti_c (ig (B + 55) z67.toInt.toNat).toInt rfl fun z73 hz73 => ?_)
                    have k55 : (ig (B + 55) (120 * x.toInt.toNat + b9)).toInt = z73.toInt := by rw [show 120 * x.toInt.toNat + b9 = z67.toInt.toNat by omega]; exact hz73.symm
                    refine lv_bipush (v := 43) hx hb dX12_looksTotal_97 (by decide) (ti_c 43 (by decide) fun z75 hz75 => ?_)
                    refine b_ne (tgt := 106) hx hb dX12_looksTotal_99 (by decide) (fun c99 => ?_) (fun c99 => ?_)
                    · refine lv_iconst (v := 0) hx hb dX12_looksTotal_106 (by decide) (ti_c 0 (by decide) fun z76 hz76 => ?_)
                      refine lv_istore (lv' := [(4, .int z76), (2, .int z67), (3, .int z5), (0, .ref (B + 49))]) hx hb dX12_looksTotal_107 hl (by decide) rfl (fun ls hl => ?_)
                      refine tc_inc hx hb dX12_looksTotal_109 hl (k := 1) rfl (by decide) (by decide) (fun z77 hz77 ls hl => ?_)
                      first | replace hz77 := hz77 (by omega) | clear hz77
                      have hl : lv_has ls 5 [(2, .int z77), (4, .int z76), (3, .int z5), (0, .ref (B + 49))] := hl
                      refine lv_goto (tgt := 17) hx hb dX12_looksTotal_112 (by decide) ?_
                      exact ih17 ls H locs z76 z77 (lv_sub hl [1, 2, 0, 3] rfl) hw hsz (by omega) (by omega) (Or.inr ⟨by omega, lb9.bad (fun q9 => by have q8 := (hG.nx (a := b9) (o := 43) (by omega)).mpr q9; omega) (by omega)⟩) (by omega)
                    · refine lv_iconst (v := 1) hx hb dX12_looksTotal_102 (by decide) (ti_c 1 (by decide) fun z78 hz78 => ?_)
                      refine lv_goto (tgt := 107) hx hb dX12_looksTotal_103 (by decide) ?_
                      refine lv_istore (lv' := [(4, .int z78), (2, .int z67), (3, .int z5), (0, .ref (B + 49))]) hx hb dX12_looksTotal_107 hl (by decide) rfl (fun ls hl => ?_)
                      refine tc_inc hx hb dX12_looksTotal_109 hl (k := 1) rfl (by decide) (by decide) (fun z79 hz79 ls hl => ?_)
                      first | replace hz79 := hz79 (by omega) | clear hz79
                      have hl : lv_has ls 5 [(2, .int z79), (4, .int z78), (3, .int z5), (0, .ref (B + 49))] := hl
                      refine lv_goto (tgt := 17) hx hb dX12_looksTotal_112 (by decide) ?_
                      exact ih17 ls H locs z78 z79 (lv_sub hl [1, 2, 0, 3] rfl) hw hsz (by omega) (by omega) (Or.inl ⟨by omega, by rw [show (z79.toInt - 120 * x.toInt).toNat = b9 + 1 by omega]; exact lb9.plus ((hG.nx (a := b9) (o := 43) (by omega)).mp ⟨by omega, by omega, by omega⟩)⟩) (by omega)
                · refine lv_iload hx hb dX12_looksTotal_78 (lv_at hl 1 rfl) ?_
                  exact r_iret C hw hr hlk (nar_b (by omega)) (Nat.le_of_ble_eq_true rfl) (Nat.le_of_ble_eq_true rfl) dX12_looksTotal_80 ⟨rfl, rfl, rfl, rfl, hsz, ⟨_, rfl, (by exfalso; omega)⟩⟩
          · refine lv_iconst (v := 1) hx hb dX12_looksTotal_42 (by decide) (ti_c 1 (by decide) fun z80 hz80 => ?_)
            refine lv_goto (tgt := 47) hx hb dX12_looksTotal_43 (by decide) ?_
            refine lv_istore (lv' := [(4, .int z80), (3, .int z5), (2, .int v8), (0, .ref (B + 49))]) hx hb dX12_looksTotal_47 hl (by decide) rfl (fun ls hl => ?_)
            refine lv_iload_n hx hb dX12_looksTotal_49 rfl (lv_at hl 2 rfl) ?_
            refine lv_aload_n hx hb dX12_looksTotal_50 rfl (lv_at hl 3 rfl) ?_
            refine r_get C hw (hsh 49 _ rfl) fl_X12_65 (oV_r rfl (hrm (49, 9, 54) (by decide))) dX12_looksTotal_51 ?_
            refine lv_iload_n hx hb dX12_looksTotal_54 rfl (lv_at hl 2 rfl) ?_
            refine r_iald C hw (hsh 54 _ rfl) (by omega) (by omega) dX12_looksTotal_55 (ti_c (ig (B + 54) v8.toInt.toNat).toInt rfl fun z81 hz81 => ?_)
            have k2 : (R9 a9).1 = z81.toInt := by rw [ri9, itR_k, hz81, show v8.toInt.toNat = 120 * x.toInt.toNat + a9 by omega]; rfl
            refine lv_iconst (v := 2) hx hb dX12_looksTotal_56 (by decide) (ti_c 2 (by decide) fun z83 hz83 => ?_)
            refine b_ne (tgt := 65) hx hb dX12_looksTotal_57 (by decide) (fun c57 => ?_) (fun c57 => ?_)
            · refine lv_iconst (v := 1) hx hb dX12_looksTotal_65 (by decide) (ti_c 1 (by decide) fun z84 hz84 => ?_)
              refine lv_iadd hx hb dX12_looksTotal_66 (tc_add fun z85 hz85 => ?_)
              first | replace hz85 := hz85 (by omega) | clear hz85
              refine lv_istore_n (lv' := [(2, .int z85), (4, .int z80), (3, .int z5), (0, .ref (B + 49))]) hx hb dX12_looksTotal_67 rfl hl (by decide) rfl (fun ls hl => ?_)
              obtain ⟨b9, hb9⟩ : ∃ b : Nat, z85.toInt = 120 * x.toInt + (b : Int) := ⟨(z85.toInt - 120 * x.toInt).toNat, by omega⟩
              have lb9 : LB9 R9 n9 L9 b9 := (by rw [show b9 = a9 + 1 by omega]; exact la9.ref (by omega))
              refine lv_iload hx hb dX12_looksTotal_68 (lv_at hl 1 rfl) ?_
              refine z_eq (tgt := 78) hx hb dX12_looksTotal_70 (by decide) (fun c70 => ?_) (fun c70 => ?_)
              · refine lv_iload hx hb dX12_looksTotal_78 (lv_at hl 1 rfl) ?_
                exact r_iret C hw hr hlk (nar_b (by omega)) (Nat.le_of_ble_eq_true rfl) (Nat.le_of_ble_eq_true rfl) dX12_looksTotal_80 ⟨rfl, rfl, rfl, rfl, hsz, ⟨_, rfl, (by exfalso; omega)⟩⟩
              · have lbl := lb9.le
                refine lv_iload_n hx hb dX12_looksTotal_73 rfl (lv_at hl 0 rfl) ?_
                refine lv_iload_n hx hb dX12_looksTotal_74 rfl (lv_at hl 2 rfl) ?_
                refine b_ne (tgt := 81) hx hb dX12_looksTotal_75 (by decide) (fun c75 => ?_) (fun c75 => ?_)
                · refine lv_aload_n hx hb dX12_looksTotal_81 rfl (lv_at hl 3 rfl) ?_
                  refine r_get C hw (hsh 49 _ rfl) fl_X12_65 (oV_r rfl (hrm (49, 9, 54) (by decide))) dX12_looksTotal_82 ?_
                  refine lv_iload_n hx hb dX12_looksTotal_85 rfl (lv_at hl 0 rfl) ?_
                  refine r_iald C hw (hsh 54 _ rfl) (by omega) (by omega) dX12_looksTotal_86 (ti_c (ig (B + 54) z85.toInt.toNat).toInt rfl fun z86 hz86 => ?_)
                  have k54 : (ig (B + 54) (120 * x.toInt.toNat + b9)).toInt = z86.toInt := by rw [show 120 * x.toInt.toNat + b9 = z85.toInt.toNat by omega]; exact hz86.symm
                  refine lv_iconst (v := 1) hx hb dX12_looksTotal_87 (by decide) (ti_c 1 (by decide) fun z88 hz88 => ?_)
                  refine b_ne (tgt := 106) hx hb dX12_looksTotal_88 (by decide) (fun c88 => ?_) (fun c88 => ?_)
                  · refine lv_iconst (v := 0) hx hb dX12_looksTotal_106 (by decide) (ti_c 0 (by decide) fun z89 hz89 => ?_)
                    refine lv_istore (lv' := [(4, .int z89), (2, .int z85), (3, .int z5), (0, .ref (B + 49))]) hx hb dX12_looksTotal_107 hl (by decide) rfl (fun ls hl => ?_)
                    refine tc_inc hx hb dX12_looksTotal_109 hl (k := 1) rfl (by decide) (by decide) (fun z90 hz90 ls hl => ?_)
                    first | replace hz90 := hz90 (by omega) | clear hz90
                    have hl : lv_has ls 5 [(2, .int z90), (4, .int z89), (3, .int z5), (0, .ref (B + 49))] := hl
                    refine lv_goto (tgt := 17) hx hb dX12_looksTotal_112 (by decide) ?_
                    exact ih17 ls H locs z89 z90 (lv_sub hl [1, 2, 0, 3] rfl) hw hsz (by omega) (by omega) (Or.inr ⟨by omega, lb9.bad (fun q9 => by have q8 := (hG.nx (a := b9) (o := 43) (by omega)).mpr q9; omega) (by omega)⟩) (by omega)
                  · refine lv_aload_n hx hb dX12_looksTotal_91 rfl (lv_at hl 3 rfl) ?_
                    refine r_get C hw (hsh 49 _ rfl) fl_X12_68 (oV_r rfl (hrm (49, 10, 55) (by decide))) dX12_looksTotal_92 ?_
                    refine lv_iload_n hx hb dX12_looksTotal_95 rfl (lv_at hl 0 rfl) ?_
                    refine r_iald C hw (hsh 55 _ rfl) (by omega) (by omega) dX12_looksTotal_96 (ti_c (ig (B + 55) z85.toInt.toNat).toInt rfl fun z91 hz91 => ?_)
                    have k55 : (ig (B + 55) (120 * x.toInt.toNat + b9)).toInt = z91.toInt := by rw [show 120 * x.toInt.toNat + b9 = z85.toInt.toNat by omega]; exact hz91.symm
                    refine lv_bipush (v := 43) hx hb dX12_looksTotal_97 (by decide) (ti_c 43 (by decide) fun z93 hz93 => ?_)
                    refine b_ne (tgt := 106) hx hb dX12_looksTotal_99 (by decide) (fun c99 => ?_) (fun c99 => ?_)
                    · refine lv_iconst (v := 0) hx hb dX12_looksTotal_106 (by decide) (ti_c 0 (by decide) fun z94 hz94 => ?_)
                      refine lv_istore (lv' := [(4, .int z94), (2, .int z85), (3, .int z5), (0, .ref (B + 49))]) hx hb dX12_looksTotal_107 hl (by decide) rfl (fun ls hl => ?_)
                      refine tc_inc hx hb dX12_looksTotal_109 hl (k := 1) rfl (by decide) (by decide) (fun z95 hz95 ls hl => ?_)
                      first | replace hz95 := hz95 (by omega) | clear hz95
                      have hl : lv_has ls 5 [(2, .int z95), (4, .int z94), (3, .int z5), (0, .ref (B + 49))] := hl
                      refine lv_goto (tgt := 17) hx hb dX12_looksTotal_112 (by decide) ?_
                      exact ih17 ls H locs z94 z95 (lv_sub hl [1, 2, 0, 3] rfl) hw hsz (by omega) (by omega) (Or.inr ⟨by omega, lb9.bad (fun q9 => by have q8 := (hG.nx (a := b9) (o := 43) (by omega)).mpr q9; omega) (by omega)⟩) (by omega)
                    · refine lv_iconst (v := 1) hx hb dX12_looksTotal_102 (by decide) (ti_c 1 (by decide) fun z96 hz96 => ?_)
                      refine lv_goto (tgt := 107) hx hb dX12_looksTotal_103 (by decide) ?_
                      refine lv_istore (lv' := [(4, .int z96), (2, .int z85), (3, .int z5), (0, .ref (B + 49))]) hx hb dX12_looksTotal_107 hl (by decide) rfl (fun ls hl => ?_)
                      refine tc_inc hx hb dX12_looksTotal_109 hl (k := 1) rfl (by decide) (by decide) (fun z97 hz97 ls hl => ?_)
                      first | replace hz97 := hz97 (by omega) | clear hz97
                      have hl : lv_has ls 5 [(2, .int z97), (4, .int z96), (3, .int z5), (0, .ref (B + 49))] := hl
                      refine lv_goto (tgt := 17) hx hb dX12_looksTotal_112 (by decide) ?_
                      exact ih17 ls H locs z96 z97 (lv_sub hl [1, 2, 0, 3] rfl) hw hsz (by omega) (by omega) (Or.inl ⟨by omega, by rw [show (z97.toInt - 120 * x.toInt).toNat = b9 + 1 by omega]; exact lb9.plus ((hG.nx (a := b9) (o := 43) (by omega)).mp ⟨by omega, by omega, by omega⟩)⟩) (by omega)
                · refine lv_iload hx hb dX12_looksTotal_78 (lv_at hl 1 rfl) ?_
                  exact r_iret C hw hr hlk (nar_b (by omega)) (Nat.le_of_ble_eq_true rfl) (Nat.le_of_ble_eq_true rfl) dX12_looksTotal_80 ⟨rfl, rfl, rfl, rfl, hsz, ⟨_, rfl, (Or.inl ⟨by omega, LB9.fin (show LB9 R9 n9 L9 n9 by have q9 := lb9; rw [show b9 = n9 by omega] at q9; exact q9) hG.oo⟩)⟩⟩
            · refine lv_bipush (v := 6) hx hb dX12_looksTotal_60 (by decide) (ti_c 6 (by decide) fun z98 hz98 => ?_)
              refine lv_goto (tgt := 66) hx hb dX12_looksTotal_62 (by decide) ?_
              refine lv_iadd hx hb dX12_looksTotal_66 (tc_add fun z99 hz99 => ?_)
              first | replace hz99 := hz99 (by omega) | clear hz99
              refine lv_istore_n (lv' := [(2, .int z99), (4, .int z80), (3, .int z5), (0, .ref (B + 49))]) hx hb dX12_looksTotal_67 rfl hl (by decide) rfl (fun ls hl => ?_)
              obtain ⟨b9, hb9⟩ : ∃ b : Nat, z99.toInt = 120 * x.toInt + (b : Int) := ⟨(z99.toInt - 120 * x.toInt).toNat, by omega⟩
              have lb9 : LB9 R9 n9 L9 b9 := (by rw [show b9 = a9 + 6 by omega]; exact la9.sum (by omega))
              refine lv_iload hx hb dX12_looksTotal_68 (lv_at hl 1 rfl) ?_
              refine z_eq (tgt := 78) hx hb dX12_looksTotal_70 (by decide) (fun c70 => ?_) (fun c70 => ?_)
              · refine lv_iload hx hb dX12_looksTotal_78 (lv_at hl 1 rfl) ?_
                exact r_iret C hw hr hlk (nar_b (by omega)) (Nat.le_of_ble_eq_true rfl) (Nat.le_of_ble_eq_true rfl) dX12_looksTotal_80 ⟨rfl, rfl, rfl, rfl, hsz, ⟨_, rfl, (by exfalso; omega)⟩⟩
              · have lbl := lb9.le
                refine lv_iload_n hx hb dX12_looksTotal_73 rfl (lv_at hl 0 rfl) ?_
                refine lv_iload_n hx hb dX12_looksTotal_74 rfl (lv_at hl 2 rfl) ?_
                refine b_ne (tgt := 81) hx hb dX12_looksTotal_75 (by decide) (fun c75 => ?_) (fun c75 => ?_)
                · refine lv_aload_n hx hb dX12_looksTotal_81 rfl (lv_at hl 3 rfl) ?_
                  refine r_get C hw (hsh 49 _ rfl) fl_X12_65 (oV_r rfl (hrm (49, 9, 54) (by decide))) dX12_looksTotal_82 ?_
                  refine lv_iload_n hx hb dX12_looksTotal_85 rfl (lv_at hl 0 rfl) ?_
                  refine r_iald C hw (hsh 54 _ rfl) (by omega) (by omega) dX12_looksTotal_86 (ti_c (ig (B + 54) z99.toInt.toNat).toInt rfl fun z100 hz100 => ?_)
                  have k54 : (ig (B + 54) (120 * x.toInt.toNat + b9)).toInt = z100.toInt := by rw [show 120 * x.toInt.toNat + b9 = z99.toInt.toNat by omega]; exact hz100.symm
                  refine lv_iconst (v := 1) hx hb dX12_looksTotal_87 (by decide) (ti_c 1 (by decide) fun z102 hz102 => ?_)
                  refine b_ne (tgt := 106) hx hb dX12_looksTotal_88 (by decide) (fun c88 => ?_) (fun c88 => ?_)
                  · refine lv_iconst (v := 0) hx hb dX12_looksTotal_106 (by decide) (ti_c 0 (by decide) fun z103 hz103 => ?_)
                    refine lv_istore (lv' := [(4, .int z103), (2, .int z99), (3, .int z5), (0, .ref (B + 49))]) hx hb dX12_looksTotal_107 hl (by decide) rfl (fun ls hl => ?_)
                    refine tc_inc hx hb dX12_looksTotal_109 hl (k := 1) rfl (by decide) (by decide) (fun z104 hz104 ls hl => ?_)
                    first | replace hz104 := hz104 (by omega) | clear hz104
                    have hl : lv_has ls 5 [(2, .int z104), (4, .int z103), (3, .int z5), (0, .ref (B + 49))] := hl
                    refine lv_goto (tgt := 17) hx hb dX12_looksTotal_112 (by decide) ?_
                    exact ih17 ls H locs z103 z104 (lv_sub hl [1, 2, 0, 3] rfl) hw hsz (by omega) (by omega) (Or.inr ⟨by omega, lb9.bad (fun q9 => by have q8 := (hG.nx (a := b9) (o := 43) (by omega)).mpr q9; omega) (by omega)⟩) (by omega)
                  · refine lv_aload_n hx hb dX12_looksTotal_91 rfl (lv_at hl 3 rfl) ?_
                    refine r_get C hw (hsh 49 _ rfl) fl_X12_68 (oV_r rfl (hrm (49, 10, 55) (by decide))) dX12_looksTotal_92 ?_
                    refine lv_iload_n hx hb dX12_looksTotal_95 rfl (lv_at hl 0 rfl) ?_
                    refine r_iald C hw (hsh 55 _ rfl) (by omega) (by omega) dX12_looksTotal_96 (ti_c (ig (B + 55) z99.toInt.toNat).toInt rfl fun z105 hz105 => ?_)
                    have k55 : (ig (B + 55) (120 * x.toInt.toNat + b9)).toInt = z105.toInt := by rw [show 120 * x.toInt.toNat + b9 = z99.toInt.toNat by omega]; exact hz105.symm
                    refine lv_bipush (v := 43) hx hb dX12_looksTotal_97 (by decide) (ti_c 43 (by decide) fun z107 hz107 => ?_)
                    refine b_ne (tgt := 106) hx hb dX12_looksTotal_99 (by decide) (fun c99 => ?_) (fun c99 => ?_)
                    · refine lv_iconst (v := 0) hx hb dX12_looksTotal_106 (by decide) (ti_c 0 (by decide) fun z108 hz108 => ?_)
                      refine lv_istore (lv' := [(4, .int z108), (2, .int z99), (3, .int z5), (0, .ref (B + 49))]) hx hb dX12_looksTotal_107 hl (by decide) rfl (fun ls hl => ?_)
                      refine tc_inc hx hb dX12_looksTotal_109 hl (k := 1) rfl (by decide) (by decide) (fun z109 hz109 ls hl => ?_)
                      first | replace hz109 := hz109 (by omega) | clear hz109
                      have hl : lv_has ls 5 [(2, .int z109), (4, .int z108), (3, .int z5), (0, .ref (B + 49))] := hl
                      refine lv_goto (tgt := 17) hx hb dX12_looksTotal_112 (by decide) ?_
                      exact ih17 ls H locs z108 z109 (lv_sub hl [1, 2, 0, 3] rfl) hw hsz (by omega) (by omega) (Or.inr ⟨by omega, lb9.bad (fun q9 => by have q8 := (hG.nx (a := b9) (o := 43) (by omega)).mpr q9; omega) (by omega)⟩) (by omega)
                    · refine lv_iconst (v := 1) hx hb dX12_looksTotal_102 (by decide) (ti_c 1 (by decide) fun z110 hz110 => ?_)
                      refine lv_goto (tgt := 107) hx hb dX12_looksTotal_103 (by decide) ?_
                      refine lv_istore (lv' := [(4, .int z110), (2, .int z99), (3, .int z5), (0, .ref (B + 49))]) hx hb dX12_looksTotal_107 hl (by decide) rfl (fun ls hl => ?_)
                      refine tc_inc hx hb dX12_looksTotal_109 hl (k := 1) rfl (by decide) (by decide) (fun z111 hz111 ls hl => ?_)
                      first | replace hz111 := hz111 (by omega) | clear hz111
                      have hl : lv_has ls 5 [(2, .int z111), (4, .int z110), (3, .int z5), (0, .ref (B + 49))] := hl
                      refine lv_goto (tgt := 17) hx hb dX12_looksTotal_112 (by decide) ?_
                      exact ih17 ls H locs z110 z111 (lv_sub hl [1, 2, 0, 3] rfl) hw hsz (by omega) (by omega) (Or.inl ⟨by omega, by rw [show (z111.toInt - 120 * x.toInt).toNat = b9 + 1 by omega]; exact lb9.plus ((hG.nx (a := b9) (o := 43) (by omega)).mp ⟨by omega, by omega, by omega⟩)⟩) (by omega)
                · refine lv_iload hx hb dX12_looksTotal_78 (lv_at hl 1 rfl) ?_
                  exact r_iret C hw hr hlk (nar_b (by omega)) (Nat.le_of_ble_eq_true rfl) (Nat.le_of_ble_eq_true rfl) dX12_looksTotal_80 ⟨rfl, rfl, rfl, rfl, hsz, ⟨_, rfl, (Or.inl ⟨by omega, LB9.fin (show LB9 R9 n9 L9 n9 by have q9 := lb9; rw [show b9 = n9 by omega] at q9; exact q9) hG.oo⟩)⟩⟩
  exact L17 ((120 * x.toInt + (n9 : Int) + 1 - z2.toInt) + 1).toNat ls s.heap [] z6 z2 (lv_sub hl [0, 1, 2, 3] rfl) hw hsz (by omega) (by omega) (Or.inl ⟨by omega, by rw [show (z2.toInt - 120 * x.toInt).toNat = 0 by omega]; exact LA9.start hie⟩) (by omega)

set_option maxHeartbeats 4000000 in
set_option maxRecDepth 100000 in
theorem t_X12_addWayE {υ : Option Int} {τ : Tp} {φ : Option Int} (l : Launch) (B : Nat) (D : va_G) (cA : Nat → ClassId) (kd : sK) (ig : sI) (rg : sR) (lg : sG) (sz : Nat) (x : Int32) (y : Int32) (u : Int32) (hx0 : 0 ≤ x.toInt ∧ x.toInt < 288) (hy0 : 0 ≤ y.toInt ∧ y.toInt < 288) (hb0 : 0 ≤ (ig (B + 72) (288 * x.toInt.toNat + y.toInt.toNat)).toInt ∧ (ig (B + 72) (288 * x.toInt.toNat + y.toInt.toNat)).toInt ≤ 10) (hu0 : 0 ≤ u.toInt ∧ u.toInt ≤ 10) (hI : IM τ φ υ B kd ig rg) : MC l B D cA yX12_addWay cX12_addWay 5 none (rL 0 0 0) [.ref (B + 49), .int x, .int y, .int u] kd ig rg lg sz (PM τ φ υ B [72] kd ig rg lg (fun r ig' lg' => (r = none ∧ ((∀ j, j ≠ (288 * x.toInt.toNat + y.toInt.toNat) → ig' (B + 72) j = ig (B + 72) j) ∧ (ig' (B + 72) (288 * x.toInt.toNat + y.toInt.toNat)).toInt = m10 ((ig (B + 72) (288 * x.toInt.toNat + y.toInt.toNat)).toInt + u.toInt))))) := by
  refine MC.of (own := RX12) (by decide +kernel) rfl (Nat.le_of_ble_eq_true rfl) ?_
  intro p e s m args below meth c ls C hr hlk hnm hw hsz hl
  have hx := C.1.1
  have hb := C.1.2.1
  have hown := C.1.2.2.2.1
  have hts := C.1.2.2.2.2
  have hl : lv_has ls 5 [(0, .ref (B + 49)), (1, .int x), (2, .int y), (3, .int u)] := hl
  have hF : Ft B [72] ig lg ig lg := Ft.rf
  have hsh := hI.sh
  have hrm := hI.rm
  refine lv_aload_n hx hb dX12_addWay_0 rfl (lv_at hl 0 rfl) ?_
  refine r_get C hw (hsh 49 _ rfl) fl_X12_121 (oV_r rfl (hrm (49, 29, 72) (by decide))) dX12_addWay_1 ?_
  refine lv_sipush (v := 288) hx hb dX12_addWay_4 (by decide) (ti_c 288 (by decide) fun z1 hz1 => ?_)
  refine lv_iload_n hx hb dX12_addWay_7 rfl (lv_at hl 1 rfl) ?_
  refine lv_imul hx hb dX12_addWay_8 (tc_mulL 288 hz1 fun z2 hz2 => ?_)
  first | replace hz2 := hz2 (by omega) | clear hz2
  refine lv_iload_n hx hb dX12_addWay_9 rfl (lv_at hl 2 rfl) ?_
  refine lv_iadd hx hb dX12_addWay_10 (tc_add fun z3 hz3 => ?_)
  first | replace hz3 := hz3 (by omega) | clear hz3
  refine r_iald C hw (hsh 72 _ rfl) (by omega) (by omega) dX12_addWay_11 (ti_c (ig (B + 72) z3.toInt.toNat).toInt rfl fun z4 hz4 => ?_)
  rw [show z3.toInt.toNat = (288 * x.toInt.toNat + y.toInt.toNat) by omega] at hz4
  refine lv_iload_n hx hb dX12_addWay_12 rfl (lv_at hl 3 rfl) ?_
  refine lv_iadd hx hb dX12_addWay_13 (tc_add fun z6 hz6 => ?_)
  first | replace hz6 := hz6 (by omega) | clear hz6
  refine lv_istore (lv' := [(4, .int z6), (0, .ref (B + 49)), (1, .int x), (2, .int y), (3, .int u)]) hx hb dX12_addWay_14 hl (by decide) rfl (fun ls hl => ?_)
  refine lv_aload_n hx hb dX12_addWay_16 rfl (lv_at hl 1 rfl) ?_
  refine r_get C hw (hsh 49 _ rfl) fl_X12_121 (oV_r rfl (hrm (49, 29, 72) (by decide))) dX12_addWay_17 ?_
  refine lv_sipush (v := 288) hx hb dX12_addWay_20 (by decide) (ti_c 288 (by decide) fun z7 hz7 => ?_)
  refine lv_iload_n hx hb dX12_addWay_23 rfl (lv_at hl 2 rfl) ?_
  refine lv_imul hx hb dX12_addWay_24 (tc_mulL 288 hz7 fun z8 hz8 => ?_)
  first | replace hz8 := hz8 (by omega) | clear hz8
  refine lv_iload_n hx hb dX12_addWay_25 rfl (lv_at hl 3 rfl) ?_
  refine lv_iadd hx hb dX12_addWay_26 (tc_add fun z9 hz9 => ?_)
  first | replace hz9 := hz9 (by omega) | clear hz9
  refine lv_iload hx hb dX12_addWay_27 (lv_at hl 0 rfl) ?_
  refine lv_bipush (v := 10) hx hb dX12_addWay_29 (by decide) (ti_c 10 (by decide) fun z10 hz10 => ?_)
  refine b_le (tgt := 39) hx hb dX12_addWay_31 (by decide) (fun c31 => ?_) (fun c31 => ?_)
  · refine lv_iload hx hb dX12_addWay_39 (lv_at hl 0 rfl) ?_
    refine r_iast C hw (hsh 72 _ rfl) (by omega) (by omega) dX12_addWay_41 (fun H locs hH hw => ?_)
    obtain ⟨ig11, eig11⟩ : ∃ f, f = up2 ig (B + 72) z9.toInt.toNat z6 := ⟨_, rfl⟩
    rw [← eig11] at hw
    have hF : Ft B [72] ig lg ig11 lg := by rw [eig11]; exact hF.pi (by decide)
    have hI : IM τ φ υ B kd ig11 rg := by rw [eig11]; exact hI.pi (by decide) (show okR none _ from trivial)
    have aw9 : ((∀ j, j ≠ (288 * x.toInt.toNat + y.toInt.toNat) → ig11 (B + 72) j = ig (B + 72) j) ∧ (ig11 (B + 72) (288 * x.toInt.toNat + y.toInt.toNat)).toInt = m10 ((ig (B + 72) (288 * x.toInt.toNat + y.toInt.toNat)).toInt + u.toInt)) := ⟨fun j hj => by rw [eig11, up2_j (by omega)], by rw [eig11, show z9.toInt.toNat = (288 * x.toInt.toNat + y.toInt.toNat) by omega, up2_eq]; unfold m10; split <;> omega⟩
    exact r_vret C hw hr hlk (Nat.le_of_ble_eq_true rfl) (Nat.le_of_ble_eq_true rfl) dX12_addWay_42 ⟨rfl, rfl, hI, hF, ⟨rfl, aw9⟩⟩
  · refine lv_bipush (v := 10) hx hb dX12_addWay_34 (by decide) (ti_c 10 (by decide) fun z12 hz12 => ?_)
    refine lv_goto (tgt := 41) hx hb dX12_addWay_36 (by decide) ?_
    refine r_iast C hw (hsh 72 _ rfl) (by omega) (by omega) dX12_addWay_41 (fun H locs hH hw => ?_)
    obtain ⟨ig13, eig13⟩ : ∃ f, f = up2 ig (B + 72) z9.toInt.toNat z12 := ⟨_, rfl⟩
    rw [← eig13] at hw
    have hF : Ft B [72] ig lg ig13 lg := by rw [eig13]; exact hF.pi (by decide)
    have hI : IM τ φ υ B kd ig13 rg := by rw [eig13]; exact hI.pi (by decide) (show okR none _ from trivial)
    have aw9 : ((∀ j, j ≠ (288 * x.toInt.toNat + y.toInt.toNat) → ig13 (B + 72) j = ig (B + 72) j) ∧ (ig13 (B + 72) (288 * x.toInt.toNat + y.toInt.toNat)).toInt = m10 ((ig (B + 72) (288 * x.toInt.toNat + y.toInt.toNat)).toInt + u.toInt)) := ⟨fun j hj => by rw [eig13, up2_j (by omega)], by rw [eig13, show z9.toInt.toNat = (288 * x.toInt.toNat + y.toInt.toNat) by omega, up2_eq]; unfold m10; split <;> omega⟩
    exact r_vret C hw hr hlk (Nat.le_of_ble_eq_true rfl) (Nat.le_of_ble_eq_true rfl) dX12_addWay_42 ⟨rfl, rfl, hI, hF, ⟨rfl, aw9⟩⟩

set_option maxHeartbeats 4000000 in
set_option maxRecDepth 100000 in
theorem t_X12_addWaysE {υ : Option Int} {τ : Tp} {φ : Option Int} (l : Launch) (B : Nat) (D : va_G) (cA : Nat → ClassId) (kd : sK) (ig : sI) (rg : sR) (lg : sG) (sz : Nat) (x : Int32) (y : Int32) (hx0 : 0 ≤ x.toInt ∧ x.toInt < 288) (hy0 : 0 ≤ y.toInt ∧ y.toInt < 288) (hne : x.toInt.toNat ≠ y.toInt.toNat) (K : Prop) (hK : ((ig (B + 70) y.toInt.toNat).toInt = 1 ∧ K) ∨ ((ig (B + 70) y.toInt.toNat).toInt = 0 ∧ ¬ K)) (hb0 : ∀ r, r < 288 → 0 ≤ wyV B ig x.toInt.toNat r ∧ wyV B ig x.toInt.toNat r ≤ 10) (hb1 : K → ∀ r, r < 288 → 0 ≤ wyV B ig y.toInt.toNat r ∧ wyV B ig y.toInt.toNat r ≤ 10) (hI : IM τ φ υ B kd ig rg) : MC l B D cA yX12_addWays cX12_addWays 4 none (rL 1 0 0) [.ref (B + 49), .int x, .int y] kd ig rg lg sz (PM τ φ υ B [72] kd ig rg lg (fun r ig' lg' => (r = none ∧ ((K → AwR B x.toInt.toNat 288 (wyV B ig y.toInt.toNat) ig ig') ∧ (¬ K → AwR B x.toInt.toNat 288 (fun r => if r = y.toInt.toNat then (if (ig (B + 59) y.toInt.toNat).toInt = 0 then 0 else 1) else 0) ig ig'))))) := by
  refine MC.of (own := RX12) (by decide +kernel) rfl (Nat.le_of_ble_eq_true rfl) ?_
  intro p e s m args below meth c ls C hr hlk hnm hw hsz hl
  have hx := C.1.1
  have hb := C.1.2.1
  have hown := C.1.2.2.2.1
  have hts := C.1.2.2.2.2
  have hl : lv_has ls 4 [(0, .ref (B + 49)), (1, .int x), (2, .int y)] := hl
  have hF : Ft B [72] ig lg ig lg := Ft.rf
  have hsh := hI.sh
  have hrm := hI.rm
  refine lv_aload_n hx hb dX12_addWays_0 rfl (lv_at hl 0 rfl) ?_
  refine r_get C hw (hsh 49 _ rfl) fl_X12_114 (oV_r rfl (hrm (49, 27, 70) (by decide))) dX12_addWays_1 ?_
  refine lv_iload_n hx hb dX12_addWays_4 rfl (lv_at hl 2 rfl) ?_
  refine r_zald C hw (hsh 70 _ rfl) (by omega) (by omega) dX12_addWays_5 (ti_c (ig (B + 70) y.toInt.toNat).toInt rfl fun z1 hz1 => ?_)
  refine z_ne (tgt := 30) hx hb dX12_addWays_6 (by decide) (fun c6 => ?_) (fun c6 => ?_)
  · have hk9 : K := (by rcases hK with ⟨-, q9⟩ | ⟨q9, -⟩; exact q9; omega)
    refine lv_iconst (v := 0) hx hb dX12_addWays_30 (by decide) (ti_c 0 (by decide) fun z3 hz3 => ?_)
    refine lv_istore_n (lv' := [(3, .int z3), (0, .ref (B + 49)), (1, .int x), (2, .int y)]) hx hb dX12_addWays_31 rfl hl (by decide) rfl (fun ls hl => ?_)
    have L32 : ∀ (n : Nat) (ls : Array Slot) (H : Heap) (locs : List Loc) (ig5 : sI) (lg6 : sG) (v4 : Int32), lv_has ls 4 [(3, .int v4), (0, .ref (B + 49)), (1, .int x), (2, .int y)] → WD B D cA s.heap kd ig5 rg lg6 H locs → IM τ φ υ B kd ig5 rg → Ft B [72] ig lg ig5 lg6 → (0 ≤ v4.toInt) → (v4.toInt ≤ 288) → (AwR B x.toInt.toNat v4.toInt.toNat (wyV B ig y.toInt.toNat) ig ig5) → 288 - v4.toInt < (n : Int) → W p l e (rL 1 0 0) s m args below meth c H locs 0 0 (MQ below (QcW B D cA (PM τ φ υ B [72] kd ig rg lg (fun r ig' lg' => (r = none ∧ ((K → AwR B x.toInt.toNat 288 (wyV B ig y.toInt.toNat) ig ig') ∧ (¬ K → AwR B x.toInt.toNat 288 (fun r => if r = y.toInt.toNat then (if (ig (B + 59) y.toInt.toNat).toInt = 0 then 0 else 1) else 0) ig ig')))))) args s 0 0 (fun q => B ≤ q)) (F0 m 32 ls []) := by
      intro n32
      induction n32 with
      | zero => intro ls H locs ig5 lg6 v4 hl hw hI hF g32_0 g32_1 g32_2 hmu; exact absurd hmu (by omega)
      | succ n32 ih32 =>
        intro ls H locs ig5 lg6 v4 hl hw hI hF g32_0 g32_1 g32_2 hmu
        refine lv_iload_n hx hb dX12_addWays_32 rfl (lv_at hl 0 rfl) ?_
        refine lv_sipush (v := 288) hx hb dX12_addWays_33 (by decide) (ti_c 288 (by decide) fun z7 hz7 => ?_)
        refine b_ge (tgt := 63) hx hb dX12_addWays_36 (by decide) (fun c36 => ?_) (fun c36 => ?_)
        · exact r_vret C hw hr hlk (Nat.le_of_ble_eq_true rfl) (Nat.le_of_ble_eq_true rfl) dX12_addWays_63 ⟨rfl, rfl, hI, hF, ⟨rfl, ⟨fun _ => (by have q9 := g32_2; rw [show v4.toInt.toNat = 288 by omega] at q9; exact q9), fun q9 => absurd hk9 q9⟩⟩⟩
        · refine lv_aload_n hx hb dX12_addWays_39 rfl (lv_at hl 1 rfl) ?_
          refine lv_iload_n hx hb dX12_addWays_40 rfl (lv_at hl 2 rfl) ?_
          refine lv_iload_n hx hb dX12_addWays_41 rfl (lv_at hl 0 rfl) ?_
          refine lv_aload_n hx hb dX12_addWays_42 rfl (lv_at hl 1 rfl) ?_
          refine r_get C hw (hsh 49 _ rfl) fl_X12_121 (oV_r rfl (hrm (49, 29, 72) (by decide))) dX12_addWays_43 ?_
          refine lv_sipush (v := 288) hx hb dX12_addWays_46 (by decide) (ti_c 288 (by decide) fun z8 hz8 => ?_)
          refine lv_iload_n hx hb dX12_addWays_49 rfl (lv_at hl 3 rfl) ?_
          refine lv_imul hx hb dX12_addWays_50 (tc_mulL 288 hz8 fun z9 hz9 => ?_)
          first | replace hz9 := hz9 (by omega) | clear hz9
          refine lv_iload_n hx hb dX12_addWays_51 rfl (lv_at hl 0 rfl) ?_
          refine lv_iadd hx hb dX12_addWays_52 (tc_add fun z10 hz10 => ?_)
          first | replace hz10 := hz10 (by omega) | clear hz10
          refine r_iald C hw (hsh 72 _ rfl) (by omega) (by omega) dX12_addWays_53 (ti_c (ig5 (B + 72) z10.toInt.toNat).toInt rfl fun z11 hz11 => ?_)
          have hk54 : z11.toInt = wyV B ig y.toInt.toNat v4.toInt.toNat := by rw [hz11, show z10.toInt.toNat = 288 * y.toInt.toNat + v4.toInt.toNat by omega, g32_2.1 _ (by omega)]; rfl
          have hb54 := hb1 hk9 v4.toInt.toNat (by omega)
          refine r_callV (As := [.int x, .int v4, .int z11]) (rest := []) C hw (t_X12_addWayE l B D cA kd ig5 rg lg6 _ x v4 z11 (by omega) (by omega) (by have q9 := hb0 v4.toInt.toNat (by omega); unfold wyV at q9; rw [g32_2.1 _ (by omega)]; exact q9) (by omega) hI) sv_X12_308 (hsh 49 _ rfl) rfl hl.1 rfl (Nat.le_of_ble_eq_true rfl) ⟨Nat.le_of_ble_eq_true rfl, Nat.le_of_ble_eq_true rfl⟩ ⟨Nat.le_of_ble_eq_true rfl, Nat.le_of_ble_eq_true rfl⟩ dX12_addWays_54 (fun r17 kd13 ig14 rg15 lg16 H locs hw hH hp18 => ?_)
          obtain ⟨rfl, rfl, hI, hchp18, hrhp18⟩ := hp18
          have hF : Ft B [72] ig lg ig14 lg16 := Ft.tr hF hchp18 (by decide) (by decide)
          obtain ⟨rfl, hvhp18⟩ := hrhp18
          have as9 := AwR.step (c := (wyV B ig y.toInt.toNat)) g32_2 hvhp18.1 (by rw [hvhp18.2, hk54])
          refine tc_inc hx hb dX12_addWays_57 hl (k := 0) rfl (by decide) (by decide) (fun z19 hz19 ls hl => ?_)
          first | replace hz19 := hz19 (by omega) | clear hz19
          have hl : lv_has ls 4 [(3, .int z19), (0, .ref (B + 49)), (1, .int x), (2, .int y)] := hl
          refine lv_goto (tgt := 32) hx hb dX12_addWays_60 (by decide) ?_
          exact ih32 ls H locs ig14 lg16 z19 (lv_sub hl [0, 1, 2, 3] rfl) hw hI hF (by omega) (by omega) (by rw [show z19.toInt.toNat = v4.toInt.toNat + 1 by omega]; exact as9) (by omega)
    exact L32 ((288 - z3.toInt) + 1).toNat ls s.heap [] ig lg z3 (lv_sub hl [0, 1, 2, 3] rfl) hw hI hF (by omega) (by omega) (by rw [show z3.toInt.toNat = 0 by omega]; exact AwR.zero) (by omega)
  · have nk9 : ¬ K := (by rcases hK with ⟨q9, -⟩ | ⟨-, q9⟩; omega; exact q9)
    refine lv_aload_n hx hb dX12_addWays_9 rfl (lv_at hl 0 rfl) ?_
    refine lv_iload_n hx hb dX12_addWays_10 rfl (lv_at hl 1 rfl) ?_
    refine lv_iload_n hx hb dX12_addWays_11 rfl (lv_at hl 2 rfl) ?_
    refine lv_aload_n hx hb dX12_addWays_12 rfl (lv_at hl 0 rfl) ?_
    refine r_get C hw (hsh 49 _ rfl) fl_X12_80 (oV_r rfl (hrm (49, 15, 59) (by decide))) dX12_addWays_13 ?_
    refine lv_iload_n hx hb dX12_addWays_16 rfl (lv_at hl 2 rfl) ?_
    refine r_iald C hw (hsh 59 _ rfl) (by omega) (by omega) dX12_addWays_17 (ti_c (ig (B + 59) y.toInt.toNat).toInt rfl fun z20 hz20 => ?_)
    refine z_ne (tgt := 25) hx hb dX12_addWays_18 (by decide) (fun c18 => ?_) (fun c18 => ?_)
    · refine lv_iconst (v := 1) hx hb dX12_addWays_25 (by decide) (ti_c 1 (by decide) fun z22 hz22 => ?_)
      refine r_callV (As := [.int x, .int y, .int z22]) (rest := []) C hw (t_X12_addWayE l B D cA kd ig rg lg _ x y z22 (by omega) (by omega) (hb0 _ (by omega)) (by omega) hI) sv_X12_308 (hsh 49 _ rfl) rfl hl.1 rfl (Nat.le_of_ble_eq_true rfl) ⟨Nat.le_of_ble_eq_true rfl, Nat.le_of_ble_eq_true rfl⟩ ⟨Nat.le_of_ble_eq_true rfl, Nat.le_of_ble_eq_true rfl⟩ dX12_addWays_26 (fun r27 kd23 ig24 rg25 lg26 H locs hw hH hp28 => ?_)
      obtain ⟨rfl, rfl, hI, hchp28, hrhp28⟩ := hp28
      have hF : Ft B [72] ig lg ig24 lg26 := Ft.tr hF hchp28 (by decide) (by decide)
      obtain ⟨rfl, hvhp28⟩ := hrhp28
      have ar9 : AwR B x.toInt.toNat 288 (fun r => if r = y.toInt.toNat then (if (ig (B + 59) y.toInt.toNat).toInt = 0 then 0 else 1) else 0) ig ig24 := AwR.one hb0 (by omega) (fun j hj => hvhp28.1 j hj) hvhp28.2 (fun r hr => by show (if _ then _ else _) = _; by_cases c : r = y.toInt.toNat; (rw [if_pos c, if_pos c]; rw [if_neg (by omega)]; omega); (rw [if_neg c, if_neg c]))
      exact r_vret C hw hr hlk (Nat.le_of_ble_eq_true rfl) (Nat.le_of_ble_eq_true rfl) dX12_addWays_29 ⟨rfl, rfl, hI, hF, ⟨rfl, ⟨fun q9 => absurd q9 nk9, fun _ => ar9⟩⟩⟩
    · refine lv_iconst (v := 0) hx hb dX12_addWays_21 (by decide) (ti_c 0 (by decide) fun z29 hz29 => ?_)
      refine lv_goto (tgt := 26) hx hb dX12_addWays_22 (by decide) ?_
      refine r_callV (As := [.int x, .int y, .int z29]) (rest := []) C hw (t_X12_addWayE l B D cA kd ig rg lg _ x y z29 (by omega) (by omega) (hb0 _ (by omega)) (by omega) hI) sv_X12_308 (hsh 49 _ rfl) rfl hl.1 rfl (Nat.le_of_ble_eq_true rfl) ⟨Nat.le_of_ble_eq_true rfl, Nat.le_of_ble_eq_true rfl⟩ ⟨Nat.le_of_ble_eq_true rfl, Nat.le_of_ble_eq_true rfl⟩ dX12_addWays_26 (fun r34 kd30 ig31 rg32 lg33 H locs hw hH hp35 => ?_)
      obtain ⟨rfl, rfl, hI, hchp35, hrhp35⟩ := hp35
      have hF : Ft B [72] ig lg ig31 lg33 := Ft.tr hF hchp35 (by decide) (by decide)
      obtain ⟨rfl, hvhp35⟩ := hrhp35
      have ar9 : AwR B x.toInt.toNat 288 (fun r => if r = y.toInt.toNat then (if (ig (B + 59) y.toInt.toNat).toInt = 0 then 0 else 1) else 0) ig ig31 := AwR.one hb0 (by omega) (fun j hj => hvhp35.1 j hj) hvhp35.2 (fun r hr => by show (if _ then _ else _) = _; by_cases c : r = y.toInt.toNat; (rw [if_pos c, if_pos c]; rw [if_pos (by omega)]; omega); (rw [if_neg c, if_neg c]))
      exact r_vret C hw hr hlk (Nat.le_of_ble_eq_true rfl) (Nat.le_of_ble_eq_true rfl) dX12_addWays_29 ⟨rfl, rfl, hI, hF, ⟨rfl, ⟨fun q9 => absurd q9 nk9, fun _ => ar9⟩⟩⟩

set_option maxHeartbeats 4000000 in
set_option maxRecDepth 100000 in
theorem t_X12_countWaysE {υ : Option Int} {τ : Tp} {φ : Option Int} (l : Launch) (B : Nat) (D : va_G) (cA : Nat → ClassId) (kd : sK) (ig : sI) (rg : sR) (lg : sG) (sz : Nat) (x : Int32) (hx0 : 0 ≤ x.toInt ∧ x.toInt < 288) (hkd : (ig (B + 59) x.toInt.toNat).toInt = 2) (σ : Sg) (n9 : Nat) (R9 : Rw) (L9 : Fm) (hG : GoS B x.toInt.toNat n9 R9 (ig (B + 66)) (ig (B + 67)) ig) (hie : iE R9 8 0 n9 L9) (hTL : TL L9) (hrg : ∀ q : Nat, (q : Int) ∈ rdL L9 (x.toInt.toNat : Int) → q ≠ x.toInt.toNat) (hT : ∀ q : Nat, (q : Int) ∈ rdL L9 (x.toInt.toNat : Int) → ((ig (B + 70) q).toInt = 1 ∧ isTot σ q) ∨ ((ig (B + 70) q).toInt = 0 ∧ ¬ isTot σ q)) (hkd0 : ∀ q, q < 288 → (ig (B + 59) q).toInt = kdO (σ q)) (hwb : ∀ q : Nat, (q : Int) ∈ rdL L9 (x.toInt.toNat : Int) → isTot σ q → ∀ r, r < 288 → 0 ≤ wyV B ig q r ∧ wyV B ig q r ≤ 10) (hI : IM τ φ υ B kd ig rg) : MC l B D cA yX12_countWays cX12_countWays 8 none (rL 2 0 0) [.ref (B + 49), .int x] kd ig rg lg sz (PM τ φ υ B [72] kd ig rg lg (fun r ig' lg' => (r = none ∧ (WsR B σ x.toInt.toNat ig (rdL L9 (x.toInt.toNat : Int)) ig' ∧ ∀ r, r < 288 → 0 ≤ wyV B ig' x.toInt.toNat r ∧ wyV B ig' x.toInt.toNat r ≤ 10)))) := by
  refine MC.of (own := RX12) (by decide +kernel) rfl (Nat.le_of_ble_eq_true rfl) ?_
  intro p e s m args below meth c ls C hr hlk hnm hw hsz hl
  have hx := C.1.1
  have hb := C.1.2.1
  have hown := C.1.2.2.2.1
  have hts := C.1.2.2.2.2
  have hl : lv_has ls 8 [(0, .ref (B + 49)), (1, .int x)] := hl
  have hF : Ft B [72] ig lg ig lg := Ft.rf
  have hsh := hI.sh
  have hrm := hI.rm
  have hI0 := hI
  have hq9 := hG.2.2.2.1
  have hnn := hG.2.2.1
  refine lv_iconst (v := 0) hx hb dX12_countWays_0 (by decide) (ti_c 0 (by decide) fun z1 hz1 => ?_)
  refine lv_istore_n (lv' := [(2, .int z1), (0, .ref (B + 49)), (1, .int x)]) hx hb dX12_countWays_1 rfl hl (by decide) rfl (fun ls hl => ?_)
  have L2 : ∀ (n : Nat) (ls : Array Slot) (H : Heap) (locs : List Loc) (ig3 : sI) (lg4 : sG) (v2 : Int32), lv_has ls 8 [(2, .int v2), (0, .ref (B + 49)), (1, .int x)] → WD B D cA s.heap kd ig3 rg lg4 H locs → IM τ φ υ B kd ig3 rg → Ft B [72] ig lg ig3 lg4 → (0 ≤ v2.toInt) → (v2.toInt ≤ 288) → ((∀ j, ¬ (288 * x.toInt.toNat ≤ j ∧ j < 288 * x.toInt.toNat + v2.toInt.toNat) → ig3 (B + 72) j = ig (B + 72) j) ∧ ∀ r, r < v2.toInt.toNat → wyV B ig3 x.toInt.toNat r = 0) → 288 - v2.toInt < (n : Int) → W p l e (rL 2 0 0) s m args below meth c H locs 0 0 (MQ below (QcW B D cA (PM τ φ υ B [72] kd ig rg lg (fun r ig' lg' => (r = none ∧ (WsR B σ x.toInt.toNat ig (rdL L9 (x.toInt.toNat : Int)) ig' ∧ ∀ r, r < 288 → 0 ≤ wyV B ig' x.toInt.toNat r ∧ wyV B ig' x.toInt.toNat r ≤ 10))))) args s 0 0 (fun q => B ≤ q)) (F0 m 2 ls []) := by
    intro n2
    induction n2 with
    | zero => intro ls H locs ig3 lg4 v2 hl hw hI hF g2_0 g2_1 g2_2 hmu; exact absurd hmu (by omega)
    | succ n2 ih2 =>
      intro ls H locs ig3 lg4 v2 hl hw hI hF g2_0 g2_1 g2_2 hmu
      refine lv_iload_n hx hb dX12_countWays_2 rfl (lv_at hl 0 rfl) ?_
      refine lv_sipush (v := 288) hx hb dX12_countWays_3 (by decide) (ti_c 288 (by decide) fun z5 hz5 => ?_)
      refine b_ge (tgt := 28) hx hb dX12_countWays_6 (by decide) (fun c6 => ?_) (fun c6 => ?_)
      · have zr9 : WsR B σ x.toInt.toNat ig ([]) ig3 := ⟨by have q9 := g2_2.1; rw [show v2.toInt.toNat = 288 by omega] at q9; exact q9, fun r hr => g2_2.2 r (by omega)⟩
        have bz9 : ∀ r, r < 288 → 0 ≤ wyV B ig3 x.toInt.toNat r ∧ wyV B ig3 x.toInt.toNat r ≤ 10 := fun r hr => by rw [g2_2.2 r (by omega)]; exact ⟨by decide, by decide⟩
        refine lv_iconst (v := 0) hx hb dX12_countWays_28 (by decide) (ti_c 0 (by decide) fun z6 hz6 => ?_)
        refine lv_istore_n (lv' := [(2, .int z6), (0, .ref (B + 49)), (1, .int x)]) hx hb dX12_countWays_29 rfl hl (by decide) rfl (fun ls hl => ?_)
        have L30 : ∀ (n : Nat) (ls : Array Slot) (H : Heap) (locs : List Loc) (ig8 : sI) (lg9 : sG) (v7 : Int32), lv_has ls 8 [(2, .int v7), (0, .ref (B + 49)), (1, .int x)] → WD B D cA s.heap kd ig8 rg lg9 H locs → IM τ φ υ B kd ig8 rg → Ft B [72] ig lg ig8 lg9 → (0 ≤ v7.toInt) → (v7.toInt ≤ (n9 : Int)) → (∃ l, WSt R9 n9 L9 (x.toInt.toNat : Int) v7.toInt.toNat l ∧ WsR B σ x.toInt.toNat ig (l) ig8) → (∀ r, r < 288 → 0 ≤ wyV B ig8 x.toInt.toNat r ∧ wyV B ig8 x.toInt.toNat r ≤ 10) → (n9 : Int) - v7.toInt < (n : Int) → W p l e (rL 2 0 0) s m args below meth c H locs 0 0 (MQ below (QcW B D cA (PM τ φ υ B [72] kd ig rg lg (fun r ig' lg' => (r = none ∧ (WsR B σ x.toInt.toNat ig (rdL L9 (x.toInt.toNat : Int)) ig' ∧ ∀ r, r < 288 → 0 ≤ wyV B ig' x.toInt.toNat r ∧ wyV B ig' x.toInt.toNat r ≤ 10))))) args s 0 0 (fun q => B ≤ q)) (F0 m 30 ls []) := by
          intro n30
          induction n30 with
          | zero => intro ls H locs ig8 lg9 v7 hl hw hI hF g30_0 g30_1 g30_2 g30_3 hmu; exact absurd hmu (by omega)
          | succ n30 ih30 =>
            intro ls H locs ig8 lg9 v7 hl hw hI hF g30_0 g30_1 g30_2 g30_3 hmu
            have bx9 := g30_3
            refine lv_iload_n hx hb dX12_countWays_30 rfl (lv_at hl 0 rfl) ?_
            refine lv_aload_n hx hb dX12_countWays_31 rfl (lv_at hl 1 rfl) ?_
            refine r_get C hw (hsh 49 _ rfl) fl_X12_77 (oV_r rfl (hrm (49, 13, 58) (by decide))) dX12_countWays_32 ?_
            refine lv_iload_n hx hb dX12_countWays_35 rfl (lv_at hl 2 rfl) ?_
            refine r_iald C hw (hsh 58 _ rfl) (by omega) (by omega) dX12_countWays_36 (ti_c (ig8 (B + 58) x.toInt.toNat).toInt rfl fun z10 hz10 => ?_)
            have k11 := hI.its (j := (x.toInt.toNat)) (by omega)
            rw [Ft.i hF 58 _ (by decide)] at hz10 k11
            refine b_ge (tgt := 168) hx hb dX12_countWays_37 (by decide) (fun c37 => ?_) (fun c37 => ?_)
            · exact r_vret C hw hr hlk (Nat.le_of_ble_eq_true rfl) (Nat.le_of_ble_eq_true rfl) dX12_countWays_168 ⟨rfl, rfl, hI, hF, ⟨rfl, ⟨(by obtain ⟨l9, ws9, wr9⟩ := g30_2; rw [show v7.toInt.toNat = n9 by omega] at ws9; rw [ws9.fin]; exact wr9), bx9⟩⟩⟩
            · obtain ⟨l9, ws9, wr9⟩ := g30_2
              have kn9 : v7.toInt.toNat < n9 := by omega
              have rk9 := hG.ri (a := v7.toInt.toNat) kn9
              have ok9 := hG.2.2.2.2 v7.toInt.toNat kn9
              refine lv_bipush (v := 120) hx hb dX12_countWays_40 (by decide) (ti_c 120 (by decide) fun z12 hz12 => ?_)
              refine lv_iload_n hx hb dX12_countWays_42 rfl (lv_at hl 2 rfl) ?_
              refine lv_imul hx hb dX12_countWays_43 (tc_mulL 120 hz12 fun z13 hz13 => ?_)
              first | replace hz13 := hz13 (by omega) | clear hz13
              refine lv_iload_n hx hb dX12_countWays_44 rfl (lv_at hl 0 rfl) ?_
              refine lv_iadd hx hb dX12_countWays_45 (tc_add fun z14 hz14 => ?_)
              first | replace hz14 := hz14 (by omega) | clear hz14
              refine lv_istore_n (lv' := [(3, .int z14), (2, .int v7), (0, .ref (B + 49)), (1, .int x)]) hx hb dX12_countWays_46 rfl hl (by decide) rfl (fun ls hl => ?_)
              refine lv_iload_n hx hb dX12_countWays_47 rfl (lv_at hl 1 rfl) ?_
              refine lv_iconst (v := 3) hx hb dX12_countWays_48 (by decide) (ti_c 3 (by decide) fun z15 hz15 => ?_)
              refine b_le (tgt := 68) hx hb dX12_countWays_49 (by decide) (fun c49 => ?_) (fun c49 => ?_)
              · refine lv_iconst (v := 0) hx hb dX12_countWays_68 (by decide) (ti_c 0 (by decide) fun z16 hz16 => ?_)
                refine lv_istore (lv' := [(4, .int z16), (3, .int z14), (2, .int v7), (0, .ref (B + 49)), (1, .int x)]) hx hb dX12_countWays_69 hl (by decide) rfl (fun ls hl => ?_)
                refine lv_aload_n hx hb dX12_countWays_71 rfl (lv_at hl 3 rfl) ?_
                refine r_get C hw (hsh 49 _ rfl) fl_X12_65 (oV_r rfl (hrm (49, 9, 54) (by decide))) dX12_countWays_72 ?_
                refine lv_iload_n hx hb dX12_countWays_75 rfl (lv_at hl 1 rfl) ?_
                refine r_iald C hw (hsh 54 _ rfl) (by omega) (by omega) dX12_countWays_76 (ti_c (ig8 (B + 54) z14.toInt.toNat).toInt rfl fun z17 hz17 => ?_)
                rw [Ft.i hF 54 _ (by decide)] at hz17
                have k0 : (R9 v7.toInt.toNat).1 = z17.toInt := by rw [rk9, itR_k, hz17, show z14.toInt.toNat = 120 * x.toInt.toNat + v7.toInt.toNat by omega]; rfl
                refine lv_iconst (v := 3) hx hb dX12_countWays_77 (by decide) (ti_c 3 (by decide) fun z19 hz19 => ?_)
                refine b_ne (tgt := 162) hx hb dX12_countWays_78 (by decide) (fun c78 => ?_) (fun c78 => ?_)
                · refine tc_inc hx hb dX12_countWays_162 hl (k := 2) rfl (by decide) (by decide) (fun z20 hz20 ls hl => ?_)
                  first | replace hz20 := hz20 (by omega) | clear hz20
                  have hl : lv_has ls 8 [(2, .int z20), (4, .int z16), (3, .int z14), (0, .ref (B + 49)), (1, .int x)] := hl
                  refine lv_goto (tgt := 30) hx hb dX12_countWays_165 (by decide) ?_
                  exact ih30 ls H locs ig8 lg9 z20 (lv_sub hl [0, 3, 4] rfl) hw hI hF (by omega) (by omega) (⟨_, by rw [show z20.toInt.toNat = v7.toInt.toNat + 1 by omega]; exact ws9.skip hTL kn9 (Or.inl (by omega)), wr9⟩) (bx9) (by omega)
                · refine lv_iload hx hb dX12_countWays_81 (lv_at hl 0 rfl) ?_
                  refine z_eq (tgt := 89) hx hb dX12_countWays_83 (by decide) (fun c83 => ?_) (fun c83 => ?_)
                  · obtain ⟨s9, w9, u9, r9, sp9, wn9⟩ := ws9.take kn9 hTL (by omega) (fun q9 => by have q8 := q9.1; have q7 := q9.2; omega)
                    have sb9 := wn9.sub
                    obtain ⟨_, fw9⟩ := itm_3 (by omega) ok9.1 ok9.2 (rk9.symm.trans r9)
                    refine lv_aload_n hx hb dX12_countWays_89 rfl (lv_at hl 3 rfl) ?_
                    refine lv_iload_n hx hb dX12_countWays_90 rfl (lv_at hl 4 rfl) ?_
                    refine lv_iload_n hx hb dX12_countWays_91 rfl (lv_at hl 2 rfl) ?_
                    refine r_callV (As := [.int x, .int v7]) (rest := []) C hw (t_X12_spanLastE l B D cA kd ig8 rg lg9 _ x v7 (by omega) (by rw [Ft.i hF 58 _ (by decide)]; omega) (by rw [Ft.i hF 59 _ (by decide)]; omega) (by rw [show (120 * x.toInt + v7.toInt).toNat = z14.toInt.toNat by omega, Ft.i hF 54 _ (by decide)]; omega) hI) sv_X12_214 (hsh 49 _ rfl) rfl hl.1 rfl (Nat.le_of_ble_eq_true rfl) ⟨Nat.le_of_ble_eq_true rfl, Nat.le_of_ble_eq_true rfl⟩ ⟨Nat.le_of_ble_eq_true rfl, Nat.le_of_ble_eq_true rfl⟩ dX12_countWays_92 (fun r25 kd21 ig22 rg23 lg24 H locs hw hH hp26 => ?_)
                    obtain ⟨rfl, rfl, rfl, rfl, hzhp26, hrhp26⟩ := hp26
                    obtain ⟨z27, rfl, hz27⟩ := hrhp26
                    have sl9 := hz27.2
                    rw [lastI_ag (fun j => Ft.i hF 54 j (by decide))] at sl9
                    have fu9 : RfI B ig (x.toInt.toNat : Int) z27.toInt.toNat u9 := (by
                      unfold lastI at sl9
                      by_cases c : 2 ≤ v7.toInt.toNat ∧ (R9 (v7.toInt.toNat - 2)).1 = 2
                      · obtain ⟨_, r8, l8⟩ := sp9.1 c
                        have o8 := hG.2.2.2.2 (v7.toInt.toNat + 2) l8
                        have q8 := c.2
                        rw [hG.ri (a := v7.toInt.toNat - 2) (by omega), itR_k] at q8
                        rw [if_pos ⟨by omega, by rw [show 120 * x.toInt.toNat + v7.toInt.toNat - 2 = 120 * x.toInt.toNat + (v7.toInt.toNat - 2) by omega]; exact q8⟩] at sl9
                        rw [show z27.toInt.toNat = 120 * x.toInt.toNat + (v7.toInt.toNat + 2) by omega]
                        exact (itm_3 (by omega) o8.1 o8.2 ((hG.ri l8).symm.trans r8)).2
                      · rw [if_neg (fun q8 => c ⟨by omega, by have q7 := q8.2; rw [show 120 * x.toInt.toNat + v7.toInt.toNat - 2 = 120 * x.toInt.toNat + (v7.toInt.toNat - 2) by omega] at q7; rw [hG.ri (a := v7.toInt.toNat - 2) (by omega), itR_k]; exact q7⟩)] at sl9
                        rw [(sp9.2 c).2, show z27.toInt.toNat = 120 * x.toInt.toNat + v7.toInt.toNat by omega]
                        exact fw9)
                    have hz27 := hz27.1
                    rw [Ft.i hF 55 _ (by decide), Ft.i hF 56 _ (by decide)] at hz27
                    have hW9 : spW (s9, w9, u9) (x.toInt.toNat : Int) = (colv u9 (x.toInt.toNat : Int) - colv w9 (x.toInt.toNat : Int) + 1).toNat := rfl
                    have hH9 : spH (s9, w9, u9) (x.toInt.toNat : Int) = (rowv u9 (x.toInt.toNat : Int) - rowv w9 (x.toInt.toNat : Int) + 1).toNat := rfl
                    have fw1 := fw9.1
                    have fw2 := fw9.2
                    have fu1 := fu9.1
                    have fu2 := fu9.2
                    rw [show 120 * x.toInt.toNat + v7.toInt.toNat = z14.toInt.toNat by omega] at fw1 fw2
                    refine lv_istore (lv' := [(5, .int z27), (4, .int z16), (3, .int z14), (2, .int v7), (0, .ref (B + 49)), (1, .int x)]) hx hb dX12_countWays_95 hl (by decide) rfl (fun ls hl => ?_)
                    have rfi := IM.ref hI0 (p := x) (k := v7) (i := z14) (by omega) (by omega) (by omega) (by omega) (by omega)
                    refine lv_aload_n hx hb dX12_countWays_97 rfl (lv_at hl 4 rfl) ?_
                    refine r_get C hw (hsh 49 _ rfl) fl_X12_71 (oV_r rfl (hrm (49, 11, 56) (by decide))) dX12_countWays_98 ?_
                    refine lv_iload_n hx hb dX12_countWays_101 rfl (lv_at hl 2 rfl) ?_
                    refine r_iald C hw (hsh 56 _ rfl) (by omega) (by omega) dX12_countWays_102 (ti_c (ig8 (B + 56) z14.toInt.toNat).toInt rfl fun z28 hz28 => ?_)
                    rw [Ft.i hF 56 _ (by decide)] at hz28
                    refine lv_istore (lv' := [(6, .int z28), (5, .int z27), (4, .int z16), (3, .int z14), (2, .int v7), (0, .ref (B + 49)), (1, .int x)]) hx hb dX12_countWays_103 hl (by decide) rfl (fun ls hl => ?_)
                    have L105 : ∀ (n : Nat) (ls : Array Slot) (H : Heap) (locs : List Loc) (ig31 : sI) (lg32 : sG) (v30 : Int32), lv_has ls 8 [(6, .int v30), (5, .int z27), (3, .int z14), (2, .int v7), (0, .ref (B + 49)), (1, .int x)] → WD B D cA s.heap kd ig31 rg lg32 H locs → IM τ φ υ B kd ig31 rg → Ft B [72] ig lg ig31 lg32 → (0 ≤ v30.toInt) → (v30.toInt ≤ 24) → (∃ j9 : Nat, v30.toInt = rowv w9 (x.toInt.toNat : Int) + (j9 : Int) ∧ j9 ≤ spH (s9, w9, u9) (x.toInt.toNat : Int) ∧ WsR B σ x.toInt.toNat ig (l9 ++ plF (rowv w9 (x.toInt.toNat : Int)) (colv w9 (x.toInt.toNat : Int)) (spW (s9, w9, u9) (x.toInt.toNat : Int)) j9) ig31) → (∀ r, r < 288 → 0 ≤ wyV B ig31 x.toInt.toNat r ∧ wyV B ig31 x.toInt.toNat r ≤ 10) → 24 - v30.toInt < (n : Int) → W p l e (rL 2 0 0) s m args below meth c H locs 0 0 (MQ below (QcW B D cA (PM τ φ υ B [72] kd ig rg lg (fun r ig' lg' => (r = none ∧ (WsR B σ x.toInt.toNat ig (rdL L9 (x.toInt.toNat : Int)) ig' ∧ ∀ r, r < 288 → 0 ≤ wyV B ig' x.toInt.toNat r ∧ wyV B ig' x.toInt.toNat r ≤ 10))))) args s 0 0 (fun q => B ≤ q)) (F0 m 105 ls []) := by
                      intro n105
                      induction n105 with
                      | zero => intro ls H locs ig31 lg32 v30 hl hw hI hF g105_0 g105_1 g105_2 g105_3 hmu; exact absurd hmu (by omega)
                      | succ n105 ih105 =>
                        intro ls H locs ig31 lg32 v30 hl hw hI hF g105_0 g105_1 g105_2 g105_3 hmu
                        obtain ⟨j9, hj6, hjH, wf9⟩ := g105_2
                        have bx9 := g105_3
                        refine lv_iload hx hb dX12_countWays_105 (lv_at hl 0 rfl) ?_
                        refine lv_aload_n hx hb dX12_countWays_107 rfl (lv_at hl 4 rfl) ?_
                        refine r_get C hw (hsh 49 _ rfl) fl_X12_71 (oV_r rfl (hrm (49, 11, 56) (by decide))) dX12_countWays_108 ?_
                        refine lv_iload hx hb dX12_countWays_111 (lv_at hl 1 rfl) ?_
                        refine r_iald C hw (hsh 56 _ rfl) (by omega) (by omega) dX12_countWays_113 (ti_c (ig31 (B + 56) z27.toInt.toNat).toInt rfl fun z33 hz33 => ?_)
                        rw [Ft.i hF 56 _ (by decide)] at hz33
                        refine b_gt (tgt := 162) hx hb dX12_countWays_114 (by decide) (fun c114 => ?_) (fun c114 => ?_)
                        · refine tc_inc hx hb dX12_countWays_162 hl (k := 3) rfl (by decide) (by decide) (fun z35 hz35 ls hl => ?_)
                          first | replace hz35 := hz35 (by omega) | clear hz35
                          have hl : lv_has ls 8 [(2, .int z35), (6, .int v30), (5, .int z27), (3, .int z14), (0, .ref (B + 49)), (1, .int x)] := hl
                          refine lv_goto (tgt := 30) hx hb dX12_countWays_165 (by decide) ?_
                          exact ih30 ls H locs ig31 lg32 z35 (lv_sub hl [0, 4, 5] rfl) hw hI hF (by omega) (by omega) (⟨_, by rw [show z35.toInt.toNat = v7.toInt.toNat + 1 by omega]; exact wn9, (by obtain rfl : j9 = spH (s9, w9, u9) (x.toInt.toNat : Int) := (by omega); exact wf9)⟩) (bx9) (by omega)
                        · refine lv_aload_n hx hb dX12_countWays_117 rfl (lv_at hl 4 rfl) ?_
                          refine r_get C hw (hsh 49 _ rfl) fl_X12_68 (oV_r rfl (hrm (49, 10, 55) (by decide))) dX12_countWays_118 ?_
                          refine lv_iload_n hx hb dX12_countWays_121 rfl (lv_at hl 2 rfl) ?_
                          refine r_iald C hw (hsh 55 _ rfl) (by omega) (by omega) dX12_countWays_122 (ti_c (ig31 (B + 55) z14.toInt.toNat).toInt rfl fun z36 hz36 => ?_)
                          rw [Ft.i hF 55 _ (by decide)] at hz36
                          refine lv_istore (lv' := [(7, .int z36), (6, .int v30), (5, .int z27), (3, .int z14), (2, .int v7), (0, .ref (B + 49)), (1, .int x)]) hx hb dX12_countWays_123 hl (by decide) rfl (fun ls hl => ?_)
                          have L125 : ∀ (n : Nat) (ls : Array Slot) (H : Heap) (locs : List Loc) (ig39 : sI) (lg40 : sG) (v38 : Int32), lv_has ls 8 [(7, .int v38), (6, .int v30), (5, .int z27), (3, .int z14), (2, .int v7), (0, .ref (B + 49)), (1, .int x)] → WD B D cA s.heap kd ig39 rg lg40 H locs → IM τ φ υ B kd ig39 rg → Ft B [72] ig lg ig39 lg40 → (0 ≤ v38.toInt) → (v38.toInt ≤ 12) → (∃ k9 : Nat, v38.toInt = colv w9 (x.toInt.toNat : Int) + (k9 : Int) ∧ k9 ≤ spW (s9, w9, u9) (x.toInt.toNat : Int) ∧ WsR B σ x.toInt.toNat ig (l9 ++ plF (rowv w9 (x.toInt.toNat : Int)) (colv w9 (x.toInt.toNat : Int)) (spW (s9, w9, u9) (x.toInt.toNat : Int)) j9 ++ plR (rowv w9 (x.toInt.toNat : Int) + (j9 : Int)) (colv w9 (x.toInt.toNat : Int)) k9) ig39) → (∀ r, r < 288 → 0 ≤ wyV B ig39 x.toInt.toNat r ∧ wyV B ig39 x.toInt.toNat r ≤ 10) → 12 - v38.toInt < (n : Int) → W p l e (rL 2 0 0) s m args below meth c H locs 0 0 (MQ below (QcW B D cA (PM τ φ υ B [72] kd ig rg lg (fun r ig' lg' => (r = none ∧ (WsR B σ x.toInt.toNat ig (rdL L9 (x.toInt.toNat : Int)) ig' ∧ ∀ r, r < 288 → 0 ≤ wyV B ig' x.toInt.toNat r ∧ wyV B ig' x.toInt.toNat r ≤ 10))))) args s 0 0 (fun q => B ≤ q)) (F0 m 125 ls []) := by
                            intro n125
                            induction n125 with
                            | zero => intro ls H locs ig39 lg40 v38 hl hw hI hF g125_0 g125_1 g125_2 g125_3 hmu; exact absurd hmu (by omega)
                            | succ n125 ih125 =>
                              intro ls H locs ig39 lg40 v38 hl hw hI hF g125_0 g125_1 g125_2 g125_3 hmu
                              obtain ⟨k9, hk7, hkW, wc9⟩ := g125_2
                              have bx9 := g125_3
                              refine lv_iload hx hb dX12_countWays_125 (lv_at hl 0 rfl) ?_
                              refine lv_aload_n hx hb dX12_countWays_127 rfl (lv_at hl 5 rfl) ?_
                              refine r_get C hw (hsh 49 _ rfl) fl_X12_68 (oV_r rfl (hrm (49, 10, 55) (by decide))) dX12_countWays_128 ?_
                              refine lv_iload hx hb dX12_countWays_131 (lv_at hl 2 rfl) ?_
                              refine r_iald C hw (hsh 55 _ rfl) (by omega) (by omega) dX12_countWays_133 (ti_c (ig39 (B + 55) z27.toInt.toNat).toInt rfl fun z41 hz41 => ?_)
                              rw [Ft.i hF 55 _ (by decide)] at hz41
                              refine b_gt (tgt := 156) hx hb dX12_countWays_134 (by decide) (fun c134 => ?_) (fun c134 => ?_)
                              · refine tc_inc hx hb dX12_countWays_156 hl (k := 1) rfl (by decide) (by decide) (fun z43 hz43 ls hl => ?_)
                                first | replace hz43 := hz43 (by omega) | clear hz43
                                have hl : lv_has ls 8 [(6, .int z43), (7, .int v38), (5, .int z27), (3, .int z14), (2, .int v7), (0, .ref (B + 49)), (1, .int x)] := hl
                                refine lv_goto (tgt := 105) hx hb dX12_countWays_159 (by decide) ?_
                                exact ih105 ls H locs ig39 lg40 z43 (lv_sub hl [0, 2, 3, 4, 5, 6] rfl) hw hI hF (by omega) (by omega) (⟨j9 + 1, by omega, by omega, by obtain rfl : k9 = spW (s9, w9, u9) (x.toInt.toNat : Int) := (by omega); rw [plF_s, ← List.append_assoc]; exact wc9⟩) (bx9) (by omega)
                              · refine lv_aload_n hx hb dX12_countWays_137 rfl (lv_at hl 5 rfl) ?_
                                refine lv_iload_n hx hb dX12_countWays_138 rfl (lv_at hl 6 rfl) ?_
                                refine lv_bipush (v := 12) hx hb dX12_countWays_139 (by decide) (ti_c 12 (by decide) fun z44 hz44 => ?_)
                                refine lv_iload hx hb dX12_countWays_141 (lv_at hl 1 rfl) ?_
                                refine lv_imul hx hb dX12_countWays_143 (tc_mulL 12 hz44 fun z45 hz45 => ?_)
                                first | replace hz45 := hz45 (by omega) | clear hz45
                                refine lv_iload hx hb dX12_countWays_144 (lv_at hl 0 rfl) ?_
                                refine lv_iadd hx hb dX12_countWays_146 (tc_add fun z46 hz46 => ?_)
                                first | replace hz46 := hz46 (by omega) | clear hz46
                                have qe : ((z46.toInt.toNat : Nat) : Int) = (rowv w9 (x.toInt.toNat : Int) + (j9 : Int)) * 12 + (colv w9 (x.toInt.toNat : Int) + (k9 : Int)) := by omega
                                have qm : (rowv w9 (x.toInt.toNat : Int) + (j9 : Int)) * 12 + (colv w9 (x.toInt.toNat : Int) + (k9 : Int)) ∈ plS (s9, w9, u9) (x.toInt.toNat : Int) := plF_in (by omega) (by omega)
                                have qr := sb9 _ (List.mem_append_right _ qm)
                                rw [← qe] at qr
                                have qn := hrg _ qr
                                have hF0 := hF
                                refine r_callV (As := [.int x, .int z46]) (rest := []) C hw (t_X12_addWaysE l B D cA kd ig39 rg lg40 _ x z46 (by omega) (by omega) (fun e9 => qn e9.symm) (isTot σ z46.toInt.toNat) (by rw [Ft.i hF 70 _ (by decide)]; exact hT _ qr) bx9 (fun q9 r hr => by rw [wc9.row qn hr]; exact hwb _ qr q9 r hr) hI) sv_X12_305 (hsh 49 _ rfl) rfl hl.1 rfl (Nat.le_of_ble_eq_true rfl) ⟨Nat.le_of_ble_eq_true rfl, Nat.le_of_ble_eq_true rfl⟩ ⟨Nat.le_of_ble_eq_true rfl, Nat.le_of_ble_eq_true rfl⟩ dX12_countWays_147 (fun r51 kd47 ig48 rg49 lg50 H locs hw hH hp52 => ?_)
                                obtain ⟨rfl, rfl, hI, hchp52, hrhp52⟩ := hp52
                                have hF : Ft B [72] ig lg ig48 lg50 := Ft.tr hF hchp52 (by decide) (by decide)
                                obtain ⟨rfl, hvhp52⟩ := hrhp52
                                have wn8 := wc9.add qn (hkd0 _ (by omega)) (by have q9 := hvhp52; rw [Ft.i hF0 59 _ (by decide)] at q9; exact q9)
                                have bx9 : ∀ r, r < 288 → 0 ≤ wyV B ig48 x.toInt.toNat r ∧ wyV B ig48 x.toInt.toNat r ≤ 10 := (by by_cases c : isTot σ z46.toInt.toNat; exact AwR.b (hvhp52.1 c) bx9 (fun r hr => by rw [wc9.row qn hr]; exact (hwb _ qr c r hr).1); exact AwR.b (hvhp52.2 c) bx9 (fun r hr => by show (0 : Int) ≤ if r = _ then (if _ then 0 else 1) else 0; split; (split <;> decide); decide))
                                refine tc_inc hx hb dX12_countWays_150 hl (k := 0) rfl (by decide) (by decide) (fun z53 hz53 ls hl => ?_)
                                first | replace hz53 := hz53 (by omega) | clear hz53
                                have hl : lv_has ls 8 [(7, .int z53), (6, .int v30), (5, .int z27), (3, .int z14), (2, .int v7), (0, .ref (B + 49)), (1, .int x)] := hl
                                refine lv_goto (tgt := 125) hx hb dX12_countWays_153 (by decide) ?_
                                exact ih125 ls H locs ig48 lg50 z53 (lv_sub hl [0, 1, 2, 3, 4, 5, 6] rfl) hw hI hF (by omega) (by omega) (⟨k9 + 1, by omega, by omega, by rw [plR_s, ← List.append_assoc, ← qe]; exact wn8⟩) (bx9) (by omega)
                          exact L125 ((12 - z36.toInt) + 1).toNat ls H locs ig31 lg32 z36 (lv_sub hl [0, 1, 2, 3, 4, 5, 6] rfl) hw hI hF (by omega) (by omega) (⟨0, by omega, by omega, by rw [plR_0, List.append_nil]; exact wf9⟩) (bx9) (by omega)
                    exact L105 ((24 - z28.toInt) + 1).toNat ls H locs ig8 lg9 z28 (lv_sub hl [0, 1, 3, 4, 5, 6] rfl) hw hI hF (by omega) (by omega) (⟨0, by omega, by omega, by rw [plF_0, List.append_nil]; exact wr9⟩) (bx9) (by omega)
                  · refine lv_goto (tgt := 162) hx hb dX12_countWays_86 (by decide) ?_
                    refine tc_inc hx hb dX12_countWays_162 hl (k := 2) rfl (by decide) (by decide) (fun z54 hz54 ls hl => ?_)
                    first | replace hz54 := hz54 (by omega) | clear hz54
                    have hl : lv_has ls 8 [(2, .int z54), (4, .int z16), (3, .int z14), (0, .ref (B + 49)), (1, .int x)] := hl
                    refine lv_goto (tgt := 30) hx hb dX12_countWays_165 (by decide) ?_
                    exact ih30 ls H locs ig8 lg9 z54 (lv_sub hl [0, 3, 4] rfl) hw hI hF (by omega) (by omega) (⟨_, by rw [show z54.toInt.toNat = v7.toInt.toNat + 1 by omega]; exact ws9.skip hTL kn9 (Or.inr ⟨by omega, by omega⟩), wr9⟩) (bx9) (by omega)
              · refine lv_aload_n hx hb dX12_countWays_52 rfl (lv_at hl 2 rfl) ?_
                refine r_get C hw (hsh 49 _ rfl) fl_X12_65 (oV_r rfl (hrm (49, 9, 54) (by decide))) dX12_countWays_53 ?_
                refine lv_iload_n hx hb dX12_countWays_56 rfl (lv_at hl 0 rfl) ?_
                refine lv_iconst (v := 4) hx hb dX12_countWays_57 (by decide) (ti_c 4 (by decide) fun z55 hz55 => ?_)
                refine lv_isub hx hb dX12_countWays_58 (tc_sub fun z56 hz56 => ?_)
                first | replace hz56 := hz56 (by omega) | clear hz56
                refine r_iald C hw (hsh 54 _ rfl) (by omega) (by omega) dX12_countWays_59 (ti_c (ig8 (B + 54) z56.toInt.toNat).toInt rfl fun z57 hz57 => ?_)
                rw [Ft.i hF 54 _ (by decide)] at hz57
                have k4 : (R9 (v7.toInt.toNat - 4)).1 = z57.toInt := by rw [hG.ri (a := v7.toInt.toNat - 4) (by omega), itR_k, hz57, show z56.toInt.toNat = 120 * x.toInt.toNat + (v7.toInt.toNat - 4) by omega]; rfl
                refine lv_iconst (v := 2) hx hb dX12_countWays_60 (by decide) (ti_c 2 (by decide) fun z59 hz59 => ?_)
                refine b_ne (tgt := 68) hx hb dX12_countWays_61 (by decide) (fun c61 => ?_) (fun c61 => ?_)
                · refine lv_iconst (v := 0) hx hb dX12_countWays_68 (by decide) (ti_c 0 (by decide) fun z60 hz60 => ?_)
                  refine lv_istore (lv' := [(4, .int z60), (3, .int z14), (2, .int v7), (0, .ref (B + 49)), (1, .int x)]) hx hb dX12_countWays_69 hl (by decide) rfl (fun ls hl => ?_)
                  refine lv_aload_n hx hb dX12_countWays_71 rfl (lv_at hl 3 rfl) ?_
                  refine r_get C hw (hsh 49 _ rfl) fl_X12_65 (oV_r rfl (hrm (49, 9, 54) (by decide))) dX12_countWays_72 ?_
                  refine lv_iload_n hx hb dX12_countWays_75 rfl (lv_at hl 1 rfl) ?_
                  refine r_iald C hw (hsh 54 _ rfl) (by omega) (by omega) dX12_countWays_76 (ti_c (ig8 (B + 54) z14.toInt.toNat).toInt rfl fun z61 hz61 => ?_)
                  rw [Ft.i hF 54 _ (by decide)] at hz61
                  have k0 : (R9 v7.toInt.toNat).1 = z61.toInt := by rw [rk9, itR_k, hz61, show z14.toInt.toNat = 120 * x.toInt.toNat + v7.toInt.toNat by omega]; rfl
                  refine lv_iconst (v := 3) hx hb dX12_countWays_77 (by decide) (ti_c 3 (by decide) fun z63 hz63 => ?_)
                  refine b_ne (tgt := 162) hx hb dX12_countWays_78 (by decide) (fun c78 => ?_) (fun c78 => ?_)
                  · refine tc_inc hx hb dX12_countWays_162 hl (k := 2) rfl (by decide) (by decide) (fun z64 hz64 ls hl => ?_)
                    first | replace hz64 := hz64 (by omega) | clear hz64
                    have hl : lv_has ls 8 [(2, .int z64), (4, .int z60), (3, .int z14), (0, .ref (B + 49)), (1, .int x)] := hl
                    refine lv_goto (tgt := 30) hx hb dX12_countWays_165 (by decide) ?_
                    exact ih30 ls H locs ig8 lg9 z64 (lv_sub hl [0, 3, 4] rfl) hw hI hF (by omega) (by omega) (⟨_, by rw [show z64.toInt.toNat = v7.toInt.toNat + 1 by omega]; exact ws9.skip hTL kn9 (Or.inl (by omega)), wr9⟩) (bx9) (by omega)
                  · refine lv_iload hx hb dX12_countWays_81 (lv_at hl 0 rfl) ?_
                    refine z_eq (tgt := 89) hx hb dX12_countWays_83 (by decide) (fun c83 => ?_) (fun c83 => ?_)
                    · obtain ⟨s9, w9, u9, r9, sp9, wn9⟩ := ws9.take kn9 hTL (by omega) (fun q9 => by have q8 := q9.1; have q7 := q9.2; omega)
                      have sb9 := wn9.sub
                      obtain ⟨_, fw9⟩ := itm_3 (by omega) ok9.1 ok9.2 (rk9.symm.trans r9)
                      refine lv_aload_n hx hb dX12_countWays_89 rfl (lv_at hl 3 rfl) ?_
                      refine lv_iload_n hx hb dX12_countWays_90 rfl (lv_at hl 4 rfl) ?_
                      refine lv_iload_n hx hb dX12_countWays_91 rfl (lv_at hl 2 rfl) ?_
                      refine r_callV (As := [.int x, .int v7]) (rest := []) C hw (t_X12_spanLastE l B D cA kd ig8 rg lg9 _ x v7 (by omega) (by rw [Ft.i hF 58 _ (by decide)]; omega) (by rw [Ft.i hF 59 _ (by decide)]; omega) (by rw [show (120 * x.toInt + v7.toInt).toNat = z14.toInt.toNat by omega, Ft.i hF 54 _ (by decide)]; omega) hI) sv_X12_214 (hsh 49 _ rfl) rfl hl.1 rfl (Nat.le_of_ble_eq_true rfl) ⟨Nat.le_of_ble_eq_true rfl, Nat.le_of_ble_eq_true rfl⟩ ⟨Nat.le_of_ble_eq_true rfl, Nat.le_of_ble_eq_true rfl⟩ dX12_countWays_92 (fun r69 kd65 ig66 rg67 lg68 H locs hw hH hp70 => ?_)
                      obtain ⟨rfl, rfl, rfl, rfl, hzhp70, hrhp70⟩ := hp70
                      obtain ⟨z71, rfl, hz71⟩ := hrhp70
                      have sl9 := hz71.2
                      rw [lastI_ag (fun j => Ft.i hF 54 j (by decide))] at sl9
                      have fu9 : RfI B ig (x.toInt.toNat : Int) z71.toInt.toNat u9 := (by
                        unfold lastI at sl9
                        by_cases c : 2 ≤ v7.toInt.toNat ∧ (R9 (v7.toInt.toNat - 2)).1 = 2
                        · obtain ⟨_, r8, l8⟩ := sp9.1 c
                          have o8 := hG.2.2.2.2 (v7.toInt.toNat + 2) l8
                          have q8 := c.2
                          rw [hG.ri (a := v7.toInt.toNat - 2) (by omega), itR_k] at q8
                          rw [if_pos ⟨by omega, by rw [show 120 * x.toInt.toNat + v7.toInt.toNat - 2 = 120 * x.toInt.toNat + (v7.toInt.toNat - 2) by omega]; exact q8⟩] at sl9
                          rw [show z71.toInt.toNat = 120 * x.toInt.toNat + (v7.toInt.toNat + 2) by omega]
                          exact (itm_3 (by omega) o8.1 o8.2 ((hG.ri l8).symm.trans r8)).2
                        · rw [if_neg (fun q8 => c ⟨by omega, by have q7 := q8.2; rw [show 120 * x.toInt.toNat + v7.toInt.toNat - 2 = 120 * x.toInt.toNat + (v7.toInt.toNat - 2) by omega] at q7; rw [hG.ri (a := v7.toInt.toNat - 2) (by omega), itR_k]; exact q7⟩)] at sl9
                          rw [(sp9.2 c).2, show z71.toInt.toNat = 120 * x.toInt.toNat + v7.toInt.toNat by omega]
                          exact fw9)
                      have hz71 := hz71.1
                      rw [Ft.i hF 55 _ (by decide), Ft.i hF 56 _ (by decide)] at hz71
                      have hW9 : spW (s9, w9, u9) (x.toInt.toNat : Int) = (colv u9 (x.toInt.toNat : Int) - colv w9 (x.toInt.toNat : Int) + 1).toNat := rfl
                      have hH9 : spH (s9, w9, u9) (x.toInt.toNat : Int) = (rowv u9 (x.toInt.toNat : Int) - rowv w9 (x.toInt.toNat : Int) + 1).toNat := rfl
                      have fw1 := fw9.1
                      have fw2 := fw9.2
                      have fu1 := fu9.1
                      have fu2 := fu9.2
                      rw [show 120 * x.toInt.toNat + v7.toInt.toNat = z14.toInt.toNat by omega] at fw1 fw2
                      refine lv_istore (lv' := [(5, .int z71), (4, .int z60), (3, .int z14), (2, .int v7), (0, .ref (B + 49)), (1, .int x)]) hx hb dX12_countWays_95 hl (by decide) rfl (fun ls hl => ?_)
                      have rfi := IM.ref hI0 (p := x) (k := v7) (i := z14) (by omega) (by omega) (by omega) (by omega) (by omega)
                      refine lv_aload_n hx hb dX12_countWays_97 rfl (lv_at hl 4 rfl) ?_
                      refine r_get C hw (hsh 49 _ rfl) fl_X12_71 (oV_r rfl (hrm (49, 11, 56) (by decide))) dX12_countWays_98 ?_
                      refine lv_iload_n hx hb dX12_countWays_101 rfl (lv_at hl 2 rfl) ?_
                      refine r_iald C hw (hsh 56 _ rfl) (by omega) (by omega) dX12_countWays_102 (ti_c (ig8 (B + 56) z14.toInt.toNat).toInt rfl fun z72 hz72 => ?_)
                      rw [Ft.i hF 56 _ (by decide)] at hz72
                      refine lv_istore (lv' := [(6, .int z72), (5, .int z71), (4, .int z60), (3, .int z14), (2, .int v7), (0, .ref (B + 49)), (1, .int x)]) hx hb dX12_countWays_103 hl (by decide) rfl (fun ls hl => ?_)
                      have L105 : ∀ (n : Nat) (ls : Array Slot) (H : Heap) (locs : List Loc) (ig75 : sI) (lg76 : sG) (v74 : Int32), lv_has ls 8 [(6, .int v74), (5, .int z71), (3, .int z14), (2, .int v7), (0, .ref (B + 49)), (1, .int x)] → WD B D cA s.heap kd ig75 rg lg76 H locs → IM τ φ υ B kd ig75 rg → Ft B [72] ig lg ig75 lg76 → (0 ≤ v74.toInt) → (v74.toInt ≤ 24) → (∃ j9 : Nat, v74.toInt = rowv w9 (x.toInt.toNat : Int) + (j9 : Int) ∧ j9 ≤ spH (s9, w9, u9) (x.toInt.toNat : Int) ∧ WsR B σ x.toInt.toNat ig (l9 ++ plF (rowv w9 (x.toInt.toNat : Int)) (colv w9 (x.toInt.toNat : Int)) (spW (s9, w9, u9) (x.toInt.toNat : Int)) j9) ig75) → (∀ r, r < 288 → 0 ≤ wyV B ig75 x.toInt.toNat r ∧ wyV B ig75 x.toInt.toNat r ≤ 10) → 24 - v74.toInt < (n : Int) → W p l e (rL 2 0 0) s m args below meth c H locs 0 0 (MQ below (QcW B D cA (PM τ φ υ B [72] kd ig rg lg (fun r ig' lg' => (r = none ∧ (WsR B σ x.toInt.toNat ig (rdL L9 (x.toInt.toNat : Int)) ig' ∧ ∀ r, r < 288 → 0 ≤ wyV B ig' x.toInt.toNat r ∧ wyV B ig' x.toInt.toNat r ≤ 10))))) args s 0 0 (fun q => B ≤ q)) (F0 m 105 ls []) := by
                        intro n105
                        induction n105 with
                        | zero => intro ls H locs ig75 lg76 v74 hl hw hI hF g105_0 g105_1 g105_2 g105_3 hmu; exact absurd hmu (by omega)
                        | succ n105 ih105 =>
                          intro ls H locs ig75 lg76 v74 hl hw hI hF g105_0 g105_1 g105_2 g105_3 hmu
                          obtain ⟨j9, hj6, hjH, wf9⟩ := g105_2
                          have bx9 := g105_3
                          refine lv_iload hx hb dX12_countWays_105 (lv_at hl 0 rfl) ?_
                          refine lv_aload_n hx hb dX12_countWays_107 rfl (lv_at hl 4 rfl) ?_
                          refine r_get C hw (hsh 49 _ rfl) fl_X12_71 (oV_r rfl (hrm (49, 11, 56) (by decide))) dX12_countWays_108 ?_
                          refine lv_iload hx hb dX12_countWays_111 (lv_at hl 1 rfl) ?_
                          refine r_iald C hw (hsh 56 _ rfl) (by omega) (by omega) dX12_countWays_113 (ti_c (ig75 (B + 56) z71.toInt.toNat).toInt rfl fun z77 hz77 => ?_)
                          rw [Ft.i hF 56 _ (by decide)] at hz77
                          refine b_gt (tgt := 162) hx hb dX12_countWays_114 (by decide) (fun c114 => ?_) (fun c114 => ?_)
                          · refine tc_inc hx hb dX12_countWays_162 hl (k := 3) rfl (by decide) (by decide) (fun z79 hz79 ls hl => ?_)
                            first | replace hz79 := hz79 (by omega) | clear hz79
                            have hl : lv_has ls 8 [(2, .int z79), (6, .int v74), (5, .int z71), (3, .int z14), (0, .ref (B + 49)), (1, .int x)] := hl
                            refine lv_goto (tgt := 30) hx hb dX12_countWays_165 (by decide) ?_
                            exact ih30 ls H locs ig75 lg76 z79 (lv_sub hl [0, 4, 5] rfl) hw hI hF (by omega) (by omega) (⟨_, by rw [show z79.toInt.toNat = v7.toInt.toNat + 1 by omega]; exact wn9, (by obtain rfl : j9 = spH (s9, w9, u9) (x.toInt.toNat : Int) := (by omega); exact wf9)⟩) (bx9) (by omega)
                          · refine lv_aload_n hx hb dX12_countWays_117 rfl (lv_at hl 4 rfl) ?_
                            refine r_get C hw (hsh 49 _ rfl) fl_X12_68 (oV_r rfl (hrm (49, 10, 55) (by decide))) dX12_countWays_118 ?_
                            refine lv_iload_n hx hb dX12_countWays_121 rfl (lv_at hl 2 rfl) ?_
                            refine r_iald C hw (hsh 55 _ rfl) (by omega) (by omega) dX12_countWays_122 (ti_c (ig75 (B + 55) z14.toInt.toNat).toInt rfl fun z80 hz80 => ?_)
                            rw [Ft.i hF 55 _ (by decide)] at hz80
                            refine lv_istore (lv' := [(7, .int z80), (6, .int v74), (5, .int z71), (3, .int z14), (2, .int v7), (0, .ref (B + 49)), (1, .int x)]) hx hb dX12_countWays_123 hl (by decide) rfl (fun ls hl => ?_)
                            have L125 : ∀ (n : Nat) (ls : Array Slot) (H : Heap) (locs : List Loc) (ig83 : sI) (lg84 : sG) (v82 : Int32), lv_has ls 8 [(7, .int v82), (6, .int v74), (5, .int z71), (3, .int z14), (2, .int v7), (0, .ref (B + 49)), (1, .int x)] → WD B D cA s.heap kd ig83 rg lg84 H locs → IM τ φ υ B kd ig83 rg → Ft B [72] ig lg ig83 lg84 → (0 ≤ v82.toInt) → (v82.toInt ≤ 12) → (∃ k9 : Nat, v82.toInt = colv w9 (x.toInt.toNat : Int) + (k9 : Int) ∧ k9 ≤ spW (s9, w9, u9) (x.toInt.toNat : Int) ∧ WsR B σ x.toInt.toNat ig (l9 ++ plF (rowv w9 (x.toInt.toNat : Int)) (colv w9 (x.toInt.toNat : Int)) (spW (s9, w9, u9) (x.toInt.toNat : Int)) j9 ++ plR (rowv w9 (x.toInt.toNat : Int) + (j9 : Int)) (colv w9 (x.toInt.toNat : Int)) k9) ig83) → (∀ r, r < 288 → 0 ≤ wyV B ig83 x.toInt.toNat r ∧ wyV B ig83 x.toInt.toNat r ≤ 10) → 12 - v82.toInt < (n : Int) → W p l e (rL 2 0 0) s m args below meth c H locs 0 0 (MQ below (QcW B D cA (PM τ φ υ B [72] kd ig rg lg (fun r ig' lg' => (r = none ∧ (WsR B σ x.toInt.toNat ig (rdL L9 (x.toInt.toNat : Int)) ig' ∧ ∀ r, r < 288 → 0 ≤ wyV B ig' x.toInt.toNat r ∧ wyV B ig' x.toInt.toNat r ≤ 10))))) args s 0 0 (fun q => B ≤ q)) (F0 m 125 ls []) := by
                              intro n125
                              induction n125 with
                              | zero => intro ls H locs ig83 lg84 v82 hl hw hI hF g125_0 g125_1 g125_2 g125_3 hmu; exact absurd hmu (by omega)
                              | succ n125 ih125 =>
                                intro ls H locs ig83 lg84 v82 hl hw hI hF g125_0 g125_1 g125_2 g125_3 hmu
                                obtain ⟨k9, hk7, hkW, wc9⟩ := g125_2
                                have bx9 := g125_3
                                refine lv_iload hx hb dX12_countWays_125 (lv_at hl 0 rfl) ?_
                                refine lv_aload_n hx hb dX12_countWays_127 rfl (lv_at hl 5 rfl) ?_
                                refine r_get C hw (hsh 49 _ rfl) fl_X12_68 (oV_r rfl (hrm (49, 10, 55) (by decide))) dX12_countWays_128 ?_
                                refine lv_iload hx hb dX12_countWays_131 (lv_at hl 2 rfl) ?_
                                refine r_iald C hw (hsh 55 _ rfl) (by omega) (by omega) dX12_countWays_133 (ti_c (ig83 (B + 55) z71.toInt.toNat).toInt rfl fun z85 hz85 => ?_)
                                rw [Ft.i hF 55 _ (by decide)] at hz85
                                refine b_gt (tgt := 156) hx hb dX12_countWays_134 (by decide) (fun c134 => ?_) (fun c134 => ?_)
                                · refine tc_inc hx hb dX12_countWays_156 hl (k := 1) rfl (by decide) (by decide) (fun z87 hz87 ls hl => ?_)
                                  first | replace hz87 := hz87 (by omega) | clear hz87
                                  have hl : lv_has ls 8 [(6, .int z87), (7, .int v82), (5, .int z71), (3, .int z14), (2, .int v7), (0, .ref (B + 49)), (1, .int x)] := hl
                                  refine lv_goto (tgt := 105) hx hb dX12_countWays_159 (by decide) ?_
                                  exact ih105 ls H locs ig83 lg84 z87 (lv_sub hl [0, 2, 3, 4, 5, 6] rfl) hw hI hF (by omega) (by omega) (⟨j9 + 1, by omega, by omega, by obtain rfl : k9 = spW (s9, w9, u9) (x.toInt.toNat : Int) := (by omega); rw [plF_s, ← List.append_assoc]; exact wc9⟩) (bx9) (by omega)
                                · refine lv_aload_n hx hb dX12_countWays_137 rfl (lv_at hl 5 rfl) ?_
                                  refine lv_iload_n hx hb dX12_countWays_138 rfl (lv_at hl 6 rfl) ?_
                                  refine lv_bipush (v := 12) hx hb dX12_countWays_139 (by decide) (ti_c 12 (by decide) fun z88 hz88 => ?_)
                                  refine lv_iload hx hb dX12_countWays_141 (lv_at hl 1 rfl) ?_
                                  refine lv_imul hx hb dX12_countWays_143 (tc_mulL 12 hz88 fun z89 hz89 => ?_)
                                  first | replace hz89 := hz89 (by omega) | clear hz89
                                  refine lv_iload hx hb dX12_countWays_144 (lv_at hl 0 rfl) ?_
                                  refine lv_iadd hx hb dX12_countWays_146 (tc_add fun z90 hz90 => ?_)
                                  first | replace hz90 := hz90 (by omega) | clear hz90
                                  have qe : ((z90.toInt.toNat : Nat) : Int) = (rowv w9 (x.toInt.toNat : Int) + (j9 : Int)) * 12 + (colv w9 (x.toInt.toNat : Int) + (k9 : Int)) := by omega
                                  have qm : (rowv w9 (x.toInt.toNat : Int) + (j9 : Int)) * 12 + (colv w9 (x.toInt.toNat : Int) + (k9 : Int)) ∈ plS (s9, w9, u9) (x.toInt.toNat : Int) := plF_in (by omega) (by omega)
                                  have qr := sb9 _ (List.mem_append_right _ qm)
                                  rw [← qe] at qr
                                  have qn := hrg _ qr
                                  have hF0 := hF
                                  refine r_callV (As := [.int x, .int z90]) (rest := []) C hw (t_X12_addWaysE l B D cA kd ig83 rg lg84 _ x z90 (by omega) (by omega) (fun e9 => qn e9.symm) (isTot σ z90.toInt.toNat) (by rw [Ft.i hF 70 _ (by decide)]; exact hT _ qr) bx9 (fun q9 r hr => by rw [wc9.row qn hr]; exact hwb _ qr q9 r hr) hI) sv_X12_305 (hsh 49 _ rfl) rfl hl.1 rfl (Nat.le_of_ble_eq_true rfl) ⟨Nat.le_of_ble_eq_true rfl, Nat.le_of_ble_eq_true rfl⟩ ⟨Nat.le_of_ble_eq_true rfl, Nat.le_of_ble_eq_true rfl⟩ dX12_countWays_147 (fun r95 kd91 ig92 rg93 lg94 H locs hw hH hp96 => ?_)
                                  obtain ⟨rfl, rfl, hI, hchp96, hrhp96⟩ := hp96
                                  have hF : Ft B [72] ig lg ig92 lg94 := Ft.tr hF hchp96 (by decide) (by decide)
                                  obtain ⟨rfl, hvhp96⟩ := hrhp96
                                  have wn8 := wc9.add qn (hkd0 _ (by omega)) (by have q9 := hvhp96; rw [Ft.i hF0 59 _ (by decide)] at q9; exact q9)
                                  have bx9 : ∀ r, r < 288 → 0 ≤ wyV B ig92 x.toInt.toNat r ∧ wyV B ig92 x.toInt.toNat r ≤ 10 := (by by_cases c : isTot σ z90.toInt.toNat; exact AwR.b (hvhp96.1 c) bx9 (fun r hr => by rw [wc9.row qn hr]; exact (hwb _ qr c r hr).1); exact AwR.b (hvhp96.2 c) bx9 (fun r hr => by show (0 : Int) ≤ if r = _ then (if _ then 0 else 1) else 0; split; (split <;> decide); decide))
                                  refine tc_inc hx hb dX12_countWays_150 hl (k := 0) rfl (by decide) (by decide) (fun z97 hz97 ls hl => ?_)
                                  first | replace hz97 := hz97 (by omega) | clear hz97
                                  have hl : lv_has ls 8 [(7, .int z97), (6, .int v74), (5, .int z71), (3, .int z14), (2, .int v7), (0, .ref (B + 49)), (1, .int x)] := hl
                                  refine lv_goto (tgt := 125) hx hb dX12_countWays_153 (by decide) ?_
                                  exact ih125 ls H locs ig92 lg94 z97 (lv_sub hl [0, 1, 2, 3, 4, 5, 6] rfl) hw hI hF (by omega) (by omega) (⟨k9 + 1, by omega, by omega, by rw [plR_s, ← List.append_assoc, ← qe]; exact wn8⟩) (bx9) (by omega)
                            exact L125 ((12 - z80.toInt) + 1).toNat ls H locs ig75 lg76 z80 (lv_sub hl [0, 1, 2, 3, 4, 5, 6] rfl) hw hI hF (by omega) (by omega) (⟨0, by omega, by omega, by rw [plR_0, List.append_nil]; exact wf9⟩) (bx9) (by omega)
                      exact L105 ((24 - z72.toInt) + 1).toNat ls H locs ig8 lg9 z72 (lv_sub hl [0, 1, 3, 4, 5, 6] rfl) hw hI hF (by omega) (by omega) (⟨0, by omega, by omega, by rw [plF_0, List.append_nil]; exact wr9⟩) (bx9) (by omega)
                    · refine lv_goto (tgt := 162) hx hb dX12_countWays_86 (by decide) ?_
                      refine tc_inc hx hb dX12_countWays_162 hl (k := 2) rfl (by decide) (by decide) (fun z98 hz98 ls hl => ?_)
                      first | replace hz98 := hz98 (by omega) | clear hz98
                      have hl : lv_has ls 8 [(2, .int z98), (4, .int z60), (3, .int z14), (0, .ref (B + 49)), (1, .int x)] := hl
                      refine lv_goto (tgt := 30) hx hb dX12_countWays_165 (by decide) ?_
                      exact ih30 ls H locs ig8 lg9 z98 (lv_sub hl [0, 3, 4] rfl) hw hI hF (by omega) (by omega) (⟨_, by rw [show z98.toInt.toNat = v7.toInt.toNat + 1 by omega]; exact ws9.skip hTL kn9 (Or.inr ⟨by omega, by omega⟩), wr9⟩) (bx9) (by omega)
                · refine lv_iconst (v := 1) hx hb dX12_countWays_64 (by decide) (ti_c 1 (by decide) fun z99 hz99 => ?_)
                  refine lv_goto (tgt := 69) hx hb dX12_countWays_65 (by decide) ?_
                  refine lv_istore (lv' := [(4, .int z99), (3, .int z14), (2, .int v7), (0, .ref (B + 49)), (1, .int x)]) hx hb dX12_countWays_69 hl (by decide) rfl (fun ls hl => ?_)
                  refine lv_aload_n hx hb dX12_countWays_71 rfl (lv_at hl 3 rfl) ?_
                  refine r_get C hw (hsh 49 _ rfl) fl_X12_65 (oV_r rfl (hrm (49, 9, 54) (by decide))) dX12_countWays_72 ?_
                  refine lv_iload_n hx hb dX12_countWays_75 rfl (lv_at hl 1 rfl) ?_
                  refine r_iald C hw (hsh 54 _ rfl) (by omega) (by omega) dX12_countWays_76 (ti_c (ig8 (B + 54) z14.toInt.toNat).toInt rfl fun z100 hz100 => ?_)
                  rw [Ft.i hF 54 _ (by decide)] at hz100
                  have k0 : (R9 v7.toInt.toNat).1 = z100.toInt := by rw [rk9, itR_k, hz100, show z14.toInt.toNat = 120 * x.toInt.toNat + v7.toInt.toNat by omega]; rfl
                  refine lv_iconst (v := 3) hx hb dX12_countWays_77 (by decide) (ti_c 3 (by decide) fun z102 hz102 => ?_)
                  refine b_ne (tgt := 162) hx hb dX12_countWays_78 (by decide) (fun c78 => ?_) (fun c78 => ?_)
                  · refine tc_inc hx hb dX12_countWays_162 hl (k := 2) rfl (by decide) (by decide) (fun z103 hz103 ls hl => ?_)
                    first | replace hz103 := hz103 (by omega) | clear hz103
                    have hl : lv_has ls 8 [(2, .int z103), (4, .int z99), (3, .int z14), (0, .ref (B + 49)), (1, .int x)] := hl
                    refine lv_goto (tgt := 30) hx hb dX12_countWays_165 (by decide) ?_
                    exact ih30 ls H locs ig8 lg9 z103 (lv_sub hl [0, 3, 4] rfl) hw hI hF (by omega) (by omega) (⟨_, by rw [show z103.toInt.toNat = v7.toInt.toNat + 1 by omega]; exact ws9.skip hTL kn9 (Or.inl (by omega)), wr9⟩) (bx9) (by omega)
                  · refine lv_iload hx hb dX12_countWays_81 (lv_at hl 0 rfl) ?_
                    refine z_eq (tgt := 89) hx hb dX12_countWays_83 (by decide) (fun c83 => ?_) (fun c83 => ?_)
                    · obtain ⟨s9, w9, u9, r9, sp9, wn9⟩ := ws9.take kn9 hTL (by omega) (fun q9 => by have q8 := q9.1; have q7 := q9.2; omega)
                      have sb9 := wn9.sub
                      obtain ⟨_, fw9⟩ := itm_3 (by omega) ok9.1 ok9.2 (rk9.symm.trans r9)
                      refine lv_aload_n hx hb dX12_countWays_89 rfl (lv_at hl 3 rfl) ?_
                      refine lv_iload_n hx hb dX12_countWays_90 rfl (lv_at hl 4 rfl) ?_
                      refine lv_iload_n hx hb dX12_countWays_91 rfl (lv_at hl 2 rfl) ?_
                      refine r_callV (As := [.int x, .int v7]) (rest := []) C hw (t_X12_spanLastE l B D cA kd ig8 rg lg9 _ x v7 (by omega) (by rw [Ft.i hF 58 _ (by decide)]; omega) (by rw [Ft.i hF 59 _ (by decide)]; omega) (by rw [show (120 * x.toInt + v7.toInt).toNat = z14.toInt.toNat by omega, Ft.i hF 54 _ (by decide)]; omega) hI) sv_X12_214 (hsh 49 _ rfl) rfl hl.1 rfl (Nat.le_of_ble_eq_true rfl) ⟨Nat.le_of_ble_eq_true rfl, Nat.le_of_ble_eq_true rfl⟩ ⟨Nat.le_of_ble_eq_true rfl, Nat.le_of_ble_eq_true rfl⟩ dX12_countWays_92 (fun r108 kd104 ig105 rg106 lg107 H locs hw hH hp109 => ?_)
                      obtain ⟨rfl, rfl, rfl, rfl, hzhp109, hrhp109⟩ := hp109
                      obtain ⟨z110, rfl, hz110⟩ := hrhp109
                      have sl9 := hz110.2
                      rw [lastI_ag (fun j => Ft.i hF 54 j (by decide))] at sl9
                      have fu9 : RfI B ig (x.toInt.toNat : Int) z110.toInt.toNat u9 := (by
                        unfold lastI at sl9
                        by_cases c : 2 ≤ v7.toInt.toNat ∧ (R9 (v7.toInt.toNat - 2)).1 = 2
                        · obtain ⟨_, r8, l8⟩ := sp9.1 c
                          have o8 := hG.2.2.2.2 (v7.toInt.toNat + 2) l8
                          have q8 := c.2
                          rw [hG.ri (a := v7.toInt.toNat - 2) (by omega), itR_k] at q8
                          rw [if_pos ⟨by omega, by rw [show 120 * x.toInt.toNat + v7.toInt.toNat - 2 = 120 * x.toInt.toNat + (v7.toInt.toNat - 2) by omega]; exact q8⟩] at sl9
                          rw [show z110.toInt.toNat = 120 * x.toInt.toNat + (v7.toInt.toNat + 2) by omega]
                          exact (itm_3 (by omega) o8.1 o8.2 ((hG.ri l8).symm.trans r8)).2
                        · rw [if_neg (fun q8 => c ⟨by omega, by have q7 := q8.2; rw [show 120 * x.toInt.toNat + v7.toInt.toNat - 2 = 120 * x.toInt.toNat + (v7.toInt.toNat - 2) by omega] at q7; rw [hG.ri (a := v7.toInt.toNat - 2) (by omega), itR_k]; exact q7⟩)] at sl9
                          rw [(sp9.2 c).2, show z110.toInt.toNat = 120 * x.toInt.toNat + v7.toInt.toNat by omega]
                          exact fw9)
                      have hz110 := hz110.1
                      rw [Ft.i hF 55 _ (by decide), Ft.i hF 56 _ (by decide)] at hz110
                      have hW9 : spW (s9, w9, u9) (x.toInt.toNat : Int) = (colv u9 (x.toInt.toNat : Int) - colv w9 (x.toInt.toNat : Int) + 1).toNat := rfl
                      have hH9 : spH (s9, w9, u9) (x.toInt.toNat : Int) = (rowv u9 (x.toInt.toNat : Int) - rowv w9 (x.toInt.toNat : Int) + 1).toNat := rfl
                      have fw1 := fw9.1
                      have fw2 := fw9.2
                      have fu1 := fu9.1
                      have fu2 := fu9.2
                      rw [show 120 * x.toInt.toNat + v7.toInt.toNat = z14.toInt.toNat by omega] at fw1 fw2
                      refine lv_istore (lv' := [(5, .int z110), (4, .int z99), (3, .int z14), (2, .int v7), (0, .ref (B + 49)), (1, .int x)]) hx hb dX12_countWays_95 hl (by decide) rfl (fun ls hl => ?_)
                      have rfi := IM.ref hI0 (p := x) (k := v7) (i := z14) (by omega) (by omega) (by omega) (by omega) (by omega)
                      refine lv_aload_n hx hb dX12_countWays_97 rfl (lv_at hl 4 rfl) ?_
                      refine r_get C hw (hsh 49 _ rfl) fl_X12_71 (oV_r rfl (hrm (49, 11, 56) (by decide))) dX12_countWays_98 ?_
                      refine lv_iload_n hx hb dX12_countWays_101 rfl (lv_at hl 2 rfl) ?_
                      refine r_iald C hw (hsh 56 _ rfl) (by omega) (by omega) dX12_countWays_102 (ti_c (ig8 (B + 56) z14.toInt.toNat).toInt rfl fun z111 hz111 => ?_)
                      rw [Ft.i hF 56 _ (by decide)] at hz111
                      refine lv_istore (lv' := [(6, .int z111), (5, .int z110), (4, .int z99), (3, .int z14), (2, .int v7), (0, .ref (B + 49)), (1, .int x)]) hx hb dX12_countWays_103 hl (by decide) rfl (fun ls hl => ?_)
                      have L105 : ∀ (n : Nat) (ls : Array Slot) (H : Heap) (locs : List Loc) (ig114 : sI) (lg115 : sG) (v113 : Int32), lv_has ls 8 [(6, .int v113), (5, .int z110), (3, .int z14), (2, .int v7), (0, .ref (B + 49)), (1, .int x)] → WD B D cA s.heap kd ig114 rg lg115 H locs → IM τ φ υ B kd ig114 rg → Ft B [72] ig lg ig114 lg115 → (0 ≤ v113.toInt) → (v113.toInt ≤ 24) → (∃ j9 : Nat, v113.toInt = rowv w9 (x.toInt.toNat : Int) + (j9 : Int) ∧ j9 ≤ spH (s9, w9, u9) (x.toInt.toNat : Int) ∧ WsR B σ x.toInt.toNat ig (l9 ++ plF (rowv w9 (x.toInt.toNat : Int)) (colv w9 (x.toInt.toNat : Int)) (spW (s9, w9, u9) (x.toInt.toNat : Int)) j9) ig114) → (∀ r, r < 288 → 0 ≤ wyV B ig114 x.toInt.toNat r ∧ wyV B ig114 x.toInt.toNat r ≤ 10) → 24 - v113.toInt < (n : Int) → W p l e (rL 2 0 0) s m args below meth c H locs 0 0 (MQ below (QcW B D cA (PM τ φ υ B [72] kd ig rg lg (fun r ig' lg' => (r = none ∧ (WsR B σ x.toInt.toNat ig (rdL L9 (x.toInt.toNat : Int)) ig' ∧ ∀ r, r < 288 → 0 ≤ wyV B ig' x.toInt.toNat r ∧ wyV B ig' x.toInt.toNat r ≤ 10))))) args s 0 0 (fun q => B ≤ q)) (F0 m 105 ls []) := by
                        intro n105
                        induction n105 with
                        | zero => intro ls H locs ig114 lg115 v113 hl hw hI hF g105_0 g105_1 g105_2 g105_3 hmu; exact absurd hmu (by omega)
                        | succ n105 ih105 =>
                          intro ls H locs ig114 lg115 v113 hl hw hI hF g105_0 g105_1 g105_2 g105_3 hmu
                          obtain ⟨j9, hj6, hjH, wf9⟩ := g105_2
                          have bx9 := g105_3
                          refine lv_iload hx hb dX12_countWays_105 (lv_at hl 0 rfl) ?_
                          refine lv_aload_n hx hb dX12_countWays_107 rfl (lv_at hl 4 rfl) ?_
                          refine r_get C hw (hsh 49 _ rfl) fl_X12_71 (oV_r rfl (hrm (49, 11, 56) (by decide))) dX12_countWays_108 ?_
                          refine lv_iload hx hb dX12_countWays_111 (lv_at hl 1 rfl) ?_
                          refine r_iald C hw (hsh 56 _ rfl) (by omega) (by omega) dX12_countWays_113 (ti_c (ig114 (B + 56) z110.toInt.toNat).toInt rfl fun z116 hz116 => ?_)
                          rw [Ft.i hF 56 _ (by decide)] at hz116
                          refine b_gt (tgt := 162) hx hb dX12_countWays_114 (by decide) (fun c114 => ?_) (fun c114 => ?_)
                          · refine tc_inc hx hb dX12_countWays_162 hl (k := 3) rfl (by decide) (by decide) (fun z118 hz118 ls hl => ?_)
                            first | replace hz118 := hz118 (by omega) | clear hz118
                            have hl : lv_has ls 8 [(2, .int z118), (6, .int v113), (5, .int z110), (3, .int z14), (0, .ref (B + 49)), (1, .int x)] := hl
                            refine lv_goto (tgt := 30) hx hb dX12_countWays_165 (by decide) ?_
                            exact ih30 ls H locs ig114 lg115 z118 (lv_sub hl [0, 4, 5] rfl) hw hI hF (by omega) (by omega) (⟨_, by rw [show z118.toInt.toNat = v7.toInt.toNat + 1 by omega]; exact wn9, (by obtain rfl : j9 = spH (s9, w9, u9) (x.toInt.toNat : Int) := (by omega); exact wf9)⟩) (bx9) (by omega)
                          · refine lv_aload_n hx hb dX12_countWays_117 rfl (lv_at hl 4 rfl) ?_
                            refine r_get C hw (hsh 49 _ rfl) fl_X12_68 (oV_r rfl (hrm (49, 10, 55) (by decide))) dX12_countWays_118 ?_
                            refine lv_iload_n hx hb dX12_countWays_121 rfl (lv_at hl 2 rfl) ?_
                            refine r_iald C hw (hsh 55 _ rfl) (by omega) (by omega) dX12_countWays_122 (ti_c (ig114 (B + 55) z14.toInt.toNat).toInt rfl fun z119 hz119 => ?_)
                            rw [Ft.i hF 55 _ (by decide)] at hz119
                            refine lv_istore (lv' := [(7, .int z119), (6, .int v113), (5, .int z110), (3, .int z14), (2, .int v7), (0, .ref (B + 49)), (1, .int x)]) hx hb dX12_countWays_123 hl (by decide) rfl (fun ls hl => ?_)
                            have L125 : ∀ (n : Nat) (ls : Array Slot) (H : Heap) (locs : List Loc) (ig122 : sI) (lg123 : sG) (v121 : Int32), lv_has ls 8 [(7, .int v121), (6, .int v113), (5, .int z110), (3, .int z14), (2, .int v7), (0, .ref (B + 49)), (1, .int x)] → WD B D cA s.heap kd ig122 rg lg123 H locs → IM τ φ υ B kd ig122 rg → Ft B [72] ig lg ig122 lg123 → (0 ≤ v121.toInt) → (v121.toInt ≤ 12) → (∃ k9 : Nat, v121.toInt = colv w9 (x.toInt.toNat : Int) + (k9 : Int) ∧ k9 ≤ spW (s9, w9, u9) (x.toInt.toNat : Int) ∧ WsR B σ x.toInt.toNat ig (l9 ++ plF (rowv w9 (x.toInt.toNat : Int)) (colv w9 (x.toInt.toNat : Int)) (spW (s9, w9, u9) (x.toInt.toNat : Int)) j9 ++ plR (rowv w9 (x.toInt.toNat : Int) + (j9 : Int)) (colv w9 (x.toInt.toNat : Int)) k9) ig122) → (∀ r, r < 288 → 0 ≤ wyV B ig122 x.toInt.toNat r ∧ wyV B ig122 x.toInt.toNat r ≤ 10) → 12 - v121.toInt < (n : Int) → W p l e (rL 2 0 0) s m args below meth c H locs 0 0 (MQ below (QcW B D cA (PM τ φ υ B [72] kd ig rg lg (fun r ig' lg' => (r = none ∧ (WsR B σ x.toInt.toNat ig (rdL L9 (x.toInt.toNat : Int)) ig' ∧ ∀ r, r < 288 → 0 ≤ wyV B ig' x.toInt.toNat r ∧ wyV B ig' x.toInt.toNat r ≤ 10))))) args s 0 0 (fun q => B ≤ q)) (F0 m 125 ls []) := by
                              intro n125
                              induction n125 with
                              | zero => intro ls H locs ig122 lg123 v121 hl hw hI hF g125_0 g125_1 g125_2 g125_3 hmu; exact absurd hmu (by omega)
                              | succ n125 ih125 =>
                                intro ls H locs ig122 lg123 v121 hl hw hI hF g125_0 g125_1 g125_2 g125_3 hmu
                                obtain ⟨k9, hk7, hkW, wc9⟩ := g125_2
                                have bx9 := g125_3
                                refine lv_iload hx hb dX12_countWays_125 (lv_at hl 0 rfl) ?_
                                refine lv_aload_n hx hb dX12_countWays_127 rfl (lv_at hl 5 rfl) ?_
                                refine r_get C hw (hsh 49 _ rfl) fl_X12_68 (oV_r rfl (hrm (49, 10, 55) (by decide))) dX12_countWays_128 ?_
                                refine lv_iload hx hb dX12_countWays_131 (lv_at hl 2 rfl) ?_
                                refine r_iald C hw (hsh 55 _ rfl) (by omega) (by omega) dX12_countWays_133 (ti_c (ig122 (B + 55) z110.toInt.toNat).toInt rfl fun z124 hz124 => ?_)
                                rw [Ft.i hF 55 _ (by decide)] at hz124
                                refine b_gt (tgt := 156) hx hb dX12_countWays_134 (by decide) (fun c134 => ?_) (fun c134 => ?_)
                                · refine tc_inc hx hb dX12_countWays_156 hl (k := 1) rfl (by decide) (by decide) (fun z126 hz126 ls hl => ?_)
                                  first | replace hz126 := hz126 (by omega) | clear hz126
                                  have hl : lv_has ls 8 [(6, .int z126), (7, .int v121), (5, .int z110), (3, .int z14), (2, .int v7), (0, .ref (B + 49)), (1, .int x)] := hl
                                  refine lv_goto (tgt := 105) hx hb dX12_countWays_159 (by decide) ?_
                                  exact ih105 ls H locs ig122 lg123 z126 (lv_sub hl [0, 2, 3, 4, 5, 6] rfl) hw hI hF (by omega) (by omega) (⟨j9 + 1, by omega, by omega, by obtain rfl : k9 = spW (s9, w9, u9) (x.toInt.toNat : Int) := (by omega); rw [plF_s, ← List.append_assoc]; exact wc9⟩) (bx9) (by omega)
                                · refine lv_aload_n hx hb dX12_countWays_137 rfl (lv_at hl 5 rfl) ?_
                                  refine lv_iload_n hx hb dX12_countWays_138 rfl (lv_at hl 6 rfl) ?_
                                  refine lv_bipush (v := 12) hx hb dX12_countWays_139 (by decide) (ti_c 12 (by decide) fun z127 hz127 => ?_)
                                  refine lv_iload hx hb dX12_countWays_141 (lv_at hl 1 rfl) ?_
                                  refine lv_imul hx hb dX12_countWays_143 (tc_mulL 12 hz127 fun z128 hz128 => ?_)
                                  first | replace hz128 := hz128 (by omega) | clear hz128
                                  refine lv_iload hx hb dX12_countWays_144 (lv_at hl 0 rfl) ?_
                                  refine lv_iadd hx hb dX12_countWays_146 (tc_add fun z129 hz129 => ?_)
                                  first | replace hz129 := hz129 (by omega) | clear hz129
                                  have qe : ((z129.toInt.toNat : Nat) : Int) = (rowv w9 (x.toInt.toNat : Int) + (j9 : Int)) * 12 + (colv w9 (x.toInt.toNat : Int) + (k9 : Int)) := by omega
                                  have qm : (rowv w9 (x.toInt.toNat : Int) + (j9 : Int)) * 12 + (colv w9 (x.toInt.toNat : Int) + (k9 : Int)) ∈ plS (s9, w9, u9) (x.toInt.toNat : Int) := plF_in (by omega) (by omega)
                                  have qr := sb9 _ (List.mem_append_right _ qm)
                                  rw [← qe] at qr
                                  have qn := hrg _ qr
                                  have hF0 := hF
                                  refine r_callV (As := [.int x, .int z129]) (rest := []) C hw (t_X12_addWaysE l B D cA kd ig122 rg lg123 _ x z129 (by omega) (by omega) (fun e9 => qn e9.symm) (isTot σ z129.toInt.toNat) (by rw [Ft.i hF 70 _ (by decide)]; exact hT _ qr) bx9 (fun q9 r hr => by rw [wc9.row qn hr]; exact hwb _ qr q9 r hr) hI) sv_X12_305 (hsh 49 _ rfl) rfl hl.1 rfl (Nat.le_of_ble_eq_true rfl) ⟨Nat.le_of_ble_eq_true rfl, Nat.le_of_ble_eq_true rfl⟩ ⟨Nat.le_of_ble_eq_true rfl, Nat.le_of_ble_eq_true rfl⟩ dX12_countWays_147 (fun r134 kd130 ig131 rg132 lg133 H locs hw hH hp135 => ?_)
                                  obtain ⟨rfl, rfl, hI, hchp135, hrhp135⟩ := hp135
                                  have hF : Ft B [72] ig lg ig131 lg133 := Ft.tr hF hchp135 (by decide) (by decide)
                                  obtain ⟨rfl, hvhp135⟩ := hrhp135
                                  have wn8 := wc9.add qn (hkd0 _ (by omega)) (by have q9 := hvhp135; rw [Ft.i hF0 59 _ (by decide)] at q9; exact q9)
                                  have bx9 : ∀ r, r < 288 → 0 ≤ wyV B ig131 x.toInt.toNat r ∧ wyV B ig131 x.toInt.toNat r ≤ 10 := (by by_cases c : isTot σ z129.toInt.toNat; exact AwR.b (hvhp135.1 c) bx9 (fun r hr => by rw [wc9.row qn hr]; exact (hwb _ qr c r hr).1); exact AwR.b (hvhp135.2 c) bx9 (fun r hr => by show (0 : Int) ≤ if r = _ then (if _ then 0 else 1) else 0; split; (split <;> decide); decide))
                                  refine tc_inc hx hb dX12_countWays_150 hl (k := 0) rfl (by decide) (by decide) (fun z136 hz136 ls hl => ?_)
                                  first | replace hz136 := hz136 (by omega) | clear hz136
                                  have hl : lv_has ls 8 [(7, .int z136), (6, .int v113), (5, .int z110), (3, .int z14), (2, .int v7), (0, .ref (B + 49)), (1, .int x)] := hl
                                  refine lv_goto (tgt := 125) hx hb dX12_countWays_153 (by decide) ?_
                                  exact ih125 ls H locs ig131 lg133 z136 (lv_sub hl [0, 1, 2, 3, 4, 5, 6] rfl) hw hI hF (by omega) (by omega) (⟨k9 + 1, by omega, by omega, by rw [plR_s, ← List.append_assoc, ← qe]; exact wn8⟩) (bx9) (by omega)
                            exact L125 ((12 - z119.toInt) + 1).toNat ls H locs ig114 lg115 z119 (lv_sub hl [0, 1, 2, 3, 4, 5, 6] rfl) hw hI hF (by omega) (by omega) (⟨0, by omega, by omega, by rw [plR_0, List.append_nil]; exact wf9⟩) (bx9) (by omega)
                      exact L105 ((24 - z111.toInt) + 1).toNat ls H locs ig8 lg9 z111 (lv_sub hl [0, 1, 3, 4, 5, 6] rfl) hw hI hF (by omega) (by omega) (⟨0, by omega, by omega, by rw [plF_0, List.append_nil]; exact wr9⟩) (bx9) (by omega)
                    · refine lv_goto (tgt := 162) hx hb dX12_countWays_86 (by decide) ?_
                      refine tc_inc hx hb dX12_countWays_162 hl (k := 2) rfl (by decide) (by decide) (fun z137 hz137 ls hl => ?_)
                      first | replace hz137 := hz137 (by omega) | clear hz137
                      have hl : lv_has ls 8 [(2, .int z137), (4, .int z99), (3, .int z14), (0, .ref (B + 49)), (1, .int x)] := hl
                      refine lv_goto (tgt := 30) hx hb dX12_countWays_165 (by decide) ?_
                      exact ih30 ls H locs ig8 lg9 z137 (lv_sub hl [0, 3, 4] rfl) hw hI hF (by omega) (by omega) (⟨_, by rw [show z137.toInt.toNat = v7.toInt.toNat + 1 by omega]; exact ws9.skip hTL kn9 (Or.inr ⟨by omega, by omega⟩), wr9⟩) (bx9) (by omega)
        exact L30 (((n9 : Int) - z6.toInt) + 1).toNat ls H locs ig3 lg4 z6 (lv_sub hl [0, 1, 2] rfl) hw hI hF (by omega) (by omega) (by rw [show z6.toInt.toNat = 0 by omega]; exact ⟨[], WSt.start hie, zr9⟩) (bz9) (by omega)
      · refine lv_aload_n hx hb dX12_countWays_9 rfl (lv_at hl 1 rfl) ?_
        refine r_get C hw (hsh 49 _ rfl) fl_X12_121 (oV_r rfl (hrm (49, 29, 72) (by decide))) dX12_countWays_10 ?_
        refine lv_sipush (v := 288) hx hb dX12_countWays_13 (by decide) (ti_c 288 (by decide) fun z138 hz138 => ?_)
        refine lv_iload_n hx hb dX12_countWays_16 rfl (lv_at hl 2 rfl) ?_
        refine lv_imul hx hb dX12_countWays_17 (tc_mulL 288 hz138 fun z139 hz139 => ?_)
        first | replace hz139 := hz139 (by omega) | clear hz139
        refine lv_iload_n hx hb dX12_countWays_18 rfl (lv_at hl 0 rfl) ?_
        refine lv_iadd hx hb dX12_countWays_19 (tc_add fun z140 hz140 => ?_)
        first | replace hz140 := hz140 (by omega) | clear hz140
        refine lv_iconst (v := 0) hx hb dX12_countWays_20 (by decide) (ti_c 0 (by decide) fun z141 hz141 => ?_)
        refine r_iast C hw (hsh 72 _ rfl) (by omega) (by omega) dX12_countWays_21 (fun H locs hH hw => ?_)
        obtain ⟨ig142, eig142⟩ : ∃ f, f = up2 ig3 (B + 72) z140.toInt.toNat z141 := ⟨_, rfl⟩
        rw [← eig142] at hw
        have hF : Ft B [72] ig lg ig142 lg4 := by rw [eig142]; exact hF.pi (by decide)
        have hI : IM τ φ υ B kd ig142 rg := by rw [eig142]; exact hI.pi (by decide) (show okR none _ from trivial)
        have zn9 : (∀ j, ¬ (288 * x.toInt.toNat ≤ j ∧ j < 288 * x.toInt.toNat + (v2.toInt.toNat + 1)) → ig142 (B + 72) j = ig (B + 72) j) ∧ ∀ r, r < v2.toInt.toNat + 1 → wyV B ig142 x.toInt.toNat r = 0 := ⟨fun j hj => by rw [eig142, up2_j (by omega)]; exact g2_2.1 j (by omega), fun r hr => by by_cases c : r = v2.toInt.toNat; (unfold wyV; rw [eig142, show z140.toInt.toNat = 288 * x.toInt.toNat + r by omega, up2_eq]; omega); (have q9 := g2_2.2 r (by omega); unfold wyV at q9 ⊢; rw [eig142, up2_j (by omega)]; exact q9)⟩
        refine tc_inc hx hb dX12_countWays_22 hl (k := 0) rfl (by decide) (by decide) (fun z143 hz143 ls hl => ?_)
        first | replace hz143 := hz143 (by omega) | clear hz143
        have hl : lv_has ls 8 [(2, .int z143), (0, .ref (B + 49)), (1, .int x)] := hl
        refine lv_goto (tgt := 2) hx hb dX12_countWays_25 (by decide) ?_
        exact ih2 ls H locs ig142 lg4 z143 (lv_sub hl [0, 1, 2] rfl) hw hI hF (by omega) (by omega) (by rw [show z143.toInt.toNat = v2.toInt.toNat + 1 by omega]; exact zn9) (by omega)
  exact L2 ((288 - z1.toInt) + 1).toNat ls s.heap [] ig lg z1 (lv_sub hl [0, 1, 2] rfl) hw hI hF (by omega) (by omega) (⟨fun j _ => rfl, fun r hr => by omega⟩) (by omega)
