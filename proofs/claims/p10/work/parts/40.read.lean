/-! items that were read, by the grammar -/
section ITEMS
variable {τ : Tp} {φ : Option Int} {B N d i j : Nat} {ig ig' ig1 ig2 g0 g1 g2 g3 g4 g5 g6 g7 : sI} {x y u a v : Int32}
def QN (G : (Nat → Int) → (Nat → Int) → Nat → Nat → Nat → Prop) (B d i j : Nat) (ig : sI) : Prop := G (mK B ig) (mA B ig) d (34560 + i) (34560 + j) ∧ ∀ k, 34560 + i ≤ k → k < 34560 + j → rOk B ig k
def PQ (G : (Nat → Int) → (Nat → Int) → Nat → Nat → Nat → Prop) (B d i : Nat) (ig : sI) : Prop := (ig (B + 49) 8).toInt = 0 → QN G B d i ((ig (B + 58) 288).toInt).toNat ig
def pfx (B j : Nat) (ig ig' : sI) : Prop := ∀ c k, 54 ≤ c → c ≤ 56 → k < 34560 + j → ig' (B + c) k = ig (B + c) k
theorem PR.px (h : PR B ig ig') (hj : j ≤ ((ig (B + 58) 288).toInt).toNat) : pfx B j ig ig' := fun c k a b q => h.2.2.2.2 c k a b (by omega)
theorem pfx.tr (h : pfx B j ig ig1) (h' : pfx B j ig1 ig2) : pfx B j ig ig2 := fun c k a b q => (h' c k a b q).trans (h c k a b q)
theorem pfx.k (h : pfx B j ig ig') {k : Nat} (hk : k < 34560 + j) : mK B ig' k = mK B ig k ∧ mA B ig' k = mA B ig k ∧ mB B ig' k = mB B ig k := by
  simp only [mK, mA, mB]
  rw [h 54 k (by decide) (by decide) hk, h 55 k (by decide) (by decide) hk, h 56 k (by decide) (by decide) hk]
  exact ⟨rfl, rfl, rfl⟩
theorem pfx.r (h : pfx B j ig ig') {k : Nat} (hk : k < 34560 + j) (hr : rOk B ig k) : rOk B ig' k := by
  obtain ⟨e1, e2, e3⟩ := h.k hk
  simp only [rOk, e1, e2, e3]
  exact hr
theorem pfx.ag (h : pfx B j ig ig') : gAg (mK B ig) (mA B ig) (mK B ig') (mA B ig') (34560 + i) (34560 + j) := fun k _ hk => ⟨(h.k hk).1, fun _ => (h.k hk).2.1⟩
theorem QN.part (h : QN gPart B d i j ig) (hp : pfx B j ig ig') : QN gPart B d i j ig' := ⟨gPart.ag (hp.ag (i := i)) d _ _ (Nat.le_refl _) (Nat.le_refl _) h.1, fun k a b => hp.r b (h.2 k a b)⟩
theorem QN.prod (h : QN gProd B d i j ig) (hp : pfx B j ig ig') : QN gProd B d i j ig' := ⟨gProd.ag (hp.ag (i := i)) (Nat.le_refl _) (Nat.le_refl _) h.1, fun k a b => hp.r b (h.2 k a b)⟩
theorem QN.e (h : QN gE B d i j ig) (hp : pfx B j ig ig') : QN gE B d i j ig' := ⟨gE.ag (hp.ag (i := i)) (Nat.le_refl _) (Nat.le_refl _) h.1, fun k a b => hp.r b (h.2 k a b)⟩
theorem QN.one (h : QN gPart B d i j ig) : QN gProd B d i j ig := ⟨⟨0, h.1⟩, h.2⟩
theorem QN.oneE (h : QN gProd B d i j ig) : QN gE B d i j ig := ⟨⟨0, h.1⟩, h.2⟩
/-- a chain goes on by a sign and what stands behind it -/
theorem QN.snoc {m : Nat} (h : QN gProd B d i m ig) (hk : mK B ig (34560 + m) = 1) (ha : mA B ig (34560 + m) = 42 ∨ mA B ig (34560 + m) = 47) (h' : QN gPart B d (m + 1) j ig) : QN gProd B d i j ig := by
  obtain ⟨⟨n, c⟩, r⟩ := h
  refine ⟨⟨n + 1, gCh.snoc n _ _ _ c ⟨hk, ha⟩ h'.1⟩, fun k a b => ?_⟩
  rcases Nat.lt_trichotomy k (34560 + m) with q | q | q
  · exact r k a q
  · subst q
    exact fun q => by rw [hk] at q; cases q
  · exact h'.2 k (by omega) b
theorem QN.snocE {m : Nat} (h : QN gE B d i m ig) (hk : mK B ig (34560 + m) = 1) (ha : mA B ig (34560 + m) = 43 ∨ mA B ig (34560 + m) = 45) (h' : QN gProd B d (m + 1) j ig) : QN gE B d i j ig := by
  obtain ⟨⟨n, c⟩, r⟩ := h
  refine ⟨⟨n + 1, gCh.snoc n _ _ _ c ⟨hk, ha⟩ h'.1⟩, fun k a b => ?_⟩
  rcases Nat.lt_trichotomy k (34560 + m) with q | q | q
  · exact r k a q
  · subst q
    exact fun q => by rw [hk] at q; cases q
  · exact h'.2 k (by omega) b
/-- one more turn of a loop: sign, then the next -/
theorem PQ.turn (h : PQ gProd B d i g0) (h0 : 0 ≤ (g0 (B + 58) 288).toInt) (p1 : PR B g0 g1) (t : (g1 (B + 49) 8).toInt = 0 → (g1 (B + 49) 7).toInt = (g0 (B + 49) 7).toInt + 1 ∧ TS B x g0 g1) (hx : x.toInt = 42 ∨ x.toInt = 47) (p2 : PR B g1 g2) (q : PQ gPart B d ((g1 (B + 58) 288).toInt).toNat g2) : PQ gProd B d i g2 := fun f2 => by
  have f1 := p2.2.2.1 f2
  have f0 := p1.2.2.1 f1
  obtain ⟨-, t1, t2, t3⟩ := t f1
  have e : ((g1 (B + 58) 288).toInt).toNat = ((g0 (B + 58) 288).toInt).toNat + 1 := by omega
  have q2 := q f2
  rw [e] at q2
  have x2 : pfx B (((g0 (B + 58) 288).toInt).toNat + 1) g1 g2 := p2.px (by omega)
  have x1 : pfx B ((g0 (B + 58) 288).toInt).toNat g0 g1 := p1.px (Nat.le_refl _)
  have hk := x2.k (k := 34560 + ((g0 (B + 58) 288).toInt).toNat) (by omega)
  refine QN.snoc ((h f0).prod (x1.tr (p2.px (by omega)))) (by rw [hk.1]; exact t2) ?_ q2
  rw [hk.2.1, t3]
  exact hx
theorem PQ.turnE (h : PQ gE B d i g0) (h0 : 0 ≤ (g0 (B + 58) 288).toInt) (p1 : PR B g0 g1) (t : (g1 (B + 49) 8).toInt = 0 → (g1 (B + 49) 7).toInt = (g0 (B + 49) 7).toInt + 1 ∧ TS B x g0 g1) (hx : x.toInt = 43 ∨ x.toInt = 45) (p2 : PR B g1 g2) (q : PQ gProd B d ((g1 (B + 58) 288).toInt).toNat g2) : PQ gE B d i g2 := fun f2 => by
  have f1 := p2.2.2.1 f2
  have f0 := p1.2.2.1 f1
  obtain ⟨-, t1, t2, t3⟩ := t f1
  have e : ((g1 (B + 58) 288).toInt).toNat = ((g0 (B + 58) 288).toInt).toNat + 1 := by omega
  have q2 := q f2
  rw [e] at q2
  have x2 : pfx B (((g0 (B + 58) 288).toInt).toNat + 1) g1 g2 := p2.px (by omega)
  have x1 : pfx B ((g0 (B + 58) 288).toInt).toNat g0 g1 := p1.px (Nat.le_refl _)
  have hk := x2.k (k := 34560 + ((g0 (B + 58) 288).toInt).toNat) (by omega)
  refine QN.snocE ((h f0).e (x1.tr (p2.px (by omega)))) (by rw [hk.1]; exact t2) ?_ q2
  rw [hk.2.1, t3]
  exact hx
/-- a NUMBER, a REF -/
theorem ADD.num (h : ADD B a y u g0 g1) (ha : a.toInt = 0) (h0 : 0 ≤ (g0 (B + 58) 288).toInt) : PQ gPart B (d + 1) ((g0 (B + 58) 288).toInt).toNat g1 := fun _ => by
  have e : ((g1 (B + 58) 288).toInt).toNat = ((g0 (B + 58) 288).toInt).toNat + 1 := by have := h.1; omega
  have hk : mK B g1 (34560 + ((g0 (B + 58) 288).toInt).toNat) = 0 := by simp only [mK]; rw [h.2.1.1]; exact ha
  rw [e]
  refine ⟨Or.inl ⟨Or.inl hk, by omega⟩, fun k a b q => ?_⟩
  rw [show k = 34560 + ((g0 (B + 58) 288).toInt).toNat by omega, hk] at q
  cases q
theorem RS.ref (h : (g1 (B + 49) 8).toInt = 0 → RS B g0 g1) (h0 : 0 ≤ (g0 (B + 58) 288).toInt) : PQ gPart B (d + 1) ((g0 (B + 58) 288).toInt).toNat g1 := fun f => by
  obtain ⟨h1, h2, h3⟩ := h f
  have e : ((g1 (B + 58) 288).toInt).toNat = ((g0 (B + 58) 288).toInt).toNat + 1 := by omega
  rw [e]
  refine ⟨Or.inl ⟨Or.inr h2, by omega⟩, fun k a b => ?_⟩
  rw [show k = 34560 + ((g0 (B + 58) 288).toInt).toNat by omega]
  exact h3
/-- - PART -/
theorem PQ.neg (t : (g1 (B + 49) 8).toInt = 0 → (g1 (B + 49) 7).toInt = (g0 (B + 49) 7).toInt + 1 ∧ TS B x g0 g1) (hx : x.toInt = 45) (h0 : 0 ≤ (g0 (B + 58) 288).toInt) (p2 : PR B g1 g2) (q : PQ gPart B d ((g1 (B + 58) 288).toInt).toNat g2) : PQ gPart B (d + 1) ((g0 (B + 58) 288).toInt).toNat g2 := fun f2 => by
  obtain ⟨-, t1, t2, t3⟩ := t (p2.2.2.1 f2)
  have e : ((g1 (B + 58) 288).toInt).toNat = ((g0 (B + 58) 288).toInt).toNat + 1 := by omega
  obtain ⟨q1, q2⟩ := q f2
  have hk := (p2.px (j := ((g0 (B + 58) 288).toInt).toNat + 1) (by omega)).k (k := 34560 + ((g0 (B + 58) 288).toInt).toNat) (by omega)
  rw [e] at q1 q2
  refine ⟨Or.inr (Or.inr (Or.inl ⟨by rw [hk.1]; exact t2, by rw [hk.2.1, t3]; exact hx, q1⟩)), fun k a b => ?_⟩
  by_cases c : k = 34560 + ((g0 (B + 58) 288).toInt).toNat
  · subst c
    exact fun q => by rw [hk.1, t2] at q; cases q
  · exact q2 k (by omega) b
/-- ( E ) -/
theorem PQ.par (t : (g1 (B + 49) 8).toInt = 0 → (g1 (B + 49) 7).toInt = (g0 (B + 49) 7).toInt + 1 ∧ TS B x g0 g1) (hx : x.toInt = 40) (h0 : 0 ≤ (g0 (B + 58) 288).toInt) (p2 : PR B g1 g2) (q : PQ gE B d ((g1 (B + 58) 288).toInt).toNat g2) (p3 : PR B g2 g3) (t' : (g3 (B + 49) 8).toInt = 0 → (g3 (B + 49) 7).toInt = (g2 (B + 49) 7).toInt + 1 ∧ TS B y g2 g3) (hy : y.toInt = 41) : PQ gPart B (d + 1) ((g0 (B + 58) 288).toInt).toNat g3 := fun f3 => by
  have f2 := p3.2.2.1 f3
  obtain ⟨-, t1, t2, t3⟩ := t (p2.2.2.1 f2)
  obtain ⟨-, s1, s2, s3⟩ := t' f3
  have e : ((g1 (B + 58) 288).toInt).toNat = ((g0 (B + 58) 288).toInt).toNat + 1 := by omega
  have i2 := p2.2.1
  have e3 : ((g3 (B + 58) 288).toInt).toNat = ((g2 (B + 58) 288).toInt).toNat + 1 := by omega
  have q9 := (q f2).e (p3.px (Nat.le_refl _))
  obtain ⟨⟨n, q1⟩, q2⟩ := q9
  have x2 : pfx B (((g0 (B + 58) 288).toInt).toNat + 1) g1 g2 := p2.px (by omega)
  have hk := (x2.tr (p3.px (by omega))).k (k := 34560 + ((g0 (B + 58) 288).toInt).toNat) (by omega)
  rw [e] at q1 q2
  rw [e3]
  refine ⟨Or.inr (Or.inr (Or.inr ⟨by rw [hk.1]; exact t2, by rw [hk.2.1, t3]; exact hx, 34560 + ((g2 (B + 58) 288).toInt).toNat, n, q1, s2, by rw [s3]; exact hy, by omega⟩)), fun k a b => ?_⟩
  by_cases c : k = 34560 + ((g0 (B + 58) 288).toInt).toNat
  · subst c
    exact fun q => by rw [hk.1, t2] at q; cases q
  · by_cases c2 : k = 34560 + ((g2 (B + 58) 288).toInt).toNat
    · subst c2
      exact fun q => by rw [s2] at q; cases q
    · exact q2 k (by omega) (by omega)
/-- sum( REF : REF ) -/
theorem PQ.sum {x1 x2 x3 : Int32} (h : ADD B a y u g1 g2) (ha : a.toInt = 2) (h0 : 0 ≤ (g1 (B + 58) 288).toInt) (t3 : (g3 (B + 49) 8).toInt = 0 → (g3 (B + 49) 7).toInt = (g2 (B + 49) 7).toInt + 1 ∧ TS B x1 g2 g3) (r4 : (g4 (B + 49) 8).toInt = 0 → RS B g3 g4) (t5 : (g5 (B + 49) 8).toInt = 0 → (g5 (B + 49) 7).toInt = (g4 (B + 49) 7).toInt + 1 ∧ TS B x2 g4 g5) (r6 : (g6 (B + 49) 8).toInt = 0 → RS B g5 g6) (t7 : (g7 (B + 49) 8).toInt = 0 → (g7 (B + 49) 7).toInt = (g6 (B + 49) 7).toInt + 1 ∧ TS B x3 g6 g7)
    (hx1 : x1.toInt = 40) (hx2 : x2.toInt = 58) (hx3 : x3.toInt = 41) (p3 : PR B g2 g3) (p4 : PR B g3 g4) (p5 : PR B g4 g5) (p6 : PR B g5 g6) (p7 : PR B g6 g7) : PQ gPart B (d + 1) ((g1 (B + 58) 288).toInt).toNat g7 := fun f7 => by
  have f6 := p7.2.2.1 f7
  have f5 := p6.2.2.1 f6
  have f4 := p5.2.2.1 f5
  have f3 := p4.2.2.1 f4
  obtain ⟨-, a1, a2, a3⟩ := t3 f3
  obtain ⟨b1, b2, b3⟩ := r4 f4
  obtain ⟨-, c1, c2, c3⟩ := t5 f5
  obtain ⟨d1, d2, d3⟩ := r6 f6
  obtain ⟨-, e1, e2, e3⟩ := t7 f7
  have z1 := h.1
  obtain ⟨I, hI⟩ : ∃ I, I = ((g1 (B + 58) 288).toInt).toNat := ⟨_, rfl⟩
  have i2 : ((g2 (B + 58) 288).toInt).toNat = I + 1 := by omega
  have i3 : ((g3 (B + 58) 288).toInt).toNat = I + 2 := by omega
  have i4 : ((g4 (B + 58) 288).toInt).toNat = I + 3 := by omega
  have i5 : ((g5 (B + 58) 288).toInt).toNat = I + 4 := by omega
  have i6 : ((g6 (B + 58) 288).toInt).toNat = I + 5 := by omega
  have i7 : ((g7 (B + 58) 288).toInt).toNat = I + 6 := by omega
  have hk2 : mK B g2 (34560 + I) = 2 := by simp only [mK]; rw [hI, h.2.1.1]; exact ha
  have y7 : pfx B (I + 5) g6 g7 := p7.px (by omega)
  have y6 : pfx B (I + 4) g5 g7 := (p6.px (by omega)).tr (p7.px (by omega))
  have y5 : pfx B (I + 3) g4 g7 := (p5.px (by omega)).tr ((p6.px (by omega)).tr (p7.px (by omega)))
  have y4 : pfx B (I + 2) g3 g7 := (p4.px (by omega)).tr ((p5.px (by omega)).tr ((p6.px (by omega)).tr (p7.px (by omega))))
  have y3 : pfx B (I + 1) g2 g7 := (p3.px (by omega)).tr ((p4.px (by omega)).tr ((p5.px (by omega)).tr ((p6.px (by omega)).tr (p7.px (by omega)))))
  rw [i2] at a2 a3
  rw [i3] at b2 b3
  rw [i4] at c2 c3
  rw [i5] at d2 d3
  rw [i6] at e2 e3
  have k0 := y3.k (k := 34560 + I) (by omega)
  have k1 := y4.k (k := 34560 + (I + 1)) (by omega)
  have k2 := y5.k (k := 34560 + (I + 2)) (by omega)
  have k3 := y6.k (k := 34560 + (I + 3)) (by omega)
  have k4 := y7.k (k := 34560 + (I + 4)) (by omega)
  have w0 : mK B g7 (34560 + I) = 2 := k0.1.trans hk2
  have w1 : mK B g7 (34560 + I + 1) = 1 := k1.1.trans a2
  have w1' : mA B g7 (34560 + I + 1) = 40 := k1.2.1.trans (a3.trans hx1)
  have w2 : mK B g7 (34560 + I + 2) = 3 := k2.1.trans b2
  have w3 : mK B g7 (34560 + I + 3) = 1 := k3.1.trans c2
  have w3' : mA B g7 (34560 + I + 3) = 58 := k3.2.1.trans (c3.trans hx2)
  have w4 : mK B g7 (34560 + I + 4) = 3 := k4.1.trans d2
  have w5 : mK B g7 (34560 + I + 5) = 1 := e2
  have w5' : mA B g7 (34560 + I + 5) = 41 := e3.trans hx3
  rw [i7, ← hI]
  refine ⟨Or.inr (Or.inl ⟨⟨w0, ⟨w1, w1'⟩, w2, ⟨w3, w3'⟩, w4, w5, w5'⟩, by omega⟩), fun k l1 l2 => ?_⟩
  rcases (show k = 34560 + I ∨ k = 34560 + I + 1 ∨ k = 34560 + I + 2 ∨ k = 34560 + I + 3 ∨ k = 34560 + I + 4 ∨ k = 34560 + I + 5 by omega) with rfl | rfl | rfl | rfl | rfl | rfl
  · exact fun q => by rw [w0] at q; cases q
  · exact fun q => by rw [w1] at q; cases q
  · exact y5.r (by omega) b3
  · exact fun q => by rw [w3] at q; cases q
  · exact y7.r (by omega) d3
  · exact fun q => by rw [w5] at q; cases q
/-- one deeper, and back -/
theorem PV.dp (h : PV B N ig) : PV B N (up2 ig (B + 49) 14 v) := by
  obtain ⟨h1, h2, h3, h4, h5⟩ := h
  refine ⟨h1.wr (by decide), ?_, ?_, ?_, h5⟩
  · rw [up2_j (by decide)]; exact h2
  · rw [up2_j (by decide)]; exact h3
  · rw [up2_c (by decide), up2_j (by decide)]; exact h4
theorem PR.dp (h : PR B (up2 g0 (B + 49) 14 a) g1) (hv : v.toInt = (g0 (B + 49) 14).toInt) : PR B g0 (up2 g1 (B + 49) 14 v) := by
  obtain ⟨h1, h2, h3, h4, h5⟩ := h
  rw [up2_j (by decide)] at h1
  rw [up2_c (by decide)] at h2
  rw [up2_j (by decide)] at h3
  refine ⟨?_, ?_, ?_, ?_, fun c k q1 q2 q3 => ?_⟩
  · rw [up2_j (by decide)]; exact h1
  · rw [up2_c (by decide)]; exact h2
  · rw [up2_j (by decide)]; exact h3
  · rw [up2_eq]; exact hv
  · rw [up2_c (by omega), h5 c k q1 q2 (by rw [up2_c (by decide)]; exact q3), up2_c (by omega)]
theorem PQ.dp (h : PQ gPart B d (((up2 g0 (B + 49) 14 a) (B + 58) 288).toInt).toNat g1) : PQ gPart B d ((g0 (B + 58) 288).toInt).toNat (up2 g1 (B + 49) 14 v) := fun q => by
  rw [up2_j (by decide)] at q
  have h9 := h q
  rw [up2_c (by decide)] at h9
  rw [up2_c (by decide)]
  exact h9.part (fun c k a b _ => up2_c (by omega))
theorem hmtb {τ : Tp} {lg : sG} (h : MT B N τ ig lg) (ha : 0 ≤ (ig (B + 49) 7).toInt ∧ (ig (B + 49) 7).toInt ≤ (N : Int)) : tK τ (ig (B + 49) 7).toInt.toNat = 110 → 0 ≤ tV τ (ig (B + 49) 7).toInt.toNat ∧ tV τ (ig (B + 49) 7).toInt.toNat ≤ 999999 := by
  have m := h.at ha
  unfold mtk at m
  omega
theorem sg_l2i {lg : sG} {xv : Int64} {z c : Int32} {k : Nat} (h : SG B ig lg c) (hk : k = (ig (B + 49) 7).toInt.toNat) (hx : xv = lg (B + 53) k) (hz : z = xv.toInt32) : SG B ig lg z ∧ z = c := by
  obtain ⟨h1, h2, h3⟩ := h
  have bc := i32_bd c
  have e : z = c := i32_inj (by rw [hz, hx, hk, Int64.toInt_toInt32, h3, Int.bmod_eq_of_le (by omega) (by omega)])
  rw [e]
  exact ⟨⟨h1, h2, h3⟩, rfl⟩
end ITEMS

def RX12_readPart (τ : Tp) (υ : Option Int) (l : Launch) (B : Nat) (D : va_G) (cA : Nat → ClassId) (d : Nat) : Prop := ∀ (kd : sK) (ig : sI) (rg : sR) (lg : sG) (sz : Nat) (N : Nat), PV B N ig → MT B N τ ig lg → ((ig (B + 49) 14).toInt = 8 - (d : Int) ∧ d ≤ 8) → IM [] none υ B kd ig rg → MC l B D cA yX12_readPart cX12_readPart 2 none (rL (3 * d + 3) 0 0) [.ref (B + 49)] kd ig rg lg sz (PM [] none υ B [49, 54, 55, 56, 57, 58] kd ig rg lg (fun r ig' lg' => (r = none ∧ (PV B N ig' ∧ PR B ig ig' ∧ PQ gPart B d (ig (B + 58) 288).toInt.toNat ig' ∧ FS (pPart (tK τ) (tV τ) (tS τ) d) (ig (B + 49) 8).toInt (ig (B + 49) 7).toInt (ig' (B + 49) 8).toInt (ig' (B + 49) 7).toInt ∧ TRk B τ ig ig'))))

def RX12_readProduct (τ : Tp) (υ : Option Int) (l : Launch) (B : Nat) (D : va_G) (cA : Nat → ClassId) (d : Nat) : Prop := ∀ (kd : sK) (ig : sI) (rg : sR) (lg : sG) (sz : Nat) (N : Nat), PV B N ig → MT B N τ ig lg → ((ig (B + 49) 14).toInt = 8 - (d : Int) ∧ d ≤ 8) → IM [] none υ B kd ig rg → MC l B D cA yX12_readProduct cX12_readProduct 1 none (rL (3 * d + 4) 0 0) [.ref (B + 49)] kd ig rg lg sz (PM [] none υ B [49, 54, 55, 56, 57, 58] kd ig rg lg (fun r ig' lg' => (r = none ∧ (PV B N ig' ∧ PR B ig ig' ∧ PQ gProd B d (ig (B + 58) 288).toInt.toNat ig' ∧ FS (pProd (tK τ) (tV τ) (tS τ) d) (ig (B + 49) 8).toInt (ig (B + 49) 7).toInt (ig' (B + 49) 8).toInt (ig' (B + 49) 7).toInt ∧ TRk B τ ig ig'))))

def RX12_readE (τ : Tp) (υ : Option Int) (l : Launch) (B : Nat) (D : va_G) (cA : Nat → ClassId) (d : Nat) : Prop := ∀ (kd : sK) (ig : sI) (rg : sR) (lg : sG) (sz : Nat) (N : Nat), PV B N ig → MT B N τ ig lg → ((ig (B + 49) 14).toInt = 8 - (d : Int) ∧ d ≤ 8) → IM [] none υ B kd ig rg → MC l B D cA yX12_readE cX12_readE 1 none (rL (3 * d + 5) 0 0) [.ref (B + 49)] kd ig rg lg sz (PM [] none υ B [49, 54, 55, 56, 57, 58] kd ig rg lg (fun r ig' lg' => (r = none ∧ (PV B N ig' ∧ PR B ig ig' ∧ PQ gE B d (ig (B + 58) 288).toInt.toNat ig' ∧ FS (pE (tK τ) (tV τ) (tS τ) d) (ig (B + 49) 8).toInt (ig (B + 49) 7).toInt (ig' (B + 49) 8).toInt (ig' (B + 49) 7).toInt ∧ TRk B τ ig ig'))))

set_option maxHeartbeats 4000000 in
set_option maxRecDepth 100000 in
theorem t_X12_readPart {υ : Option Int} {τ : Tp} (l : Launch) (B : Nat) (D : va_G) (cA : Nat → ClassId) (kd : sK) (ig : sI) (rg : sR) (lg : sG) (sz : Nat) (d : Nat) (hrec : ∀ d1, d = d1 + 1 → RX12_readPart τ υ l B D cA d1 ∧ RX12_readE τ υ l B D cA d1) (N : Nat) (hpv : PV B N ig) (hmt : MT B N τ ig lg) (hdp : (ig (B + 49) 14).toInt = 8 - (d : Int) ∧ d ≤ 8) (hI : IM [] none υ B kd ig rg) : MC l B D cA yX12_readPart cX12_readPart 2 none (rL (3 * d + 3) 0 0) [.ref (B + 49)] kd ig rg lg sz (PM [] none υ B [49, 54, 55, 56, 57, 58] kd ig rg lg (fun r ig' lg' => (r = none ∧ (PV B N ig' ∧ PR B ig ig' ∧ PQ gPart B d (ig (B + 58) 288).toInt.toNat ig' ∧ FS (pPart (tK τ) (tV τ) (tS τ) d) (ig (B + 49) 8).toInt (ig (B + 49) 7).toInt (ig' (B + 49) 8).toInt (ig' (B + 49) 7).toInt ∧ TRk B τ ig ig')))) := by
  refine MC.of (own := RX12) (by decide +kernel) rfl (Nat.le_of_ble_eq_true rfl) ?_
  intro p e s m args below meth c ls C hr hlk hnm hw hsz hl
  have hx := C.1.1
  have hb := C.1.2.1
  have hown := C.1.2.2.2.1
  have hts := C.1.2.2.2.2
  have hl : lv_has ls 2 [(0, .ref (B + 49))] := hl
  have hF : Ft B [49, 54, 55, 56, 57, 58] ig lg ig lg := Ft.rf
  have hsh := hI.sh
  have hrm := hI.rm
  have pv := hpv
  have mt := hmt
  obtain ⟨hps, hat, hfa, hit, hN⟩ := hpv
  have hat0 := hat
  have pr : PR B ig ig := PR.rf
  refine lv_aload_n hx hb dX12_readPart_0 rfl (lv_at hl 0 rfl) ?_
  refine r_callV (As := []) (rest := []) C hw (t_X12_isPart l B D cA kd ig rg lg _  (by omega) hI) sv_X12_171 (hsh 49 _ rfl) rfl hl.1 rfl (Nat.le_of_ble_eq_true rfl) ⟨by simp only [rL]; omega, by simp only [rL]; omega⟩ ⟨Nat.le_of_ble_eq_true rfl, Nat.le_of_ble_eq_true rfl⟩ dX12_readPart_1 (fun r5 kd1 ig2 rg3 lg4 H locs hw hH hp6 => ?_)
  obtain ⟨rfl, rfl, rfl, rfl, hzhp6, hrhp6⟩ := hp6
  obtain ⟨z7, rfl, hz7⟩ := hrhp6
  have J29 : ∀ (ls : Array Slot) (H : Heap) (locs : List Loc) (ig8 : sI) (lg9 : sG) , lv_has ls 2 [(0, .ref (B + 49))] → WD B D cA s.heap kd ig8 rg lg9 H locs → IM [] none υ B kd ig8 rg → Ft B [49, 54, 55, 56, 57, 58] ig lg ig8 lg9 → (PV B N ig8) → (PR B ig ig8) → ((ig8 (B + 49) 14).toInt = 8 - (d : Int)) → (0 < (ig8 (B + 49) 8).toInt ∨ (ig8 (B + 49) 14).toInt < 8) → (ig8 (B + 58) 288 = ig (B + 58) 288) → (MT B N τ ig8 lg9) → ((ig8 (B + 49) 8).toInt = 0 → ((ig (B + 49) 8).toInt = 0 ∧ (ig8 (B + 49) 7).toInt = (ig (B + 49) 7).toInt) ∧ sPt (tK τ) (tV τ) (ig (B + 49) 7).toInt.toNat) → ((ig8 (B + 49) 8).toInt ≠ 0 → FS (pPart (tK τ) (tV τ) (tS τ) d) (ig (B + 49) 8).toInt (ig (B + 49) 7).toInt (ig8 (B + 49) 8).toInt (ig8 (B + 49) 7).toInt) → (TRk B τ ig ig8) → W p l e (rL (3 * d + 3) 0 0) s m args below meth c H locs 0 0 (MQ below (QcW B D cA (PM [] none υ B [49, 54, 55, 56, 57, 58] kd ig rg lg (fun r ig' lg' => (r = none ∧ (PV B N ig' ∧ PR B ig ig' ∧ PQ gPart B d (ig (B + 58) 288).toInt.toNat ig' ∧ FS (pPart (tK τ) (tV τ) (tS τ) d) (ig (B + 49) 8).toInt (ig (B + 49) 7).toInt (ig' (B + 49) 8).toInt (ig' (B + 49) 7).toInt ∧ TRk B τ ig ig'))))) args s 0 0 (fun q => B ≤ q)) (F0 m 29 ls []) := by
    intro ls H locs ig8 lg9 hl hw hI hF g29_0 g29_1 g29_2 g29_3 g29_4 g29_5 g29_6 g29_7 g29_8
    have pv := g29_0
    have pr := g29_1
    have ie := g29_4
    have mt := g29_5
    have tr29 := g29_8
    have pvn := pv
    obtain ⟨hps, hat, hfa, hit, hN⟩ := pvn
    refine lv_aload_n hx hb dX12_readPart_29 rfl (lv_at hl 0 rfl) ?_
    refine r_get C hw (hsh 49 _ rfl) fl_X12_52 (oV_i rfl) dX12_readPart_30 (ti_c (ig8 (B + 49) 8).toInt rfl fun z10 hz10 => ?_)
    refine z_le (tgt := 37) hx hb dX12_readPart_33 (by decide) (fun c33 => ?_) (fun c33 => ?_)
    · obtain ⟨d1, hd1⟩ : ∃ d1, d = d1 + 1 := ⟨d - 1, by omega⟩
      obtain ⟨hP, hE⟩ := hrec d1 hd1
      have pr29 := pr
      have ie29 := ie
      obtain ⟨⟨f00, a00⟩, hsp⟩ := g29_6 (by omega)
      refine lv_aload_n hx hb dX12_readPart_37 rfl (lv_at hl 0 rfl) ?_
      refine lv_dup hx hb dX12_readPart_38 rfl ?_
      refine r_get C hw (hsh 49 _ rfl) fl_X12_174 (oV_i rfl) dX12_readPart_39 (ti_c (ig8 (B + 49) 14).toInt rfl fun z11 hz11 => ?_)
      refine lv_iconst (v := 1) hx hb dX12_readPart_42 (by decide) (ti_c 1 (by decide) fun z12 hz12 => ?_)
      refine lv_iadd hx hb dX12_readPart_43 (tc_add fun z13 hz13 => ?_)
      first | replace hz13 := hz13 (by omega) | clear hz13
      refine r_puti C hw (hsh 49 _ rfl) fl_X12_174 rfl rfl rfl dX12_readPart_44 (fun H locs hH hw => ?_)
      obtain ⟨ig14, eig14⟩ : ∃ f, f = up2 ig8 (B + 49) 14 z13 := ⟨_, rfl⟩
      rw [← eig14] at hw
      have hF : Ft B [49, 54, 55, 56, 57, 58] ig lg ig14 lg9 := by rw [eig14]; exact hF.pi (by decide)
      have hI : IM [] none υ B kd ig14 rg := by rw [eig14]; exact hI.pi (by decide) (show okR none _ from trivial)
      have wig14_49_7 : (ig14 (B + 49) 7).toInt = (ig8 (B + 49) 7).toInt := by rw [eig14, up2_j (by decide)]
      have wig14_49_8 : (ig14 (B + 49) 8).toInt = (ig8 (B + 49) 8).toInt := by rw [eig14, up2_j (by decide)]
      have wig14 : (ig14 (B + 49) 14).toInt = z13.toInt := by rw [eig14, up2_eq]
      have pv : PV B N ig14 := by rw [eig14]; exact pv.dp
      have pr : PR B ig14 ig14 := PR.rf
      have trk : TRk B τ ig14 ig14 := TRk.rf
      have dpD : (ig14 (B + 49) 14).toInt = 8 - (d1 : Int) := by rw [eig14, up2_eq]; omega
      have itD : 0 ≤ (ig14 (B + 58) 288).toInt := pv.2.2.2.1.1
      have mt : MT B N τ ig14 lg9 := by rw [eig14]; exact mt.wr (by decide)
      have fD : (ig14 (B + 49) 8).toInt = 0 := by omega
      have aD : (ig14 (B + 49) 7).toInt = (ig (B + 49) 7).toInt := by omega
      have hspD : sPt (tK τ) (tV τ) (ig14 (B + 49) 7).toInt.toNat := by rw [aD]; exact hsp
      have pvn := pv
      obtain ⟨hps, hat, hfa, hit, hN⟩ := pvn
      refine lv_aload_n hx hb dX12_readPart_47 rfl (lv_at hl 0 rfl) ?_
      refine r_get C hw (hsh 49 _ rfl) fl_X12_32 (oV_r rfl (hrm (49, 4, 51) (by decide))) dX12_readPart_48 ?_
      refine lv_aload_n hx hb dX12_readPart_51 rfl (lv_at hl 0 rfl) ?_
      refine r_get C hw (hsh 49 _ rfl) fl_X12_49 (oV_i rfl) dX12_readPart_52 (ti_c (ig14 (B + 49) 7).toInt rfl fun z15 hz15 => ?_)
      have ezz15 : nEq z15.toInt.toNat (ig14 (B + 49) 7).toInt.toNat := by show _ = _; omega
      refine r_iald C hw (hsh 51 _ rfl) (by omega) (by omega) dX12_readPart_55 (ti_c (ig14 (B + 51) z15.toInt.toNat).toInt rfl fun z16 hz16 => ?_)
      rw [nEq.e ezz15] at hz16
      refine lv_iconst (v := 2) hx hb dX12_readPart_56 (by decide) (ti_c 2 (by decide) fun z18 hz18 => ?_)
      have J213 : ∀ (ls : Array Slot) (H : Heap) (locs : List Loc) (ig19 : sI) (lg20 : sG) , lv_has ls 2 [(0, .ref (B + 49))] → WD B D cA s.heap kd ig19 rg lg20 H locs → IM [] none υ B kd ig19 rg → Ft B [49, 54, 55, 56, 57, 58] ig lg ig19 lg20 → (PV B N ig19) → (PR B ig14 ig19) → (PQ gPart B (d1 + 1) (ig14 (B + 58) 288).toInt.toNat ig19) → ((ig19 (B + 49) 14).toInt = (ig14 (B + 49) 14).toInt) → (FS (pPart (tK τ) (tV τ) (tS τ) (d1 + 1)) (ig14 (B + 49) 8).toInt (ig14 (B + 49) 7).toInt (ig19 (B + 49) 8).toInt (ig19 (B + 49) 7).toInt) → (TRk B τ ig14 ig19) → W p l e (rL (3 * d + 3) 0 0) s m args below meth c H locs 0 0 (MQ below (QcW B D cA (PM [] none υ B [49, 54, 55, 56, 57, 58] kd ig rg lg (fun r ig' lg' => (r = none ∧ (PV B N ig' ∧ PR B ig ig' ∧ PQ gPart B d (ig (B + 58) 288).toInt.toNat ig' ∧ FS (pPart (tK τ) (tV τ) (tS τ) d) (ig (B + 49) 8).toInt (ig (B + 49) 7).toInt (ig' (B + 49) 8).toInt (ig' (B + 49) 7).toInt ∧ TRk B τ ig ig'))))) args s 0 0 (fun q => B ≤ q)) (F0 m 213 ls []) := by
        intro ls H locs ig19 lg20 hl hw hI hF g213_0 g213_1 g213_2 g213_3 g213_4 g213_5
        have pv := g213_0
        have pr := g213_1
        have pq := g213_2
        have fsP := g213_4
        have trk := g213_5
        refine lv_aload_n hx hb dX12_readPart_213 rfl (lv_at hl 0 rfl) ?_
        refine lv_dup hx hb dX12_readPart_214 rfl ?_
        refine r_get C hw (hsh 49 _ rfl) fl_X12_174 (oV_i rfl) dX12_readPart_215 (ti_c (ig19 (B + 49) 14).toInt rfl fun z21 hz21 => ?_)
        refine lv_iconst (v := 1) hx hb dX12_readPart_218 (by decide) (ti_c 1 (by decide) fun z22 hz22 => ?_)
        refine lv_isub hx hb dX12_readPart_219 (tc_sub fun z23 hz23 => ?_)
        first | replace hz23 := hz23 (by omega) | clear hz23
        refine r_puti C hw (hsh 49 _ rfl) fl_X12_174 rfl rfl rfl dX12_readPart_220 (fun H locs hH hw => ?_)
        obtain ⟨ig24, eig24⟩ : ∃ f, f = up2 ig19 (B + 49) 14 z23 := ⟨_, rfl⟩
        rw [← eig24] at hw
        have hF : Ft B [49, 54, 55, 56, 57, 58] ig lg ig24 lg20 := by rw [eig24]; exact hF.pi (by decide)
        have hI : IM [] none υ B kd ig24 rg := by rw [eig24]; exact hI.pi (by decide) (show okR none _ from trivial)
        have wig24_49_7 : (ig24 (B + 49) 7).toInt = (ig19 (B + 49) 7).toInt := by rw [eig24, up2_j (by decide)]
        have wig24_49_8 : (ig24 (B + 49) 8).toInt = (ig19 (B + 49) 8).toInt := by rw [eig24, up2_j (by decide)]
        have wig24 : (ig24 (B + 49) 14).toInt = z23.toInt := by rw [eig24, up2_eq]
        have prF : PR B ig8 ig24 := by rw [eig24]; exact PR.dp (by rw [← eig14]; exact pr) (by omega)
        have pqF : PQ gPart B (d1 + 1) (ig8 (B + 58) 288).toInt.toNat ig24 := by rw [eig24]; exact PQ.dp (by rw [← eig14]; exact pq)
        rw [ie29, ← hd1] at pqF
        have fsF : FS (pPart (tK τ) (tV τ) (tS τ) d) (ig (B + 49) 8).toInt (ig (B + 49) 7).toInt (ig24 (B + 49) 8).toInt (ig24 (B + 49) 7).toInt := by
          have w := fsP
          rw [show (ig14 (B + 49) 8).toInt = (ig (B + 49) 8).toInt by omega, aD, ← hd1] at w
          rw [eig24, up2_j (by decide), up2_j (by decide)]
          exact w
        have fin : (PV B N ig24 ∧ PR B ig ig24 ∧ PQ gPart B d (ig (B + 58) 288).toInt.toNat ig24 ∧ FS (pPart (tK τ) (tV τ) (tS τ) d) (ig (B + 49) 8).toInt (ig (B + 49) 7).toInt (ig24 (B + 49) 8).toInt (ig24 (B + 49) 7).toInt ∧ TRk B τ ig ig24) := ⟨by rw [eig24]; exact pv.dp, pr29.tr prF, pqF, fsF, (tr29.tr (by rw [eig14]; exact TRk.dp)).tr (trk.tr (by rw [eig24]; exact TRk.dp))⟩
        exact r_vret C hw hr hlk (Nat.le_of_ble_eq_true rfl) (Nat.le_of_ble_eq_true rfl) dX12_readPart_223 ⟨rfl, rfl, hI, hF, ⟨rfl, fin⟩⟩
      refine b_ne (tgt := 90) hx hb dX12_readPart_57 (by decide) (fun c57 => ?_) (fun c57 => ?_)
      · have hn2 : ¬ tK τ (ig14 (B + 49) 7).toInt.toNat = 110 := fun e9 => absurd ((mt_num mt hat).mpr e9) (by omega)
        refine lv_aload_n hx hb dX12_readPart_90 rfl (lv_at hl 0 rfl) ?_
        refine r_callV (As := []) (rest := []) C hw (t_X12_isSum l B D cA kd ig14 rg lg9 _  (by omega) hI) sv_X12_168 (hsh 49 _ rfl) rfl hl.1 rfl (Nat.le_of_ble_eq_true rfl) ⟨by simp only [rL]; omega, by simp only [rL]; omega⟩ ⟨Nat.le_of_ble_eq_true rfl, Nat.le_of_ble_eq_true rfl⟩ dX12_readPart_91 (fun r29 kd25 ig26 rg27 lg28 H locs hw hH hp30 => ?_)
        obtain ⟨rfl, rfl, rfl, rfl, hzhp30, hrhp30⟩ := hp30
        obtain ⟨z31, rfl, hz31⟩ := hrhp30
        refine z_eq (tgt := 158) hx hb dX12_readPart_94 (by decide) (fun c94 => ?_) (fun c94 => ?_)
        · have hnsu : ¬ (tK τ (ig14 (B + 49) 7).toInt.toNat = 119 ∧ tV τ (ig14 (B + 49) 7).toInt.toNat = 26) := fun e9 => absurd ((mt_sum mt hat).mpr e9) (by omega)
          refine lv_aload_n hx hb dX12_readPart_158 rfl (lv_at hl 0 rfl) ?_
          refine lv_bipush (v := 40) hx hb dX12_readPart_159 (by decide) (ti_c 40 (by decide) fun z32 hz32 => ?_)
          refine r_callV (As := [.int z32]) (rest := []) C hw (t_X12_isSign l B D cA kd ig14 rg lg9 _ z32 (by omega) hI) sv_X12_55 (hsh 49 _ rfl) rfl hl.1 rfl (Nat.le_of_ble_eq_true rfl) ⟨by simp only [rL]; omega, by simp only [rL]; omega⟩ ⟨Nat.le_of_ble_eq_true rfl, Nat.le_of_ble_eq_true rfl⟩ dX12_readPart_161 (fun r37 kd33 ig34 rg35 lg36 H locs hw hH hp38 => ?_)
          obtain ⟨rfl, rfl, rfl, rfl, hzhp38, hrhp38⟩ := hp38
          obtain ⟨z39, rfl, hz39⟩ := hrhp38
          refine z_eq (tgt := 186) hx hb dX12_readPart_164 (by decide) (fun c164 => ?_) (fun c164 => ?_)
          · have n40 := SG.kn mt hat (by unfold sgn; omega) fD (or_f hz39 (by omega))
            refine lv_aload_n hx hb dX12_readPart_186 rfl (lv_at hl 0 rfl) ?_
            refine lv_bipush (v := 45) hx hb dX12_readPart_187 (by decide) (ti_c 45 (by decide) fun z40 hz40 => ?_)
            refine r_callV (As := [.int z40]) (rest := []) C hw (t_X12_isSign l B D cA kd ig14 rg lg9 _ z40 (by omega) hI) sv_X12_55 (hsh 49 _ rfl) rfl hl.1 rfl (Nat.le_of_ble_eq_true rfl) ⟨by simp only [rL]; omega, by simp only [rL]; omega⟩ ⟨Nat.le_of_ble_eq_true rfl, Nat.le_of_ble_eq_true rfl⟩ dX12_readPart_189 (fun r45 kd41 ig42 rg43 lg44 H locs hw hH hp46 => ?_)
            obtain ⟨rfl, rfl, rfl, rfl, hzhp46, hrhp46⟩ := hp46
            obtain ⟨z47, rfl, hz47⟩ := hrhp46
            refine z_eq (tgt := 208) hx hb dX12_readPart_192 (by decide) (fun c192 => ?_) (fun c192 => ?_)
            · have n45 := SG.kn mt hat (by unfold sgn; omega) fD (or_f hz47 (by omega))
              simp only [sPt, oCol, sg] at hspD
              refine lv_aload_n hx hb dX12_readPart_208 rfl (lv_at hl 0 rfl) ?_
              refine lv_iconst (v := (-1)) hx hb dX12_readPart_209 (by decide) (ti_c (-1) (by decide) fun z48 hz48 => ?_)
              refine r_callV (As := [.int z48]) (rest := []) C hw (t_X12_readRef l B D cA kd ig14 rg lg9 _ z48 N pv mt (by omega) 0 0 (Or.inl ⟨by omega, rfl, rfl⟩) hI) sv_X12_177 (hsh 49 _ rfl) rfl hl.1 rfl (Nat.le_of_ble_eq_true rfl) ⟨by simp only [rL]; omega, by simp only [rL]; omega⟩ ⟨Nat.le_of_ble_eq_true rfl, Nat.le_of_ble_eq_true rfl⟩ dX12_readPart_210 (fun r53 kd49 ig50 rg51 lg52 H locs hw hH hp54 => ?_)
              obtain ⟨rfl, rfl, hI, hchp54, hrhp54⟩ := hp54
              have hF : Ft B [49, 54, 55, 56, 57, 58] ig lg ig50 lg52 := Ft.tr hF hchp54 (by decide) (by decide)
              obtain ⟨rfl, hvhp54⟩ := hrhp54
              obtain ⟨pv, p1, q1, ⟨cc1, rr1, fr1, ab1⟩, tk1⟩ := hvhp54
              have pr := pr.tr p1
              have dpe1 := p1.2.2.2.1
              have mt := MT.ft mt hchp54 (by decide)
              have trk := trk.tr tk1
              have pvn := pv
              obtain ⟨hps, hat, hfa, hit, hN⟩ := pvn
              have pq : PQ gPart B (d1 + 1) (ig14 (B + 58) 288).toInt.toNat ig50 := RS.ref q1 itD
              have fsP : FS (pPart (tK τ) (tV τ) (tS τ) (d1 + 1)) (ig14 (B + 49) 8).toInt (ig14 (B + 49) 7).toInt (ig50 (B + 49) 8).toInt (ig50 (B + 49) 7).toInt := FS.ref ⟨fD, by omega⟩ fr1
              exact J213 ls H locs ig50 lg52 (lv_sub hl [0] rfl) hw hI hF (pv) (pr) (pq) (pr.2.2.2.1) (fsP) (trk)
            · have sg4 := or_t hz47 (by omega)
              have k45 := SG.k mt hat sg4
              refine lv_aload_n hx hb dX12_readPart_195 rfl (lv_at hl 0 rfl) ?_
              refine lv_bipush (v := 45) hx hb dX12_readPart_196 (by decide) (ti_c 45 (by decide) fun z55 hz55 => ?_)
              have hc45 : z55.toInt = 45 := hz55
              refine r_callV (As := [.int z55]) (rest := []) C hw (t_X12_takeSign l B D cA kd ig14 rg lg9 _ z55 N pv mt (by unfold sgn; omega) (by omega) hI) sv_X12_158 (hsh 49 _ rfl) rfl hl.1 rfl (Nat.le_of_ble_eq_true rfl) ⟨by simp only [rL]; omega, by simp only [rL]; omega⟩ ⟨Nat.le_of_ble_eq_true rfl, Nat.le_of_ble_eq_true rfl⟩ dX12_readPart_198 (fun r60 kd56 ig57 rg58 lg59 H locs hw hH hp61 => ?_)
              obtain ⟨rfl, rfl, hI, hchp61, hrhp61⟩ := hp61
              have hF : Ft B [49, 54, 55, 56, 57, 58] ig lg ig57 lg59 := Ft.tr hF hchp61 (by decide) (by decide)
              obtain ⟨rfl, hvhp61⟩ := hrhp61
              obtain ⟨pv, p1, q1, s1, fs1, tk1⟩ := hvhp61
              have pr := pr.tr p1
              have dpe1 := p1.2.2.2.1
              have mt := MT.ft mt hchp61 (by decide)
              have trk := trk.tr tk1
              have pvn := pv
              obtain ⟨hps, hat, hfa, hit, hN⟩ := pvn
              refine lv_aload_n hx hb dX12_readPart_201 rfl (lv_at hl 0 rfl) ?_
              refine r_callV (As := []) (rest := []) C hw (hP kd ig57 rg lg59 _  N pv mt (by omega) hI) sv_X12_161 (hsh 49 _ rfl) rfl hl.1 rfl (Nat.le_of_ble_eq_true rfl) ⟨by simp only [rL]; omega, by simp only [rL]; omega⟩ ⟨Nat.le_of_ble_eq_true rfl, Nat.le_of_ble_eq_true rfl⟩ dX12_readPart_202 (fun r66 kd62 ig63 rg64 lg65 H locs hw hH hp67 => ?_)
              obtain ⟨rfl, rfl, hI, hchp67, hrhp67⟩ := hp67
              have hF : Ft B [49, 54, 55, 56, 57, 58] ig lg ig63 lg65 := Ft.tr hF hchp67 (by decide) (by decide)
              obtain ⟨rfl, hvhp67⟩ := hrhp67
              obtain ⟨pv, p2, q2, fs2, tk2⟩ := hvhp67
              have pr := pr.tr p2
              have dpe2 := p2.2.2.2.1
              have mt := MT.ft mt hchp67 (by decide)
              have trk := trk.tr tk2
              have pvn := pv
              obtain ⟨hps, hat, hfa, hit, hN⟩ := pvn
              have pq : PQ gPart B (d1 + 1) (ig14 (B + 58) 288).toInt.toNat ig63 := PQ.neg q1 (by omega) itD p2 q2
              have fsP : FS (pPart (tK τ) (tV τ) (tS τ) (d1 + 1)) (ig14 (B + 49) 8).toInt (ig14 (B + 49) 7).toInt (ig63 (B + 49) 8).toInt (ig63 (B + 49) 7).toInt := FS.neg ⟨fD, k45.trans (by omega)⟩ ⟨s1 (SG.eq sg4 (by omega)), (q1 (s1 (SG.eq sg4 (by omega)))).1⟩ (by omega) fs2
              refine lv_goto (tgt := 213) hx hb dX12_readPart_205 (by decide) ?_
              exact J213 ls H locs ig63 lg65 (lv_sub hl [0] rfl) hw hI hF (pv) (pr) (pq) (pr.2.2.2.1) (fsP) (trk)
          · have sg4 := or_t hz39 (by omega)
            have k40 := SG.k mt hat sg4
            refine lv_aload_n hx hb dX12_readPart_167 rfl (lv_at hl 0 rfl) ?_
            refine lv_bipush (v := 40) hx hb dX12_readPart_168 (by decide) (ti_c 40 (by decide) fun z68 hz68 => ?_)
            have hc40 : z68.toInt = 40 := hz68
            refine r_callV (As := [.int z68]) (rest := []) C hw (t_X12_takeSign l B D cA kd ig14 rg lg9 _ z68 N pv mt (by unfold sgn; omega) (by omega) hI) sv_X12_158 (hsh 49 _ rfl) rfl hl.1 rfl (Nat.le_of_ble_eq_true rfl) ⟨by simp only [rL]; omega, by simp only [rL]; omega⟩ ⟨Nat.le_of_ble_eq_true rfl, Nat.le_of_ble_eq_true rfl⟩ dX12_readPart_170 (fun r73 kd69 ig70 rg71 lg72 H locs hw hH hp74 => ?_)
            obtain ⟨rfl, rfl, hI, hchp74, hrhp74⟩ := hp74
            have hF : Ft B [49, 54, 55, 56, 57, 58] ig lg ig70 lg72 := Ft.tr hF hchp74 (by decide) (by decide)
            obtain ⟨rfl, hvhp74⟩ := hrhp74
            obtain ⟨pv, p1, q1, s1, fs1, tk1⟩ := hvhp74
            have pr := pr.tr p1
            have dpe1 := p1.2.2.2.1
            have mt := MT.ft mt hchp74 (by decide)
            have trk := trk.tr tk1
            have pvn := pv
            obtain ⟨hps, hat, hfa, hit, hN⟩ := pvn
            refine lv_aload_n hx hb dX12_readPart_173 rfl (lv_at hl 0 rfl) ?_
            refine r_callV (As := []) (rest := []) C hw (hE kd ig70 rg lg72 _  N pv mt (by omega) hI) sv_X12_180 (hsh 49 _ rfl) rfl hl.1 rfl (Nat.le_of_ble_eq_true rfl) ⟨by simp only [rL]; omega, by simp only [rL]; omega⟩ ⟨Nat.le_of_ble_eq_true rfl, Nat.le_of_ble_eq_true rfl⟩ dX12_readPart_174 (fun r79 kd75 ig76 rg77 lg78 H locs hw hH hp80 => ?_)
            obtain ⟨rfl, rfl, hI, hchp80, hrhp80⟩ := hp80
            have hF : Ft B [49, 54, 55, 56, 57, 58] ig lg ig76 lg78 := Ft.tr hF hchp80 (by decide) (by decide)
            obtain ⟨rfl, hvhp80⟩ := hrhp80
            obtain ⟨pv, p2, q2, fs2, tk2⟩ := hvhp80
            have pr := pr.tr p2
            have dpe2 := p2.2.2.2.1
            have mt := MT.ft mt hchp80 (by decide)
            have trk := trk.tr tk2
            have pvn := pv
            obtain ⟨hps, hat, hfa, hit, hN⟩ := pvn
            refine lv_aload_n hx hb dX12_readPart_177 rfl (lv_at hl 0 rfl) ?_
            refine lv_bipush (v := 41) hx hb dX12_readPart_178 (by decide) (ti_c 41 (by decide) fun z81 hz81 => ?_)
            have hc41 : z81.toInt = 41 := hz81
            refine r_callV (As := [.int z81]) (rest := []) C hw (t_X12_takeSign l B D cA kd ig76 rg lg78 _ z81 N pv mt (by unfold sgn; omega) (by omega) hI) sv_X12_158 (hsh 49 _ rfl) rfl hl.1 rfl (Nat.le_of_ble_eq_true rfl) ⟨by simp only [rL]; omega, by simp only [rL]; omega⟩ ⟨Nat.le_of_ble_eq_true rfl, Nat.le_of_ble_eq_true rfl⟩ dX12_readPart_180 (fun r86 kd82 ig83 rg84 lg85 H locs hw hH hp87 => ?_)
            obtain ⟨rfl, rfl, hI, hchp87, hrhp87⟩ := hp87
            have hF : Ft B [49, 54, 55, 56, 57, 58] ig lg ig83 lg85 := Ft.tr hF hchp87 (by decide) (by decide)
            obtain ⟨rfl, hvhp87⟩ := hrhp87
            obtain ⟨pv, p3, q3, s3, fs3, tk3⟩ := hvhp87
            have pr := pr.tr p3
            have dpe3 := p3.2.2.2.1
            have mt := MT.ft mt hchp87 (by decide)
            have trk := trk.tr tk3
            have pvn := pv
            obtain ⟨hps, hat, hfa, hit, hN⟩ := pvn
            have pq : PQ gPart B (d1 + 1) (ig14 (B + 58) 288).toInt.toNat ig83 := PQ.par q1 (by omega) itD p2 q2 p3 q3 (by omega)
            have fsP : FS (pPart (tK τ) (tV τ) (tS τ) (d1 + 1)) (ig14 (B + 49) 8).toInt (ig14 (B + 49) 7).toInt (ig83 (B + 49) 8).toInt (ig83 (B + 49) 7).toInt := FS.par ⟨fD, k40.trans (by omega)⟩ ⟨s1 (by have w := sg4; exact SG.eq w (by omega)), (q1 (s1 (SG.eq sg4 (by omega)))).1⟩ (by omega) fs2 (by have w := fs3; rw [hc41] at w; exact w)
            refine lv_goto (tgt := 213) hx hb dX12_readPart_183 (by decide) ?_
            exact J213 ls H locs ig83 lg85 (lv_sub hl [0] rfl) hw hI hF (pv) (pr) (pq) (pr.2.2.2.1) (fsP) (trk)
        · have cl := PV.lt pv (k := (ig14 (B + 49) 7).toInt.toNat) (by omega) (q := 1) (by omega) (by decide)
          have hsu := (mt_sum mt hat).mp (by omega)
          refine lv_aload_n hx hb dX12_readPart_97 rfl (lv_at hl 0 rfl) ?_
          refine lv_dup hx hb dX12_readPart_98 rfl ?_
          refine r_get C hw (hsh 49 _ rfl) fl_X12_49 (oV_i rfl) dX12_readPart_99 (ti_c (ig14 (B + 49) 7).toInt rfl fun z88 hz88 => ?_)
          refine lv_iconst (v := 1) hx hb dX12_readPart_102 (by decide) (ti_c 1 (by decide) fun z89 hz89 => ?_)
          refine lv_iadd hx hb dX12_readPart_103 (tc_add fun z90 hz90 => ?_)
          first | replace hz90 := hz90 (by omega) | clear hz90
          refine r_puti C hw (hsh 49 _ rfl) fl_X12_49 rfl rfl rfl dX12_readPart_104 (fun H locs hH hw => ?_)
          obtain ⟨ig91, eig91⟩ : ∃ f, f = up2 ig14 (B + 49) 7 z90 := ⟨_, rfl⟩
          rw [← eig91] at hw
          have hF : Ft B [49, 54, 55, 56, 57, 58] ig lg ig91 lg9 := by rw [eig91]; exact hF.pi (by decide)
          have hI : IM [] none υ B kd ig91 rg := by rw [eig91]; exact hI.pi (by decide) (show okR none _ from trivial)
          have wig91 : (ig91 (B + 49) 7).toInt = z90.toInt := by rw [eig91, up2_eq]
          have wig91_49_8 : (ig91 (B + 49) 8).toInt = (ig14 (B + 49) 8).toInt := by rw [eig91, up2_j (by decide)]
          have wig91_49_14 : (ig91 (B + 49) 14).toInt = (ig14 (B + 49) 14).toInt := by rw [eig91, up2_j (by decide)]
          obtain ⟨pv, p0⟩ : PV B N ig91 ∧ PR B ig14 ig91 := by rw [eig91]; exact pv.at (by omega)
          have pr := p0
          have e58 : ig91 (B + 58) 288 = ig14 (B + 58) 288 := by rw [eig91, up2_c (by decide)]
          have e58t := congrArg Int32.toInt e58
          have dpe0 := p0.2.2.2.1
          have mt : MT B N τ ig91 lg9 := by rw [eig91]; exact mt.wr (by decide)
          have a104 : (ig91 (B + 49) 7).toInt = (ig14 (B + 49) 7).toInt + 1 ∧ (ig91 (B + 49) 8).toInt = 0 := ⟨by rw [eig91, up2_eq]; omega, by rw [eig91, up2_j (by decide)]; omega⟩
          have pvn := pv
          obtain ⟨hps, hat, hfa, hit, hN⟩ := pvn
          refine lv_aload_n hx hb dX12_readPart_107 rfl (lv_at hl 0 rfl) ?_
          refine lv_iconst (v := 2) hx hb dX12_readPart_108 (by decide) (ti_c 2 (by decide) fun z92 hz92 => ?_)
          refine lv_iconst (v := 0) hx hb dX12_readPart_109 (by decide) (ti_c 0 (by decide) fun z93 hz93 => ?_)
          refine lv_iconst (v := 0) hx hb dX12_readPart_110 (by decide) (ti_c 0 (by decide) fun z94 hz94 => ?_)
          refine lv_iconst (v := 0) hx hb dX12_readPart_111 (by decide) (ti_c 0 (by decide) fun z95 hz95 => ?_)
          refine r_callV (As := [.int z92, .int z93, .int z94, .int z95]) (rest := []) C hw (t_X12_add l B D cA kd ig91 rg lg9 _ z92 z93 z94 z95 (by omega) hI) sv_X12_143 (hsh 49 _ rfl) rfl hl.1 rfl (Nat.le_of_ble_eq_true rfl) ⟨by simp only [rL]; omega, by simp only [rL]; omega⟩ ⟨Nat.le_of_ble_eq_true rfl, Nat.le_of_ble_eq_true rfl⟩ dX12_readPart_112 (fun r100 kd96 ig97 rg98 lg99 H locs hw hH hp101 => ?_)
          obtain ⟨rfl, rfl, hI, hchp101, hrhp101⟩ := hp101
          have hF : Ft B [49, 54, 55, 56, 57, 58] ig lg ig97 lg99 := Ft.tr hF hchp101 (by decide) (by decide)
          obtain ⟨rfl, hvhp101⟩ := hrhp101
          have trk : TRk B τ ig14 ig97 := TRk.add (x := z92) (y := z93) (u := z94) (w := z95) hvhp101.1 hvhp101.2 (by omega) (fun c k a b => hchp101.i c k (fun q hq e => by have := hq; simp at this; omega)) (fun k => by rw [eig91, up2_c (by decide)]) (fun c k a b => by rw [eig91, up2_c (by omega)]) (fun _ => ⟨fun q => absurd q (by omega), fun _ => by omega, fun _ => by omega⟩) (fun q => ⟨fD, fun h => Or.inr (Or.inr (Or.inl ⟨by rw [if_neg (by omega), if_pos (by omega)], hsu, by rw [congrArg Int32.toInt (hchp101.i 49 7 (by decide))]; omega⟩))⟩)
          have p1 := ADD.pr hvhp101.1 hchp101 (by omega) (by decide)
          have pv := ADD.pv hvhp101.1 pv hchp101 (by omega) (by decide) (by decide) (by decide)
          have pr := pr.tr p1
          have a7 := congrArg Int32.toInt (hchp101.i 49 7 (by decide))
          have a8 := congrArg Int32.toInt (hchp101.i 49 8 (by decide))
          have mt := MT.ft mt hchp101 (by decide)
          have pvn := pv
          obtain ⟨hps, hat, hfa, hit, hN⟩ := pvn
          refine lv_aload_n hx hb dX12_readPart_115 rfl (lv_at hl 0 rfl) ?_
          refine lv_bipush (v := 40) hx hb dX12_readPart_116 (by decide) (ti_c 40 (by decide) fun z102 hz102 => ?_)
          have hc40 : z102.toInt = 40 := hz102
          refine r_callV (As := [.int z102]) (rest := []) C hw (t_X12_takeSign l B D cA kd ig97 rg lg99 _ z102 N pv mt (by unfold sgn; omega) (by omega) hI) sv_X12_158 (hsh 49 _ rfl) rfl hl.1 rfl (Nat.le_of_ble_eq_true rfl) ⟨by simp only [rL]; omega, by simp only [rL]; omega⟩ ⟨Nat.le_of_ble_eq_true rfl, Nat.le_of_ble_eq_true rfl⟩ dX12_readPart_118 (fun r107 kd103 ig104 rg105 lg106 H locs hw hH hp108 => ?_)
          obtain ⟨rfl, rfl, hI, hchp108, hrhp108⟩ := hp108
          have hF : Ft B [49, 54, 55, 56, 57, 58] ig lg ig104 lg106 := Ft.tr hF hchp108 (by decide) (by decide)
          obtain ⟨rfl, hvhp108⟩ := hrhp108
          obtain ⟨pv, p2, q2, s2, fs2, tk2⟩ := hvhp108
          have pr := pr.tr p2
          have dpe2 := p2.2.2.2.1
          have mt := MT.ft mt hchp108 (by decide)
          have trk := trk.tr tk2
          have pvn := pv
          obtain ⟨hps, hat, hfa, hit, hN⟩ := pvn
          refine lv_ldc (v := 34560) hx hb hown (hts _ kc_X12_142) dX12_readPart_121 (ti_c 34560 (by decide) fun z109 hz109 => ?_)
          refine lv_aload_n hx hb dX12_readPart_123 rfl (lv_at hl 0 rfl) ?_
          refine r_get C hw (hsh 49 _ rfl) fl_X12_77 (oV_r rfl (hrm (49, 13, 58) (by decide))) dX12_readPart_124 ?_
          refine lv_sipush (v := 288) hx hb dX12_readPart_127 (by decide) (ti_c 288 (by decide) fun z110 hz110 => ?_)
          refine r_iald C hw (hsh 58 _ rfl) (by omega) (by omega) dX12_readPart_130 (ti_c (ig104 (B + 58) z110.toInt.toNat).toInt rfl fun z111 hz111 => ?_)
          have k112 := hI.its (j := (z110.toInt.toNat)) (by omega)
          have ks := hI.its (j := 288) (by decide)
          rw [show z110.toInt.toNat = 288 by omega] at hz111
          have z58b := hz111
          refine lv_iadd hx hb dX12_readPart_131 (tc_add fun z113 hz113 => ?_)
          first | replace hz113 := hz113 (by omega) | clear hz113
          refine lv_istore_n (lv' := [(1, .int z113), (0, .ref (B + 49))]) hx hb dX12_readPart_132 rfl hl (by decide) rfl (fun ls hl => ?_)
          refine lv_aload_n hx hb dX12_readPart_133 rfl (lv_at hl 1 rfl) ?_
          refine lv_iconst (v := (-1)) hx hb dX12_readPart_134 (by decide) (ti_c (-1) (by decide) fun z114 hz114 => ?_)
          refine r_callV (As := [.int z114]) (rest := []) C hw (t_X12_readRef l B D cA kd ig104 rg lg106 _ z114 N pv mt (by omega) 0 0 (Or.inl ⟨by omega, rfl, rfl⟩) hI) sv_X12_177 (hsh 49 _ rfl) rfl hl.1 rfl (Nat.le_of_ble_eq_true rfl) ⟨by simp only [rL]; omega, by simp only [rL]; omega⟩ ⟨Nat.le_of_ble_eq_true rfl, Nat.le_of_ble_eq_true rfl⟩ dX12_readPart_135 (fun r119 kd115 ig116 rg117 lg118 H locs hw hH hp120 => ?_)
          obtain ⟨rfl, rfl, hI, hchp120, hrhp120⟩ := hp120
          have hF : Ft B [49, 54, 55, 56, 57, 58] ig lg ig116 lg118 := Ft.tr hF hchp120 (by decide) (by decide)
          obtain ⟨rfl, hvhp120⟩ := hrhp120
          obtain ⟨pv, p3, q3, ⟨cc3, rr3, fr3, ab3⟩, tk3⟩ := hvhp120
          have pr := pr.tr p3
          have dpe3 := p3.2.2.2.1
          have mt := MT.ft mt hchp120 (by decide)
          have trk := trk.tr tk3
          have pvn := pv
          obtain ⟨hps, hat, hfa, hit, hN⟩ := pvn
          refine lv_aload_n hx hb dX12_readPart_138 rfl (lv_at hl 1 rfl) ?_
          refine lv_bipush (v := 58) hx hb dX12_readPart_139 (by decide) (ti_c 58 (by decide) fun z121 hz121 => ?_)
          have hc58 : z121.toInt = 58 := hz121
          refine r_callV (As := [.int z121]) (rest := []) C hw (t_X12_takeSign l B D cA kd ig116 rg lg118 _ z121 N pv mt (by unfold sgn; omega) (by omega) hI) sv_X12_158 (hsh 49 _ rfl) rfl hl.1 rfl (Nat.le_of_ble_eq_true rfl) ⟨by simp only [rL]; omega, by simp only [rL]; omega⟩ ⟨Nat.le_of_ble_eq_true rfl, Nat.le_of_ble_eq_true rfl⟩ dX12_readPart_141 (fun r126 kd122 ig123 rg124 lg125 H locs hw hH hp127 => ?_)
          obtain ⟨rfl, rfl, hI, hchp127, hrhp127⟩ := hp127
          have hF : Ft B [49, 54, 55, 56, 57, 58] ig lg ig123 lg125 := Ft.tr hF hchp127 (by decide) (by decide)
          obtain ⟨rfl, hvhp127⟩ := hrhp127
          obtain ⟨pv, p4, q4, s4, fs4, tk4⟩ := hvhp127
          have pr := pr.tr p4
          have dpe4 := p4.2.2.2.1
          have mt := MT.ft mt hchp127 (by decide)
          have trk := trk.tr tk4
          have pvn := pv
          obtain ⟨hps, hat, hfa, hit, hN⟩ := pvn
          refine lv_aload_n hx hb dX12_readPart_144 rfl (lv_at hl 1 rfl) ?_
          refine lv_iload_n hx hb dX12_readPart_145 rfl (lv_at hl 0 rfl) ?_
          refine r_callV (As := [.int z113]) (rest := []) C hw (t_X12_readRef l B D cA kd ig123 rg lg125 _ z113 N pv mt (by omega) _ _ (Or.inr ⟨by omega, rfl, rfl⟩) hI) sv_X12_177 (hsh 49 _ rfl) rfl hl.1 rfl (Nat.le_of_ble_eq_true rfl) ⟨by simp only [rL]; omega, by simp only [rL]; omega⟩ ⟨Nat.le_of_ble_eq_true rfl, Nat.le_of_ble_eq_true rfl⟩ dX12_readPart_146 (fun r132 kd128 ig129 rg130 lg131 H locs hw hH hp133 => ?_)
          obtain ⟨rfl, rfl, hI, hchp133, hrhp133⟩ := hp133
          have hF : Ft B [49, 54, 55, 56, 57, 58] ig lg ig129 lg131 := Ft.tr hF hchp133 (by decide) (by decide)
          obtain ⟨rfl, hvhp133⟩ := hrhp133
          obtain ⟨pv, p5, q5, ⟨cc5, rr5, fr5, ab5⟩, tk5⟩ := hvhp133
          have pr := pr.tr p5
          have dpe5 := p5.2.2.2.1
          have mt := MT.ft mt hchp133 (by decide)
          have trk := trk.tr tk5
          have pvn := pv
          obtain ⟨hps, hat, hfa, hit, hN⟩ := pvn
          refine lv_aload_n hx hb dX12_readPart_149 rfl (lv_at hl 1 rfl) ?_
          refine lv_bipush (v := 41) hx hb dX12_readPart_150 (by decide) (ti_c 41 (by decide) fun z134 hz134 => ?_)
          have hc41 : z134.toInt = 41 := hz134
          refine r_callV (As := [.int z134]) (rest := []) C hw (t_X12_takeSign l B D cA kd ig129 rg lg131 _ z134 N pv mt (by unfold sgn; omega) (by omega) hI) sv_X12_158 (hsh 49 _ rfl) rfl hl.1 rfl (Nat.le_of_ble_eq_true rfl) ⟨by simp only [rL]; omega, by simp only [rL]; omega⟩ ⟨Nat.le_of_ble_eq_true rfl, Nat.le_of_ble_eq_true rfl⟩ dX12_readPart_152 (fun r139 kd135 ig136 rg137 lg138 H locs hw hH hp140 => ?_)
          obtain ⟨rfl, rfl, hI, hchp140, hrhp140⟩ := hp140
          have hF : Ft B [49, 54, 55, 56, 57, 58] ig lg ig136 lg138 := Ft.tr hF hchp140 (by decide) (by decide)
          obtain ⟨rfl, hvhp140⟩ := hrhp140
          obtain ⟨pv, p6, q6, s6, fs6, tk6⟩ := hvhp140
          have pr := pr.tr p6
          have dpe6 := p6.2.2.2.1
          have mt := MT.ft mt hchp140 (by decide)
          have trk := trk.tr tk6
          have pvn := pv
          obtain ⟨hps, hat, hfa, hit, hN⟩ := pvn
          have pq : PQ gPart B (d1 + 1) (ig14 (B + 58) 288).toInt.toNat ig136 := by
            have q := PQ.sum (d := d1) hvhp101.1 (by omega) (by omega) q2 q3 q4 q5 q6 (by omega) (by omega) (by omega) p2 p3 p4 p5 p6
            rw [e58] at q
            exact q
          have hlc : (ig123 (B + 49) 8).toInt = 0 → (ig123 (B + 55) z113.toInt.toNat).toInt = cc3 ∧ (ig123 (B + 56) z113.toInt.toNat).toInt = rr3 := fun q => by
            have f4 := p4.2.2.1 q
            have y := ab3 f4
            have i4 := (q3 f4).1
            simp only [mA, mB] at y
            rw [show z113.toInt.toNat = 34560 + (ig104 (B + 58) 288).toInt.toNat by omega, p4.2.2.2.2 55 _ (by decide) (by decide) (by omega), p4.2.2.2.2 56 _ (by decide) (by decide) (by omega)]
            exact y
          have fsS := FS.span fw_ne (by have w := fs2; rw [hc40] at w; exact w) fr3 (by have w := fs4; rw [hc58] at w; exact w) fr5 hlc (by have w := fs6; rw [hc41] at w; exact w)
          rw [show (ig97 (B + 49) 8).toInt = 0 by omega] at fsS
          have fsP : FS (pPart (tK τ) (tV τ) (tS τ) (d1 + 1)) (ig14 (B + 49) 8).toInt (ig14 (B + 49) 7).toInt (ig136 (B + 49) 8).toInt (ig136 (B + 49) 7).toInt := FS.sum (a1 := (ig97 (B + 49) 7).toInt) ⟨fD, hsu⟩ (by omega) (by omega) fsS
          refine lv_goto (tgt := 213) hx hb dX12_readPart_155 (by decide) ?_
          exact J213 ls H locs ig136 lg138 (lv_sub hl [1] rfl) hw hI hF (pv) (pr) (pq) (pr.2.2.2.1) (fsP) (trk)
      · have cl := PV.lt pv (k := (ig14 (B + 49) 7).toInt.toNat) (by omega) (q := 2) (by omega) (by decide)
        have hn2 := (mt_num mt hat).mp (by omega)
        refine lv_aload_n hx hb dX12_readPart_60 rfl (lv_at hl 0 rfl) ?_
        refine lv_iconst (v := 0) hx hb dX12_readPart_61 (by decide) (ti_c 0 (by decide) fun z141 hz141 => ?_)
        refine lv_aload_n hx hb dX12_readPart_62 rfl (lv_at hl 0 rfl) ?_
        refine r_get C hw (hsh 49 _ rfl) fl_X12_45 (oV_r rfl (hrm (49, 6, 53) (by decide))) dX12_readPart_63 ?_
        refine lv_aload_n hx hb dX12_readPart_66 rfl (lv_at hl 0 rfl) ?_
        refine r_get C hw (hsh 49 _ rfl) fl_X12_49 (oV_i rfl) dX12_readPart_67 (ti_c (ig14 (B + 49) 7).toInt rfl fun z142 hz142 => ?_)
        have ezz142 : nEq z142.toInt.toNat (ig14 (B + 49) 7).toInt.toNat := by show _ = _; omega
        refine r_lald C hw (hsh 53 _ rfl) (by omega) (by omega) dX12_readPart_70 (lv_topl fun x143 hx143 => ?_)
        have tx143 : x143.toInt = (lg9 (B + 53) (ig14 (B + 49) 7).toInt.toNat).toInt := by have q := hx143; rw [nEq.e ezz142] at q; exact congrArg Int64.toInt q
        refine lv_l2i hx hb dX12_readPart_71 rfl (lv_topi fun z144 hz144 => ?_)
        have nvv := mt_numv mt hat ((mt_num mt hat).mpr hn2)
        have nvb := hmtb mt hat
        have nv9 : z144.toInt = tV τ (ig14 (B + 49) 7).toInt.toNat := by have e9 := l2i_e hz144 (by omega) (by omega); omega
        refine lv_iconst (v := 0) hx hb dX12_readPart_72 (by decide) (ti_c 0 (by decide) fun z145 hz145 => ?_)
        refine lv_iconst (v := 0) hx hb dX12_readPart_73 (by decide) (ti_c 0 (by decide) fun z146 hz146 => ?_)
        refine r_callV (As := [.int z141, .int z144, .int z145, .int z146]) (rest := []) C hw (t_X12_add l B D cA kd ig14 rg lg9 _ z141 z144 z145 z146 (by omega) hI) sv_X12_143 (hsh 49 _ rfl) rfl hl.1 rfl (Nat.le_of_ble_eq_true rfl) ⟨by simp only [rL]; omega, by simp only [rL]; omega⟩ ⟨Nat.le_of_ble_eq_true rfl, Nat.le_of_ble_eq_true rfl⟩ dX12_readPart_74 (fun r151 kd147 ig148 rg149 lg150 H locs hw hH hp152 => ?_)
        obtain ⟨rfl, rfl, hI, hchp152, hrhp152⟩ := hp152
        have hF : Ft B [49, 54, 55, 56, 57, 58] ig lg ig148 lg150 := Ft.tr hF hchp152 (by decide) (by decide)
        obtain ⟨rfl, hvhp152⟩ := hrhp152
        have a7 := congrArg Int32.toInt (hchp152.i 49 7 (by decide))
        have a8 := congrArg Int32.toInt (hchp152.i 49 8 (by decide))
        have mt := MT.ft mt hchp152 (by decide)
        refine lv_aload_n hx hb dX12_readPart_77 rfl (lv_at hl 0 rfl) ?_
        refine lv_dup hx hb dX12_readPart_78 rfl ?_
        refine r_get C hw (hsh 49 _ rfl) fl_X12_49 (oV_i rfl) dX12_readPart_79 (ti_c (ig148 (B + 49) 7).toInt rfl fun z153 hz153 => ?_)
        refine lv_iconst (v := 1) hx hb dX12_readPart_82 (by decide) (ti_c 1 (by decide) fun z154 hz154 => ?_)
        refine lv_iadd hx hb dX12_readPart_83 (tc_add fun z155 hz155 => ?_)
        first | replace hz155 := hz155 (by omega) | clear hz155
        refine r_puti C hw (hsh 49 _ rfl) fl_X12_49 rfl rfl rfl dX12_readPart_84 (fun H locs hH hw => ?_)
        obtain ⟨ig156, eig156⟩ : ∃ f, f = up2 ig148 (B + 49) 7 z155 := ⟨_, rfl⟩
        rw [← eig156] at hw
        have hF : Ft B [49, 54, 55, 56, 57, 58] ig lg ig156 lg150 := by rw [eig156]; exact hF.pi (by decide)
        have hI : IM [] none υ B kd ig156 rg := by rw [eig156]; exact hI.pi (by decide) (show okR none _ from trivial)
        have wig156 : (ig156 (B + 49) 7).toInt = z155.toInt := by rw [eig156, up2_eq]
        have wig156_49_8 : (ig156 (B + 49) 8).toInt = (ig148 (B + 49) 8).toInt := by rw [eig156, up2_j (by decide)]
        have wig156_49_14 : (ig156 (B + 49) 14).toInt = (ig148 (B + 49) 14).toInt := by rw [eig156, up2_j (by decide)]
        have fin3 := ADD.at (v := z155) hvhp152.1 pv hchp152 (by omega) (by omega) (by decide) (by decide) (by decide)
        rw [← eig156] at fin3
        have trk : TRk B τ ig14 ig156 := TRk.add (x := z141) (y := z144) (u := z145) (w := z146) fin3.2.2 (by rw [eig156]; exact hvhp152.2.at) (by omega) (fun c k a b => by rw [eig156, up2_c (by omega)]; exact hchp152.i c k (fun q hq e => by have := hq; simp at this; omega)) (fun _ => rfl) (fun _ _ _ _ => rfl) (fun _ => ⟨fun q => absurd q (by omega), fun _ => by omega, fun q => absurd q (by omega)⟩) (fun q => ⟨fD, fun h => Or.inl ⟨z144.toInt, by rw [if_neg (by omega), if_neg (by omega), show z141.toInt = 0 by omega], ⟨hn2, nv9⟩, by rw [eig156, up2_eq]; omega⟩⟩)
        have pv := fin3.1
        have pr := fin3.2.1
        have mt : MT B N τ ig156 lg150 := by rw [eig156]; exact mt.wr (by decide)
        have pq : PQ gPart B (d1 + 1) (ig14 (B + 58) 288).toInt.toNat ig156 := ADD.num fin3.2.2 (by omega) itD
        have fsP : FS (pPart (tK τ) (tV τ) (tS τ) (d1 + 1)) (ig14 (B + 49) 8).toInt (ig14 (B + 49) 7).toInt (ig156 (B + 49) 8).toInt (ig156 (B + 49) 7).toInt := FS.num ⟨fD, hn2⟩ ⟨by rw [eig156, up2_j (by decide)]; omega, by rw [eig156, up2_eq]; omega⟩ (by omega)
        refine lv_goto (tgt := 213) hx hb dX12_readPart_87 (by decide) ?_
        exact J213 ls H locs ig156 lg150 (lv_sub hl [0] rfl) hw hI hF (pv) (pr) (pq) (pr.2.2.2.1) (fsP) (trk)
    · have fin : (PV B N ig8 ∧ PR B ig ig8 ∧ PQ gPart B d (ig (B + 58) 288).toInt.toNat ig8 ∧ FS (pPart (tK τ) (tV τ) (tS τ) d) (ig (B + 49) 8).toInt (ig (B + 49) 7).toInt (ig8 (B + 49) 8).toInt (ig8 (B + 49) 7).toInt ∧ TRk B τ ig ig8) := ⟨pv, pr, fun q => absurd q (by omega), g29_7 (by omega), tr29⟩
      exact r_vret C hw hr hlk (Nat.le_of_ble_eq_true rfl) (Nat.le_of_ble_eq_true rfl) dX12_readPart_36 ⟨rfl, rfl, hI, hF, ⟨rfl, fin⟩⟩
  refine z_ne (tgt := 15) hx hb dX12_readPart_4 (by decide) (fun c4 => ?_) (fun c4 => ?_)
  · refine lv_aload_n hx hb dX12_readPart_15 rfl (lv_at hl 0 rfl) ?_
    refine r_get C hw (hsh 49 _ rfl) fl_X12_174 (oV_i rfl) dX12_readPart_16 (ti_c (ig (B + 49) 14).toInt rfl fun z157 hz157 => ?_)
    refine lv_bipush (v := 8) hx hb dX12_readPart_19 (by decide) (ti_c 8 (by decide) fun z158 hz158 => ?_)
    refine b_ne (tgt := 29) hx hb dX12_readPart_21 (by decide) (fun c21 => ?_) (fun c21 => ?_)
    · exact J29 ls H locs ig lg (lv_sub hl [0] rfl) hw hI hF (pv) (pr) (by omega) (by omega) (rfl) (mt) (fun q => ⟨⟨by omega, rfl⟩, (mt_part mt hat0).mp (by omega)⟩) (fun q => absurd q (by omega)) (TRk.rf)
    · refine lv_aload_n hx hb dX12_readPart_24 rfl (lv_at hl 0 rfl) ?_
      refine lv_iconst (v := 5) hx hb dX12_readPart_25 (by decide) (ti_c 5 (by decide) fun z159 hz159 => ?_)
      refine r_callV (As := [.int z159]) (rest := []) C hw (t_X12_wrong l B D cA kd ig rg lg _ z159 N pv mt (by omega) hI) sv_X12_147 (hsh 49 _ rfl) rfl hl.1 rfl (Nat.le_of_ble_eq_true rfl) ⟨by simp only [rL]; omega, by simp only [rL]; omega⟩ ⟨Nat.le_of_ble_eq_true rfl, Nat.le_of_ble_eq_true rfl⟩ dX12_readPart_26 (fun r164 kd160 ig161 rg162 lg163 H locs hw hH hp165 => ?_)
      obtain ⟨rfl, rfl, hI, hchp165, hrhp165⟩ := hp165
      have hF : Ft B [49, 54, 55, 56, 57, 58] ig lg ig161 lg163 := Ft.tr hF hchp165 (by decide) (by decide)
      obtain ⟨rfl, hvhp165⟩ := hrhp165
      have ie := hchp165.i 58 288 (by decide)
      obtain ⟨pv, p1, w3, w4, w5, w6⟩ := hvhp165
      have pr := pr.tr p1
      have dpe := p1.2.2.2.1
      have f29 : FS (pPart (tK τ) (tV τ) (tS τ) d) (ig (B + 49) 8).toInt (ig (B + 49) 7).toInt (ig161 (B + 49) 8).toInt (ig161 (B + 49) 7).toInt := by
        have e0 : d = 0 := by omega
        subst e0
        exact FS.part5 ⟨by omega, (mt_part mt hat0).mp (by omega), by rw [w4 (by omega)]; unfold fw; omega⟩ fw_ne
      have mtO := mt
      have mt := MT.ft mt hchp165 (by decide)
      have pvn := pv
      obtain ⟨hps, hat, hfa, hit, hN⟩ := pvn
      exact J29 ls H locs ig161 lg163 (lv_sub hl [0] rfl) hw hI hF (pv) (pr) (by omega) (by omega) (ie) (mt) (fun q => absurd q (by omega)) (fun _ => f29) (TRk.no (NDr.ft hchp165 (by decide)) (by omega))
  · refine lv_aload_n hx hb dX12_readPart_7 rfl (lv_at hl 0 rfl) ?_
    refine lv_iconst (v := 1) hx hb dX12_readPart_8 (by decide) (ti_c 1 (by decide) fun z166 hz166 => ?_)
    refine r_callV (As := [.int z166]) (rest := []) C hw (t_X12_wrong l B D cA kd ig rg lg _ z166 N pv mt (by omega) hI) sv_X12_147 (hsh 49 _ rfl) rfl hl.1 rfl (Nat.le_of_ble_eq_true rfl) ⟨by simp only [rL]; omega, by simp only [rL]; omega⟩ ⟨Nat.le_of_ble_eq_true rfl, Nat.le_of_ble_eq_true rfl⟩ dX12_readPart_9 (fun r171 kd167 ig168 rg169 lg170 H locs hw hH hp172 => ?_)
    obtain ⟨rfl, rfl, hI, hchp172, hrhp172⟩ := hp172
    have hF : Ft B [49, 54, 55, 56, 57, 58] ig lg ig168 lg170 := Ft.tr hF hchp172 (by decide) (by decide)
    obtain ⟨rfl, hvhp172⟩ := hrhp172
    have ie := hchp172.i 58 288 (by decide)
    obtain ⟨pv, p1, w3, w4, w5, w6⟩ := hvhp172
    have pr := pr.tr p1
    have dpe := p1.2.2.2.1
    have f29 : FS (pPart (tK τ) (tV τ) (tS τ) d) (ig (B + 49) 8).toInt (ig (B + 49) 7).toInt (ig168 (B + 49) 8).toInt (ig168 (B + 49) 7).toInt := FS.part0 (fun q => ⟨fun e9 => absurd ((mt_part mt hat0).mpr e9) (by omega), by rw [w4 q]; unfold fw; omega⟩) fw_ne w5
    have mtO := mt
    have mt := MT.ft mt hchp172 (by decide)
    have pvn := pv
    obtain ⟨hps, hat, hfa, hit, hN⟩ := pvn
    refine lv_goto (tgt := 29) hx hb dX12_readPart_12 (by decide) ?_
    exact J29 ls H locs ig168 lg170 (lv_sub hl [0] rfl) hw hI hF (pv) (pr) (by omega) (by omega) (ie) (mt) (fun q => absurd q (by omega)) (fun _ => f29) (TRk.no (NDr.ft hchp172 (by decide)) (by omega))
