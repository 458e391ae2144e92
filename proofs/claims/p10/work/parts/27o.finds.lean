/-! kinds are 0, 1 or 2 -/
def isK3 (c : Cl) : Prop := kdO c = 0 ∨ kdO c = 1 ∨ kdO c = 2
def K3S (σ : Sg) (π : Ps) : Prop := (∀ p, p < 288 → isK3 (σ p)) ∧ ∀ e ∈ π, isK3 e.2
section KSS
variable {τ : Tp} {σ σ' : Sg} {π π' : Ps} {x y z : Int} {p : Nat} {c : Cl}
theorem isK3.a (h : K3S σ π) : isK3 (atC σ x) := by
  by_cases e : 0 ≤ x ∧ x < 288
  · rw [atC_on e]; exact h.1 _ (by omega)
  · rw [atC_off e]; exact Or.inl rfl
theorem isK3.wu (h : isK3 c) : isK3 (wuC c) := by
  unfold wuC
  split
  · exact Or.inr (Or.inl rfl)
  · exact h
theorem K3S.up (h : K3S σ π) (hc : isK3 c) : K3S (upS σ p c) π := ⟨fun q hq => by
  by_cases e : q = p
  · subst e; rw [upS_eq]; exact hc
  · rw [upS_ne e]; exact h.1 q hq, h.2⟩
theorem K3S.same (h : K3S σ π) (q : sSame σ π σ' π') : K3S σ' π' := by
  obtain ⟨rfl, rfl⟩ := q
  exact h
theorem K3S.put (h : K3S σ π) (hp : p < 288) (hc : isK3 c) (q : sPut σ π p c σ' π') : K3S σ' π' := by
  obtain ⟨rfl, rfl⟩ := q
  refine ⟨(h.up hc).1, fun e he => ?_⟩
  unfold pput at he
  rcases List.mem_append.mp he with w | w
  · refine h.2 e ?_
    unfold ptl at w
    split at w
    · exact List.mem_of_mem_tail w
    · exact w
  · rw [List.mem_singleton] at w
    subst w
    exact h.1 p hp
theorem K3S.stF (h : K3S σ π) (q : stF τ σ π x z σ' π') : K3S σ' π' := by
  rcases q with ⟨_, _, q⟩ | ⟨a, ⟨_, _, q⟩ | ⟨_, _, L, _, _, q⟩⟩
  · exact h.same q
  · exact h.same q
  · unfold onS at a
    exact h.put (by omega) (Or.inr (Or.inr rfl)) q
theorem K3S.stN (h : K3S σ π) (q : stN σ π x y z σ' π') : K3S σ' π' := by
  rcases q with ⟨_, _, q⟩ | ⟨a, _, q⟩
  · exact h.same q
  · unfold onS at a
    exact h.put (by omega) (Or.inr (Or.inl rfl)) q
theorem K3S.stE (h : K3S σ π) (q : stE σ π x z σ' π') : K3S σ' π' := by
  rcases q with ⟨_, _, q⟩ | ⟨a, _, q⟩
  · exact h.same q
  · unfold onS at a
    exact h.put (by omega) (Or.inl rfl) q
theorem K3S.stC (h : K3S σ π) (q : stC σ π x y z σ' π') : K3S σ' π' := by
  rcases q with ⟨_, _, q⟩ | ⟨a, _, q⟩
  · exact h.same q
  · have a2 := a.2.1
    unfold onS at a2
    exact h.put (by omega) (isK3.wu (isK3.a h)) q
theorem K3S.stU {a b d : Int} (h : K3S σ π) (q : stU σ π x z σ' π' a b d) : K3S σ' π' := by
  rcases q with ⟨_, _, q⟩ | ⟨_, _, rfl, rfl⟩
  · exact h.same q
  · exact h.up (Or.inr (Or.inl rfl))
theorem K3S.stM (h : K3S σ π) (q : stM σ π x σ' π') : K3S σ' π' := by
  obtain ⟨ζ, n, _, b, ⟨_, q⟩ | ⟨c, q⟩⟩ := q
  · exact h.same q
  · have hx : 0 ≤ x ∧ x < 288 := by
      rcases b with ⟨_, w⟩ | ⟨w, _⟩
      · exact absurd w c.1
      · exact atC_k w
    exact h.put (by omega) (isK3.wu (isK3.a h)) q
theorem K3S.stT {k : Int} (hW : WS σ π) (h : K3S σ π) (q : stT σ π x σ' π' k) : K3S σ' π' := by
  obtain ⟨o, a, ⟨_, q⟩ | ⟨L, e, q⟩⟩ := q
  · exact h.same q
  · subst e
    have hx := (stQ.fit hW a).1
    unfold onS at hx
    exact h.put (by omega) (Or.inr (Or.inr rfl)) q
theorem K3S.stB (h : K3S σ π) (q : stB σ π σ' π') : K3S σ' π' := by
  rcases q with ⟨_, q⟩ | ⟨π0, p, c, rfl, rfl, rfl⟩
  · exact h.same q
  · exact ⟨(h.up (h.2 (p, c) (by simp))).1, fun e he => h.2 e (List.mem_append_left _ he)⟩
theorem K3S.zero : K3S (fun _ => blk) [] := ⟨fun _ _ => Or.inl rfl, fun e he => absurd he List.not_mem_nil⟩
end KSS
/-! FINDINGS -/
abbrev Fng : Type := Int × Int × Int
def Op1 (P : Prop) (t : Fng) (l : List Fng) : Prop := (P ∧ l = [t]) ∨ (¬ P ∧ l = [])
/-- of the first m sums those that stop too soon -/
def shL (σ : Sg) (ζ : Nat → Int) (x : Int) (L : Fm) : Nat → List Fng → Prop
  | 0, l => l = []
  | m + 1, l => ∃ (l0 b r : List Fng) (i : Nat), shL σ ζ x L m l0 ∧ sumS L (m : Int) (i : Int) ∧ Op1 (shB σ ζ x (stp L (i : Int))) (3, x, lstP (stp L (i : Int)) x + 12) b ∧ Op1 (shR σ ζ x (stp L (i : Int))) (3, x, lstP (stp L (i : Int)) x + 1) r ∧ l = l0 ++ (b ++ r)
def shA (σ : Sg) (ζ : Nat → Int) (x : Int) (L : Fm) (l : List Fng) : Prop := ∃ m : Nat, shL σ ζ x L m l ∧ sumS L (m : Int) (-1)
/-- the least cell with two ways or more -/
def LtR (w : Nat → Nat → Int) (p : Nat) (z : Int) : Prop := (∃ c : Nat, c < 288 ∧ z = (c : Int) ∧ 2 ≤ w p c ∧ ∀ d, d < c → ¬ 2 ≤ w p d) ∨ (z = -1 ∧ ∀ d, d < 288 → ¬ 2 ≤ w p d)
/-- what is found at one place -/
def FdR (σ : Sg) (ζ : Nat → Int) (w : Nat → Nat → Int) (c : Cs) (K : Nat → Prop) (p : Nat) (l : List Fng) : Prop := ∃ (n t : Int) (l1 l2 l3 l4 l5 : List Fng), OddR σ ζ (p : Int) n ∧ Op1 (n ≠ -1) (if kdO (σ p) = 2 then 1 else 2, (p : Int), n) l1 ∧ ((kdO (σ p) = 2 ∧ shA σ ζ (p : Int) (fmO (σ p)) l2) ∨ (kdO (σ p) ≠ 2 ∧ l2 = [])) ∧ ((isTot σ p ∧ LtR w p t) ∨ (¬ isTot σ p ∧ t = -1)) ∧ Op1 (t ≠ -1) (4, (p : Int), t) l3 ∧ Op1 (kdO (σ p) ≠ 0 ∧ ¬ K p ∧ ∀ q, ¬ Rd σ q p) (5, (p : Int), -1) l4 ∧ Op1 (c p = true) (6, (p : Int), -1) l5 ∧ l = l1 ++ (l2 ++ (l3 ++ (l4 ++ l5)))
def FdL (σ : Sg) (ζ : Nat → Int) (w : Nat → Nat → Int) (c : Cs) (K : Nat → Prop) : Nat → List Fng → Prop
  | 0, l => l = []
  | n + 1, l => ∃ a b, FdL σ ζ w c K n a ∧ FdR σ ζ w c K n b ∧ l = a ++ b
/-- what check() finds -/
def FdT (σ : Sg) (K : Nat → Prop) (l : List Fng) : Prop := ∃ (ζ : Nat → Int) (w : Nat → Nat → Int) (u : Us) (c : Cs), FaR σ ζ ∧ WR σ w ∧ UOk σ u c ∧ FdL σ ζ w c K 288 l
section FND
variable {σ : Sg} {π : Ps} {ζ ψ : Nat → Int} {w v : Nat → Nat → Int} {c d : Cs} {K : Nat → Prop} {x : Int} {L : Fm} {p : Nat} {l l' : List Fng} {P Q : Prop} {t : Fng}
theorem Op1.det (h1 : Op1 P t l) (h2 : Op1 P t l') : l = l' := by
  rcases h1 with ⟨a, b⟩ | ⟨a, b⟩ <;> rcases h2 with ⟨e, f⟩ | ⟨e, f⟩
  · rw [b, f]
  · exact absurd a e
  · exact absurd e a
  · rw [b, f]
theorem Op1.cg (h : Op1 P t l) (e : P ↔ Q) : Op1 Q t l := by
  unfold Op1 at h ⊢
  rw [← e]
  exact h
theorem shL.has : ∀ {m : Nat} {l : List Fng}, shL σ ζ x L m l → ∀ j, j < m → ∃ i : Nat, sumS L (j : Int) (i : Int)
  | 0, _, _, j, hj => absurd hj (Nat.not_lt_zero j)
  | m + 1, _, ⟨l0, b, r, i, h1, h2, _⟩, j, hj => by
    by_cases e : j = m
    · exact ⟨i, by rw [e]; exact h2⟩
    · exact shL.has h1 j (by omega)
theorem shL.det (hz : ∀ p, p < 288 → ζ p = ψ p) : ∀ {m : Nat} {l l' : List Fng}, shL σ ζ x L m l → shL σ ψ x L m l' → l = l'
  | 0, _, _, h1, h2 => h1.trans h2.symm
  | m + 1, _, _, ⟨a0, b, r, i, a1, a2, a3, a4, a5⟩, ⟨b0, e, s, j, b1, b2, b3, b4, b5⟩ => by
    have ij : i = j := by have := sumS.det a2 b2; omega
    subst ij
    rw [a5, b5, shL.det hz a1 b1, (a3.cg (shB.cg hz)).det b3, (a4.cg (shR.cg hz)).det b4]
theorem shA.det (hz : ∀ p, p < 288 → ζ p = ψ p) (h1 : shA σ ζ x L l) (h2 : shA σ ψ x L l') : l = l' := by
  obtain ⟨m, a1, a2⟩ := h1
  obtain ⟨n, b1, b2⟩ := h2
  rcases Nat.lt_trichotomy m n with e | e | e
  · obtain ⟨i, hi⟩ := b1.has m e
    have := sumS.det a2 hi
    omega
  · subst e
    exact shL.det hz a1 b1
  · obtain ⟨i, hi⟩ := a1.has n e
    have := sumS.det b2 hi
    omega
theorem LtR.det {z y : Int} (e : ∀ r, r < 288 → w p r = v p r) (h1 : LtR w p z) (h2 : LtR v p y) : z = y := by
  rcases h1 with ⟨a, a1, a2, a3, a4⟩ | ⟨a1, a2⟩ <;> rcases h2 with ⟨b, b1, b2, b3, b4⟩ | ⟨b1, b2⟩
  · rcases Nat.lt_trichotomy a b with q | q | q
    · exact absurd (by rw [← e a a1]; exact a3) (b4 a q)
    · omega
    · exact absurd (by rw [e b b1]; exact b3) (a4 b q)
  · exact absurd (by rw [← e a a1]; exact a3) (b2 a a1)
  · exact absurd (by rw [e b b1]; exact b3) (a2 b b1)
  · omega
theorem WR.det (hW : WS σ π) (h1 : WR σ w) (h2 : WR σ v) {r : Nat} (hr : r < 288) : ∀ p, isTot σ p → w p r = v p r := by
  have key : ∀ x, ¬ (isTot σ x ∧ w x r ≠ v x r) := fun x hx => by
    obtain ⟨p, hp, t⟩ := ring_ex (R := Rd σ) (S := fun x => isTot σ x ∧ w x r ≠ v x r) (n := 288) (fun a ha => by
      refine ⟨ha.1.1, ?_⟩
      apply Classical.byContradiction
      intro hn
      refine ha.2 ?_
      rw [(h1 a ha.1 r hr).1, (h2 a ha.1 r hr).1]
      refine wyF_cg _ _ (fun y hy => ?_)
      obtain ⟨s, hs, rs, m⟩ := rdL_mem.mp hy
      have ho := plS_on (((hW.1 a ha.1.1).1 ha.1.2.1).1 s hs rs) m
      by_cases tt : isTot σ y.toNat
      · rw [ctr_t tt, ctr_t tt]
        apply Classical.byContradiction
        intro q
        exact hn ⟨y.toNat, ⟨tt, q⟩, ha.1.1, ha.1.2.1, s, hs, rs, by rw [show ((y.toNat : Nat) : Int) = y by omega]; exact m⟩
      · by_cases e : y = (r : Int) ∧ kdO (σ r) ≠ 0
        · rw [ctr_1 tt e, ctr_1 tt e]
        · rw [ctr_0 tt e, ctr_0 tt e]) hx
    exact hp.1.2.2.2 t
  exact fun p hp => Classical.byContradiction fun q => key p ⟨hp, q⟩
theorem FdR.det (hz : ∀ p, p < 288 → ζ p = ψ p) (hw : isTot σ p → ∀ r, r < 288 → w p r = v p r) (hc : c p = d p) (h1 : FdR σ ζ w c K p l) (h2 : FdR σ ψ v d K p l') : l = l' := by
  obtain ⟨n, t, l1, l2, l3, l4, l5, a0, a1, a2, a3, a4, a5, a6, a7⟩ := h1
  obtain ⟨n', t', m1, m2, m3, m4, m5, b0, b1, b2, b3, b4, b5, b6, b7⟩ := h2
  have en : n = n' := OddR.det (OddR.cg hz a0) b0
  subst en
  have et : t = t' := by
    rcases a3 with ⟨q, r⟩ | ⟨q, r⟩ <;> rcases b3 with ⟨q', r'⟩ | ⟨q', r'⟩
    · exact LtR.det (hw q) r r'
    · exact absurd q q'
    · exact absurd q' q
    · omega
  subst et
  have e2 : l2 = m2 := by
    rcases a2 with ⟨q, r⟩ | ⟨q, r⟩ <;> rcases b2 with ⟨q', r'⟩ | ⟨q', r'⟩
    · exact shA.det hz r r'
    · exact absurd q q'
    · exact absurd q' q
    · rw [r, r']
  rw [hc] at a6
  rw [a7, b7, a1.det b1, e2, a4.det b4, a5.det b5, a6.det b6]
theorem FdL.det (hz : ∀ p, p < 288 → ζ p = ψ p) (hw : ∀ p, isTot σ p → ∀ r, r < 288 → w p r = v p r) (hc : ∀ p, p < 288 → c p = d p) : ∀ {n : Nat} {l l' : List Fng}, n ≤ 288 → FdL σ ζ w c K n l → FdL σ ψ v d K n l' → l = l'
  | 0, _, _, _, h1, h2 => h1.trans h2.symm
  | n + 1, _, _, hn, ⟨a, b, a1, a2, a3⟩, ⟨e, f, b1, b2, b3⟩ => by rw [a3, b3, FdL.det hz hw hc (by omega) a1 b1, FdR.det hz (hw n) (hc n (by omega)) a2 b2]
theorem FdT.det (hW : WS σ π) (h1 : FdT σ K l) (h2 : FdT σ K l') : l = l' := by
  obtain ⟨ζ, w, u, c, a1, a2, a3, a4⟩ := h1
  obtain ⟨ψ, v, u', d, b1, b2, b3, b4⟩ := h2
  exact FdL.det (a1.det b1) (fun p hp r hr => WR.det hW a2 b2 hr p hp) (fun p hp => (UOk.det hW a3 b3 p hp).2) (Nat.le_refl _) a4 b4
/-- nothing is found where nothing is -/
theorem FdR.empty {u : Us} (hu : UOk σ u c) (hp : p < 288) (hk : kdO (σ p) = 0) : FdR σ ζ w c K p [] := by
  have ha : kdO (atC σ (p : Int)) = 0 := by rw [atC_n rfl hp]; exact hk
  have hc : c p = false := ((hu p hp).1 (by omega)).2
  refine ⟨-1, -1, [], [], [], [], [], Or.inl ⟨ha, rfl⟩, Or.inr ⟨fun q => q rfl, rfl⟩, Or.inr ⟨by omega, rfl⟩, Or.inr ⟨fun q => by have := q.2.1; omega, rfl⟩, Or.inr ⟨fun q => q rfl, rfl⟩, Or.inr ⟨fun q => q.1 hk, rfl⟩, Or.inr ⟨fun q => (by rw [hc] at q; cases q), rfl⟩, rfl⟩
end FND
/-! counts of readers and of what is read -/
theorem CntIs.det {P : Nat → Prop} {n k j : Nat} (h1 : CntIs P n k) (h2 : CntIs P n j) : k = j := by
  obtain ⟨f, a1, a2⟩ := h1
  obtain ⟨g, b1, b2⟩ := h2
  rw [← a2, ← b2]
  refine cnt.cg fun q hq => ?_
  rw [Bool.eq_iff_iff, a1 q hq, b1 q hq]
theorem CntIs.zero {P : Nat → Prop} : CntIs P 0 0 := ⟨fun _ => false, fun q hq => absurd hq (Nat.not_lt_zero q), rfl⟩
theorem CntIs.sn {P : Nat → Prop} {n k : Nat} (h : CntIs P n k) (hn : ¬ P n) : CntIs P (n + 1) k := by
  obtain ⟨f, a1, a2⟩ := h
  refine ⟨fun q => f q && decide (q ≠ n), fun q hq => ?_, ?_⟩
  · by_cases e : q = n
    · subst e; simp [hn]
    · have := a1 q (by omega)
      simp [e, this]
  · rw [cnt_s, if_neg (by simp), ← a2]
    show cnt _ n + 0 = _
    rw [Nat.add_zero]
    exact cnt.cg fun q hq => by simp [show q ≠ n by omega]
theorem CntIs.sy {P : Nat → Prop} {n k : Nat} (h : CntIs P n k) (hn : P n) : CntIs P (n + 1) (k + 1) := by
  obtain ⟨f, a1, a2⟩ := h
  refine ⟨fun q => f q || decide (q = n), fun q hq => ?_, ?_⟩
  · by_cases e : q = n
    · subst e; simp [hn]
    · have := a1 q (by omega)
      simp [e, this]
  · rw [cnt_s, if_pos (by simp), ← a2]
    congr 1
    exact cnt.cg fun q hq => by simp [show q ≠ n by omega]
theorem CntIs.hi {P : Nat → Prop} {n k : Nat} (h : CntIs P n k) : ∀ d, (∀ q, n ≤ q → q < n + d → ¬ P q) → CntIs P (n + d) k
  | 0, _ => h
  | d + 1, hq => (CntIs.hi h d (fun q a b => hq q a (by omega))).sn (hq (n + d) (by omega) (by omega))
theorem CntIs.lo {P : Nat → Prop} {n d k : Nat} (h : CntIs P (n + d) k) (hq : ∀ q, n ≤ q → q < n + d → ¬ P q) : CntIs P n k := by
  obtain ⟨f, a1, a2⟩ := h
  have h2 : CntIs P n (cnt f n) := ⟨f, fun q hq => a1 q (by omega), rfl⟩
  have h3 := h2.hi d hq
  rw [h3.det ⟨f, a1, a2⟩] at h2
  exact h2
/-- z is how many -/
def CnZ (P : Nat → Prop) (z : Int) : Prop := ∃ k : Nat, z = (k : Int) ∧ CntIs P 288 k
theorem CnZ.det {P : Nat → Prop} {z y : Int} (h1 : CnZ P z) (h2 : CnZ P y) : z = y := by
  obtain ⟨k, a1, a2⟩ := h1
  obtain ⟨j, b1, b2⟩ := h2
  rw [a1, b1, a2.det b2]
theorem CnZ.none {P : Nat → Prop} {z : Int} (h : CnZ P z) : z = 0 ↔ ∀ q, q < 288 → ¬ P q := by
  obtain ⟨k, a1, a2⟩ := h
  rw [← a2.z]
  omega
/-! the class: cells with a way or more into a total, with two or more, as rows of bits -/
def TwR (B : Nat) (w : Nat → Nat → Int) (p : Nat) (lg : sG) : Prop := ∀ c, c < 288 → (bR (lg (B + 41)) p c = true ↔ 1 ≤ w p c) ∧ (bR (lg (B + 42)) p c = true ↔ 2 ≤ w p c)
def TwL (B : Nat) (σ : Sg) (w : Nat → Nat → Int) (p : Nat) (l : List Int) (lg : sG) : Prop := ∀ c, c < 288 → (bR (lg (B + 41)) p c = true ↔ 1 ≤ wyF 10 (ctr σ w c) l) ∧ (bR (lg (B + 42)) p c = true ↔ 2 ≤ wyF 10 (ctr σ w c) l)
/-- other rows are as they were -/
def TwO (B p : Nat) (lg lg' : sG) : Prop := ∀ a b, a ≠ p → b < 320 → bR (lg' (B + 41)) a b = bR (lg (B + 41)) a b ∧ bR (lg' (B + 42)) a b = bR (lg (B + 42)) a b
/-- one row takes another's ways, word by word -/
def RwY (B p q n : Nat) (lg lg' : sG) : Prop := ∀ a b, b < 320 → bR (lg' (B + 42)) a b = (bR (lg (B + 42)) a b || (decide (a = p) && decide (b < 64 * n) && (bR (lg (B + 42)) q b || (bR (lg (B + 41)) p b && bR (lg (B + 41)) q b)))) ∧ bR (lg' (B + 41)) a b = (bR (lg (B + 41)) a b || (decide (a = p) && decide (b < 64 * n) && bR (lg (B + 41)) q b))
theorem SBt.at {f g : Nat → Int64} {x y b : Nat} (h : SBt f g x y) (hb : b < 320) : bR g x b = (bR f x b || decide (b = y)) := by rw [h x b hb, decide_eq_true rfl, Bool.true_and]
theorem SBt.ne {f g : Nat → Int64} {x y a b : Nat} (h : SBt f g x y) (ha : a ≠ x) (hb : b < 320) : bR g a b = bR f a b := by rw [h a b hb, decide_eq_false ha, Bool.false_and, Bool.or_false]
section TWO
variable {B p q n i i2 : Nat} {σ : Sg} {π : Ps} {w : Nat → Nat → Int} {l : List Int} {lg lg' lg2 : sG} {v v2 : Int64}
theorem TwO.rf : TwO B p lg lg := fun _ _ _ _ => ⟨rfl, rfl⟩
theorem TwO.tr (h1 : TwO B p lg lg') (h2 : TwO B p lg' lg2) : TwO B p lg lg2 := fun a b ha hb => ⟨(h2 a b ha hb).1.trans (h1 a b ha hb).1, (h2 a b ha hb).2.trans (h1 a b ha hb).2⟩
theorem TwR.o (h : TwR B w q lg) (hO : TwO B p lg lg') (hq : q ≠ p) : TwR B w q lg' := fun c hc => by
  rw [(hO q c hq (by omega)).1, (hO q c hq (by omega)).2]
  exact h c hc
theorem RwY.zero : RwY B p q 0 lg lg := fun a b hb => by simp
theorem RwY.step (h : RwY B p q n lg lg') (hn : n < 5) (hpq : p ≠ q) (hi : i = 5 * p + n) (hi2 : i2 = 5 * q + n) (hv : v = lg' (B + 42) i ||| (lg' (B + 42) i2 ||| (lg' (B + 41) i &&& lg' (B + 41) i2))) (hv2 : v2 = lg' (B + 41) i ||| lg' (B + 41) i2) : RwY B p q (n + 1) lg (up2 (up2 lg' (B + 42) i v) (B + 41) i v2) := fun a b hb => by
  have e42 : ∀ j, up2 (up2 lg' (B + 42) i v) (B + 41) i v2 (B + 42) j = up2 lg' (B + 42) i v (B + 42) j := fun j => up2_a (by omega)
  have e41 : ∀ j, j ≠ i → up2 (up2 lg' (B + 42) i v) (B + 41) i v2 (B + 41) j = lg' (B + 41) j := fun j hj => (up2_j hj).trans (up2_a (by omega))
  have hx : ∀ (d x : Nat), x = p ∨ x = q → ∀ k, k < 64 → Bt (lg' (B + d) (5 * x + n)) k = bR (lg' (B + d)) x (64 * n + k) := fun d x _ k hk => by
    unfold bR; rw [show 5 * x + (64 * n + k) / 64 = 5 * x + n by omega, show (64 * n + k) % 64 = k by omega]
  by_cases e : 5 * a + b / 64 = i
  · have ea : a = p := by omega
    have eb : b / 64 = n := by omega
    subst ea
    have c1 : ¬ (b < 64 * n) := by omega
    have c2 : b < 64 * (n + 1) := by omega
    have c3 : ¬ (q = a) := fun w => hpq w.symm
    have q1 := h a b hb
    have q2 := h q b hb
    have eB : 64 * n + b % 64 = b := by omega
    have r1 : bR (up2 (up2 lg' (B + 42) i v) (B + 41) i v2 (B + 42)) a b = Bt v (b % 64) := by unfold bR; rw [e, e42, up2_eq]
    have r2 : bR (up2 (up2 lg' (B + 42) i v) (B + 41) i v2 (B + 41)) a b = Bt v2 (b % 64) := by unfold bR; rw [e, up2_eq]
    rw [r1, r2, hv, hv2, Bt.or, Bt.or, Bt.and, Bt.or, hi, hi2, hx 42 a (Or.inl rfl) _ (Nat.mod_lt _ (by decide)), hx 42 q (Or.inr rfl) _ (Nat.mod_lt _ (by decide)), hx 41 a (Or.inl rfl) _ (Nat.mod_lt _ (by decide)), hx 41 q (Or.inr rfl) _ (Nat.mod_lt _ (by decide)), eB, q1.1, q1.2, q2.1, q2.2]
    simp [c1, c2, c3]
  · have r1 : bR (up2 (up2 lg' (B + 42) i v) (B + 41) i v2 (B + 42)) a b = bR (lg' (B + 42)) a b := by unfold bR; rw [e42, up2_j e]
    have r2 : bR (up2 (up2 lg' (B + 42) i v) (B + 41) i v2 (B + 41)) a b = bR (lg' (B + 41)) a b := by unfold bR; rw [e41 _ e]
    rw [r1, r2, (h a b hb).1, (h a b hb).2]
    by_cases c : a = p
    · have : (b < 64 * n) ↔ (b < 64 * (n + 1)) := by
        constructor
        · omega
        · intro q
          apply Classical.byContradiction
          intro w
          exact e (by omega)
      exact ⟨by rw [decide_eq_decide.mpr this], by rw [decide_eq_decide.mpr this]⟩
    · simp [c]
theorem RwY.o (h : RwY B p q 5 lg lg') : TwO B p lg lg' := fun a b ha hb => by
  rw [(h a b hb).1, (h a b hb).2]
  simp [ha]
/-- sums of ways: one or more, two or more -/
theorem wy_12 {u : Int → Int} {y : Int} (hs : 0 ≤ wyF 10 u l) (ht : 0 ≤ u y) : (1 ≤ wyF 10 u (l ++ [y]) ↔ 1 ≤ wyF 10 u l ∨ 1 ≤ u y) ∧ (2 ≤ wyF 10 u (l ++ [y]) ↔ 2 ≤ wyF 10 u l ∨ 2 ≤ u y ∨ (1 ≤ wyF 10 u l ∧ 1 ≤ u y)) := by
  have e : wyF 10 u (l ++ [y]) = wyS 10 u (wyF 10 u l) y := by rw [wyF_app]; rfl
  rw [e]
  unfold wyS
  split <;> omega
theorem TwL.nn {c : Nat} (hw : ∀ y ∈ l, 0 ≤ ctr σ w c y) : 0 ≤ wyF 10 (ctr σ w c) l := (wyF_b (by decide) l 0 hw ⟨by decide, by decide⟩).1
theorem TwL.tot (h : TwL B σ w p l lg) (hq : TwR B w q lg) (hR : RwY B p q 5 lg lg') (ht : isTot σ q) (hl : ∀ c, c < 288 → ∀ y ∈ l, 0 ≤ ctr σ w c y) (hn : ∀ c, c < 288 → 0 ≤ w q c) : TwL B σ w p (l ++ [(q : Int)]) lg' := fun c hc => by
  have ec : ctr σ w c (q : Int) = w q c := by rw [ctr_t (by rw [Int.toNat_natCast]; exact ht), Int.toNat_natCast]
  obtain ⟨w1, w2⟩ := wy_12 (l := l) (u := ctr σ w c) (y := (q : Int)) (TwL.nn (hl c hc)) (by rw [ec]; exact hn c hc)
  rw [w1, w2, ec, (hR p c (by omega)).1, (hR p c (by omega)).2]
  have c2 : decide (c < 64 * 5) = true := decide_eq_true (by omega)
  have c3 : decide (p = p) = true := decide_eq_true rfl
  rw [c2, c3, Bool.true_and, Bool.true_and, Bool.or_eq_true, Bool.or_eq_true, Bool.true_and, Bool.or_eq_true, Bool.and_eq_true, (h c hc).1, (h c hc).2, (hq c hc).1, (hq c hc).2]
  exact ⟨Iff.rfl, Iff.rfl⟩
theorem TwL.no (h : TwL B σ w p l lg) (ht : ¬ isTot σ q) (hk : kdO (σ q) = 0) (hl : ∀ c, c < 288 → ∀ y ∈ l, 0 ≤ ctr σ w c y) : TwL B σ w p (l ++ [(q : Int)]) lg := fun c hc => by
  have ec : ctr σ w c (q : Int) = 0 := ctr_0 (by rw [Int.toNat_natCast]; exact ht) (fun e => e.2 (by rw [show c = q by have := e.1; omega]; exact hk))
  obtain ⟨w1, w2⟩ := wy_12 (l := l) (u := ctr σ w c) (y := (q : Int)) (TwL.nn (hl c hc)) (by rw [ec]; decide)
  rw [w1, w2, ec, (h c hc).1, (h c hc).2]
  omega
/-- a cell that is no total: once more -/
theorem TwL.one (h : TwL B σ w p l lg) (hq : q < 288) (ht : ¬ isTot σ q) (hk : kdO (σ q) ≠ 0) (hl : ∀ c, c < 288 → ∀ y ∈ l, 0 ≤ ctr σ w c y) (h41 : ∀ b, b < 320 → bR (lg' (B + 41)) p b = (bR (lg (B + 41)) p b || decide (b = q))) (h42 : ∀ b, b < 320 → bR (lg' (B + 42)) p b = (bR (lg (B + 42)) p b || (decide (b = q) && bR (lg (B + 41)) p q))) : TwL B σ w p (l ++ [(q : Int)]) lg' := fun c hc => by
  have t2 : ¬ isTot σ ((q : Int)).toNat := by rw [Int.toNat_natCast]; exact ht
  by_cases e : c = q
  · subst e
    have ec : ctr σ w c (c : Int) = 1 := ctr_1 t2 ⟨rfl, hk⟩
    obtain ⟨w1, w2⟩ := wy_12 (l := l) (u := ctr σ w c) (y := (c : Int)) (TwL.nn (hl c hc)) (by rw [ec]; decide)
    rw [w1, w2, ec, h41 c (by omega), h42 c (by omega)]
    have h0 := TwL.nn (hl c hc)
    constructor
    · simp
    · rw [show (bR (lg (B + 42)) p c || (decide (c = c) && bR (lg (B + 41)) p c)) = true ↔ (bR (lg (B + 42)) p c = true ∨ bR (lg (B + 41)) p c = true) by simp, (h c hc).1, (h c hc).2]
      omega
  · have ec : ctr σ w c (q : Int) = 0 := ctr_0 t2 (fun w => e (by have := w.1; omega))
    obtain ⟨w1, w2⟩ := wy_12 (l := l) (u := ctr σ w c) (y := (q : Int)) (TwL.nn (hl c hc)) (by rw [ec]; decide)
    rw [w1, w2, ec, h41 c (by omega), h42 c (by omega)]
    constructor
    · rw [show (bR (lg (B + 41)) p c || decide (c = q)) = true ↔ bR (lg (B + 41)) p c = true by simp [e], (h c hc).1]
      omega
    · rw [show (bR (lg (B + 42)) p c || (decide (c = q) && bR (lg (B + 41)) p q)) = true ↔ bR (lg (B + 42)) p c = true by simp [e], (h c hc).2]
      omega
theorem TwL.zero (h : ∀ k, k < 5 → lg (B + 41) (5 * p + k) = 0 ∧ lg (B + 42) (5 * p + k) = 0) : TwL B σ w p [] lg := fun c hc => by
  rw [bR_z (fun k hk => (h k hk).1) (by omega), bR_z (fun k hk => (h k hk).2) (by omega)]
  constructor
  · exact ⟨fun q => (by cases q), fun q => absurd q (by show ¬ (1 : Int) ≤ 0; decide)⟩
  · exact ⟨fun q => (by cases q), fun q => absurd q (by show ¬ (2 : Int) ≤ 0; decide)⟩
theorem TwL.fin (h : TwL B σ w p (rdL (fmO (σ p)) (p : Int)) lg) (hw : WR σ w) (ht : isTot σ p) : TwR B w p lg := fun c hc => by
  rw [(hw p ht c hc).1]
  exact h c hc
theorem WR.ctn (hw : WR σ w) {c : Nat} (hc : c < 288) {y : Int} : 0 ≤ ctr σ w c y := by
  by_cases t : isTot σ y.toNat
  · rw [ctr_t t]; exact (hw _ t c hc).2
  · by_cases e : y = (c : Int) ∧ kdO (σ c) ≠ 0
    · rw [ctr_1 t e]; decide
    · rw [ctr_0 t e]; decide
/-- the first i of the order are gathered -/
def TwI (B : Nat) (σ : Sg) (w : Nat → Nat → Int) (od : Nat → Nat) (i : Nat) (lg : sG) : Prop := ∀ j, j < i → isTot σ (od j) → TwR B w (od j) lg
theorem TwI.step {od : Nat → Nat} (h : TwI B σ w od i lg) (hO : OkO σ od n) (hi : i < n) (h1 : TwO B (od i) lg lg') (h2 : isTot σ (od i) → TwR B w (od i) lg') : TwI B σ w od (i + 1) lg' := fun j hj ht => by
  by_cases e : j = i
  · subst e; exact h2 ht
  · exact (h j (by omega) ht).o h1 (hO.2.1 j i (by omega) hi)
theorem TwI.rd {od : Nat → Nat} (h : TwI B σ w od i lg) (hO : OkO σ od n) (hi : i < n) (ht : isTot σ (od i)) {y : Nat} (hy : (y : Int) ∈ rdL (fmO (σ (od i))) ((od i : Nat) : Int)) (hq : isTot σ y) : TwR B w y lg ∧ y ≠ od i := by
  have rd : Rd σ (od i) y := ⟨ht.1, ht.2.1, rdL_mem.mp hy⟩
  obtain ⟨k, hk, e⟩ := hO.2.2.2 i hi ht.2.2.2 y rd ⟨hq.1, hq.2.1⟩
  refine ⟨by rw [← e]; exact h k hk (by rw [e]; exact hq), fun w => ?_⟩
  rw [w] at rd
  exact ht.2.2.2 (.single rd)
theorem TwI.fin {od : Nat → Nat} (h : TwI B σ w od n lg) (hO : OkO σ od n) : ∀ p, isTot σ p → TwR B w p lg := fun p hp => by
  obtain ⟨j, hj, e⟩ := hO.2.2.1 p ⟨hp.1, hp.2.1⟩
  subst e
  exact h j hj hp
end TWO
/-- findings as the class keeps them -/
def FdS (B : Nat) (l : List Fng) (ig : sI) : Prop := (ig (B + 43) 6).toInt = (l.length : Int) ∧ ∀ i (h : i < l.length), i < 300 → (ig (B + 44) (3 * i)).toInt = (l[i]).1 ∧ (ig (B + 44) (3 * i + 1)).toInt = (l[i]).2.1 ∧ (ig (B + 44) (3 * i + 2)).toInt = (l[i]).2.2
section FNS
variable {B i1 i2 i3 : Nat} {l : List Fng} {ig ig' : sI} {a b c w : Int32} {t : Fng}
theorem FdS.zero (h : (ig (B + 43) 6).toInt = 0) : FdS B [] ig := ⟨h, fun i hi => absurd hi (Nat.not_lt_zero i)⟩
theorem FdS.ag (h : FdS B l ig) (e3 : (ig' (B + 43) 6).toInt = (ig (B + 43) 6).toInt) (e : ∀ j, ig' (B + 44) j = ig (B + 44) j) : FdS B l ig' := ⟨e3.trans h.1, fun i hi h3 => by rw [e, e, e]; exact h.2 i hi h3⟩
theorem FdS.add (h : FdS B l ig) (h1 : (i1 : Int) = 3 * (l.length : Int)) (h2 : (i2 : Int) = 3 * (l.length : Int) + 1) (h3 : (i3 : Int) = 3 * (l.length : Int) + 2) (ha : a.toInt = t.1) (hb : b.toInt = t.2.1) (hc : c.toInt = t.2.2) (hw : w.toInt = (l.length : Int) + 1) : FdS B (l ++ [t]) (up2 (up2 (up2 (up2 ig (B + 44) i1 a) (B + 44) i2 b) (B + 44) i3 c) (B + 43) 6 w) := by
  obtain rfl : i1 = 3 * l.length := by omega
  obtain rfl : i2 = 3 * l.length + 1 := by omega
  obtain rfl : i3 = 3 * l.length + 2 := by omega
  have e44 : ∀ j, up2 (up2 (up2 (up2 ig (B + 44) (3 * l.length) a) (B + 44) (3 * l.length + 1) b) (B + 44) (3 * l.length + 2) c) (B + 43) 6 w (B + 44) j = up2 (up2 (up2 ig (B + 44) (3 * l.length) a) (B + 44) (3 * l.length + 1) b) (B + 44) (3 * l.length + 2) c (B + 44) j := fun j => up2_a (by omega)
  refine ⟨by rw [up2_eq, hw, List.length_append, List.length_singleton]; omega, fun i hi h3 => ?_⟩
  rw [List.length_append, List.length_singleton] at hi
  rw [e44, e44, e44]
  by_cases e : i = l.length
  · subst e
    rw [List.getElem_append_right (by omega)]
    simp only [Nat.sub_self, List.getElem_cons_zero]
    rw [up2_eq, up2_j (show 3 * l.length + 1 ≠ 3 * l.length + 2 by omega), up2_eq, up2_j (show 3 * l.length ≠ 3 * l.length + 2 by omega), up2_j (show 3 * l.length ≠ 3 * l.length + 1 by omega), up2_eq]
    exact ⟨ha, hb, hc⟩
  · rw [List.getElem_append_left (by omega), up2_j (by omega), up2_j (by omega), up2_j (by omega), up2_j (by omega), up2_j (by omega), up2_j (by omega), up2_j (by omega), up2_j (by omega), up2_j (by omega)]
    exact h.2 i (by omega) h3
theorem FdS.more (h : FdS B l ig) (hl : 300 ≤ l.length) (hw : w.toInt = (l.length : Int) + 1) : FdS B (l ++ [t]) (up2 ig (B + 43) 6 w) := by
  refine ⟨by rw [up2_eq, hw, List.length_append, List.length_singleton]; omega, fun i hi h3 => ?_⟩
  rw [up2_a (by omega), up2_a (by omega), up2_a (by omega), List.getElem_append_left (by omega)]
  exact h.2 i (by omega) h3
end FNS
/-- what finding() tells -/
def FgR (l : List Fng) (x y z : Int) : Prop := (∃ (i : Nat) (h : i < l.length), i < 300 ∧ x = (i : Int) ∧ ((y = 0 ∧ z = (l[i]).1) ∨ (y = 1 ∧ z = (l[i]).2.1) ∨ (y = 2 ∧ z = (l[i]).2.2))) ∨ (¬ (0 ≤ x ∧ x < (l.length : Int) ∧ x < 300 ∧ 0 ≤ y ∧ y ≤ 2) ∧ z = -1)
theorem FgR.det {l : List Fng} {x y z u : Int} (h1 : FgR l x y z) (h2 : FgR l x y u) : z = u := by
  rcases h1 with ⟨i, hi, a1, a2, a3⟩ | ⟨a1, a2⟩ <;> rcases h2 with ⟨j, hj, b1, b2, b3⟩ | ⟨b1, b2⟩
  · have e : i = j := by omega
    subst e
    rcases a3 with ⟨a4, a5⟩ | ⟨a4, a5⟩ | ⟨a4, a5⟩ <;> rcases b3 with ⟨b4, b5⟩ | ⟨b4, b5⟩ | ⟨b4, b5⟩ <;> first | omega | (rw [a5, b5])
  · exact absurd ⟨by omega, by omega, by omega, by omega, by omega⟩ b1
  · exact absurd ⟨by omega, by omega, by omega, by omega, by omega⟩ a1
  · omega
/-! readers, one formula after another -/
def RdrI (B : Nat) (σ : Sg) (ig : sI) (x i : Nat) (z : Int) : Prop := ∃ m k : Nat, z = (k : Int) ∧ CntIs (fun q => Rd σ q x) m k ∧ (∀ j, j < i → fL B ig j < m) ∧ ∀ j, i ≤ j → j < fN B ig → m ≤ fL B ig j
section RDRI
variable {B x i : Nat} {σ : Sg} {ig : sI} {lg : sG} {z y : Int}
theorem RdrI.zero (h : z = 0) : RdrI B σ ig x 0 z := ⟨0, 0, h, CntIs.zero, fun j hj => absurd hj (Nat.not_lt_zero j), fun j _ _ => Nat.zero_le _⟩
theorem RdrI.no (hF : LkF B σ ig lg) {m n : Nat} (h1 : ∀ j, j < i → fL B ig j < m) (h2 : ∀ j, i ≤ j → j < fN B ig → n ≤ fL B ig j) : ∀ q, m ≤ q → q < n → ¬ Rd σ q x := fun q a b r => by
  obtain ⟨j, hj, e⟩ := hF.2.2.1 q r.f
  by_cases c : j < i
  · have := h1 j c; omega
  · have := h2 j (by omega) hj; omega
theorem RdrI.step (h : RdrI B σ ig x i z) (hF : LkF B σ ig lg) (hi : i < fN B ig) (hz : (y = z + 1 ∧ Rd σ (fL B ig i) x) ∨ (y = z ∧ ¬ Rd σ (fL B ig i) x)) : RdrI B σ ig x (i + 1) y := by
  obtain ⟨m, k, a1, a2, a3, a4⟩ := h
  have le := a4 i (Nat.le_refl i) hi
  have up : CntIs (fun q => Rd σ q x) (fL B ig i) k := by
    have q := a2.hi (fL B ig i - m) (fun q b1 b2 => RdrI.no hF a3 (i := i) (n := fL B ig i) (fun j c1 c2 => by
      rcases Nat.lt_or_ge i j with w | w
      · exact Nat.le_of_lt (hF.2.1 i j w c2)
      · have : j = i := by omega
        rw [this]; exact Nat.le_refl _) q b1 (by omega))
    rw [show m + (fL B ig i - m) = fL B ig i by omega] at q
    exact q
  have t1 : ∀ j, j < i + 1 → fL B ig j < fL B ig i + 1 := fun j hj => by
    by_cases c : j = i
    · rw [c]; omega
    · have := hF.2.1 j i (by omega) hi; omega
  have t2 : ∀ j, i + 1 ≤ j → j < fN B ig → fL B ig i + 1 ≤ fL B ig j := fun j hj h2 => hF.2.1 i j (by omega) h2
  rcases hz with ⟨e, r⟩ | ⟨e, r⟩
  · exact ⟨_, k + 1, by omega, up.sy r, t1, t2⟩
  · exact ⟨_, k, by omega, up.sn r, t1, t2⟩
theorem RdrI.fin (h : RdrI B σ ig x (fN B ig) z) (hF : LkF B σ ig lg) : CnZ (fun q => Rd σ q x) z := by
  obtain ⟨m, k, a1, a2, a3, a4⟩ := h
  by_cases c : m ≤ 288
  · have q := a2.hi (288 - m) (fun q b1 b2 => RdrI.no hF a3 (i := fN B ig) (n := 288) (fun j c1 c2 => absurd c2 (by omega)) q b1 (by omega))
    rw [show m + (288 - m) = 288 by omega] at q
    exact ⟨k, a1, q⟩
  · have q := CntIs.lo (n := 288) (d := m - 288) (by rw [show 288 + (m - 288) = m by omega]; exact a2) (fun q b1 b2 r => by have := r.1; omega)
    exact ⟨k, a1, q⟩
end RDRI
theorem bR_cw {f : Nat → Int64} {p w : Nat} : cnt (bR f p) (64 * (w + 1)) = cnt (bR f p) (64 * w) + cnt (Bt (f (5 * p + w))) 64 := by
  rw [show 64 * (w + 1) = 64 * w + 64 by omega, cnt.add]
  congr 1
  refine cnt.cg fun k hk => ?_
  unfold bR
  rw [show (64 * w + k) / 64 = w by omega, show (64 * w + k) % 64 = k by omega]
/-! what is kept -/
def KpC (B : Nat) (K : Nat → Prop) (ig : sI) : Prop := ∀ p, p < 288 → ((ig (B + 12) p).toInt = 1 ∧ K p) ∨ ((ig (B + 12) p).toInt = 0 ∧ ¬ K p)
def kpU (K : Nat → Prop) (x y : Int) : Nat → Prop := fun p => (onS x ∧ p = x.toNat ∧ y ≠ 0) ∨ (¬ (onS x ∧ p = x.toNat) ∧ K p)
section KPC
variable {B b : Nat} {K : Nat → Prop} {ig ig' : sI} {x y : Int} {v : Int32} {kd kd' : sK} {rg rg' : sR} {lg lg' : sG}
theorem KpC.off (h : KpC B K ig) (hx : ¬ (0 ≤ x ∧ x < 288)) : KpC B (kpU K x y) ig := fun p hp => by
  have e : kpU K x y p ↔ K p := ⟨fun w => w.elim (fun q => absurd q.1 hx) (fun q => q.2), fun w => Or.inr ⟨fun q => hx q.1, w⟩⟩
  rw [e]
  exact h p hp
theorem KpC.set (h : KpC B K ig) (hx : 0 ≤ x ∧ x < 288) (hv : v.toInt = y ∧ (y = 0 ∨ y = 1)) : KpC B (kpU K x y) (up2 ig (B + 12) x.toNat v) := fun p hp => by
  by_cases c : p = x.toNat
  · subst c
    rw [up2_eq]
    rcases hv.2 with e | e
    · exact Or.inr ⟨by omega, fun w => w.elim (fun q => q.2.2 e) (fun q => q.1 ⟨hx, rfl⟩)⟩
    · exact Or.inl ⟨by omega, Or.inl ⟨hx, rfl, by omega⟩⟩
  · have e : kpU K x y p ↔ K p := ⟨fun w => w.elim (fun q => absurd q.2.1 c) (fun q => q.2), fun w => Or.inr ⟨fun q => c q.2, w⟩⟩
    rw [up2_j c, e]
    exact h p hp
theorem KpC.nx (h : KpC B K ig) (hN : Nx b B none kd ig rg lg kd' ig' rg' lg') (hb : b.testBit 9 = true := by decide) : KpC B K ig' := fun p hp => by
  have r : ∀ c j, gO c j = 9 → ig' (B + c) j = ig (B + c) j := fun c j hc => hN.2.2.2.1 c j (by rw [hc]; exact hb)
  rw [r 12 p rfl]
  exact h p hp
theorem FdS.nx {l : List Fng} (h : FdS B l ig) (hN : Nx b B none kd ig rg lg kd' ig' rg' lg') (hb : b.testBit 7 = true := by decide) : FdS B l ig' := by
  have r : ∀ c j, gO c j = 7 → ig' (B + c) j = ig (B + c) j := fun c j hc => hN.2.2.2.1 c j (by rw [hc]; exact hb)
  exact h.ag (by rw [r 43 6 rfl]) (fun j => r 44 j rfl)
end KPC
theorem TwL.lg {B p : Nat} {σ : Sg} {w : Nat → Nat → Int} {l : List Int} {lg lg' : sG} (e1 : ∀ j, lg' (B + 41) j = lg (B + 41) j) (e2 : ∀ j, lg' (B + 42) j = lg (B + 42) j) : TwL B σ w p l lg' = TwL B σ w p l lg := by
  unfold TwL
  rw [show lg' (B + 41) = lg (B + 41) from funext e1, show lg' (B + 42) = lg (B + 42) from funext e2]
theorem TwO.of {B p : Nat} {lg lg' : sG} (e1 : ∀ j, lg' (B + 41) j = lg (B + 41) j) (e2 : ∀ j, lg' (B + 42) j = lg (B + 42) j) : TwO B p lg lg' := fun a b _ _ => by
  rw [show lg' (B + 41) = lg (B + 41) from funext e1, show lg' (B + 42) = lg (B + 42) from funext e2]
  exact ⟨rfl, rfl⟩
/-! sums that stop too soon, step by step -/
section SHN
variable {B : Nat} {σ : Sg} {ζ : Nat → Int} {x : Int} {M : Fm} {i : Nat} {l2 b r : List Fng}
theorem shB.on {s : St} (h : shB σ ζ x s) : 0 ≤ lstP s x + 12 := by
  rcases h.2.2.2.2 with w | w
  · exact (atC_k (by rw [w]; decide)).1
  · exact w.2.1.1
theorem shR.on {s : St} (h : shR σ ζ x s) : 0 ≤ lstP s x + 1 := by
  rcases h.2.2.2.2 with w | w
  · exact (atC_k (by rw [w]; decide)).1
  · exact w.2.1.1
theorem shL.next (h : shL σ ζ x M (List.countP is2 (M.take i)) l2) (hi : i < M.length) (hb : Op1 (shB σ ζ x (stp M (i : Int))) (3, x, lstP (stp M (i : Int)) x + 12) b) (hr : Op1 (shR σ ζ x (stp M (i : Int))) (3, x, lstP (stp M (i : Int)) x + 1) r) : shL σ ζ x M (List.countP is2 (M.take (i + 1))) (l2 ++ (b ++ r)) := by
  by_cases h2 : (stp M (i : Int)).1 = 2
  · rw [is2_t hi h2]
    exact ⟨l2, b, r, i, h, Or.inl ⟨i, hi, rfl, h2, rfl⟩, hb, hr, rfl⟩
  · rw [is2_f hi h2]
    have eb : b = [] := by
      rcases hb with ⟨w, _⟩ | ⟨_, w⟩
      · exact absurd w.1 h2
      · exact w
    have er : r = [] := by
      rcases hr with ⟨w, _⟩ | ⟨_, w⟩
      · exact absurd w.1 h2
      · exact w
    rw [eb, er, List.append_nil, List.append_nil]
    exact h
theorem shA.fin (h : shL σ ζ x M (List.countP is2 M) l2) : shA σ ζ x M l2 := by
  refine ⟨_, h, Or.inr ⟨rfl, fun l hl h2 e => ?_⟩⟩
  have a := is2_t hl h2
  have q : List.countP is2 (M.take (l + 1)) ≤ List.countP is2 M := by
    have := List.countP_append (p := is2) (l₁ := M.take (l + 1)) (l₂ := M.drop (l + 1))
    rw [List.take_append_drop] at this
    omega
  omega
theorem Op1.y {P : Prop} {t u : Fng} (h : P) (e : t = u) : Op1 P u [t] := Or.inl ⟨h, by rw [e]⟩
theorem Op1.n {P : Prop} {t : Fng} (h : ¬ P) : Op1 P t [] := Or.inr ⟨h, rfl⟩
theorem Op1.len {P : Prop} {t : Fng} {l : List Fng} (h : Op1 P t l) : l.length ≤ 1 := by
  rcases h with ⟨_, e⟩ | ⟨_, e⟩ <;> rw [e] <;> simp
theorem KpC.ag {K : Nat → Prop} {ig ig' : sI} (h : KpC B K ig) (e : ∀ p, ig' (B + 12) p = ig (B + 12) p) : KpC B K ig' := fun p hp => by rw [e]; exact h p hp
theorem TwR.ag {w : Nat → Nat → Int} {p : Nat} {lg lg' : sG} (h : TwR B w p lg) (e1 : ∀ j, lg' (B + 41) j = lg (B + 41) j) (e2 : ∀ j, lg' (B + 42) j = lg (B + 42) j) : TwR B w p lg' := fun c hc => by
  rw [show lg' (B + 41) = lg (B + 41) from funext e1, show lg' (B + 42) = lg (B + 42) from funext e2]
  exact h c hc
end SHN
set_option maxHeartbeats 4000000 in
set_option maxRecDepth 100000 in
theorem t_X5_readersOfE {τ : Tp} (l : Launch) (B : Nat) (D : va_G) (cA : Nat → ClassId) (kd : sK) (ig : sI) (rg : sR) (lg : sG) (sz : Nat) (x : Int32) (σ : Sg) (hF : LkF B σ ig lg) (hx0 : 0 ≤ x.toInt ∧ x.toInt < 288) (hI : IC τ B kd ig rg) : MC l B D cA yX5_readersOf cX5_readersOf 4 (some .int) (rL 2 0 0) [.ref (B + 15), .int x] kd ig rg lg sz (Pu kd ig rg lg sz (fun r => ∃ z : Int32, r = some (.int z) ∧ CnZ (fun q => Rd σ q x.toInt.toNat) z.toInt)) := by
  refine MC.of (own := RX5) (by decide +kernel) rfl (Nat.le_of_ble_eq_true rfl) ?_
  intro p e s m args below meth c ls C hr hlk hnm hw hsz hl
  have hx := C.1.1
  have hb := C.1.2.1
  have hown := C.1.2.2.2.1
  have hts := C.1.2.2.2.2
  have hl : lv_has ls 4 [(0, .ref (B + 15)), (1, .int x)] := hl
  have hsh := hI.sh
  have hrs := hI.rs
  refine lv_iconst (v := 0) hx hb dX5_readersOf_0 (by decide) (ti_c 0 (by decide) fun z1 hz1 => ?_)
  refine lv_istore_n (lv' := [(2, .int z1), (0, .ref (B + 15)), (1, .int x)]) hx hb dX5_readersOf_1 rfl hl (by decide) rfl (fun ls hl => ?_)
  refine lv_iconst (v := 0) hx hb dX5_readersOf_2 (by decide) (ti_c 0 (by decide) fun z2 hz2 => ?_)
  refine lv_istore_n (lv' := [(3, .int z2), (2, .int z1), (0, .ref (B + 15)), (1, .int x)]) hx hb dX5_readersOf_3 rfl hl (by decide) rfl (fun ls hl => ?_)
  have L4 : ∀ (n : Nat) (ls : Array Slot) (H : Heap) (locs : List Loc) (v3 : Int32) (v4 : Int32), lv_has ls 4 [(3, .int v3), (2, .int v4), (0, .ref (B + 15)), (1, .int x)] → WD B D cA s.heap kd ig rg lg H locs → H.size = sz → (0 ≤ v3.toInt) → (v3.toInt ≤ (ig (B + 15) 2).toInt) → (0 ≤ v4.toInt) → (v4.toInt ≤ v3.toInt) → (RdrI B σ ig x.toInt.toNat v3.toInt.toNat v4.toInt) → (ig (B + 15) 2).toInt - v3.toInt < (n : Int) → W p l e (rL 2 0 0) s m args below meth c H locs 0 0 (MQ below (QcW B D cA (Pu kd ig rg lg sz (fun r => ∃ z : Int32, r = some (.int z) ∧ CnZ (fun q => Rd σ q x.toInt.toNat) z.toInt))) args s 0 0 (fun q => B ≤ q)) (F0 m 4 ls []) := by
    intro n4
    induction n4 with
    | zero => intro ls H locs v3 v4 hl hw hsz g4_0 g4_1 g4_2 g4_3 g4_4 hmu; exact absurd hmu (by omega)
    | succ n4 ih4 =>
      intro ls H locs v3 v4 hl hw hsz g4_0 g4_1 g4_2 g4_3 g4_4 hmu
      refine lv_iload_n hx hb dX5_readersOf_4 rfl (lv_at hl 0 rfl) ?_
      refine lv_aload_n hx hb dX5_readersOf_5 rfl (lv_at hl 2 rfl) ?_
      refine r_get C hw (hsh 15 _ rfl) fl_X5_58 (oV_i rfl) dX5_readersOf_6 (ti_c (ig (B + 15) 2).toInt rfl fun z5 hz5 => ?_)
      have k6 : 0 ≤ (ig (B + 15) 2).toInt ∧ (ig (B + 15) 2).toInt ≤ 288 := hI.i 15 2 (by decide)
      refine b_ge (tgt := 38) hx hb dX5_readersOf_9 (by decide) (fun c9 => ?_) (fun c9 => ?_)
      · refine lv_iload_n hx hb dX5_readersOf_38 rfl (lv_at hl 1 rfl) ?_
        exact r_iret C hw hr hlk rfl (Nat.le_of_ble_eq_true rfl) (Nat.le_of_ble_eq_true rfl) dX5_readersOf_39 ⟨rfl, rfl, rfl, rfl, hsz, ⟨_, rfl, (RdrI.fin (by have q9 := g4_4; rw [show v3.toInt.toNat = fN B ig by unfold fN; omega] at q9; exact q9) hF)⟩⟩
      · refine lv_aload_n hx hb dX5_readersOf_12 rfl (lv_at hl 2 rfl) ?_
        refine r_get C hw (hsh 15 _ rfl) fl_X5_23 (oV_r rfl (hrs (15, 4, 18) (by decide))) dX5_readersOf_13 ?_
        refine lv_aload_n hx hb dX5_readersOf_16 rfl (lv_at hl 2 rfl) ?_
        refine r_get C hw (hsh 15 _ rfl) fl_X5_15 (oV_r rfl (hrs (15, 1, 16) (by decide))) dX5_readersOf_17 ?_
        refine lv_iload_n hx hb dX5_readersOf_20 rfl (lv_at hl 0 rfl) ?_
        refine r_iald C hw (hsh 16 _ rfl) (by omega) (by omega) dX5_readersOf_21 (ti_c (ig (B + 16) v3.toInt.toNat).toInt rfl fun z7 hz7 => ?_)
        have k8 : 0 ≤ (ig (B + 16) (v3.toInt.toNat)).toInt ∧ (ig (B + 16) (v3.toInt.toNat)).toInt ≤ 287 := hI.i 16 (v3.toInt.toNat) (by decide)
        have hfk : fL B ig v3.toInt.toNat = z7.toInt.toNat := by unfold fL; rw [← hz7]
        have hfo9 := hF.1 v3.toInt.toNat (by unfold fN; omega)
        have hf1 := hfo9.1
        refine lv_iload_n hx hb dX5_readersOf_22 rfl (lv_at hl 3 rfl) ?_
        refine r_callN (As := [.ref (B + 18), .int z7, .int x]) (rest := []) C hw (t_X11_hasBitE l B D cA kd ig rg lg _ 18 (Or.inl rfl) z7 x  hI) sn_X5_85 rfl hl.1 rfl (Nat.le_of_ble_eq_true rfl) ⟨Nat.le_of_ble_eq_true rfl, Nat.le_of_ble_eq_true rfl⟩ ⟨Nat.le_of_ble_eq_true rfl, Nat.le_of_ble_eq_true rfl⟩ dX5_readersOf_23 (fun r13 kd9 ig10 rg11 lg12 H locs hw hH hp14 => ?_)
        obtain ⟨rfl, rfl, rfl, rfl, hzhp14, hrhp14⟩ := hp14
        have hsz := hzhp14.trans hsz
        obtain ⟨z15, rfl, hz15⟩ := hrhp14
        refine z_eq (tgt := 32) hx hb dX5_readersOf_26 (by decide) (fun c26 => ?_) (fun c26 => ?_)
        · refine tc_inc hx hb dX5_readersOf_32 hl (k := 0) rfl (by decide) (by decide) (fun z16 hz16 ls hl => ?_)
          first | replace hz16 := hz16 (by omega) | clear hz16
          have hl : lv_has ls 4 [(3, .int z16), (2, .int v4), (0, .ref (B + 15)), (1, .int x)] := hl
          refine lv_goto (tgt := 4) hx hb dX5_readersOf_35 (by decide) ?_
          exact ih4 ls H locs z16 v4 (lv_sub hl [0, 1, 2, 3] rfl) hw hsz (by omega) (by omega) (by omega) (by omega) (by rw [show z16.toInt.toNat = v3.toInt.toNat + 1 by omega]; exact RdrI.step g4_4 hF (by unfold fN; omega) (by rw [hfk]; exact (Or.inr ⟨by omega, fun q9 => by0 hz15 (by omega) ⟨by omega, by omega, (hF.2.2.2.1 _ _ (by omega) (by omega)).mpr q9⟩⟩))) (by omega)
        · refine tc_inc hx hb dX5_readersOf_29 hl (k := 1) rfl (by decide) (by decide) (fun z17 hz17 ls hl => ?_)
          first | replace hz17 := hz17 (by omega) | clear hz17
          have hl : lv_has ls 4 [(2, .int z17), (3, .int v3), (0, .ref (B + 15)), (1, .int x)] := hl
          refine tc_inc hx hb dX5_readersOf_32 hl (k := 1) rfl (by decide) (by decide) (fun z18 hz18 ls hl => ?_)
          first | replace hz18 := hz18 (by omega) | clear hz18
          have hl : lv_has ls 4 [(3, .int z18), (2, .int z17), (0, .ref (B + 15)), (1, .int x)] := hl
          refine lv_goto (tgt := 4) hx hb dX5_readersOf_35 (by decide) ?_
          exact ih4 ls H locs z18 z17 (lv_sub hl [0, 1, 2, 3] rfl) hw hsz (by omega) (by omega) (by omega) (by omega) (by rw [show z18.toInt.toNat = v3.toInt.toNat + 1 by omega]; exact RdrI.step g4_4 hF (by unfold fN; omega) (by rw [hfk]; exact (Or.inl ⟨by omega, (by have q9 := (by1 hz15 (by omega)); obtain ⟨q7, q8, q6⟩ := q9; exact (hF.2.2.2.1 _ _ (by omega) (by omega)).mp q6)⟩))) (by omega)
  exact L4 (((ig (B + 15) 2).toInt - z2.toInt) + 1).toNat ls s.heap [] z2 z1 (lv_sub hl [0, 1, 2, 3] rfl) hw hsz (by omega) (by have q9 : 0 ≤ (ig (B + 15) 2).toInt ∧ (ig (B + 15) 2).toInt ≤ 288 := hI.i 15 2 (by decide); omega) (by omega) (by omega) (by rw [show z2.toInt.toNat = 0 by omega]; exact RdrI.zero (by omega)) (by omega)

set_option maxHeartbeats 4000000 in
set_option maxRecDepth 100000 in
theorem t_X5_cellsReadByE {τ : Tp} (l : Launch) (B : Nat) (D : va_G) (cA : Nat → ClassId) (kd : sK) (ig : sI) (rg : sR) (lg : sG) (sz : Nat) (x : Int32) (σ : Sg) (hF : LkF B σ ig lg) (hx0 : 0 ≤ x.toInt ∧ x.toInt < 288) (hI : IC τ B kd ig rg) : MC l B D cA yX5_cellsReadBy cX5_cellsReadBy 4 (some .int) (rL 1 0 0) [.ref (B + 15), .int x] kd ig rg lg sz (Pu kd ig rg lg sz (fun r => ∃ z : Int32, r = some (.int z) ∧ CnZ (fun q => Rd σ x.toInt.toNat q) z.toInt)) := by
  refine MC.of (own := RX5) (by decide +kernel) rfl (Nat.le_of_ble_eq_true rfl) ?_
  intro p e s m args below meth c ls C hr hlk hnm hw hsz hl
  have hx := C.1.1
  have hb := C.1.2.1
  have hown := C.1.2.2.2.1
  have hts := C.1.2.2.2.2
  have hl : lv_has ls 4 [(0, .ref (B + 15)), (1, .int x)] := hl
  have hsh := hI.sh
  have hrs := hI.rs
  refine lv_iconst (v := 0) hx hb dX5_cellsReadBy_0 (by decide) (ti_c 0 (by decide) fun z1 hz1 => ?_)
  refine lv_istore_n (lv' := [(2, .int z1), (0, .ref (B + 15)), (1, .int x)]) hx hb dX5_cellsReadBy_1 rfl hl (by decide) rfl (fun ls hl => ?_)
  refine lv_iload_n hx hb dX5_cellsReadBy_2 rfl (lv_at hl 2 rfl) ?_
  refine r_callN (As := [.int x]) (rest := []) C hw (t_X11_onSheet l B D cA kd ig rg lg _ x  hI) sn_X5_75 rfl hl.1 rfl (Nat.le_of_ble_eq_true rfl) ⟨Nat.le_of_ble_eq_true rfl, Nat.le_of_ble_eq_true rfl⟩ ⟨Nat.le_of_ble_eq_true rfl, Nat.le_of_ble_eq_true rfl⟩ dX5_cellsReadBy_3 (fun r6 kd2 ig3 rg4 lg5 H locs hw hH hp7 => ?_)
  obtain ⟨rfl, rfl, rfl, rfl, hzhp7, hrhp7⟩ := hp7
  have hsz := hzhp7.trans hsz
  obtain ⟨z8, rfl, hz8⟩ := hrhp7
  refine z_eq (tgt := 38) hx hb dX5_cellsReadBy_6 (by decide) (fun c6 => ?_) (fun c6 => ?_)
  · exact absurd c6 (by omega)
  · refine lv_iconst (v := 0) hx hb dX5_cellsReadBy_9 (by decide) (ti_c 0 (by decide) fun z9 hz9 => ?_)
    refine lv_istore_n (lv' := [(3, .int z9), (2, .int z1), (0, .ref (B + 15)), (1, .int x)]) hx hb dX5_cellsReadBy_10 rfl hl (by decide) rfl (fun ls hl => ?_)
    have L11 : ∀ (n : Nat) (ls : Array Slot) (H : Heap) (locs : List Loc) (v10 : Int32) (v11 : Int32), lv_has ls 4 [(3, .int v10), (2, .int v11), (0, .ref (B + 15)), (1, .int x)] → WD B D cA s.heap kd ig rg lg H locs → H.size = sz → (0 ≤ v10.toInt) → (v10.toInt ≤ 5) → (v11.toInt = (cnt (bR (lg (B + 18)) x.toInt.toNat) (64 * v10.toInt.toNat) : Int)) → (0 ≤ v11.toInt) → (v11.toInt ≤ 64 * v10.toInt) → 5 - v10.toInt < (n : Int) → W p l e (rL 1 0 0) s m args below meth c H locs 0 0 (MQ below (QcW B D cA (Pu kd ig rg lg sz (fun r => ∃ z : Int32, r = some (.int z) ∧ CnZ (fun q => Rd σ x.toInt.toNat q) z.toInt))) args s 0 0 (fun q => B ≤ q)) (F0 m 11 ls []) := by
      intro n11
      induction n11 with
      | zero => intro ls H locs v10 v11 hl hw hsz g11_0 g11_1 g11_2 g11_3 g11_4 hmu; exact absurd hmu (by omega)
      | succ n11 ih11 =>
        intro ls H locs v10 v11 hl hw hsz g11_0 g11_1 g11_2 g11_3 g11_4 hmu
        refine lv_iload_n hx hb dX5_cellsReadBy_11 rfl (lv_at hl 0 rfl) ?_
        refine lv_iconst (v := 5) hx hb dX5_cellsReadBy_12 (by decide) (ti_c 5 (by decide) fun z12 hz12 => ?_)
        refine b_ge (tgt := 38) hx hb dX5_cellsReadBy_13 (by decide) (fun c13 => ?_) (fun c13 => ?_)
        · refine lv_iload_n hx hb dX5_cellsReadBy_38 rfl (lv_at hl 1 rfl) ?_
          exact r_iret C hw hr hlk rfl (Nat.le_of_ble_eq_true rfl) (Nat.le_of_ble_eq_true rfl) dX5_cellsReadBy_39 ⟨rfl, rfl, rfl, rfl, hsz, ⟨_, rfl, (by have q9 := g11_2; rw [show v10.toInt.toNat = 5 by omega] at q9; exact ⟨_, q9, CntIs.lo (n := 288) (d := 32) ⟨_, fun q8 hq8 => hF.2.2.2.1 _ q8 (by omega) (by omega), rfl⟩ (fun q8 h1 h2 h3 => by have := hF.2.2.2.2 _ _ h3; omega)⟩)⟩⟩
        · refine lv_iload_n hx hb dX5_cellsReadBy_16 rfl (lv_at hl 1 rfl) ?_
          refine lv_aload_n hx hb dX5_cellsReadBy_17 rfl (lv_at hl 2 rfl) ?_
          refine r_get C hw (hsh 15 _ rfl) fl_X5_23 (oV_r rfl (hrs (15, 4, 18) (by decide))) dX5_cellsReadBy_18 ?_
          refine lv_iload_n hx hb dX5_cellsReadBy_21 rfl (lv_at hl 3 rfl) ?_
          refine lv_iconst (v := 5) hx hb dX5_cellsReadBy_22 (by decide) (ti_c 5 (by decide) fun z13 hz13 => ?_)
          refine lv_imul hx hb dX5_cellsReadBy_23 (tc_mulR 5 hz13 fun z14 hz14 => ?_)
          first | replace hz14 := hz14 (by omega) | clear hz14
          refine lv_iload_n hx hb dX5_cellsReadBy_24 rfl (lv_at hl 0 rfl) ?_
          refine lv_iadd hx hb dX5_cellsReadBy_25 (tc_add fun z15 hz15 => ?_)
          first | replace hz15 := hz15 (by omega) | clear hz15
          refine r_lald C hw (hsh 18 _ rfl) (by omega) (by omega) dX5_cellsReadBy_26 (lv_topl fun x16 hx16 => ?_)
          refine r_callS (As := [.long x16]) (rest := [.int v11]) C hw (t_J13_bitCount_95d88E l B D cA kd ig rg lg _ x16  hI) ss_X5_79 rfl hl.1 rfl (Nat.le_of_ble_eq_true rfl) ⟨Nat.le_of_ble_eq_true rfl, Nat.le_of_ble_eq_true rfl⟩ ⟨Nat.le_of_ble_eq_true rfl, Nat.le_of_ble_eq_true rfl⟩ dX5_cellsReadBy_27 (fun r21 kd17 ig18 rg19 lg20 H locs hw hH hp22 => ?_)
          obtain ⟨rfl, rfl, rfl, rfl, hzhp22, hrhp22⟩ := hp22
          have hsz := hzhp22.trans hsz
          obtain ⟨z23, rfl, hz23⟩ := hrhp22
          have hcw := bR_cw (f := lg (B + 18)) (p := x.toInt.toNat) (w := v10.toInt.toNat)
          have hz9 : (cnt (Bt (lg (B + 18) (5 * x.toInt.toNat + v10.toInt.toNat))) 64 : Int) = z23.toInt := by rw [hz23, hx16, show z15.toInt.toNat = 5 * x.toInt.toNat + v10.toInt.toNat by omega]
          have hc64 := cnt.le (Bt (lg (B + 18) (5 * x.toInt.toNat + v10.toInt.toNat))) 64
          refine lv_iadd hx hb dX5_cellsReadBy_30 (tc_add fun z24 hz24 => ?_)
          first | replace hz24 := hz24 (by omega) | clear hz24
          refine lv_istore_n (lv' := [(2, .int z24), (3, .int v10), (0, .ref (B + 15)), (1, .int x)]) hx hb dX5_cellsReadBy_31 rfl hl (by decide) rfl (fun ls hl => ?_)
          refine tc_inc hx hb dX5_cellsReadBy_32 hl (k := 1) rfl (by decide) (by decide) (fun z25 hz25 ls hl => ?_)
          first | replace hz25 := hz25 (by omega) | clear hz25
          have hl : lv_has ls 4 [(3, .int z25), (2, .int z24), (0, .ref (B + 15)), (1, .int x)] := hl
          refine lv_goto (tgt := 11) hx hb dX5_cellsReadBy_35 (by decide) ?_
          exact ih11 ls H locs z25 z24 (lv_sub hl [0, 1, 2, 3] rfl) hw hsz (by omega) (by omega) (by rw [show z25.toInt.toNat = v10.toInt.toNat + 1 by omega, hcw]; omega) (by omega) (by omega) (by omega)
    exact L11 ((5 - z9.toInt) + 1).toNat ls H locs z9 z1 (lv_sub hl [0, 1, 2, 3] rfl) hw hsz (by omega) (by omega) (by rw [show z9.toInt.toNat = 0 by omega]; show _ = ((0 : Nat) : Int); omega) (by omega) (by omega) (by omega)

set_option maxHeartbeats 4000000 in
set_option maxRecDepth 100000 in
theorem t_X6_isKeptE {τ : Tp} (l : Launch) (B : Nat) (D : va_G) (cA : Nat → ClassId) (kd : sK) (ig : sI) (rg : sR) (lg : sG) (sz : Nat) (x : Int32) (K : Nat → Prop) (hK : KpC B K ig) (hx0 : 0 ≤ x.toInt ∧ x.toInt < 288) (hI : IC τ B kd ig rg) : MC l B D cA yX6_isKept cX6_isKept 2 (some .boolean) (rL 1 0 0) [.ref (B + 9), .int x] kd ig rg lg sz (Pu kd ig rg lg sz (fun r => ∃ z : Int32, r = some (.int z) ∧ ((z.toInt = 1 ∧ K x.toInt.toNat) ∨ (z.toInt = 0 ∧ ¬ K x.toInt.toNat)))) := by
  refine MC.of (own := RX6) (by decide +kernel) rfl (Nat.le_of_ble_eq_true rfl) ?_
  intro p e s m args below meth c ls C hr hlk hnm hw hsz hl
  have hx := C.1.1
  have hb := C.1.2.1
  have hown := C.1.2.2.2.1
  have hts := C.1.2.2.2.2
  have hl : lv_has ls 2 [(0, .ref (B + 9)), (1, .int x)] := hl
  have hsh := hI.sh
  have hrs := hI.rs
  refine lv_iload_n hx hb dX6_isKept_0 rfl (lv_at hl 1 rfl) ?_
  refine r_callN (As := [.int x]) (rest := []) C hw (t_X11_onSheet l B D cA kd ig rg lg _ x  hI) sn_X6_42 rfl hl.1 rfl (Nat.le_of_ble_eq_true rfl) ⟨Nat.le_of_ble_eq_true rfl, Nat.le_of_ble_eq_true rfl⟩ ⟨Nat.le_of_ble_eq_true rfl, Nat.le_of_ble_eq_true rfl⟩ dX6_isKept_1 (fun r5 kd1 ig2 rg3 lg4 H locs hw hH hp6 => ?_)
  obtain ⟨rfl, rfl, rfl, rfl, hzhp6, hrhp6⟩ := hp6
  have hsz := hzhp6.trans hsz
  obtain ⟨z7, rfl, hz7⟩ := hrhp6
  refine z_eq (tgt := 20) hx hb dX6_isKept_4 (by decide) (fun c4 => ?_) (fun c4 => ?_)
  · exact absurd c4 (by omega)
  · refine lv_aload_n hx hb dX6_isKept_7 rfl (lv_at hl 0 rfl) ?_
    refine r_get C hw (hsh 9 _ rfl) fl_X6_24 (oV_r rfl (hrs (9, 2, 12) (by decide))) dX6_isKept_8 ?_
    refine lv_iload_n hx hb dX6_isKept_11 rfl (lv_at hl 1 rfl) ?_
    refine r_zald C hw (hsh 12 _ rfl) (by omega) (by omega) dX6_isKept_12 (ti_c (ig (B + 12) x.toInt.toNat).toInt rfl fun z8 hz8 => ?_)
    refine z_eq (tgt := 20) hx hb dX6_isKept_13 (by decide) (fun c13 => ?_) (fun c13 => ?_)
    · refine lv_iconst (v := 0) hx hb dX6_isKept_20 (by decide) (ti_c 0 (by decide) fun z9 hz9 => ?_)
      exact r_iret C hw hr hlk (nar_b (by omega)) (Nat.le_of_ble_eq_true rfl) (Nat.le_of_ble_eq_true rfl) dX6_isKept_21 ⟨rfl, rfl, rfl, rfl, hsz, ⟨_, rfl, (by rcases hK x.toInt.toNat (by omega) with ⟨q9, w9⟩ | ⟨q9, w9⟩; exact absurd hz8 (by omega); exact Or.inr ⟨by omega, w9⟩)⟩⟩
    · refine lv_iconst (v := 1) hx hb dX6_isKept_16 (by decide) (ti_c 1 (by decide) fun z10 hz10 => ?_)
      refine lv_goto (tgt := 21) hx hb dX6_isKept_17 (by decide) ?_
      exact r_iret C hw hr hlk (nar_b (by omega)) (Nat.le_of_ble_eq_true rfl) (Nat.le_of_ble_eq_true rfl) dX6_isKept_21 ⟨rfl, rfl, rfl, rfl, hsz, ⟨_, rfl, (by rcases hK x.toInt.toNat (by omega) with ⟨q9, w9⟩ | ⟨q9, w9⟩; exact Or.inl ⟨by omega, w9⟩; exact absurd hz8 (by omega))⟩⟩

set_option maxHeartbeats 4000000 in
set_option maxRecDepth 100000 in
theorem t_X6_setKeptE {τ : Tp} (l : Launch) (B : Nat) (D : va_G) (cA : Nat → ClassId) (kd : sK) (ig : sI) (rg : sR) (lg : sG) (sz : Nat) (x : Int32) (y : Int32) (hy : y.toInt = 0 ∨ y.toInt = 1) (K : Nat → Prop) (hK : KpC B K ig) (hI : IC τ B kd ig rg) : MC l B D cA yX6_setKept cX6_setKept 3 (some .boolean) (rL 1 0 0) [.ref (B + 9), .int x, .int y] kd ig rg lg sz (PI 510 τ B none kd ig rg lg (fun r kd' ig' rg' lg' => ∃ z : Int32, r = some (.int z) ∧ ((KpC B (kpU K x.toInt y.toInt) ig' ∧ (z.toInt = 0 ∨ z.toInt = 1)) ∧ Fo B [12] ig lg ig' lg'))) := by
  refine MC.of (own := RX6) (by decide +kernel) rfl (Nat.le_of_ble_eq_true rfl) ?_
  intro p e s m args below meth c ls C hr hlk hnm hw hsz hl
  have hx := C.1.1
  have hb := C.1.2.1
  have hown := C.1.2.2.2.1
  have hts := C.1.2.2.2.2
  have hl : lv_has ls 3 [(0, .ref (B + 9)), (1, .int x), (2, .int y)] := hl
  have hN : Nx 510 B none kd ig rg lg kd ig rg lg := Nx.rf
  have hsh := hI.sh
  have hrs := hI.rs
  have hO : Fo B [12] ig lg ig lg := Fo.rf
  refine lv_iload_n hx hb dX6_setKept_0 rfl (lv_at hl 1 rfl) ?_
  refine r_callN (As := [.int x]) (rest := []) C hw (t_X11_onSheet l B D cA kd ig rg lg _ x  hI) sn_X6_42 rfl hl.1 rfl (Nat.le_of_ble_eq_true rfl) ⟨Nat.le_of_ble_eq_true rfl, Nat.le_of_ble_eq_true rfl⟩ ⟨Nat.le_of_ble_eq_true rfl, Nat.le_of_ble_eq_true rfl⟩ dX6_setKept_1 (fun r5 kd1 ig2 rg3 lg4 H locs hw hH hp6 => ?_)
  obtain ⟨rfl, rfl, rfl, rfl, hzhp6, hrhp6⟩ := hp6
  obtain ⟨z7, rfl, hz7⟩ := hrhp6
  refine z_ne (tgt := 9) hx hb dX6_setKept_4 (by decide) (fun c4 => ?_) (fun c4 => ?_)
  · refine lv_aload_n hx hb dX6_setKept_9 rfl (lv_at hl 0 rfl) ?_
    refine r_get C hw (hsh 9 _ rfl) fl_X6_24 (oV_r rfl (hrs (9, 2, 12) (by decide))) dX6_setKept_10 ?_
    refine lv_iload_n hx hb dX6_setKept_13 rfl (lv_at hl 1 rfl) ?_
    refine lv_iload_n hx hb dX6_setKept_14 rfl (lv_at hl 2 rfl) ?_
    refine r_zast C hw (hsh 12 _ rfl) (by omega) (by omega) (nar_b (by omega)) dX6_setKept_15 (fun H locs hH hw => ?_)
    have hO0 := hO
    obtain ⟨ig8, eig8⟩ : ∃ f, f = up2 ig (B + 12) x.toInt.toNat y := ⟨_, rfl⟩
    rw [← eig8] at hw
    have hN : Nx 510 B none kd ig rg lg kd ig8 rg lg := by rw [eig8]; exact hN.pi (by omega)
    have hI : IC τ B kd ig8 rg := by rw [eig8]; exact hI.pi (show okR none _ from trivial)
    have hO : Fo B [12] ig lg ig8 lg := by rw [eig8]; exact hO0.pi (by decide)
    clear hO0
    have kp9 : KpC B (kpU K x.toInt y.toInt) ig8 := by rw [eig8]; exact KpC.set hK (by omega) (by omega)
    refine lv_iconst (v := 1) hx hb dX6_setKept_16 (by decide) (ti_c 1 (by decide) fun z9 hz9 => ?_)
    exact r_iret C hw hr hlk (nar_b (by omega)) (Nat.le_of_ble_eq_true rfl) (Nat.le_of_ble_eq_true rfl) dX6_setKept_17 ⟨hI, hN, ⟨_, rfl, ⟨⟨kp9, by omega⟩, hO⟩⟩⟩
  · refine lv_iconst (v := 0) hx hb dX6_setKept_7 (by decide) (ti_c 0 (by decide) fun z10 hz10 => ?_)
    exact r_iret C hw hr hlk (nar_b (by omega)) (Nat.le_of_ble_eq_true rfl) (Nat.le_of_ble_eq_true rfl) dX6_setKept_8 ⟨hI, hN, ⟨_, rfl, ⟨⟨KpC.off hK (by omega), by omega⟩, hO⟩⟩⟩

set_option maxHeartbeats 4000000 in
set_option maxRecDepth 100000 in
theorem t_X11_keepC {τ : Tp} (l : Launch) (B : Nat) (D : va_G) (cA : Nat → ClassId) (kd : sK) (ig : sI) (rg : sR) (lg : sG) (sz : Nat) (x : Int32) (y : Int32) (hy : y.toInt = 0 ∨ y.toInt = 1) (K : Nat → Prop) (hK : KpC B K ig) (hI : IC τ B kd ig rg) : MC l B D cA yX11_keep cX11_keep 3 (some .boolean) (rL 2 0 0) [.ref (B + 0), .int x, .int y] kd ig rg lg sz (PI 510 τ B none kd ig rg lg (fun r kd' ig' rg' lg' => ∃ z : Int32, r = some (.int z) ∧ (KpC B (kpU K x.toInt y.toInt) ig' ∧ Fo B [12] ig lg ig' lg'))) := by
  refine MC.of (own := RX11) (by decide +kernel) rfl (Nat.le_of_ble_eq_true rfl) ?_
  intro p e s m args below meth c ls C hr hlk hnm hw hsz hl
  have hx := C.1.1
  have hb := C.1.2.1
  have hown := C.1.2.2.2.1
  have hts := C.1.2.2.2.2
  have hl : lv_has ls 3 [(0, .ref (B + 0)), (1, .int x), (2, .int y)] := hl
  have hN : Nx 510 B none kd ig rg lg kd ig rg lg := Nx.rf
  have hsh := hI.sh
  have hrs := hI.rs
  have hO : Fo B [12] ig lg ig lg := Fo.rf
  refine lv_aload_n hx hb dX11_keep_0 rfl (lv_at hl 0 rfl) ?_
  refine r_get C hw (hsh 0 _ rfl) fl_X11_19 (oV_r rfl (hrs (0, 1, 9) (by decide))) dX11_keep_1 ?_
  refine lv_iload_n hx hb dX11_keep_4 rfl (lv_at hl 1 rfl) ?_
  refine lv_iload_n hx hb dX11_keep_5 rfl (lv_at hl 2 rfl) ?_
  refine r_callV (As := [.int x, .int y]) (rest := []) C hw (t_X6_setKeptE l B D cA kd ig rg lg _ x y hy K hK hI) sv_X11_136 (hsh 9 _ rfl) rfl hl.1 rfl (Nat.le_of_ble_eq_true rfl) ⟨Nat.le_of_ble_eq_true rfl, Nat.le_of_ble_eq_true rfl⟩ ⟨Nat.le_of_ble_eq_true rfl, Nat.le_of_ble_eq_true rfl⟩ dX11_keep_6 (fun r5 kd1 ig2 rg3 lg4 H locs hw hH hp6 => ?_)
  obtain ⟨hI, hchp6, hrhp6⟩ := hp6
  have hN := hN.tr hchp6
  have hsh := hI.sh
  have hrs := hI.rs
  obtain ⟨z7, rfl, hz7⟩ := hrhp6
  obtain ⟨phz7, ohz7⟩ := hz7
  have hO := hO.tr ohz7
  have zb9 := phz7.2
  exact r_iret C hw hr hlk (nar_b (by omega)) (Nat.le_of_ble_eq_true rfl) (Nat.le_of_ble_eq_true rfl) dX11_keep_9 ⟨hI, hN, ⟨_, rfl, ⟨phz7.1, hO⟩⟩⟩

set_option maxHeartbeats 4000000 in
set_option maxRecDepth 100000 in
theorem t_X8_forgetTwiceOfE {τ : Tp} (l : Launch) (B : Nat) (D : va_G) (cA : Nat → ClassId) (kd : sK) (ig : sI) (rg : sR) (lg : sG) (sz : Nat) (x : Int32) (hx0 : 0 ≤ x.toInt ∧ x.toInt < 288) (hI : IC τ B kd ig rg) : MC l B D cA yX8_forgetTwiceOf cX8_forgetTwiceOf 3 none (rL 0 0 0) [.ref (B + 37), .int x] kd ig rg lg sz (PI 958 τ B none kd ig rg lg (fun r kd' ig' rg' lg' => (r = none ∧ (((∀ j, j < 5 → lg' (B + 41) (5 * x.toInt.toNat + j) = 0 ∧ lg' (B + 42) (5 * x.toInt.toNat + j) = 0) ∧ TwO B x.toInt.toNat lg lg') ∧ Fo B [41, 42] ig lg ig' lg')))) := by
  refine MC.of (own := RX8) (by decide +kernel) rfl (Nat.le_of_ble_eq_true rfl) ?_
  intro p e s m args below meth c ls C hr hlk hnm hw hsz hl
  have hx := C.1.1
  have hb := C.1.2.1
  have hown := C.1.2.2.2.1
  have hts := C.1.2.2.2.2
  have hl : lv_has ls 3 [(0, .ref (B + 37)), (1, .int x)] := hl
  have hN : Nx 958 B none kd ig rg lg kd ig rg lg := Nx.rf
  have hsh := hI.sh
  have hrs := hI.rs
  have hO : Fo B [41, 42] ig lg ig lg := Fo.rf
  refine lv_iconst (v := 0) hx hb dX8_forgetTwiceOf_0 (by decide) (ti_c 0 (by decide) fun z1 hz1 => ?_)
  refine lv_istore_n (lv' := [(2, .int z1), (0, .ref (B + 37)), (1, .int x)]) hx hb dX8_forgetTwiceOf_1 rfl hl (by decide) rfl (fun ls hl => ?_)
  have L2 : ∀ (n : Nat) (ls : Array Slot) (H : Heap) (locs : List Loc) (kd3 : sK) (ig4 : sI) (rg5 : sR) (lg6 : sG) (v2 : Int32), lv_has ls 3 [(2, .int v2), (0, .ref (B + 37)), (1, .int x)] → WD B D cA s.heap kd3 ig4 rg5 lg6 H locs → IC τ B kd3 ig4 rg5 → Nx 958 B none kd ig rg lg kd3 ig4 rg5 lg6 → (0 ≤ v2.toInt) → (v2.toInt ≤ 5) → ((∀ j, j < v2.toInt.toNat → lg6 (B + 41) (5 * x.toInt.toNat + j) = 0 ∧ lg6 (B + 42) (5 * x.toInt.toNat + j) = 0) ∧ ∀ j, ¬ (5 * x.toInt.toNat ≤ j ∧ j < 5 * x.toInt.toNat + 5) → lg6 (B + 41) j = lg (B + 41) j ∧ lg6 (B + 42) j = lg (B + 42) j) → (Fo B [41, 42] ig lg ig4 lg6) → 5 - v2.toInt < (n : Int) → W p l e (rL 0 0 0) s m args below meth c H locs 0 0 (MQ below (QcW B D cA (PI 958 τ B none kd ig rg lg (fun r kd' ig' rg' lg' => (r = none ∧ (((∀ j, j < 5 → lg' (B + 41) (5 * x.toInt.toNat + j) = 0 ∧ lg' (B + 42) (5 * x.toInt.toNat + j) = 0) ∧ TwO B x.toInt.toNat lg lg') ∧ Fo B [41, 42] ig lg ig' lg'))))) args s 0 0 (fun q => B ≤ q)) (F0 m 2 ls []) := by
    intro n2
    induction n2 with
    | zero => intro ls H locs kd3 ig4 rg5 lg6 v2 hl hw hI hN g2_0 g2_1 g2_2 g2_3 hmu; exact absurd hmu (by omega)
    | succ n2 ih2 =>
      intro ls H locs kd3 ig4 rg5 lg6 v2 hl hw hI hN g2_0 g2_1 g2_2 g2_3 hmu
      have hsh := hI.sh
      have hrs := hI.rs
      have hO := g2_3
      refine lv_iload_n hx hb dX8_forgetTwiceOf_2 rfl (lv_at hl 0 rfl) ?_
      refine lv_iconst (v := 5) hx hb dX8_forgetTwiceOf_3 (by decide) (ti_c 5 (by decide) fun z7 hz7 => ?_)
      refine b_ge (tgt := 35) hx hb dX8_forgetTwiceOf_4 (by decide) (fun c4 => ?_) (fun c4 => ?_)
      · exact r_vret C hw hr hlk (Nat.le_of_ble_eq_true rfl) (Nat.le_of_ble_eq_true rfl) dX8_forgetTwiceOf_35 ⟨hI, hN, ⟨rfl, ⟨⟨fun j hj => g2_2.1 j (by omega), fun a b ha hb => by unfold bR; rw [(g2_2.2 _ (by omega)).1, (g2_2.2 _ (by omega)).2]; exact ⟨rfl, rfl⟩⟩, hO⟩⟩⟩
      · refine lv_aload_n hx hb dX8_forgetTwiceOf_7 rfl (lv_at hl 1 rfl) ?_
        refine r_get C hw (hsh 37 _ rfl) fl_X8_30 (oV_r rfl (hrs (37, 5, 41) (by decide))) dX8_forgetTwiceOf_8 ?_
        refine lv_iload_n hx hb dX8_forgetTwiceOf_11 rfl (lv_at hl 2 rfl) ?_
        refine lv_iconst (v := 5) hx hb dX8_forgetTwiceOf_12 (by decide) (ti_c 5 (by decide) fun z8 hz8 => ?_)
        refine lv_imul hx hb dX8_forgetTwiceOf_13 (tc_mulR 5 hz8 fun z9 hz9 => ?_)
        first | replace hz9 := hz9 (by omega) | clear hz9
        refine lv_iload_n hx hb dX8_forgetTwiceOf_14 rfl (lv_at hl 0 rfl) ?_
        refine lv_iadd hx hb dX8_forgetTwiceOf_15 (tc_add fun z10 hz10 => ?_)
        first | replace hz10 := hz10 (by omega) | clear hz10
        refine lv_lconst (v := 0) hx hb dX8_forgetTwiceOf_16 (by decide) (lv_topl fun x11 hx11 => ?_)
        refine r_last C hw (hsh 41 _ rfl) (by omega) (by omega) dX8_forgetTwiceOf_17 (fun H locs hH hw => ?_)
        have hO0 := hO
        obtain ⟨lg12, elg12⟩ : ∃ f, f = up2 lg6 (B + 41) z10.toInt.toNat x11 := ⟨_, rfl⟩
        rw [← elg12] at hw
        have hN : Nx 958 B none kd ig rg lg kd3 ig4 rg5 lg12 := by rw [elg12]; exact hN.pl (by omega)
        have hO : Fo B [41, 42] ig lg ig4 lg12 := by rw [elg12]; exact hO0.pl (by decide)
        clear hO0
        refine lv_aload_n hx hb dX8_forgetTwiceOf_18 rfl (lv_at hl 1 rfl) ?_
        refine r_get C hw (hsh 37 _ rfl) fl_X8_34 (oV_r rfl (hrs (37, 6, 42) (by decide))) dX8_forgetTwiceOf_19 ?_
        refine lv_iload_n hx hb dX8_forgetTwiceOf_22 rfl (lv_at hl 2 rfl) ?_
        refine lv_iconst (v := 5) hx hb dX8_forgetTwiceOf_23 (by decide) (ti_c 5 (by decide) fun z13 hz13 => ?_)
        refine lv_imul hx hb dX8_forgetTwiceOf_24 (tc_mulR 5 hz13 fun z14 hz14 => ?_)
        first | replace hz14 := hz14 (by omega) | clear hz14
        refine lv_iload_n hx hb dX8_forgetTwiceOf_25 rfl (lv_at hl 0 rfl) ?_
        refine lv_iadd hx hb dX8_forgetTwiceOf_26 (tc_add fun z15 hz15 => ?_)
        first | replace hz15 := hz15 (by omega) | clear hz15
        refine lv_lconst (v := 0) hx hb dX8_forgetTwiceOf_27 (by decide) (lv_topl fun x16 hx16 => ?_)
        refine r_last C hw (hsh 42 _ rfl) (by omega) (by omega) dX8_forgetTwiceOf_28 (fun H locs hH hw => ?_)
        have hO0 := hO
        obtain ⟨lg17, elg17⟩ : ∃ f, f = up2 lg12 (B + 42) z15.toInt.toNat x16 := ⟨_, rfl⟩
        rw [← elg17] at hw
        have hN : Nx 958 B none kd ig rg lg kd3 ig4 rg5 lg17 := by rw [elg17]; exact hN.pl (by omega)
        have hO : Fo B [41, 42] ig lg ig4 lg17 := by rw [elg17]; exact hO0.pl (by decide)
        clear hO0
        have ft9 : (∀ j, j < (v2.toInt.toNat + 1) → lg17 (B + 41) (5 * x.toInt.toNat + j) = 0 ∧ lg17 (B + 42) (5 * x.toInt.toNat + j) = 0) ∧ ∀ j, ¬ (5 * x.toInt.toNat ≤ j ∧ j < 5 * x.toInt.toNat + 5) → lg17 (B + 41) j = lg (B + 41) j ∧ lg17 (B + 42) j = lg (B + 42) j := ⟨fun j hj => by by_cases c9 : j = v2.toInt.toNat; (exact ⟨by rw [elg17, up2_a (show B + 41 ≠ B + 42 by omega), elg12, show 5 * x.toInt.toNat + j = z10.toInt.toNat by omega, up2_eq]; exact hx11, by rw [elg17, show 5 * x.toInt.toNat + j = z15.toInt.toNat by omega, up2_eq]; exact hx16⟩); (exact ⟨by rw [elg17, up2_a (show B + 41 ≠ B + 42 by omega), elg12, up2_j (by omega)]; exact (g2_2.1 j (by omega)).1, by rw [elg17, up2_j (by omega), elg12, up2_a (show B + 42 ≠ B + 41 by omega)]; exact (g2_2.1 j (by omega)).2⟩), fun j hj => ⟨by rw [elg17, up2_a (show B + 41 ≠ B + 42 by omega), elg12, up2_j (by omega)]; exact (g2_2.2 j hj).1, by rw [elg17, up2_j (by omega), elg12, up2_a (show B + 42 ≠ B + 41 by omega)]; exact (g2_2.2 j hj).2⟩⟩
        refine tc_inc hx hb dX8_forgetTwiceOf_29 hl (k := 0) rfl (by decide) (by decide) (fun z18 hz18 ls hl => ?_)
        first | replace hz18 := hz18 (by omega) | clear hz18
        have hl : lv_has ls 3 [(2, .int z18), (0, .ref (B + 37)), (1, .int x)] := hl
        refine lv_goto (tgt := 2) hx hb dX8_forgetTwiceOf_32 (by decide) ?_
        exact ih2 ls H locs kd3 ig4 rg5 lg17 z18 (lv_sub hl [0, 1, 2] rfl) hw hI hN (by omega) (by omega) (by rw [show z18.toInt.toNat = v2.toInt.toNat + 1 by omega]; exact ft9) (hO) (by omega)
  exact L2 ((5 - z1.toInt) + 1).toNat ls s.heap [] kd ig rg lg z1 (lv_sub hl [0, 1, 2] rfl) hw hI hN (by omega) (by omega) (⟨fun j hj => absurd hj (by omega), fun j _ => ⟨rfl, rfl⟩⟩) (hO) (by omega)

set_option maxHeartbeats 4000000 in
set_option maxRecDepth 100000 in
theorem t_X8_addWaysOfE {τ : Tp} (l : Launch) (B : Nat) (D : va_G) (cA : Nat → ClassId) (kd : sK) (ig : sI) (rg : sR) (lg : sG) (sz : Nat) (x : Int32) (y : Int32) (hx0 : 0 ≤ x.toInt ∧ x.toInt < 288) (hy0 : 0 ≤ y.toInt ∧ y.toInt < 288) (hxy : x.toInt.toNat ≠ y.toInt.toNat) (hI : IC τ B kd ig rg) : MC l B D cA yX8_addWaysOf cX8_addWaysOf 6 none (rL 1 0 0) [.ref (B + 37), .int x, .int y] kd ig rg lg sz (PI 958 τ B none kd ig rg lg (fun r kd' ig' rg' lg' => (r = none ∧ (RwY B x.toInt.toNat y.toInt.toNat 5 lg lg' ∧ Fo B [41, 42] ig lg ig' lg')))) := by
  refine MC.of (own := RX8) (by decide +kernel) rfl (Nat.le_of_ble_eq_true rfl) ?_
  intro p e s m args below meth c ls C hr hlk hnm hw hsz hl
  have hx := C.1.1
  have hb := C.1.2.1
  have hown := C.1.2.2.2.1
  have hts := C.1.2.2.2.2
  have hl : lv_has ls 6 [(0, .ref (B + 37)), (1, .int x), (2, .int y)] := hl
  have hN : Nx 958 B none kd ig rg lg kd ig rg lg := Nx.rf
  have hsh := hI.sh
  have hrs := hI.rs
  have hO : Fo B [41, 42] ig lg ig lg := Fo.rf
  refine lv_iload_n hx hb dX8_addWaysOf_0 rfl (lv_at hl 1 rfl) ?_
  refine r_callN (As := [.int x]) (rest := []) C hw (t_X11_onSheet l B D cA kd ig rg lg _ x  hI) sn_X8_63 rfl hl.1 rfl (Nat.le_of_ble_eq_true rfl) ⟨Nat.le_of_ble_eq_true rfl, Nat.le_of_ble_eq_true rfl⟩ ⟨Nat.le_of_ble_eq_true rfl, Nat.le_of_ble_eq_true rfl⟩ dX8_addWaysOf_1 (fun r5 kd1 ig2 rg3 lg4 H locs hw hH hp6 => ?_)
  obtain ⟨rfl, rfl, rfl, rfl, hzhp6, hrhp6⟩ := hp6
  obtain ⟨z7, rfl, hz7⟩ := hrhp6
  refine z_eq (tgt := 14) hx hb dX8_addWaysOf_4 (by decide) (fun c4 => ?_) (fun c4 => ?_)
  · exact absurd c4 (by omega)
  · refine lv_iload_n hx hb dX8_addWaysOf_7 rfl (lv_at hl 2 rfl) ?_
    refine r_callN (As := [.int y]) (rest := []) C hw (t_X11_onSheet l B D cA kd ig rg lg _ y  hI) sn_X8_63 rfl hl.1 rfl (Nat.le_of_ble_eq_true rfl) ⟨Nat.le_of_ble_eq_true rfl, Nat.le_of_ble_eq_true rfl⟩ ⟨Nat.le_of_ble_eq_true rfl, Nat.le_of_ble_eq_true rfl⟩ dX8_addWaysOf_8 (fun r12 kd8 ig9 rg10 lg11 H locs hw hH hp13 => ?_)
    obtain ⟨rfl, rfl, rfl, rfl, hzhp13, hrhp13⟩ := hp13
    obtain ⟨z14, rfl, hz14⟩ := hrhp13
    refine z_ne (tgt := 15) hx hb dX8_addWaysOf_11 (by decide) (fun c11 => ?_) (fun c11 => ?_)
    · refine lv_iconst (v := 0) hx hb dX8_addWaysOf_15 (by decide) (ti_c 0 (by decide) fun z15 hz15 => ?_)
      refine lv_istore_n (lv' := [(3, .int z15), (0, .ref (B + 37)), (1, .int x), (2, .int y)]) hx hb dX8_addWaysOf_16 rfl hl (by decide) rfl (fun ls hl => ?_)
      have L17 : ∀ (n : Nat) (ls : Array Slot) (H : Heap) (locs : List Loc) (kd17 : sK) (ig18 : sI) (rg19 : sR) (lg20 : sG) (v16 : Int32), lv_has ls 6 [(3, .int v16), (0, .ref (B + 37)), (1, .int x), (2, .int y)] → WD B D cA s.heap kd17 ig18 rg19 lg20 H locs → IC τ B kd17 ig18 rg19 → Nx 958 B none kd ig rg lg kd17 ig18 rg19 lg20 → (0 ≤ v16.toInt) → (v16.toInt ≤ 5) → (RwY B x.toInt.toNat y.toInt.toNat v16.toInt.toNat lg lg20) → (Fo B [41, 42] ig lg ig18 lg20) → 5 - v16.toInt < (n : Int) → W p l e (rL 1 0 0) s m args below meth c H locs 0 0 (MQ below (QcW B D cA (PI 958 τ B none kd ig rg lg (fun r kd' ig' rg' lg' => (r = none ∧ (RwY B x.toInt.toNat y.toInt.toNat 5 lg lg' ∧ Fo B [41, 42] ig lg ig' lg'))))) args s 0 0 (fun q => B ≤ q)) (F0 m 17 ls []) := by
        intro n17
        induction n17 with
        | zero => intro ls H locs kd17 ig18 rg19 lg20 v16 hl hw hI hN g17_0 g17_1 g17_2 g17_3 hmu; exact absurd hmu (by omega)
        | succ n17 ih17 =>
          intro ls H locs kd17 ig18 rg19 lg20 v16 hl hw hI hN g17_0 g17_1 g17_2 g17_3 hmu
          have hsh := hI.sh
          have hrs := hI.rs
          have hO := g17_3
          refine lv_iload_n hx hb dX8_addWaysOf_17 rfl (lv_at hl 0 rfl) ?_
          refine lv_iconst (v := 5) hx hb dX8_addWaysOf_18 (by decide) (ti_c 5 (by decide) fun z21 hz21 => ?_)
          refine b_ge (tgt := 92) hx hb dX8_addWaysOf_19 (by decide) (fun c19 => ?_) (fun c19 => ?_)
          · exact r_vret C hw hr hlk (Nat.le_of_ble_eq_true rfl) (Nat.le_of_ble_eq_true rfl) dX8_addWaysOf_92 ⟨hI, hN, ⟨rfl, ⟨(by have q9 := g17_2; rw [show v16.toInt.toNat = 5 by omega] at q9; exact q9), hO⟩⟩⟩
          · refine lv_iload_n hx hb dX8_addWaysOf_22 rfl (lv_at hl 2 rfl) ?_
            refine lv_iconst (v := 5) hx hb dX8_addWaysOf_23 (by decide) (ti_c 5 (by decide) fun z22 hz22 => ?_)
            refine lv_imul hx hb dX8_addWaysOf_24 (tc_mulR 5 hz22 fun z23 hz23 => ?_)
            first | replace hz23 := hz23 (by omega) | clear hz23
            refine lv_iload_n hx hb dX8_addWaysOf_25 rfl (lv_at hl 0 rfl) ?_
            refine lv_iadd hx hb dX8_addWaysOf_26 (tc_add fun z24 hz24 => ?_)
            first | replace hz24 := hz24 (by omega) | clear hz24
            refine lv_istore (lv' := [(4, .int z24), (3, .int v16), (0, .ref (B + 37)), (1, .int x), (2, .int y)]) hx hb dX8_addWaysOf_27 hl (by decide) rfl (fun ls hl => ?_)
            refine lv_iload_n hx hb dX8_addWaysOf_29 rfl (lv_at hl 4 rfl) ?_
            refine lv_iconst (v := 5) hx hb dX8_addWaysOf_30 (by decide) (ti_c 5 (by decide) fun z25 hz25 => ?_)
            refine lv_imul hx hb dX8_addWaysOf_31 (tc_mulR 5 hz25 fun z26 hz26 => ?_)
            first | replace hz26 := hz26 (by omega) | clear hz26
            refine lv_iload_n hx hb dX8_addWaysOf_32 rfl (lv_at hl 1 rfl) ?_
            refine lv_iadd hx hb dX8_addWaysOf_33 (tc_add fun z27 hz27 => ?_)
            first | replace hz27 := hz27 (by omega) | clear hz27
            refine lv_istore (lv' := [(5, .int z27), (4, .int z24), (3, .int v16), (0, .ref (B + 37)), (1, .int x), (2, .int y)]) hx hb dX8_addWaysOf_34 hl (by decide) rfl (fun ls hl => ?_)
            refine lv_aload_n hx hb dX8_addWaysOf_36 rfl (lv_at hl 3 rfl) ?_
            refine r_get C hw (hsh 37 _ rfl) fl_X8_34 (oV_r rfl (hrs (37, 6, 42) (by decide))) dX8_addWaysOf_37 ?_
            refine lv_iload hx hb dX8_addWaysOf_40 (lv_at hl 1 rfl) ?_
            refine lv_dup2_11 hx hb dX8_addWaysOf_42 rfl rfl ?_
            refine r_lald C hw (hsh 42 _ rfl) (by omega) (by omega) dX8_addWaysOf_43 (lv_topl fun x28 hx28 => ?_)
            refine lv_aload_n hx hb dX8_addWaysOf_44 rfl (lv_at hl 3 rfl) ?_
            refine r_get C hw (hsh 37 _ rfl) fl_X8_34 (oV_r rfl (hrs (37, 6, 42) (by decide))) dX8_addWaysOf_45 ?_
            refine lv_iload hx hb dX8_addWaysOf_48 (lv_at hl 0 rfl) ?_
            refine r_lald C hw (hsh 42 _ rfl) (by omega) (by omega) dX8_addWaysOf_50 (lv_topl fun x29 hx29 => ?_)
            refine lv_aload_n hx hb dX8_addWaysOf_51 rfl (lv_at hl 3 rfl) ?_
            refine r_get C hw (hsh 37 _ rfl) fl_X8_30 (oV_r rfl (hrs (37, 5, 41) (by decide))) dX8_addWaysOf_52 ?_
            refine lv_iload hx hb dX8_addWaysOf_55 (lv_at hl 1 rfl) ?_
            refine r_lald C hw (hsh 41 _ rfl) (by omega) (by omega) dX8_addWaysOf_57 (lv_topl fun x30 hx30 => ?_)
            refine lv_aload_n hx hb dX8_addWaysOf_58 rfl (lv_at hl 3 rfl) ?_
            refine r_get C hw (hsh 37 _ rfl) fl_X8_30 (oV_r rfl (hrs (37, 5, 41) (by decide))) dX8_addWaysOf_59 ?_
            refine lv_iload hx hb dX8_addWaysOf_62 (lv_at hl 0 rfl) ?_
            refine r_lald C hw (hsh 41 _ rfl) (by omega) (by omega) dX8_addWaysOf_64 (lv_topl fun x31 hx31 => ?_)
            refine lv_land hx hb dX8_addWaysOf_65 (lv_topl fun x32 hx32 => ?_)
            refine lv_lor hx hb dX8_addWaysOf_66 (lv_topl fun x33 hx33 => ?_)
            refine lv_lor hx hb dX8_addWaysOf_67 (lv_topl fun x34 hx34 => ?_)
            refine r_last C hw (hsh 42 _ rfl) (by omega) (by omega) dX8_addWaysOf_68 (fun H locs hH hw => ?_)
            have hO0 := hO
            obtain ⟨lg35, elg35⟩ : ∃ f, f = up2 lg20 (B + 42) z24.toInt.toNat x34 := ⟨_, rfl⟩
            rw [← elg35] at hw
            have hN : Nx 958 B none kd ig rg lg kd17 ig18 rg19 lg35 := by rw [elg35]; exact hN.pl (by omega)
            have hO : Fo B [41, 42] ig lg ig18 lg35 := by rw [elg35]; exact hO0.pl (by decide)
            clear hO0
            refine lv_aload_n hx hb dX8_addWaysOf_69 rfl (lv_at hl 3 rfl) ?_
            refine r_get C hw (hsh 37 _ rfl) fl_X8_30 (oV_r rfl (hrs (37, 5, 41) (by decide))) dX8_addWaysOf_70 ?_
            refine lv_iload hx hb dX8_addWaysOf_73 (lv_at hl 1 rfl) ?_
            refine lv_dup2_11 hx hb dX8_addWaysOf_75 rfl rfl ?_
            refine r_lald C hw (hsh 41 _ rfl) (by omega) (by omega) dX8_addWaysOf_76 (lv_topl fun x36 hx36 => ?_)
            refine lv_aload_n hx hb dX8_addWaysOf_77 rfl (lv_at hl 3 rfl) ?_
            refine r_get C hw (hsh 37 _ rfl) fl_X8_30 (oV_r rfl (hrs (37, 5, 41) (by decide))) dX8_addWaysOf_78 ?_
            refine lv_iload hx hb dX8_addWaysOf_81 (lv_at hl 0 rfl) ?_
            refine r_lald C hw (hsh 41 _ rfl) (by omega) (by omega) dX8_addWaysOf_83 (lv_topl fun x37 hx37 => ?_)
            refine lv_lor hx hb dX8_addWaysOf_84 (lv_topl fun x38 hx38 => ?_)
            refine r_last C hw (hsh 41 _ rfl) (by omega) (by omega) dX8_addWaysOf_85 (fun H locs hH hw => ?_)
            have hO0 := hO
            obtain ⟨lg39, elg39⟩ : ∃ f, f = up2 lg35 (B + 41) z24.toInt.toNat x38 := ⟨_, rfl⟩
            rw [← elg39] at hw
            have hN : Nx 958 B none kd ig rg lg kd17 ig18 rg19 lg39 := by rw [elg39]; exact hN.pl (by omega)
            have hO : Fo B [41, 42] ig lg ig18 lg39 := by rw [elg39]; exact hO0.pl (by decide)
            clear hO0
            have ry9 : RwY B x.toInt.toNat y.toInt.toNat (v16.toInt.toNat + 1) lg lg39 := by rw [elg39, elg35, show z24.toInt.toNat = z24.toInt.toNat by omega]; exact RwY.step g17_2 (by omega) hxy (i := z24.toInt.toNat) (i2 := z27.toInt.toNat) (by omega) (by omega) (by rw [hx34, hx28, hx33, hx29, hx32, hx30, hx31, show z24.toInt.toNat = z24.toInt.toNat by omega]) (by rw [hx38, hx36, hx37, elg35, up2_a (show B + 41 ≠ B + 42 by omega), up2_a (show B + 41 ≠ B + 42 by omega), show z24.toInt.toNat = z24.toInt.toNat by omega])
            refine tc_inc hx hb dX8_addWaysOf_86 hl (k := 2) rfl (by decide) (by decide) (fun z40 hz40 ls hl => ?_)
            first | replace hz40 := hz40 (by omega) | clear hz40
            have hl : lv_has ls 6 [(3, .int z40), (5, .int z27), (4, .int z24), (0, .ref (B + 37)), (1, .int x), (2, .int y)] := hl
            refine lv_goto (tgt := 17) hx hb dX8_addWaysOf_89 (by decide) ?_
            exact ih17 ls H locs kd17 ig18 rg19 lg39 z40 (lv_sub hl [0, 3, 4, 5] rfl) hw hI hN (by omega) (by omega) (by rw [show z40.toInt.toNat = v16.toInt.toNat + 1 by omega]; exact ry9) (hO) (by omega)
      exact L17 ((5 - z15.toInt) + 1).toNat ls H locs kd ig rg lg z15 (lv_sub hl [0, 1, 2, 3] rfl) hw hI hN (by omega) (by omega) (by rw [show z15.toInt.toNat = 0 by omega]; exact RwY.zero) (hO) (by omega)
    · exact absurd c11 (by omega)

set_option maxHeartbeats 4000000 in
set_option maxRecDepth 100000 in
theorem t_X8_addReadE {τ : Tp} (l : Launch) (B : Nat) (D : va_G) (cA : Nat → ClassId) (kd : sK) (ig : sI) (rg : sR) (lg : sG) (sz : Nat) (x : Int32) (y : Int32) (σ : Sg) (π : Ps) (ν : Nat) (hS : SCh B σ π ν kd ig rg) (hX : TtP B (isTot σ) 288 ig) (w : Nat → Nat → Int) (hwr : WR σ w) (hx0 : 0 ≤ x.toInt ∧ x.toInt < 288) (hy0 : 0 ≤ y.toInt ∧ y.toInt < 288) (ff : List Int) (hTL : TwL B σ w x.toInt.toNat ff lg) (hq9 : isTot σ y.toInt.toNat → TwR B w y.toInt.toNat lg ∧ y.toInt.toNat ≠ x.toInt.toNat) (hI : IC τ B kd ig rg) : MC l B D cA yX8_addRead cX8_addRead 3 none (rL 2 0 0) [.ref (B + 37), .int x, .int y] kd ig rg lg sz (PI 958 τ B none kd ig rg lg (fun r kd' ig' rg' lg' => (r = none ∧ ((TwL B σ w x.toInt.toNat (ff ++ [((y.toInt.toNat : Nat) : Int)]) lg' ∧ TwO B x.toInt.toNat lg lg') ∧ Fo B [41, 42] ig lg ig' lg')))) := by
  refine MC.of (own := RX8) (by decide +kernel) rfl (Nat.le_of_ble_eq_true rfl) ?_
  intro p e s m args below meth c ls C hr hlk hnm hw hsz hl
  have hx := C.1.1
  have hb := C.1.2.1
  have hown := C.1.2.2.2.1
  have hts := C.1.2.2.2.2
  have hl : lv_has ls 3 [(0, .ref (B + 37)), (1, .int x), (2, .int y)] := hl
  have hN : Nx 958 B none kd ig rg lg kd ig rg lg := Nx.rf
  have hsh := hI.sh
  have hrs := hI.rs
  have hO : Fo B [41, 42] ig lg ig lg := Fo.rf
  refine lv_aload_n hx hb dX8_addRead_0 rfl (lv_at hl 0 rfl) ?_
  refine lv_iload_n hx hb dX8_addRead_1 rfl (lv_at hl 2 rfl) ?_
  refine r_callV (As := [.int y]) (rest := []) C hw (t_X8_isTotalE l B D cA kd ig rg lg _ y (isTot σ) hX hI) sv_X8_66 (hsh 37 _ rfl) rfl hl.1 rfl (Nat.le_of_ble_eq_true rfl) ⟨Nat.le_of_ble_eq_true rfl, Nat.le_of_ble_eq_true rfl⟩ ⟨Nat.le_of_ble_eq_true rfl, Nat.le_of_ble_eq_true rfl⟩ dX8_addRead_2 (fun r5 kd1 ig2 rg3 lg4 H locs hw hH hp6 => ?_)
  obtain ⟨rfl, rfl, rfl, rfl, hzhp6, hrhp6⟩ := hp6
  obtain ⟨z7, rfl, hz7⟩ := hrhp6
  have it9 := hz7
  refine z_eq (tgt := 17) hx hb dX8_addRead_5 (by decide) (fun c5 => ?_) (fun c5 => ?_)
  · have nt9 : ¬ isTot σ y.toInt.toNat := fun q9 => by0 it9 (by omega) ⟨by omega, q9⟩
    refine lv_aload_n hx hb dX8_addRead_17 rfl (lv_at hl 0 rfl) ?_
    refine r_get C hw (hsh 37 _ rfl) fl_X8_9 (oV_r rfl (hrs (37, 0, 9) (by decide))) dX8_addRead_18 ?_
    refine lv_iload_n hx hb dX8_addRead_21 rfl (lv_at hl 2 rfl) ?_
    refine r_callV (As := [.int y]) (rest := []) C hw (t_X6_kindAtE l B D cA kd ig rg lg _ y σ π ν (hS.nx hN) hI) sv_X8_69 (hsh 9 _ rfl) rfl hl.1 rfl (Nat.le_of_ble_eq_true rfl) ⟨Nat.le_of_ble_eq_true rfl, Nat.le_of_ble_eq_true rfl⟩ ⟨Nat.le_of_ble_eq_true rfl, Nat.le_of_ble_eq_true rfl⟩ dX8_addRead_22 (fun r12 kd8 ig9 rg10 lg11 H locs hw hH hp13 => ?_)
    obtain ⟨rfl, rfl, rfl, rfl, hzhp13, hrhp13⟩ := hp13
    obtain ⟨z14, rfl, hz14⟩ := hrhp13
    have kd9 := hz14
    refine z_eq (tgt := 58) hx hb dX8_addRead_25 (by decide) (fun c25 => ?_) (fun c25 => ?_)
    · exact r_vret C hw hr hlk (Nat.le_of_ble_eq_true rfl) (Nat.le_of_ble_eq_true rfl) dX8_addRead_58 ⟨hI, hN, ⟨rfl, ⟨⟨TwL.no hTL nt9 (by rw [← atC_on (σ := σ) (x := y.toInt) hy0]; omega) (fun c hc y9 _ => hwr.ctn hc), TwO.rf⟩, hO⟩⟩⟩
    · refine lv_aload_n hx hb dX8_addRead_28 rfl (lv_at hl 0 rfl) ?_
      refine r_get C hw (hsh 37 _ rfl) fl_X8_30 (oV_r rfl (hrs (37, 5, 41) (by decide))) dX8_addRead_29 ?_
      refine lv_iload_n hx hb dX8_addRead_32 rfl (lv_at hl 1 rfl) ?_
      refine lv_iload_n hx hb dX8_addRead_33 rfl (lv_at hl 2 rfl) ?_
      refine r_callN (As := [.ref (B + 41), .int x, .int y]) (rest := []) C hw (t_X11_hasBitE l B D cA kd ig rg lg _ 41 (Or.inr (Or.inr (Or.inl rfl))) x y  hI) sn_X8_118 rfl hl.1 rfl (Nat.le_of_ble_eq_true rfl) ⟨Nat.le_of_ble_eq_true rfl, Nat.le_of_ble_eq_true rfl⟩ ⟨Nat.le_of_ble_eq_true rfl, Nat.le_of_ble_eq_true rfl⟩ dX8_addRead_34 (fun r19 kd15 ig16 rg17 lg18 H locs hw hH hp20 => ?_)
      obtain ⟨rfl, rfl, rfl, rfl, hzhp20, hrhp20⟩ := hp20
      obtain ⟨z21, rfl, hz21⟩ := hrhp20
      have hb9 := hz21
      refine z_eq (tgt := 49) hx hb dX8_addRead_37 (by decide) (fun c37 => ?_) (fun c37 => ?_)
      · refine lv_aload_n hx hb dX8_addRead_49 rfl (lv_at hl 0 rfl) ?_
        refine r_get C hw (hsh 37 _ rfl) fl_X8_30 (oV_r rfl (hrs (37, 5, 41) (by decide))) dX8_addRead_50 ?_
        refine lv_iload_n hx hb dX8_addRead_53 rfl (lv_at hl 1 rfl) ?_
        refine lv_iload_n hx hb dX8_addRead_54 rfl (lv_at hl 2 rfl) ?_
        refine r_callN (As := [.ref (B + 41), .int x, .int y]) (rest := []) C hw (t_X11_setBitTE l B D cA kd ig rg lg _ 41 (Or.inr (Or.inr (Or.inl rfl))) (nWl.lit (by decide)) x y ⟨by omega, by omega⟩ hI) sn_X8_122 rfl hl.1 rfl (Nat.le_of_ble_eq_true rfl) ⟨Nat.le_of_ble_eq_true rfl, Nat.le_of_ble_eq_true rfl⟩ ⟨Nat.le_of_ble_eq_true rfl, Nat.le_of_ble_eq_true rfl⟩ dX8_addRead_55 (fun r26 kd22 ig23 rg24 lg25 H locs hw hH hp27 => ?_)
        obtain ⟨hI, hchp27, hrhp27⟩ := hp27
        have hN := hN.tr hchp27
        have hsh := hI.sh
        have hrs := hI.rs
        obtain ⟨rfl, hvhp27⟩ := hrhp27
        obtain ⟨phvhp27, ohvhp27, khvhp27_0⟩ := hvhp27
        have hO := hO.tr ohvhp27
        exact r_vret C hw hr hlk (Nat.le_of_ble_eq_true rfl) (Nat.le_of_ble_eq_true rfl) dX8_addRead_58 ⟨hI, hN, ⟨rfl, ⟨⟨TwL.one hTL (by omega) nt9 (by rw [← atC_on (σ := σ) (x := y.toInt) hy0]; omega) (fun c hc y9 _ => hwr.ctn hc) (fun b hb => SBt.at phvhp27 hb) (fun b hb => by rw [show lg25 (B + 42) = lg (B + 42) from funext fun j => ohvhp27.l 42 j, show bR (lg (B + 41)) x.toInt.toNat y.toInt.toNat = false from (by cases e9 : bR (lg (B + 41)) x.toInt.toNat y.toInt.toNat with | false => rfl | true => exact absurd ⟨by omega, by omega, e9⟩ (by0 hb9 (by omega)))]; simp), fun a b ha hb => ⟨SBt.ne phvhp27 ha hb, by rw [show lg25 (B + 42) = lg (B + 42) from funext fun j => ohvhp27.l 42 j]⟩⟩, hO⟩⟩⟩
      · refine lv_aload_n hx hb dX8_addRead_40 rfl (lv_at hl 0 rfl) ?_
        refine r_get C hw (hsh 37 _ rfl) fl_X8_34 (oV_r rfl (hrs (37, 6, 42) (by decide))) dX8_addRead_41 ?_
        refine lv_iload_n hx hb dX8_addRead_44 rfl (lv_at hl 1 rfl) ?_
        refine lv_iload_n hx hb dX8_addRead_45 rfl (lv_at hl 2 rfl) ?_
        refine r_callN (As := [.ref (B + 42), .int x, .int y]) (rest := []) C hw (t_X11_setBitTE l B D cA kd ig rg lg _ 42 (Or.inr (Or.inr (Or.inr rfl))) (nWl.lit (by decide)) x y ⟨by omega, by omega⟩ hI) sn_X8_122 rfl hl.1 rfl (Nat.le_of_ble_eq_true rfl) ⟨Nat.le_of_ble_eq_true rfl, Nat.le_of_ble_eq_true rfl⟩ ⟨Nat.le_of_ble_eq_true rfl, Nat.le_of_ble_eq_true rfl⟩ dX8_addRead_46 (fun r32 kd28 ig29 rg30 lg31 H locs hw hH hp33 => ?_)
        obtain ⟨hI, hchp33, hrhp33⟩ := hp33
        have hN := hN.tr hchp33
        have hsh := hI.sh
        have hrs := hI.rs
        obtain ⟨rfl, hvhp33⟩ := hrhp33
        obtain ⟨phvhp33, ohvhp33, khvhp33_0⟩ := hvhp33
        have hO := hO.tr ohvhp33
        refine lv_aload_n hx hb dX8_addRead_49 rfl (lv_at hl 0 rfl) ?_
        refine r_get C hw (hsh 37 _ rfl) fl_X8_30 (oV_r rfl (hrs (37, 5, 41) (by decide))) dX8_addRead_50 ?_
        refine lv_iload_n hx hb dX8_addRead_53 rfl (lv_at hl 1 rfl) ?_
        refine lv_iload_n hx hb dX8_addRead_54 rfl (lv_at hl 2 rfl) ?_
        refine r_callN (As := [.ref (B + 41), .int x, .int y]) (rest := []) C hw (t_X11_setBitTE l B D cA kd28 ig29 rg30 lg31 _ 41 (Or.inr (Or.inr (Or.inl rfl))) (nWl.lit (by decide)) x y ⟨by omega, by omega⟩ hI) sn_X8_122 rfl hl.1 rfl (Nat.le_of_ble_eq_true rfl) ⟨Nat.le_of_ble_eq_true rfl, Nat.le_of_ble_eq_true rfl⟩ ⟨Nat.le_of_ble_eq_true rfl, Nat.le_of_ble_eq_true rfl⟩ dX8_addRead_55 (fun r38 kd34 ig35 rg36 lg37 H locs hw hH hp39 => ?_)
        obtain ⟨hI, hchp39, hrhp39⟩ := hp39
        have hN := hN.tr hchp39
        have hsh := hI.sh
        have hrs := hI.rs
        obtain ⟨rfl, hvhp39⟩ := hrhp39
        obtain ⟨phvhp39, ohvhp39, khvhp39_0⟩ := hvhp39
        have hO := hO.tr ohvhp39
        exact r_vret C hw hr hlk (Nat.le_of_ble_eq_true rfl) (Nat.le_of_ble_eq_true rfl) dX8_addRead_58 ⟨hI, hN, ⟨rfl, ⟨⟨TwL.one hTL (by omega) nt9 (by rw [← atC_on (σ := σ) (x := y.toInt) hy0]; omega) (fun c hc y9 _ => hwr.ctn hc) (fun b hb => by rw [SBt.at phvhp39 hb, show lg31 (B + 41) = lg (B + 41) from funext fun j => ohvhp33.l 41 j]) (fun b hb => by rw [show lg37 (B + 42) = lg31 (B + 42) from funext fun j => ohvhp39.l 42 j, SBt.at phvhp33 hb, (by1 hb9 (by omega)).2.2, Bool.and_true]), fun a b ha hb => ⟨by rw [SBt.ne phvhp39 ha hb, show lg31 (B + 41) = lg (B + 41) from funext fun j => ohvhp33.l 41 j], by rw [show lg37 (B + 42) = lg31 (B + 42) from funext fun j => ohvhp39.l 42 j, SBt.ne phvhp33 ha hb]⟩⟩, hO⟩⟩⟩
  · have tot9 : isTot σ y.toInt.toNat := (by1 it9 (by omega)).2
    refine lv_aload_n hx hb dX8_addRead_8 rfl (lv_at hl 0 rfl) ?_
    refine lv_iload_n hx hb dX8_addRead_9 rfl (lv_at hl 1 rfl) ?_
    refine lv_iload_n hx hb dX8_addRead_10 rfl (lv_at hl 2 rfl) ?_
    refine r_callV (As := [.int x, .int y]) (rest := []) C hw (t_X8_addWaysOfE l B D cA kd ig rg lg _ x y (by omega) (by omega) (fun e9 => (hq9 tot9).2 e9.symm) hI) sv_X8_115 (hsh 37 _ rfl) rfl hl.1 rfl (Nat.le_of_ble_eq_true rfl) ⟨Nat.le_of_ble_eq_true rfl, Nat.le_of_ble_eq_true rfl⟩ ⟨Nat.le_of_ble_eq_true rfl, Nat.le_of_ble_eq_true rfl⟩ dX8_addRead_11 (fun r44 kd40 ig41 rg42 lg43 H locs hw hH hp45 => ?_)
    obtain ⟨hI, hchp45, hrhp45⟩ := hp45
    have hN := hN.tr hchp45
    have hsh := hI.sh
    have hrs := hI.rs
    obtain ⟨rfl, hvhp45⟩ := hrhp45
    obtain ⟨phvhp45, ohvhp45⟩ := hvhp45
    have hO := hO.tr ohvhp45
    refine lv_goto (tgt := 58) hx hb dX8_addRead_14 (by decide) ?_
    exact r_vret C hw hr hlk (Nat.le_of_ble_eq_true rfl) (Nat.le_of_ble_eq_true rfl) dX8_addRead_58 ⟨hI, hN, ⟨rfl, ⟨⟨TwL.tot hTL (hq9 tot9).1 phvhp45 tot9 (fun c hc y9 _ => hwr.ctn hc) (fun c hc => (hwr _ tot9 c hc).2), RwY.o phvhp45⟩, hO⟩⟩⟩

set_option maxHeartbeats 4000000 in
set_option maxRecDepth 100000 in
theorem t_X8_gatherTwiceOfE {τ : Tp} (l : Launch) (B : Nat) (D : va_G) (cA : Nat → ClassId) (kd : sK) (ig : sI) (rg : sR) (lg : sG) (sz : Nat) (x : Int32) (g : Nat) (M : Fm) (hM : FnL B kd ig rg g M) (σ : Sg) (π : Ps) (ν : Nat) (hS : SCh B σ π ν kd ig rg) (hX : TtP B (isTot σ) 288 ig) (w : Nat → Nat → Int) (hwr : WR σ w) (hx0 : 0 ≤ x.toInt ∧ x.toInt < 288) (hft : fitL x.toInt M) (hwf : WfL M) (hz9 : TwL B σ w x.toInt.toNat [] lg) (hq9 : ∀ q : Nat, (q : Int) ∈ rdL M x.toInt → isTot σ q → TwR B w q lg ∧ q ≠ x.toInt.toNat) (hI : IC τ B kd ig rg) : MC l B D cA yX8_gatherTwiceOf cX8_gatherTwiceOf 6 none (rL 3 0 0) [.ref (B + 37), .int x, .ref g] kd ig rg lg sz (PI 958 τ B none kd ig rg lg (fun r kd' ig' rg' lg' => (r = none ∧ ((TwL B σ w x.toInt.toNat (rdL M x.toInt) lg' ∧ TwO B x.toInt.toNat lg lg') ∧ Fo B [40, 41, 42] ig lg ig' lg')))) := by
  refine MC.of (own := RX8) (by decide +kernel) rfl (Nat.le_of_ble_eq_true rfl) ?_
  intro p e s m args below meth c ls C hr hlk hnm hw hsz hl
  have hx := C.1.1
  have hb := C.1.2.1
  have hown := C.1.2.2.2.1
  have hts := C.1.2.2.2.2
  have hl : lv_has ls 6 [(0, .ref (B + 37)), (1, .int x), (2, .ref g)] := hl
  have hN : Nx 958 B none kd ig rg lg kd ig rg lg := Nx.rf
  have hsh := hI.sh
  have hrs := hI.rs
  have hO : Fo B [40, 41, 42] ig lg ig lg := Fo.rf
  have lng := hM.le
  refine lv_iconst (v := 0) hx hb dX8_gatherTwiceOf_0 (by decide) (ti_c 0 (by decide) fun z1 hz1 => ?_)
  refine lv_istore_n (lv' := [(3, .int z1), (0, .ref (B + 37)), (1, .int x), (2, .ref g)]) hx hb dX8_gatherTwiceOf_1 rfl hl (by decide) rfl (fun ls hl => ?_)
  have L2 : ∀ (n : Nat) (ls : Array Slot) (H : Heap) (locs : List Loc) (kd3 : sK) (ig4 : sI) (rg5 : sR) (lg6 : sG) (v2 : Int32), lv_has ls 6 [(3, .int v2), (0, .ref (B + 37)), (1, .int x), (2, .ref g)] → WD B D cA s.heap kd3 ig4 rg5 lg6 H locs → IC τ B kd3 ig4 rg5 → Nx 958 B none kd ig rg lg kd3 ig4 rg5 lg6 → (0 ≤ v2.toInt) → (v2.toInt ≤ (M.length : Int)) → (TwL B σ w x.toInt.toNat (rdL (M.take v2.toInt.toNat) x.toInt) lg6) → (TwO B x.toInt.toNat lg lg6) → (Fo B [40, 41, 42] ig lg ig4 lg6) → (M.length : Int) - v2.toInt < (n : Int) → W p l e (rL 3 0 0) s m args below meth c H locs 0 0 (MQ below (QcW B D cA (PI 958 τ B none kd ig rg lg (fun r kd' ig' rg' lg' => (r = none ∧ ((TwL B σ w x.toInt.toNat (rdL M x.toInt) lg' ∧ TwO B x.toInt.toNat lg lg') ∧ Fo B [40, 41, 42] ig lg ig' lg'))))) args s 0 0 (fun q => B ≤ q)) (F0 m 2 ls []) := by
    intro n2
    induction n2 with
    | zero => intro ls H locs kd3 ig4 rg5 lg6 v2 hl hw hI hN g2_0 g2_1 g2_2 g2_3 g2_4 hmu; exact absurd hmu (by omega)
    | succ n2 ih2 =>
      intro ls H locs kd3 ig4 rg5 lg6 v2 hl hw hI hN g2_0 g2_1 g2_2 g2_3 g2_4 hmu
      have hsh := hI.sh
      have hrs := hI.rs
      have hO := g2_4
      refine lv_iload_n hx hb dX8_gatherTwiceOf_2 rfl (lv_at hl 0 rfl) ?_
      refine lv_aload_n hx hb dX8_gatherTwiceOf_3 rfl (lv_at hl 3 rfl) ?_
      refine r_callV (As := []) (rest := [.int v2]) C hw (t_X4_size l B D cA kd3 ig4 rg5 lg6 _ g M.length (FnL.F (hM.nx hN))  hI) sv_X8_84 (isFn.k (FnL.F (hM.nx hN))) rfl hl.1 rfl (Nat.le_of_ble_eq_true rfl) ⟨Nat.le_of_ble_eq_true rfl, Nat.le_of_ble_eq_true rfl⟩ ⟨Nat.le_of_ble_eq_true rfl, Nat.le_of_ble_eq_true rfl⟩ dX8_gatherTwiceOf_4 (fun r11 kd7 ig8 rg9 lg10 H locs hw hH hp12 => ?_)
      obtain ⟨rfl, rfl, rfl, rfl, hzhp12, hrhp12⟩ := hp12
      obtain ⟨z13, rfl, hz13⟩ := hrhp12
      refine b_ge (tgt := 76) hx hb dX8_gatherTwiceOf_7 (by decide) (fun c7 => ?_) (fun c7 => ?_)
      · exact r_vret C hw hr hlk (Nat.le_of_ble_eq_true rfl) (Nat.le_of_ble_eq_true rfl) dX8_gatherTwiceOf_76 ⟨hI, hN, ⟨rfl, ⟨⟨(by have q9 := g2_2; rw [show v2.toInt.toNat = M.length by omega, List.take_length] at q9; exact q9), g2_3⟩, hO⟩⟩⟩
      · refine lv_aload_n hx hb dX8_gatherTwiceOf_10 rfl (lv_at hl 3 rfl) ?_
        refine lv_iload_n hx hb dX8_gatherTwiceOf_11 rfl (lv_at hl 0 rfl) ?_
        refine r_callV (As := [.int v2]) (rest := []) C hw (t_X4_readsAtE l B D cA kd3 ig4 rg5 lg6 _ g M (hM.nx hN) v2  hI) sv_X8_87 (isFn.k (FnL.F (hM.nx hN))) rfl hl.1 rfl (Nat.le_of_ble_eq_true rfl) ⟨Nat.le_of_ble_eq_true rfl, Nat.le_of_ble_eq_true rfl⟩ ⟨Nat.le_of_ble_eq_true rfl, Nat.le_of_ble_eq_true rfl⟩ dX8_gatherTwiceOf_12 (fun r18 kd14 ig15 rg16 lg17 H locs hw hH hp19 => ?_)
        obtain ⟨rfl, rfl, rfl, rfl, hzhp19, hrhp19⟩ := hp19
        obtain ⟨z20, rfl, hz20⟩ := hrhp19
        have rdh := hz20
        refine z_eq (tgt := 31) hx hb dX8_gatherTwiceOf_15 (by decide) (fun c15 => ?_) (fun c15 => ?_)
        · have nrd9 := by0 rdh (by omega)
          refine lv_iconst (v := 0) hx hb dX8_gatherTwiceOf_31 (by decide) (ti_c 0 (by decide) fun z21 hz21 => ?_)
          refine lv_istore (lv' := [(4, .int z21), (3, .int v2), (0, .ref (B + 37)), (1, .int x), (2, .ref g)]) hx hb dX8_gatherTwiceOf_32 hl (by decide) rfl (fun ls hl => ?_)
          refine lv_iconst (v := 0) hx hb dX8_gatherTwiceOf_34 (by decide) (ti_c 0 (by decide) fun z22 hz22 => ?_)
          refine lv_istore (lv' := [(5, .int z22), (4, .int z21), (3, .int v2), (0, .ref (B + 37)), (1, .int x), (2, .ref g)]) hx hb dX8_gatherTwiceOf_35 hl (by decide) rfl (fun ls hl => ?_)
          have L37 : ∀ (n : Nat) (ls : Array Slot) (H : Heap) (locs : List Loc) (kd24 : sK) (ig25 : sI) (rg26 : sR) (lg27 : sG) (v23 : Int32), lv_has ls 6 [(5, .int v23), (4, .int z21), (3, .int v2), (0, .ref (B + 37)), (1, .int x), (2, .ref g)] → WD B D cA s.heap kd24 ig25 rg26 lg27 H locs → IC τ B kd24 ig25 rg26 → Nx 958 B none kd ig rg lg kd24 ig25 rg26 lg27 → (0 ≤ v23.toInt) → (v23.toInt ≤ z21.toInt) → (SpL B 40 (rdI (stp M v2.toInt) x.toInt) ig25 z21.toInt) → (z21.toInt ≤ 288) → (TwL B σ w x.toInt.toNat (rdL (M.take v2.toInt.toNat) x.toInt ++ (rdI (stp M v2.toInt) x.toInt).take v23.toInt.toNat) lg27) → (TwO B x.toInt.toNat lg lg27) → (Fo B [40, 41, 42] ig lg ig25 lg27) → z21.toInt - v23.toInt < (n : Int) → W p l e (rL 3 0 0) s m args below meth c H locs 0 0 (MQ below (QcW B D cA (PI 958 τ B none kd ig rg lg (fun r kd' ig' rg' lg' => (r = none ∧ ((TwL B σ w x.toInt.toNat (rdL M x.toInt) lg' ∧ TwO B x.toInt.toNat lg lg') ∧ Fo B [40, 41, 42] ig lg ig' lg'))))) args s 0 0 (fun q => B ≤ q)) (F0 m 37 ls []) := by
            intro n37
            induction n37 with
            | zero => intro ls H locs kd24 ig25 rg26 lg27 v23 hl hw hI hN g37_0 g37_1 g37_2 g37_3 g37_4 g37_5 g37_6 hmu; exact absurd hmu (by omega)
            | succ n37 ih37 =>
              intro ls H locs kd24 ig25 rg26 lg27 v23 hl hw hI hN g37_0 g37_1 g37_2 g37_3 g37_4 g37_5 g37_6 hmu
              have hsh := hI.sh
              have hrs := hI.rs
              have hO := g37_6
              refine lv_iload hx hb dX8_gatherTwiceOf_37 (lv_at hl 0 rfl) ?_
              refine lv_iload hx hb dX8_gatherTwiceOf_39 (lv_at hl 1 rfl) ?_
              refine b_ge (tgt := 70) hx hb dX8_gatherTwiceOf_41 (by decide) (fun c41 => ?_) (fun c41 => ?_)
              · refine tc_inc hx hb dX8_gatherTwiceOf_70 hl (k := 2) rfl (by decide) (by decide) (fun z28 hz28 ls hl => ?_)
                first | replace hz28 := hz28 (by omega) | clear hz28
                have hl : lv_has ls 6 [(3, .int z28), (5, .int v23), (4, .int z21), (0, .ref (B + 37)), (1, .int x), (2, .ref g)] := hl
                refine lv_goto (tgt := 2) hx hb dX8_gatherTwiceOf_73 (by decide) ?_
                exact ih2 ls H locs kd24 ig25 rg26 lg27 z28 (lv_sub hl [0, 3, 4, 5] rfl) hw hI hN (by omega) (by omega) ((by rw [show z28.toInt.toNat = v2.toInt.toNat + 1 by omega, rdL_s (by omega)]; have q9 := g37_4; rw [show v23.toInt.toNat = (rdI (stp M v2.toInt) x.toInt).length by have q8 := g37_2.1; omega, List.take_length, stp_in (by omega) (by omega)] at q9; exact q9)) (g37_5) (hO) (by omega)
              · refine lv_iload hx hb dX8_gatherTwiceOf_44 (lv_at hl 0 rfl) ?_
                refine lv_sipush (v := 288) hx hb dX8_gatherTwiceOf_46 (by decide) (ti_c 288 (by decide) fun z29 hz29 => ?_)
                refine b_ge (tgt := 70) hx hb dX8_gatherTwiceOf_49 (by decide) (fun c49 => ?_) (fun c49 => ?_)
                · exact absurd c49 (by omega)
                · refine lv_aload_n hx hb dX8_gatherTwiceOf_52 rfl (lv_at hl 3 rfl) ?_
                  refine lv_iload_n hx hb dX8_gatherTwiceOf_53 rfl (lv_at hl 4 rfl) ?_
                  refine lv_aload_n hx hb dX8_gatherTwiceOf_54 rfl (lv_at hl 3 rfl) ?_
                  refine r_get C hw (hsh 37 _ rfl) fl_X8_27 (oV_r rfl (hrs (37, 4, 40) (by decide))) dX8_gatherTwiceOf_55 ?_
                  refine lv_iload hx hb dX8_gatherTwiceOf_58 (lv_at hl 0 rfl) ?_
                  refine r_iald C hw (hsh 40 _ rfl) (by omega) (by omega) dX8_gatherTwiceOf_60 (ti_c (ig25 (B + 40) v23.toInt.toNat).toInt rfl fun z30 hz30 => ?_)
                  obtain ⟨hkl, hsk⟩ := g37_2.at (k := v23.toInt.toNat) (by omega)
                  have hkm := List.getElem_mem hkl
                  have hq8 := rdI_on hft (stp_mem (L := M) (x := v2.toInt) (by omega) (by omega)) hkm
                  have hin9 := rdI_in (stp_mem (L := M) (x := v2.toInt) (by omega) (by omega)) hkm
                  have hzq : z30.toInt = (rdI (stp M v2.toInt) x.toInt)[v23.toInt.toNat] := by rw [hz30]; exact hsk
                  rw [← hzq] at hin9
                  have hzn : ((z30.toInt.toNat : Nat) : Int) = z30.toInt := by omega
                  refine r_callV (As := [.int x, .int z30]) (rest := []) C hw (t_X8_addReadE l B D cA kd24 ig25 rg26 lg27 _ x z30 σ π ν (hS.nx hN) (hX.ag (fun p => hO.i 38 p)) w hwr (by omega) (by omega) _ g37_4 (fun t9 => ⟨(hq9 z30.toInt.toNat (by rw [hzn]; exact hin9) t9).1.o g37_5 (hq9 z30.toInt.toNat (by rw [hzn]; exact hin9) t9).2, (hq9 z30.toInt.toNat (by rw [hzn]; exact hin9) t9).2⟩) hI) sv_X8_111 (hsh 37 _ rfl) rfl hl.1 rfl (Nat.le_of_ble_eq_true rfl) ⟨Nat.le_of_ble_eq_true rfl, Nat.le_of_ble_eq_true rfl⟩ ⟨Nat.le_of_ble_eq_true rfl, Nat.le_of_ble_eq_true rfl⟩ dX8_gatherTwiceOf_61 (fun r35 kd31 ig32 rg33 lg34 H locs hw hH hp36 => ?_)
                  obtain ⟨hI, hchp36, hrhp36⟩ := hp36
                  have hN := hN.tr hchp36
                  have hsh := hI.sh
                  have hrs := hI.rs
                  obtain ⟨rfl, hvhp36⟩ := hrhp36
                  obtain ⟨phvhp36, ohvhp36⟩ := hvhp36
                  have hO := hO.tr ohvhp36
                  refine tc_inc hx hb dX8_gatherTwiceOf_64 hl (k := 0) rfl (by decide) (by decide) (fun z37 hz37 ls hl => ?_)
                  first | replace hz37 := hz37 (by omega) | clear hz37
                  have hl : lv_has ls 6 [(5, .int z37), (4, .int z21), (3, .int v2), (0, .ref (B + 37)), (1, .int x), (2, .ref g)] := hl
                  refine lv_goto (tgt := 37) hx hb dX8_gatherTwiceOf_67 (by decide) ?_
                  exact ih37 ls H locs kd31 ig32 rg33 lg34 z37 (lv_sub hl [0, 1, 2, 3, 4, 5] rfl) hw hI hN (by omega) (by omega) (g37_2.ag (fun j => ohvhp36.i 40 j)) (by omega) ((by rw [show z37.toInt.toNat = v23.toInt.toNat + 1 by omega, List.take_succ_eq_append_getElem hkl, ← List.append_assoc, ← hzq, ← hzn]; exact phvhp36.1)) (TwO.tr g37_5 phvhp36.2) (hO) (by omega)
          exact L37 ((z21.toInt - z22.toInt) + 1).toNat ls H locs kd3 ig4 rg5 lg6 z22 (lv_sub hl [0, 1, 2, 3, 4, 5] rfl) hw hI hN (by omega) (by omega) ((by rw [rdI_n nrd9]; exact SpL.nil (by omega))) (by omega) (by rw [show z22.toInt.toNat = 0 by omega, List.take_zero, List.append_nil]; exact g2_2) (g2_3) (hO) (by omega)
        · have rd9 := by1 rdh (by omega)
          refine lv_aload_n hx hb dX8_gatherTwiceOf_18 rfl (lv_at hl 3 rfl) ?_
          refine lv_iload_n hx hb dX8_gatherTwiceOf_19 rfl (lv_at hl 0 rfl) ?_
          refine lv_iload_n hx hb dX8_gatherTwiceOf_20 rfl (lv_at hl 2 rfl) ?_
          refine lv_aload_n hx hb dX8_gatherTwiceOf_21 rfl (lv_at hl 1 rfl) ?_
          refine r_get C hw (hsh 37 _ rfl) fl_X8_27 (oV_r rfl (hrs (37, 4, 40) (by decide))) dX8_gatherTwiceOf_22 ?_
          refine r_callV (As := [.int v2, .int x, .ref (B + 40)]) (rest := []) C hw (t_X4_listPlacesE l B D cA kd3 ig4 rg5 lg6 _ g M (hM.nx hN) v2 x 40 (Or.inr (Or.inr (Or.inr rfl))) (by omega) (by omega) (hwf.at (by omega) (by omega) rd9) (hft _ (stp_mem (L := M) (x := v2.toInt) (by omega) (by omega)) rd9) hI) sv_X8_90 (isFn.k (FnL.F (hM.nx hN))) rfl hl.1 rfl (Nat.le_of_ble_eq_true rfl) ⟨Nat.le_of_ble_eq_true rfl, Nat.le_of_ble_eq_true rfl⟩ ⟨Nat.le_of_ble_eq_true rfl, Nat.le_of_ble_eq_true rfl⟩ dX8_gatherTwiceOf_25 (fun r42 kd38 ig39 rg40 lg41 H locs hw hH hp43 => ?_)
          obtain ⟨hI, hchp43, hrhp43⟩ := hp43
          have hN := hN.tr hchp43
          have hsh := hI.sh
          have hrs := hI.rs
          obtain ⟨z44, rfl, hz44⟩ := hrhp43
          obtain ⟨phz44, ohz44, khz44_0⟩ := hz44
          have hO := hO.tr ohz44
          have hz35 := phz44.1
          have hln9 := plS_len (hft _ (stp_mem (L := M) (x := v2.toInt) (by omega) (by omega)) rd9)
          refine lv_goto (tgt := 32) hx hb dX8_gatherTwiceOf_28 (by decide) ?_
          refine lv_istore (lv' := [(4, .int z44), (3, .int v2), (0, .ref (B + 37)), (1, .int x), (2, .ref g)]) hx hb dX8_gatherTwiceOf_32 hl (by decide) rfl (fun ls hl => ?_)
          refine lv_iconst (v := 0) hx hb dX8_gatherTwiceOf_34 (by decide) (ti_c 0 (by decide) fun z45 hz45 => ?_)
          refine lv_istore (lv' := [(5, .int z45), (4, .int z44), (3, .int v2), (0, .ref (B + 37)), (1, .int x), (2, .ref g)]) hx hb dX8_gatherTwiceOf_35 hl (by decide) rfl (fun ls hl => ?_)
          have L37 : ∀ (n : Nat) (ls : Array Slot) (H : Heap) (locs : List Loc) (kd47 : sK) (ig48 : sI) (rg49 : sR) (lg50 : sG) (v46 : Int32), lv_has ls 6 [(5, .int v46), (4, .int z44), (3, .int v2), (0, .ref (B + 37)), (1, .int x), (2, .ref g)] → WD B D cA s.heap kd47 ig48 rg49 lg50 H locs → IC τ B kd47 ig48 rg49 → Nx 958 B none kd ig rg lg kd47 ig48 rg49 lg50 → (0 ≤ v46.toInt) → (v46.toInt ≤ z44.toInt) → (SpL B 40 (rdI (stp M v2.toInt) x.toInt) ig48 z44.toInt) → (z44.toInt ≤ 288) → (TwL B σ w x.toInt.toNat (rdL (M.take v2.toInt.toNat) x.toInt ++ (rdI (stp M v2.toInt) x.toInt).take v46.toInt.toNat) lg50) → (TwO B x.toInt.toNat lg lg50) → (Fo B [40, 41, 42] ig lg ig48 lg50) → z44.toInt - v46.toInt < (n : Int) → W p l e (rL 3 0 0) s m args below meth c H locs 0 0 (MQ below (QcW B D cA (PI 958 τ B none kd ig rg lg (fun r kd' ig' rg' lg' => (r = none ∧ ((TwL B σ w x.toInt.toNat (rdL M x.toInt) lg' ∧ TwO B x.toInt.toNat lg lg') ∧ Fo B [40, 41, 42] ig lg ig' lg'))))) args s 0 0 (fun q => B ≤ q)) (F0 m 37 ls []) := by
            intro n37
            induction n37 with
            | zero => intro ls H locs kd47 ig48 rg49 lg50 v46 hl hw hI hN g37_0 g37_1 g37_2 g37_3 g37_4 g37_5 g37_6 hmu; exact absurd hmu (by omega)
            | succ n37 ih37 =>
              intro ls H locs kd47 ig48 rg49 lg50 v46 hl hw hI hN g37_0 g37_1 g37_2 g37_3 g37_4 g37_5 g37_6 hmu
              have hsh := hI.sh
              have hrs := hI.rs
              have hO := g37_6
              refine lv_iload hx hb dX8_gatherTwiceOf_37 (lv_at hl 0 rfl) ?_
              refine lv_iload hx hb dX8_gatherTwiceOf_39 (lv_at hl 1 rfl) ?_
              refine b_ge (tgt := 70) hx hb dX8_gatherTwiceOf_41 (by decide) (fun c41 => ?_) (fun c41 => ?_)
              · refine tc_inc hx hb dX8_gatherTwiceOf_70 hl (k := 2) rfl (by decide) (by decide) (fun z51 hz51 ls hl => ?_)
                first | replace hz51 := hz51 (by omega) | clear hz51
                have hl : lv_has ls 6 [(3, .int z51), (5, .int v46), (4, .int z44), (0, .ref (B + 37)), (1, .int x), (2, .ref g)] := hl
                refine lv_goto (tgt := 2) hx hb dX8_gatherTwiceOf_73 (by decide) ?_
                exact ih2 ls H locs kd47 ig48 rg49 lg50 z51 (lv_sub hl [0, 3, 4, 5] rfl) hw hI hN (by omega) (by omega) ((by rw [show z51.toInt.toNat = v2.toInt.toNat + 1 by omega, rdL_s (by omega)]; have q9 := g37_4; rw [show v46.toInt.toNat = (rdI (stp M v2.toInt) x.toInt).length by have q8 := g37_2.1; omega, List.take_length, stp_in (by omega) (by omega)] at q9; exact q9)) (g37_5) (hO) (by omega)
              · refine lv_iload hx hb dX8_gatherTwiceOf_44 (lv_at hl 0 rfl) ?_
                refine lv_sipush (v := 288) hx hb dX8_gatherTwiceOf_46 (by decide) (ti_c 288 (by decide) fun z52 hz52 => ?_)
                refine b_ge (tgt := 70) hx hb dX8_gatherTwiceOf_49 (by decide) (fun c49 => ?_) (fun c49 => ?_)
                · exact absurd c49 (by omega)
                · refine lv_aload_n hx hb dX8_gatherTwiceOf_52 rfl (lv_at hl 3 rfl) ?_
                  refine lv_iload_n hx hb dX8_gatherTwiceOf_53 rfl (lv_at hl 4 rfl) ?_
                  refine lv_aload_n hx hb dX8_gatherTwiceOf_54 rfl (lv_at hl 3 rfl) ?_
                  refine r_get C hw (hsh 37 _ rfl) fl_X8_27 (oV_r rfl (hrs (37, 4, 40) (by decide))) dX8_gatherTwiceOf_55 ?_
                  refine lv_iload hx hb dX8_gatherTwiceOf_58 (lv_at hl 0 rfl) ?_
                  refine r_iald C hw (hsh 40 _ rfl) (by omega) (by omega) dX8_gatherTwiceOf_60 (ti_c (ig48 (B + 40) v46.toInt.toNat).toInt rfl fun z53 hz53 => ?_)
                  obtain ⟨hkl, hsk⟩ := g37_2.at (k := v46.toInt.toNat) (by omega)
                  have hkm := List.getElem_mem hkl
                  have hq8 := rdI_on hft (stp_mem (L := M) (x := v2.toInt) (by omega) (by omega)) hkm
                  have hin9 := rdI_in (stp_mem (L := M) (x := v2.toInt) (by omega) (by omega)) hkm
                  have hzq : z53.toInt = (rdI (stp M v2.toInt) x.toInt)[v46.toInt.toNat] := by rw [hz53]; exact hsk
                  rw [← hzq] at hin9
                  have hzn : ((z53.toInt.toNat : Nat) : Int) = z53.toInt := by omega
                  refine r_callV (As := [.int x, .int z53]) (rest := []) C hw (t_X8_addReadE l B D cA kd47 ig48 rg49 lg50 _ x z53 σ π ν (hS.nx hN) (hX.ag (fun p => hO.i 38 p)) w hwr (by omega) (by omega) _ g37_4 (fun t9 => ⟨(hq9 z53.toInt.toNat (by rw [hzn]; exact hin9) t9).1.o g37_5 (hq9 z53.toInt.toNat (by rw [hzn]; exact hin9) t9).2, (hq9 z53.toInt.toNat (by rw [hzn]; exact hin9) t9).2⟩) hI) sv_X8_111 (hsh 37 _ rfl) rfl hl.1 rfl (Nat.le_of_ble_eq_true rfl) ⟨Nat.le_of_ble_eq_true rfl, Nat.le_of_ble_eq_true rfl⟩ ⟨Nat.le_of_ble_eq_true rfl, Nat.le_of_ble_eq_true rfl⟩ dX8_gatherTwiceOf_61 (fun r58 kd54 ig55 rg56 lg57 H locs hw hH hp59 => ?_)
                  obtain ⟨hI, hchp59, hrhp59⟩ := hp59
                  have hN := hN.tr hchp59
                  have hsh := hI.sh
                  have hrs := hI.rs
                  obtain ⟨rfl, hvhp59⟩ := hrhp59
                  obtain ⟨phvhp59, ohvhp59⟩ := hvhp59
                  have hO := hO.tr ohvhp59
                  refine tc_inc hx hb dX8_gatherTwiceOf_64 hl (k := 0) rfl (by decide) (by decide) (fun z60 hz60 ls hl => ?_)
                  first | replace hz60 := hz60 (by omega) | clear hz60
                  have hl : lv_has ls 6 [(5, .int z60), (4, .int z44), (3, .int v2), (0, .ref (B + 37)), (1, .int x), (2, .ref g)] := hl
                  refine lv_goto (tgt := 37) hx hb dX8_gatherTwiceOf_67 (by decide) ?_
                  exact ih37 ls H locs kd54 ig55 rg56 lg57 z60 (lv_sub hl [0, 1, 2, 3, 4, 5] rfl) hw hI hN (by omega) (by omega) (g37_2.ag (fun j => ohvhp59.i 40 j)) (by omega) ((by rw [show z60.toInt.toNat = v46.toInt.toNat + 1 by omega, List.take_succ_eq_append_getElem hkl, ← List.append_assoc, ← hzq, ← hzn]; exact phvhp59.1)) (TwO.tr g37_5 phvhp59.2) (hO) (by omega)
          exact L37 ((z44.toInt - z45.toInt) + 1).toNat ls H locs kd38 ig39 rg40 lg41 z45 (lv_sub hl [0, 1, 2, 3, 4, 5] rfl) hw hI hN (by omega) (by omega) ((by rw [rdI_y rd9]; exact phz44)) (by omega) (by rw [show z45.toInt.toNat = 0 by omega, List.take_zero, List.append_nil]; exact (by rw [TwL.lg (fun j => ohz44.l 41 j) (fun j => ohz44.l 42 j)]; exact g2_2)) ((TwO.tr g2_3 (TwO.of (fun j => ohz44.l 41 j) (fun j => ohz44.l 42 j)))) (hO) (by omega)
  exact L2 (((M.length : Int) - z1.toInt) + 1).toNat ls s.heap [] kd ig rg lg z1 (lv_sub hl [0, 1, 2, 3] rfl) hw hI hN (by omega) (by omega) (by rw [show z1.toInt.toNat = 0 by omega, List.take_zero]; exact hz9) (TwO.rf) (hO) (by omega)

set_option maxHeartbeats 4000000 in
set_option maxRecDepth 100000 in
theorem t_X8_gatherTwiceE {τ : Tp} (l : Launch) (B : Nat) (D : va_G) (cA : Nat → ClassId) (kd : sK) (ig : sI) (rg : sR) (lg : sG) (sz : Nat) (σ : Sg) (π : Ps) (ν : Nat) (hS : SCh B σ π ν kd ig rg) (hLs : LSt B σ ig lg) (hX : TtP B (isTot σ) 288 ig) (hW : WS σ π) (w : Nat → Nat → Int) (hwr : WR σ w) (hI : IC τ B kd ig rg) : MC l B D cA yX8_gatherTwice cX8_gatherTwice 4 none (rL 4 0 0) [.ref (B + 37)] kd ig rg lg sz (PI 958 τ B none kd ig rg lg (fun r kd' ig' rg' lg' => (r = none ∧ ((∀ p, isTot σ p → TwR B w p lg') ∧ Fo B [40, 41, 42] ig lg ig' lg')))) := by
  refine MC.of (own := RX8) (by decide +kernel) rfl (Nat.le_of_ble_eq_true rfl) ?_
  intro p e s m args below meth c ls C hr hlk hnm hw hsz hl
  have hx := C.1.1
  have hb := C.1.2.1
  have hown := C.1.2.2.2.1
  have hts := C.1.2.2.2.2
  have hl : lv_has ls 4 [(0, .ref (B + 37))] := hl
  have hN : Nx 958 B none kd ig rg lg kd ig rg lg := Nx.rf
  have hsh := hI.sh
  have hrs := hI.rs
  have hO : Fo B [40, 41, 42] ig lg ig lg := Fo.rf
  have hI0 := hI
  refine lv_iconst (v := 0) hx hb dX8_gatherTwice_0 (by decide) (ti_c 0 (by decide) fun z1 hz1 => ?_)
  refine lv_istore_n (lv' := [(1, .int z1), (0, .ref (B + 37))]) hx hb dX8_gatherTwice_1 rfl hl (by decide) rfl (fun ls hl => ?_)
  have L2 : ∀ (n : Nat) (ls : Array Slot) (H : Heap) (locs : List Loc) (kd3 : sK) (ig4 : sI) (rg5 : sR) (lg6 : sG) (v2 : Int32), lv_has ls 4 [(1, .int v2), (0, .ref (B + 37))] → WD B D cA s.heap kd3 ig4 rg5 lg6 H locs → IC τ B kd3 ig4 rg5 → Nx 958 B none kd ig rg lg kd3 ig4 rg5 lg6 → (0 ≤ v2.toInt) → (v2.toInt ≤ (ig (B + 15) 9).toInt) → (TwI B σ w (oD B ig) v2.toInt.toNat lg6) → (Fo B [40, 41, 42] ig lg ig4 lg6) → (ig (B + 15) 9).toInt - v2.toInt < (n : Int) → W p l e (rL 4 0 0) s m args below meth c H locs 0 0 (MQ below (QcW B D cA (PI 958 τ B none kd ig rg lg (fun r kd' ig' rg' lg' => (r = none ∧ ((∀ p, isTot σ p → TwR B w p lg') ∧ Fo B [40, 41, 42] ig lg ig' lg'))))) args s 0 0 (fun q => B ≤ q)) (F0 m 2 ls []) := by
    intro n2
    induction n2 with
    | zero => intro ls H locs kd3 ig4 rg5 lg6 v2 hl hw hI hN g2_0 g2_1 g2_2 g2_3 hmu; exact absurd hmu (by omega)
    | succ n2 ih2 =>
      intro ls H locs kd3 ig4 rg5 lg6 v2 hl hw hI hN g2_0 g2_1 g2_2 g2_3 hmu
      have hsh := hI.sh
      have hrs := hI.rs
      have hO := g2_3
      have hO8 := hO
      have k915 : 0 ≤ (ig (B + 15) 9).toInt ∧ (ig (B + 15) 9).toInt ≤ 288 := hI0.i 15 9 (by decide)
      refine lv_iload_n hx hb dX8_gatherTwice_2 rfl (lv_at hl 0 rfl) ?_
      refine lv_aload_n hx hb dX8_gatherTwice_3 rfl (lv_at hl 1 rfl) ?_
      refine r_get C hw (hsh 37 _ rfl) fl_X8_15 (oV_r rfl (hrs (37, 1, 15) (by decide))) dX8_gatherTwice_4 ?_
      refine r_callV (As := []) (rest := [.int v2]) C hw (t_X5_orderSizeE l B D cA kd3 ig4 rg5 lg6 _   hI) sv_X8_73 (hsh 15 _ rfl) rfl hl.1 rfl (Nat.le_of_ble_eq_true rfl) ⟨Nat.le_of_ble_eq_true rfl, Nat.le_of_ble_eq_true rfl⟩ ⟨Nat.le_of_ble_eq_true rfl, Nat.le_of_ble_eq_true rfl⟩ dX8_gatherTwice_7 (fun r11 kd7 ig8 rg9 lg10 H locs hw hH hp12 => ?_)
      obtain ⟨rfl, rfl, rfl, rfl, hzhp12, hrhp12⟩ := hp12
      obtain ⟨z13, rfl, hz13⟩ := hrhp12
      have hos : z13.toInt = (ig (B + 15) 9).toInt := by rw [hz13, hO8.i 15 _]
      refine b_ge (tgt := 60) hx hb dX8_gatherTwice_10 (by decide) (fun c10 => ?_) (fun c10 => ?_)
      · exact r_vret C hw hr hlk (Nat.le_of_ble_eq_true rfl) (Nat.le_of_ble_eq_true rfl) dX8_gatherTwice_60 ⟨hI, hN, ⟨rfl, ⟨(TwI.fin (n := oN B ig) (by rw [← show v2.toInt.toNat = oN B ig by unfold oN; omega]; exact g2_2) hLs.2.2), hO⟩⟩⟩
      · refine lv_aload_n hx hb dX8_gatherTwice_13 rfl (lv_at hl 1 rfl) ?_
        refine r_get C hw (hsh 37 _ rfl) fl_X8_15 (oV_r rfl (hrs (37, 1, 15) (by decide))) dX8_gatherTwice_14 ?_
        refine lv_iload_n hx hb dX8_gatherTwice_17 rfl (lv_at hl 0 rfl) ?_
        refine r_callV (As := [.int v2]) (rest := []) C hw (t_X5_inOrderE l B D cA kd3 ig4 rg5 lg6 _ v2 (by omega) hI) sv_X8_77 (hsh 15 _ rfl) rfl hl.1 rfl (Nat.le_of_ble_eq_true rfl) ⟨Nat.le_of_ble_eq_true rfl, Nat.le_of_ble_eq_true rfl⟩ ⟨Nat.le_of_ble_eq_true rfl, Nat.le_of_ble_eq_true rfl⟩ dX8_gatherTwice_18 (fun r18 kd14 ig15 rg16 lg17 H locs hw hH hp19 => ?_)
        obtain ⟨rfl, rfl, rfl, rfl, hzhp19, hrhp19⟩ := hp19
        obtain ⟨z20, rfl, hz20⟩ := hrhp19
        have hzo : z20.toInt = (ig (B + 22) v2.toInt.toNat).toInt := by rw [hz20, hO8.i 22 _]
        have hfo9 := hLs.2.2.1 v2.toInt.toNat (by unfold oN; omega)
        have hov := oD_v hfo9.1
        have ho9 := hfo9.1
        have hod : oD B ig v2.toInt.toNat = z20.toInt.toNat := by omega
        have hon9 : 0 ≤ z20.toInt ∧ z20.toInt < 288 := by omega
        have hk2 : kdO (atC σ z20.toInt) = 2 := by rw [atC_on hon9, ← hod]; exact hfo9.2
        refine lv_istore_n (lv' := [(2, .int z20), (1, .int v2), (0, .ref (B + 37))]) hx hb dX8_gatherTwice_21 rfl hl (by decide) rfl (fun ls hl => ?_)
        refine lv_aload_n hx hb dX8_gatherTwice_22 rfl (lv_at hl 2 rfl) ?_
        refine r_get C hw (hsh 37 _ rfl) fl_X8_9 (oV_r rfl (hrs (37, 0, 9) (by decide))) dX8_gatherTwice_23 ?_
        refine lv_iload_n hx hb dX8_gatherTwice_26 rfl (lv_at hl 0 rfl) ?_
        refine r_callV (As := [.int z20]) (rest := []) C hw (t_X6_formulaAtE l B D cA kd3 ig4 rg5 lg6 _ z20 σ π ν (hS.nx hN) hI) sv_X8_49 (hsh 9 _ rfl) rfl hl.1 rfl (Nat.le_of_ble_eq_true rfl) ⟨Nat.le_of_ble_eq_true rfl, Nat.le_of_ble_eq_true rfl⟩ ⟨Nat.le_of_ble_eq_true rfl, Nat.le_of_ble_eq_true rfl⟩ dX8_gatherTwice_27 (fun r25 kd21 ig22 rg23 lg24 H locs hw hH hp26 => ?_)
        obtain ⟨rfl, rfl, rfl, rfl, hzhp26, hrhp26⟩ := hp26
        rcases hrhp26 with ⟨rfl, nkf27⟩ | ⟨f27, rfl, nkf27, hLf27⟩
        · refine lv_astore_nN (lv' := [(3, .null), (2, .int z20), (1, .int v2), (0, .ref (B + 37))]) hx hb dX8_gatherTwice_30 rfl hl (by decide) rfl (fun ls hl => ?_)
          refine lv_aload_n hx hb dX8_gatherTwice_31 rfl (lv_at hl 3 rfl) ?_
          refine lv_iload_n hx hb dX8_gatherTwice_32 rfl (lv_at hl 1 rfl) ?_
          refine r_callV (As := [.int z20]) (rest := []) C hw (t_X8_isTotalE l B D cA kd3 ig4 rg5 lg6 _ z20 (isTot σ) (hX.ag (fun p => hO8.i 38 p)) hI) sv_X8_66 (hsh 37 _ rfl) rfl hl.1 rfl (Nat.le_of_ble_eq_true rfl) ⟨Nat.le_of_ble_eq_true rfl, Nat.le_of_ble_eq_true rfl⟩ ⟨Nat.le_of_ble_eq_true rfl, Nat.le_of_ble_eq_true rfl⟩ dX8_gatherTwice_33 (fun r32 kd28 ig29 rg30 lg31 H locs hw hH hp33 => ?_)
          obtain ⟨rfl, rfl, rfl, rfl, hzhp33, hrhp33⟩ := hp33
          obtain ⟨z34, rfl, hz34⟩ := hrhp33
          have it8 := hz34
          refine z_eq (tgt := 54) hx hb dX8_gatherTwice_36 (by decide) (fun c36 => ?_) (fun c36 => ?_)
          · refine tc_inc hx hb dX8_gatherTwice_54 hl (k := 2) rfl (by decide) (by decide) (fun z35 hz35 ls hl => ?_)
            first | replace hz35 := hz35 (by omega) | clear hz35
            have hl : lv_has ls 4 [(1, .int z35), (3, .null), (2, .int z20), (0, .ref (B + 37))] := hl
            refine lv_goto (tgt := 2) hx hb dX8_gatherTwice_57 (by decide) ?_
            exact ih2 ls H locs kd3 ig4 rg5 lg6 z35 (lv_sub hl [0, 3] rfl) hw hI hN (by omega) (by omega) ((by rw [show z35.toInt.toNat = v2.toInt.toNat + 1 by omega]; exact (TwI.step g2_2 hLs.2.2 (by unfold oN; omega) TwO.rf (fun q9 => absurd ⟨hon9, (by rw [hod] at q9; exact q9)⟩ (by0 it8 (by omega)))))) (hO) (by omega)
          · refine lv_aload_nN hx hb dX8_gatherTwice_39 rfl (lv_at hl 0 rfl) ?_
            refine lv_ifnullN (tgt := 54) hx hb dX8_gatherTwice_40 (by decide) ?_
            refine tc_inc hx hb dX8_gatherTwice_54 hl (k := 2) rfl (by decide) (by decide) (fun z36 hz36 ls hl => ?_)
            first | replace hz36 := hz36 (by omega) | clear hz36
            have hl : lv_has ls 4 [(1, .int z36), (3, .null), (2, .int z20), (0, .ref (B + 37))] := hl
            refine lv_goto (tgt := 2) hx hb dX8_gatherTwice_57 (by decide) ?_
            exact ih2 ls H locs kd3 ig4 rg5 lg6 z36 (lv_sub hl [0, 3] rfl) hw hI hN (by omega) (by omega) ((by rw [show z36.toInt.toNat = v2.toInt.toNat + 1 by omega]; exact (nkf27 hk2).elim)) (hO) (by omega)
        · have lf27 := hLf27.le
          refine lv_astore_n (lv' := [(3, .ref f27), (2, .int z20), (1, .int v2), (0, .ref (B + 37))]) hx hb dX8_gatherTwice_30 rfl hl (by decide) rfl (fun ls hl => ?_)
          refine lv_aload_n hx hb dX8_gatherTwice_31 rfl (lv_at hl 3 rfl) ?_
          refine lv_iload_n hx hb dX8_gatherTwice_32 rfl (lv_at hl 1 rfl) ?_
          refine r_callV (As := [.int z20]) (rest := []) C hw (t_X8_isTotalE l B D cA kd3 ig4 rg5 lg6 _ z20 (isTot σ) (hX.ag (fun p => hO8.i 38 p)) hI) sv_X8_66 (hsh 37 _ rfl) rfl hl.1 rfl (Nat.le_of_ble_eq_true rfl) ⟨Nat.le_of_ble_eq_true rfl, Nat.le_of_ble_eq_true rfl⟩ ⟨Nat.le_of_ble_eq_true rfl, Nat.le_of_ble_eq_true rfl⟩ dX8_gatherTwice_33 (fun r41 kd37 ig38 rg39 lg40 H locs hw hH hp42 => ?_)
          obtain ⟨rfl, rfl, rfl, rfl, hzhp42, hrhp42⟩ := hp42
          obtain ⟨z43, rfl, hz43⟩ := hrhp42
          have it8 := hz43
          refine z_eq (tgt := 54) hx hb dX8_gatherTwice_36 (by decide) (fun c36 => ?_) (fun c36 => ?_)
          · refine tc_inc hx hb dX8_gatherTwice_54 hl (k := 2) rfl (by decide) (by decide) (fun z44 hz44 ls hl => ?_)
            first | replace hz44 := hz44 (by omega) | clear hz44
            have hl : lv_has ls 4 [(1, .int z44), (3, .ref f27), (2, .int z20), (0, .ref (B + 37))] := hl
            refine lv_goto (tgt := 2) hx hb dX8_gatherTwice_57 (by decide) ?_
            exact ih2 ls H locs kd3 ig4 rg5 lg6 z44 (lv_sub hl [0, 3] rfl) hw hI hN (by omega) (by omega) ((by rw [show z44.toInt.toNat = v2.toInt.toNat + 1 by omega]; exact (TwI.step g2_2 hLs.2.2 (by unfold oN; omega) TwO.rf (fun q9 => absurd ⟨hon9, (by rw [hod] at q9; exact q9)⟩ (by0 it8 (by omega)))))) (hO) (by omega)
          · refine lv_aload_n hx hb dX8_gatherTwice_39 rfl (lv_at hl 0 rfl) ?_
            refine lv_ifnull hx hb dX8_gatherTwice_40 ?_
            refine lv_aload_n hx hb dX8_gatherTwice_43 rfl (lv_at hl 3 rfl) ?_
            refine lv_iload_n hx hb dX8_gatherTwice_44 rfl (lv_at hl 1 rfl) ?_
            refine r_callV (As := [.int z20]) (rest := []) C hw (t_X8_forgetTwiceOfE l B D cA kd3 ig4 rg5 lg6 _ z20 (by omega) hI) sv_X8_103 (hsh 37 _ rfl) rfl hl.1 rfl (Nat.le_of_ble_eq_true rfl) ⟨Nat.le_of_ble_eq_true rfl, Nat.le_of_ble_eq_true rfl⟩ ⟨Nat.le_of_ble_eq_true rfl, Nat.le_of_ble_eq_true rfl⟩ dX8_gatherTwice_45 (fun r49 kd45 ig46 rg47 lg48 H locs hw hH hp50 => ?_)
            obtain ⟨hI, hchp50, hrhp50⟩ := hp50
            have hLf27 := FnL.nx hLf27 hchp50
            have hN := hN.tr hchp50
            have hsh := hI.sh
            have hrs := hI.rs
            obtain ⟨rfl, hvhp50⟩ := hrhp50
            obtain ⟨phvhp50, ohvhp50⟩ := hvhp50
            have hO := hO.tr ohvhp50
            refine lv_aload_n hx hb dX8_gatherTwice_48 rfl (lv_at hl 3 rfl) ?_
            refine lv_iload_n hx hb dX8_gatherTwice_49 rfl (lv_at hl 1 rfl) ?_
            refine lv_aload_n hx hb dX8_gatherTwice_50 rfl (lv_at hl 0 rfl) ?_
            refine r_callV (As := [.int z20, .ref f27]) (rest := []) C hw (t_X8_gatherTwiceOfE l B D cA kd45 ig46 rg47 lg48 _ z20 f27 (fmO (atC σ z20.toInt)) hLf27 σ π ν (hS.nx hN) (hX.ag (fun p => hO.i 38 p)) w hwr (by omega) (hW.wf hk2).1 (hW.wf hk2).2 (TwL.zero phvhp50.1) (fun q9 hq9 t9 => by obtain ⟨q7, q8⟩ := TwI.rd g2_2 hLs.2.2 (by unfold oN; omega) (show isTot σ (oD B ig v2.toInt.toNat) by rw [hod]; exact (by1 it8 (by omega)).2) (y := q9) (by rw [hod, show ((z20.toInt.toNat : Nat) : Int) = z20.toInt by omega, ← atC_on (σ := σ) (x := z20.toInt) hon9]; exact hq9) t9; rw [hod] at q8; exact ⟨q7.o phvhp50.2 q8, q8⟩) hI) sv_X8_107 (hsh 37 _ rfl) rfl hl.1 rfl (Nat.le_of_ble_eq_true rfl) ⟨Nat.le_of_ble_eq_true rfl, Nat.le_of_ble_eq_true rfl⟩ ⟨Nat.le_of_ble_eq_true rfl, Nat.le_of_ble_eq_true rfl⟩ dX8_gatherTwice_51 (fun r55 kd51 ig52 rg53 lg54 H locs hw hH hp56 => ?_)
            obtain ⟨hI, hchp56, hrhp56⟩ := hp56
            have hN := hN.tr hchp56
            have hsh := hI.sh
            have hrs := hI.rs
            obtain ⟨rfl, hvhp56⟩ := hrhp56
            obtain ⟨phvhp56, ohvhp56⟩ := hvhp56
            have hO := hO.tr ohvhp56
            refine tc_inc hx hb dX8_gatherTwice_54 hl (k := 2) rfl (by decide) (by decide) (fun z57 hz57 ls hl => ?_)
            first | replace hz57 := hz57 (by omega) | clear hz57
            have hl : lv_has ls 4 [(1, .int z57), (3, .ref f27), (2, .int z20), (0, .ref (B + 37))] := hl
            refine lv_goto (tgt := 2) hx hb dX8_gatherTwice_57 (by decide) ?_
            exact ih2 ls H locs kd51 ig52 rg53 lg54 z57 (lv_sub hl [0, 3] rfl) hw hI hN (by omega) (by omega) ((by rw [show z57.toInt.toNat = v2.toInt.toNat + 1 by omega]; exact (TwI.step g2_2 hLs.2.2 (by unfold oN; omega) (by rw [hod]; exact TwO.tr phvhp50.2 phvhp56.2) (fun q9 => by rw [hod]; exact TwL.fin (by have q8 := phvhp56.1; rw [atC_on hon9, ← show ((z20.toInt.toNat : Nat) : Int) = z20.toInt by omega] at q8; exact q8) hwr (by rw [hod] at q9; exact q9))))) (hO) (by omega)
  exact L2 (((ig (B + 15) 9).toInt - z1.toInt) + 1).toNat ls s.heap [] kd ig rg lg z1 (lv_sub hl [0, 1] rfl) hw hI hN (by omega) ((by have q9 : 0 ≤ (ig (B + 15) 9).toInt ∧ (ig (B + 15) 9).toInt ≤ 288 := hI0.i 15 9 (by decide); omega)) (fun j hj => absurd hj (by omega)) (hO) (by omega)

set_option maxHeartbeats 4000000 in
set_option maxRecDepth 100000 in
theorem t_X8_leastTwiceE {τ : Tp} (l : Launch) (B : Nat) (D : va_G) (cA : Nat → ClassId) (kd : sK) (ig : sI) (rg : sR) (lg : sG) (sz : Nat) (x : Int32) (σ : Sg) (hX : TtP B (isTot σ) 288 ig) (w : Nat → Nat → Int) (hTw : isTot σ x.toInt.toNat → TwR B w x.toInt.toNat lg) (hx0 : 0 ≤ x.toInt ∧ x.toInt < 288) (hI : IC τ B kd ig rg) : MC l B D cA yX8_leastTwice cX8_leastTwice 3 (some .int) (rL 2 0 0) [.ref (B + 37), .int x] kd ig rg lg sz (Pu kd ig rg lg sz (fun r => ∃ z : Int32, r = some (.int z) ∧ ((isTot σ x.toInt.toNat ∧ LtR w x.toInt.toNat z.toInt) ∨ (¬ isTot σ x.toInt.toNat ∧ z.toInt = -1)))) := by
  refine MC.of (own := RX8) (by decide +kernel) rfl (Nat.le_of_ble_eq_true rfl) ?_
  intro p e s m args below meth c ls C hr hlk hnm hw hsz hl
  have hx := C.1.1
  have hb := C.1.2.1
  have hown := C.1.2.2.2.1
  have hts := C.1.2.2.2.2
  have hl : lv_has ls 3 [(0, .ref (B + 37)), (1, .int x)] := hl
  have hsh := hI.sh
  have hrs := hI.rs
  refine lv_aload_n hx hb dX8_leastTwice_0 rfl (lv_at hl 0 rfl) ?_
  refine lv_iload_n hx hb dX8_leastTwice_1 rfl (lv_at hl 1 rfl) ?_
  refine r_callV (As := [.int x]) (rest := []) C hw (t_X8_isTotalE l B D cA kd ig rg lg _ x (isTot σ) hX hI) sv_X8_66 (hsh 37 _ rfl) rfl hl.1 rfl (Nat.le_of_ble_eq_true rfl) ⟨Nat.le_of_ble_eq_true rfl, Nat.le_of_ble_eq_true rfl⟩ ⟨Nat.le_of_ble_eq_true rfl, Nat.le_of_ble_eq_true rfl⟩ dX8_leastTwice_2 (fun r5 kd1 ig2 rg3 lg4 H locs hw hH hp6 => ?_)
  obtain ⟨rfl, rfl, rfl, rfl, hzhp6, hrhp6⟩ := hp6
  have hsz := hzhp6.trans hsz
  obtain ⟨z7, rfl, hz7⟩ := hrhp6
  have it9 := hz7
  refine z_ne (tgt := 10) hx hb dX8_leastTwice_5 (by decide) (fun c5 => ?_) (fun c5 => ?_)
  · have tot9 : isTot σ x.toInt.toNat := (by1 it9 (by omega)).2
    refine lv_iconst (v := 0) hx hb dX8_leastTwice_10 (by decide) (ti_c 0 (by decide) fun z8 hz8 => ?_)
    refine lv_istore_n (lv' := [(2, .int z8), (0, .ref (B + 37)), (1, .int x)]) hx hb dX8_leastTwice_11 rfl hl (by decide) rfl (fun ls hl => ?_)
    have L12 : ∀ (n : Nat) (ls : Array Slot) (H : Heap) (locs : List Loc) (v9 : Int32), lv_has ls 3 [(2, .int v9), (0, .ref (B + 37)), (1, .int x)] → WD B D cA s.heap kd ig rg lg H locs → H.size = sz → (0 ≤ v9.toInt) → (v9.toInt ≤ 288) → (∀ d : Nat, (d : Int) < v9.toInt → ¬ 2 ≤ w x.toInt.toNat d) → 288 - v9.toInt < (n : Int) → W p l e (rL 2 0 0) s m args below meth c H locs 0 0 (MQ below (QcW B D cA (Pu kd ig rg lg sz (fun r => ∃ z : Int32, r = some (.int z) ∧ ((isTot σ x.toInt.toNat ∧ LtR w x.toInt.toNat z.toInt) ∨ (¬ isTot σ x.toInt.toNat ∧ z.toInt = -1))))) args s 0 0 (fun q => B ≤ q)) (F0 m 12 ls []) := by
      intro n12
      induction n12 with
      | zero => intro ls H locs v9 hl hw hsz g12_0 g12_1 g12_2 hmu; exact absurd hmu (by omega)
      | succ n12 ih12 =>
        intro ls H locs v9 hl hw hsz g12_0 g12_1 g12_2 hmu
        refine lv_iload_n hx hb dX8_leastTwice_12 rfl (lv_at hl 0 rfl) ?_
        refine lv_sipush (v := 288) hx hb dX8_leastTwice_13 (by decide) (ti_c 288 (by decide) fun z10 hz10 => ?_)
        refine b_ge (tgt := 39) hx hb dX8_leastTwice_16 (by decide) (fun c16 => ?_) (fun c16 => ?_)
        · refine lv_iconst (v := (-1)) hx hb dX8_leastTwice_39 (by decide) (ti_c (-1) (by decide) fun z11 hz11 => ?_)
          exact r_iret C hw hr hlk rfl (Nat.le_of_ble_eq_true rfl) (Nat.le_of_ble_eq_true rfl) dX8_leastTwice_40 ⟨rfl, rfl, rfl, rfl, hsz, ⟨_, rfl, Or.inl ⟨tot9, Or.inr ⟨by omega, fun d hd => g12_2 d (by omega)⟩⟩⟩⟩
        · refine lv_aload_n hx hb dX8_leastTwice_19 rfl (lv_at hl 1 rfl) ?_
          refine r_get C hw (hsh 37 _ rfl) fl_X8_34 (oV_r rfl (hrs (37, 6, 42) (by decide))) dX8_leastTwice_20 ?_
          refine lv_iload_n hx hb dX8_leastTwice_23 rfl (lv_at hl 2 rfl) ?_
          refine lv_iload_n hx hb dX8_leastTwice_24 rfl (lv_at hl 0 rfl) ?_
          refine r_callN (As := [.ref (B + 42), .int x, .int v9]) (rest := []) C hw (t_X11_hasBitE l B D cA kd ig rg lg _ 42 (Or.inr (Or.inr (Or.inr rfl))) x v9  hI) sn_X8_118 rfl hl.1 rfl (Nat.le_of_ble_eq_true rfl) ⟨Nat.le_of_ble_eq_true rfl, Nat.le_of_ble_eq_true rfl⟩ ⟨Nat.le_of_ble_eq_true rfl, Nat.le_of_ble_eq_true rfl⟩ dX8_leastTwice_25 (fun r16 kd12 ig13 rg14 lg15 H locs hw hH hp17 => ?_)
          obtain ⟨rfl, rfl, rfl, rfl, hzhp17, hrhp17⟩ := hp17
          have hsz := hzhp17.trans hsz
          obtain ⟨z18, rfl, hz18⟩ := hrhp17
          have hb9 := hz18
          refine z_eq (tgt := 33) hx hb dX8_leastTwice_28 (by decide) (fun c28 => ?_) (fun c28 => ?_)
          · refine tc_inc hx hb dX8_leastTwice_33 hl (k := 0) rfl (by decide) (by decide) (fun z19 hz19 ls hl => ?_)
            first | replace hz19 := hz19 (by omega) | clear hz19
            have hl : lv_has ls 3 [(2, .int z19), (0, .ref (B + 37)), (1, .int x)] := hl
            refine lv_goto (tgt := 12) hx hb dX8_leastTwice_36 (by decide) ?_
            exact ih12 ls H locs z19 (lv_sub hl [0, 1, 2] rfl) hw hsz (by omega) (by omega) (fun d hd => by by_cases e9 : (d : Int) = v9.toInt; (obtain rfl : d = v9.toInt.toNat := by omega); (exact fun q9 => by0 hb9 (by omega) ⟨by omega, by omega, (hTw tot9 _ (by omega)).2.mpr q9⟩); exact g12_2 d (by omega)) (by omega)
          · refine lv_iload_n hx hb dX8_leastTwice_31 rfl (lv_at hl 0 rfl) ?_
            exact r_iret C hw hr hlk rfl (Nat.le_of_ble_eq_true rfl) (Nat.le_of_ble_eq_true rfl) dX8_leastTwice_32 ⟨rfl, rfl, rfl, rfl, hsz, ⟨_, rfl, Or.inl ⟨tot9, Or.inl ⟨v9.toInt.toNat, by omega, by omega, (hTw tot9 _ (by omega)).2.mp (by1 hb9 (by omega)).2.2, fun d hd => g12_2 d (by omega)⟩⟩⟩⟩
    exact L12 ((288 - z8.toInt) + 1).toNat ls H locs z8 (lv_sub hl [0, 1, 2] rfl) hw hsz (by omega) (by omega) (fun d hd => absurd hd (by omega)) (by omega)
  · refine lv_iconst (v := (-1)) hx hb dX8_leastTwice_8 (by decide) (ti_c (-1) (by decide) fun z20 hz20 => ?_)
    exact r_iret C hw hr hlk rfl (Nat.le_of_ble_eq_true rfl) (Nat.le_of_ble_eq_true rfl) dX8_leastTwice_9 ⟨rfl, rfl, rfl, rfl, hsz, ⟨_, rfl, Or.inr ⟨fun q9 => by0 it9 (by omega) ⟨by omega, q9⟩, by omega⟩⟩⟩

set_option maxHeartbeats 4000000 in
set_option maxRecDepth 100000 in
theorem t_X3_addE {τ : Tp} (l : Launch) (B : Nat) (D : va_G) (cA : Nat → ClassId) (kd : sK) (ig : sI) (rg : sR) (lg : sG) (sz : Nat) (x : Int32) (y : Int32) (u : Int32) (ff : List Fng) (hF : FdS B ff ig) (hs0 : (ff.length : Int) ≤ 99000) (hI : IC τ B kd ig rg) : MC l B D cA yX3_add cX3_add 4 none (rL 0 0 0) [.ref (B + 43), .int x, .int y, .int u] kd ig rg lg sz (PI 894 τ B none kd ig rg lg (fun r kd' ig' rg' lg' => (r = none ∧ (FdS B (ff ++ [(x.toInt, y.toInt, u.toInt)]) ig' ∧ Fo B [43, 44] ig lg ig' lg')))) := by
  refine MC.of (own := RX3) (by decide +kernel) rfl (Nat.le_of_ble_eq_true rfl) ?_
  intro p e s m args below meth c ls C hr hlk hnm hw hsz hl
  have hx := C.1.1
  have hb := C.1.2.1
  have hown := C.1.2.2.2.1
  have hts := C.1.2.2.2.2
  have hl : lv_has ls 4 [(0, .ref (B + 43)), (1, .int x), (2, .int y), (3, .int u)] := hl
  have hN : Nx 894 B none kd ig rg lg kd ig rg lg := Nx.rf
  have hsh := hI.sh
  have hrs := hI.rs
  have hO : Fo B [43, 44] ig lg ig lg := Fo.rf
  have hF1 := hF.1
  refine lv_aload_n hx hb dX3_add_0 rfl (lv_at hl 0 rfl) ?_
  refine r_get C hw (hsh 43 _ rfl) fl_X3_35 (oV_i rfl) dX3_add_1 (ti_c (ig (B + 43) 6).toInt rfl fun z1 hz1 => ?_)
  have k2 : 0 ≤ (ig (B + 43) 6).toInt ∧ (ig (B + 43) 6).toInt ≤ 100000 := hI.i 43 6 (by decide)
  refine lv_sipush (v := 300) hx hb dX3_add_4 (by decide) (ti_c 300 (by decide) fun z3 hz3 => ?_)
  refine b_ge (tgt := 50) hx hb dX3_add_7 (by decide) (fun c7 => ?_) (fun c7 => ?_)
  · refine lv_aload_n hx hb dX3_add_50 rfl (lv_at hl 0 rfl) ?_
    refine lv_dup hx hb dX3_add_51 rfl ?_
    refine r_get C hw (hsh 43 _ rfl) fl_X3_35 (oV_i rfl) dX3_add_52 (ti_c (ig (B + 43) 6).toInt rfl fun z4 hz4 => ?_)
    have k5 : 0 ≤ (ig (B + 43) 6).toInt ∧ (ig (B + 43) 6).toInt ≤ 100000 := hI.i 43 6 (by decide)
    refine lv_iconst (v := 1) hx hb dX3_add_55 (by decide) (ti_c 1 (by decide) fun z6 hz6 => ?_)
    refine lv_iadd hx hb dX3_add_56 (tc_add fun z7 hz7 => ?_)
    first | replace hz7 := hz7 (by omega) | clear hz7
    refine r_puti C hw (hsh 43 _ rfl) fl_X3_35 rfl rfl rfl dX3_add_57 (fun H locs hH hw => ?_)
    have hO0 := hO
    obtain ⟨ig8, eig8⟩ : ∃ f, f = up2 ig (B + 43) 6 z7 := ⟨_, rfl⟩
    rw [← eig8] at hw
    have hN : Nx 894 B none kd ig rg lg kd ig8 rg lg := by rw [eig8]; exact hN.pi (by omega)
    have hI : IC τ B kd ig8 rg := by rw [eig8]; exact hI.pi (show okR (some (0, 100000)) _ from ⟨by show (0 : Int) ≤ _; omega, by show _ ≤ (100000 : Int); omega⟩)
    have wig8 : (ig8 (B + 43) 6).toInt = z7.toInt := by rw [eig8, up2_eq]
    have hO : Fo B [43, 44] ig lg ig8 lg := by rw [eig8]; exact hO0.pi (by decide)
    clear hO0
    exact r_vret C hw hr hlk (Nat.le_of_ble_eq_true rfl) (Nat.le_of_ble_eq_true rfl) dX3_add_60 ⟨hI, hN, ⟨rfl, ⟨(by rw [eig8]; exact FdS.more hF (by omega) (by omega)), hO⟩⟩⟩
  · refine lv_aload_n hx hb dX3_add_10 rfl (lv_at hl 0 rfl) ?_
    refine r_get C hw (hsh 43 _ rfl) fl_X3_31 (oV_r rfl (hrs (43, 5, 44) (by decide))) dX3_add_11 ?_
    refine lv_aload_n hx hb dX3_add_14 rfl (lv_at hl 0 rfl) ?_
    refine r_get C hw (hsh 43 _ rfl) fl_X3_35 (oV_i rfl) dX3_add_15 (ti_c (ig (B + 43) 6).toInt rfl fun z9 hz9 => ?_)
    have k10 : 0 ≤ (ig (B + 43) 6).toInt ∧ (ig (B + 43) 6).toInt ≤ 100000 := hI.i 43 6 (by decide)
    refine lv_iconst (v := 3) hx hb dX3_add_18 (by decide) (ti_c 3 (by decide) fun z11 hz11 => ?_)
    refine lv_imul hx hb dX3_add_19 (tc_mulR 3 hz11 fun z12 hz12 => ?_)
    first | replace hz12 := hz12 (by omega) | clear hz12
    refine lv_iload_n hx hb dX3_add_20 rfl (lv_at hl 1 rfl) ?_
    refine r_iast C hw (hsh 44 _ rfl) (by omega) (by omega) dX3_add_21 (fun H locs hH hw => ?_)
    have hO0 := hO
    obtain ⟨ig13, eig13⟩ : ∃ f, f = up2 ig (B + 44) z12.toInt.toNat x := ⟨_, rfl⟩
    rw [← eig13] at hw
    have hN : Nx 894 B none kd ig rg lg kd ig13 rg lg := by rw [eig13]; exact hN.pi (by omega)
    have hI : IC τ B kd ig13 rg := by rw [eig13]; exact hI.pi (show okR none _ from trivial)
    have wig13_43_6 : (ig13 (B + 43) 6).toInt = (ig (B + 43) 6).toInt := by rw [eig13, up2_a (by omega)]
    have hO : Fo B [43, 44] ig lg ig13 lg := by rw [eig13]; exact hO0.pi (by decide)
    clear hO0
    refine lv_aload_n hx hb dX3_add_22 rfl (lv_at hl 0 rfl) ?_
    refine r_get C hw (hsh 43 _ rfl) fl_X3_31 (oV_r rfl (hrs (43, 5, 44) (by decide))) dX3_add_23 ?_
    refine lv_aload_n hx hb dX3_add_26 rfl (lv_at hl 0 rfl) ?_
    refine r_get C hw (hsh 43 _ rfl) fl_X3_35 (oV_i rfl) dX3_add_27 (ti_c (ig13 (B + 43) 6).toInt rfl fun z14 hz14 => ?_)
    have k15 : 0 ≤ (ig13 (B + 43) 6).toInt ∧ (ig13 (B + 43) 6).toInt ≤ 100000 := hI.i 43 6 (by decide)
    refine lv_iconst (v := 3) hx hb dX3_add_30 (by decide) (ti_c 3 (by decide) fun z16 hz16 => ?_)
    refine lv_imul hx hb dX3_add_31 (tc_mulR 3 hz16 fun z17 hz17 => ?_)
    first | replace hz17 := hz17 (by omega) | clear hz17
    refine lv_iconst (v := 1) hx hb dX3_add_32 (by decide) (ti_c 1 (by decide) fun z18 hz18 => ?_)
    refine lv_iadd hx hb dX3_add_33 (tc_add fun z19 hz19 => ?_)
    first | replace hz19 := hz19 (by omega) | clear hz19
    refine lv_iload_n hx hb dX3_add_34 rfl (lv_at hl 2 rfl) ?_
    refine r_iast C hw (hsh 44 _ rfl) (by omega) (by omega) dX3_add_35 (fun H locs hH hw => ?_)
    have hO0 := hO
    obtain ⟨ig20, eig20⟩ : ∃ f, f = up2 ig13 (B + 44) z19.toInt.toNat y := ⟨_, rfl⟩
    rw [← eig20] at hw
    have hN : Nx 894 B none kd ig rg lg kd ig20 rg lg := by rw [eig20]; exact hN.pi (by omega)
    have hI : IC τ B kd ig20 rg := by rw [eig20]; exact hI.pi (show okR none _ from trivial)
    have wig20_43_6 : (ig20 (B + 43) 6).toInt = (ig13 (B + 43) 6).toInt := by rw [eig20, up2_a (by omega)]
    have hO : Fo B [43, 44] ig lg ig20 lg := by rw [eig20]; exact hO0.pi (by decide)
    clear hO0
    refine lv_aload_n hx hb dX3_add_36 rfl (lv_at hl 0 rfl) ?_
    refine r_get C hw (hsh 43 _ rfl) fl_X3_31 (oV_r rfl (hrs (43, 5, 44) (by decide))) dX3_add_37 ?_
    refine lv_aload_n hx hb dX3_add_40 rfl (lv_at hl 0 rfl) ?_
    refine r_get C hw (hsh 43 _ rfl) fl_X3_35 (oV_i rfl) dX3_add_41 (ti_c (ig20 (B + 43) 6).toInt rfl fun z21 hz21 => ?_)
    have k22 : 0 ≤ (ig20 (B + 43) 6).toInt ∧ (ig20 (B + 43) 6).toInt ≤ 100000 := hI.i 43 6 (by decide)
    refine lv_iconst (v := 3) hx hb dX3_add_44 (by decide) (ti_c 3 (by decide) fun z23 hz23 => ?_)
    refine lv_imul hx hb dX3_add_45 (tc_mulR 3 hz23 fun z24 hz24 => ?_)
    first | replace hz24 := hz24 (by omega) | clear hz24
    refine lv_iconst (v := 2) hx hb dX3_add_46 (by decide) (ti_c 2 (by decide) fun z25 hz25 => ?_)
    refine lv_iadd hx hb dX3_add_47 (tc_add fun z26 hz26 => ?_)
    first | replace hz26 := hz26 (by omega) | clear hz26
    refine lv_iload_n hx hb dX3_add_48 rfl (lv_at hl 3 rfl) ?_
    refine r_iast C hw (hsh 44 _ rfl) (by omega) (by omega) dX3_add_49 (fun H locs hH hw => ?_)
    have hO0 := hO
    obtain ⟨ig27, eig27⟩ : ∃ f, f = up2 ig20 (B + 44) z26.toInt.toNat u := ⟨_, rfl⟩
    rw [← eig27] at hw
    have hN : Nx 894 B none kd ig rg lg kd ig27 rg lg := by rw [eig27]; exact hN.pi (by omega)
    have hI : IC τ B kd ig27 rg := by rw [eig27]; exact hI.pi (show okR none _ from trivial)
    have wig27_43_6 : (ig27 (B + 43) 6).toInt = (ig20 (B + 43) 6).toInt := by rw [eig27, up2_a (by omega)]
    have hO : Fo B [43, 44] ig lg ig27 lg := by rw [eig27]; exact hO0.pi (by decide)
    clear hO0
    refine lv_aload_n hx hb dX3_add_50 rfl (lv_at hl 0 rfl) ?_
    refine lv_dup hx hb dX3_add_51 rfl ?_
    refine r_get C hw (hsh 43 _ rfl) fl_X3_35 (oV_i rfl) dX3_add_52 (ti_c (ig27 (B + 43) 6).toInt rfl fun z28 hz28 => ?_)
    have k29 : 0 ≤ (ig27 (B + 43) 6).toInt ∧ (ig27 (B + 43) 6).toInt ≤ 100000 := hI.i 43 6 (by decide)
    refine lv_iconst (v := 1) hx hb dX3_add_55 (by decide) (ti_c 1 (by decide) fun z30 hz30 => ?_)
    refine lv_iadd hx hb dX3_add_56 (tc_add fun z31 hz31 => ?_)
    first | replace hz31 := hz31 (by omega) | clear hz31
    refine r_puti C hw (hsh 43 _ rfl) fl_X3_35 rfl rfl rfl dX3_add_57 (fun H locs hH hw => ?_)
    have hO0 := hO
    obtain ⟨ig32, eig32⟩ : ∃ f, f = up2 ig27 (B + 43) 6 z31 := ⟨_, rfl⟩
    rw [← eig32] at hw
    have hN : Nx 894 B none kd ig rg lg kd ig32 rg lg := by rw [eig32]; exact hN.pi (by omega)
    have hI : IC τ B kd ig32 rg := by rw [eig32]; exact hI.pi (show okR (some (0, 100000)) _ from ⟨by show (0 : Int) ≤ _; omega, by show _ ≤ (100000 : Int); omega⟩)
    have wig32 : (ig32 (B + 43) 6).toInt = z31.toInt := by rw [eig32, up2_eq]
    have hO : Fo B [43, 44] ig lg ig32 lg := by rw [eig32]; exact hO0.pi (by decide)
    clear hO0
    exact r_vret C hw hr hlk (Nat.le_of_ble_eq_true rfl) (Nat.le_of_ble_eq_true rfl) dX3_add_60 ⟨hI, hN, ⟨rfl, ⟨(by rw [eig32, eig27, eig20, eig13]; exact FdS.add hF (by omega) (by omega) (by omega) rfl rfl rfl (by omega)), hO⟩⟩⟩

set_option maxHeartbeats 4000000 in
set_option maxRecDepth 100000 in
theorem t_X3_gatherShortE {τ : Tp} (l : Launch) (B : Nat) (D : va_G) (cA : Nat → ClassId) (kd : sK) (ig : sI) (rg : sR) (lg : sG) (sz : Nat) (x : Int32) (g : Nat) (M : Fm) (hM : FnL B kd ig rg g M) (σ : Sg) (π : Ps) (ν : Nat) (hS : SCh B σ π ν kd ig rg) (ζ : Nat → Int) (hζ : FA B ζ ig) (hx0 : 0 ≤ x.toInt ∧ x.toInt < 288) (hwf : WfL M) (ff : List Fng) (hF : FdS B ff ig) (hs0 : (ff.length : Int) ≤ 90000) (hI : IC τ B kd ig rg) : MC l B D cA yX3_gatherShort cX3_gatherShort 6 none (rL 4 0 0) [.ref (B + 43), .int x, .ref g] kd ig rg lg sz (PI 894 τ B none kd ig rg lg (fun r kd' ig' rg' lg' => (r = none ∧ ((∃ l2 : List Fng, shA σ ζ x.toInt M l2 ∧ FdS B (ff ++ l2) ig' ∧ l2.length ≤ 240) ∧ Fo B [43, 44] ig lg ig' lg')))) := by
  refine MC.of (own := RX3) (by decide +kernel) rfl (Nat.le_of_ble_eq_true rfl) ?_
  intro p e s m args below meth c ls C hr hlk hnm hw hsz hl
  have hx := C.1.1
  have hb := C.1.2.1
  have hown := C.1.2.2.2.1
  have hts := C.1.2.2.2.2
  have hl : lv_has ls 6 [(0, .ref (B + 43)), (1, .int x), (2, .ref g)] := hl
  have hN : Nx 894 B none kd ig rg lg kd ig rg lg := Nx.rf
  have hsh := hI.sh
  have hrs := hI.rs
  have hO : Fo B [43, 44] ig lg ig lg := Fo.rf
  have lng := hM.le
  refine lv_iconst (v := 0) hx hb dX3_gatherShort_0 (by decide) (ti_c 0 (by decide) fun z1 hz1 => ?_)
  refine lv_istore_n (lv' := [(3, .int z1), (0, .ref (B + 43)), (1, .int x), (2, .ref g)]) hx hb dX3_gatherShort_1 rfl hl (by decide) rfl (fun ls hl => ?_)
  have L2 : ∀ (n : Nat) (ls : Array Slot) (H : Heap) (locs : List Loc) (kd3 : sK) (ig4 : sI) (rg5 : sR) (lg6 : sG) (v2 : Int32), lv_has ls 6 [(3, .int v2), (0, .ref (B + 43)), (1, .int x), (2, .ref g)] → WD B D cA s.heap kd3 ig4 rg5 lg6 H locs → IC τ B kd3 ig4 rg5 → Nx 894 B none kd ig rg lg kd3 ig4 rg5 lg6 → (0 ≤ v2.toInt) → (v2.toInt ≤ (M.length : Int)) → (∃ l2 : List Fng, shL σ ζ x.toInt M (List.countP is2 (M.take v2.toInt.toNat)) l2 ∧ FdS B (ff ++ l2) ig4 ∧ (l2.length : Int) ≤ 2 * v2.toInt) → (Fo B [43, 44] ig lg ig4 lg6) → (M.length : Int) - v2.toInt < (n : Int) → W p l e (rL 4 0 0) s m args below meth c H locs 0 0 (MQ below (QcW B D cA (PI 894 τ B none kd ig rg lg (fun r kd' ig' rg' lg' => (r = none ∧ ((∃ l2 : List Fng, shA σ ζ x.toInt M l2 ∧ FdS B (ff ++ l2) ig' ∧ l2.length ≤ 240) ∧ Fo B [43, 44] ig lg ig' lg'))))) args s 0 0 (fun q => B ≤ q)) (F0 m 2 ls []) := by
    intro n2
    induction n2 with
    | zero => intro ls H locs kd3 ig4 rg5 lg6 v2 hl hw hI hN g2_0 g2_1 g2_2 g2_3 hmu; exact absurd hmu (by omega)
    | succ n2 ih2 =>
      intro ls H locs kd3 ig4 rg5 lg6 v2 hl hw hI hN g2_0 g2_1 g2_2 g2_3 hmu
      have hsh := hI.sh
      have hrs := hI.rs
      have hO := g2_3
      obtain ⟨l2, sh9, fd9, ln9⟩ := g2_2
      have lnM := hM.le
      refine lv_iload_n hx hb dX3_gatherShort_2 rfl (lv_at hl 0 rfl) ?_
      refine lv_aload_n hx hb dX3_gatherShort_3 rfl (lv_at hl 3 rfl) ?_
      refine r_callV (As := []) (rest := [.int v2]) C hw (t_X4_size l B D cA kd3 ig4 rg5 lg6 _ g M.length (FnL.F (hM.nx hN))  hI) sv_X3_88 (isFn.k (FnL.F (hM.nx hN))) rfl hl.1 rfl (Nat.le_of_ble_eq_true rfl) ⟨Nat.le_of_ble_eq_true rfl, Nat.le_of_ble_eq_true rfl⟩ ⟨Nat.le_of_ble_eq_true rfl, Nat.le_of_ble_eq_true rfl⟩ dX3_gatherShort_4 (fun r11 kd7 ig8 rg9 lg10 H locs hw hH hp12 => ?_)
      obtain ⟨rfl, rfl, rfl, rfl, hzhp12, hrhp12⟩ := hp12
      obtain ⟨z13, rfl, hz13⟩ := hrhp12
      refine b_ge (tgt := 62) hx hb dX3_gatherShort_7 (by decide) (fun c7 => ?_) (fun c7 => ?_)
      · exact r_vret C hw hr hlk (Nat.le_of_ble_eq_true rfl) (Nat.le_of_ble_eq_true rfl) dX3_gatherShort_62 ⟨hI, hN, ⟨rfl, ⟨⟨l2, shA.fin (by have q9 := sh9; rw [show v2.toInt.toNat = M.length by omega, List.take_length] at q9; exact q9), fd9, by omega⟩, hO⟩⟩⟩
      · refine lv_aload_n hx hb dX3_gatherShort_10 rfl (lv_at hl 1 rfl) ?_
        refine lv_iload_n hx hb dX3_gatherShort_11 rfl (lv_at hl 2 rfl) ?_
        refine lv_aload_n hx hb dX3_gatherShort_12 rfl (lv_at hl 3 rfl) ?_
        refine lv_iload_n hx hb dX3_gatherShort_13 rfl (lv_at hl 0 rfl) ?_
        refine r_callV (As := [.int x, .ref g, .int v2]) (rest := []) C hw (t_X3_shortBelowE l B D cA kd3 ig4 rg5 lg6 _ x g M (hM.nx hN) v2 σ π ν (hS.nx hN) ζ (fun p hp => by rw [hO.i 30 p]; exact hζ p hp) (by omega) hwf hI) sv_X3_93 (hsh 43 _ rfl) rfl hl.1 rfl (Nat.le_of_ble_eq_true rfl) ⟨Nat.le_of_ble_eq_true rfl, Nat.le_of_ble_eq_true rfl⟩ ⟨Nat.le_of_ble_eq_true rfl, Nat.le_of_ble_eq_true rfl⟩ dX3_gatherShort_14 (fun r18 kd14 ig15 rg16 lg17 H locs hw hH hp19 => ?_)
        obtain ⟨rfl, rfl, rfl, rfl, hzhp19, hrhp19⟩ := hp19
        obtain ⟨z20, rfl, hz20⟩ := hrhp19
        have sb9 := hz20
        refine lv_istore (lv' := [(4, .int z20), (3, .int v2), (0, .ref (B + 43)), (1, .int x), (2, .ref g)]) hx hb dX3_gatherShort_17 hl (by decide) rfl (fun ls hl => ?_)
        refine lv_iload hx hb dX3_gatherShort_19 (lv_at hl 0 rfl) ?_
        refine lv_iconst (v := (-1)) hx hb dX3_gatherShort_21 (by decide) (ti_c (-1) (by decide) fun z21 hz21 => ?_)
        have J33 : ∀ (ls : Array Slot) (H : Heap) (locs : List Loc) (kd22 : sK) (ig23 : sI) (rg24 : sR) (lg25 : sG) , lv_has ls 6 [(3, .int v2), (0, .ref (B + 43)), (1, .int x), (2, .ref g)] → WD B D cA s.heap kd22 ig23 rg24 lg25 H locs → IC τ B kd22 ig23 rg24 → Nx 894 B none kd ig rg lg kd22 ig23 rg24 lg25 → (∃ b : List Fng, Op1 (shB σ ζ x.toInt (stp M v2.toInt)) (3, x.toInt, lstP (stp M v2.toInt) x.toInt + 12) b ∧ FdS B (ff ++ l2 ++ b) ig23 ∧ b.length ≤ 1) → (Fo B [43, 44] ig lg ig23 lg25) → W p l e (rL 4 0 0) s m args below meth c H locs 0 0 (MQ below (QcW B D cA (PI 894 τ B none kd ig rg lg (fun r kd' ig' rg' lg' => (r = none ∧ ((∃ l2 : List Fng, shA σ ζ x.toInt M l2 ∧ FdS B (ff ++ l2) ig' ∧ l2.length ≤ 240) ∧ Fo B [43, 44] ig lg ig' lg'))))) args s 0 0 (fun q => B ≤ q)) (F0 m 33 ls []) := by
          intro ls H locs kd22 ig23 rg24 lg25 hl hw hI hN g33_0 g33_1
          have hsh := hI.sh
          have hrs := hI.rs
          have hO := g33_1
          obtain ⟨b, ob9, fdb, lb9⟩ := g33_0
          refine lv_aload_n hx hb dX3_gatherShort_33 rfl (lv_at hl 1 rfl) ?_
          refine lv_iload_n hx hb dX3_gatherShort_34 rfl (lv_at hl 2 rfl) ?_
          refine lv_aload_n hx hb dX3_gatherShort_35 rfl (lv_at hl 3 rfl) ?_
          refine lv_iload_n hx hb dX3_gatherShort_36 rfl (lv_at hl 0 rfl) ?_
          refine r_callV (As := [.int x, .ref g, .int v2]) (rest := []) C hw (t_X3_shortRightE l B D cA kd22 ig23 rg24 lg25 _ x g M (hM.nx hN) v2 σ π ν (hS.nx hN) ζ (fun p hp => by rw [hO.i 30 p]; exact hζ p hp) (by omega) hwf hI) sv_X3_97 (hsh 43 _ rfl) rfl hl.1 rfl (Nat.le_of_ble_eq_true rfl) ⟨Nat.le_of_ble_eq_true rfl, Nat.le_of_ble_eq_true rfl⟩ ⟨Nat.le_of_ble_eq_true rfl, Nat.le_of_ble_eq_true rfl⟩ dX3_gatherShort_37 (fun r30 kd26 ig27 rg28 lg29 H locs hw hH hp31 => ?_)
          obtain ⟨rfl, rfl, rfl, rfl, hzhp31, hrhp31⟩ := hp31
          obtain ⟨z32, rfl, hz32⟩ := hrhp31
          have sr9 := hz32
          refine lv_istore (lv' := [(5, .int z32), (3, .int v2), (0, .ref (B + 43)), (1, .int x), (2, .ref g)]) hx hb dX3_gatherShort_40 hl (by decide) rfl (fun ls hl => ?_)
          refine lv_iload hx hb dX3_gatherShort_42 (lv_at hl 0 rfl) ?_
          refine lv_iconst (v := (-1)) hx hb dX3_gatherShort_44 (by decide) (ti_c (-1) (by decide) fun z33 hz33 => ?_)
          have J56 : ∀ (ls : Array Slot) (H : Heap) (locs : List Loc) (kd34 : sK) (ig35 : sI) (rg36 : sR) (lg37 : sG) , lv_has ls 6 [(3, .int v2), (0, .ref (B + 43)), (1, .int x), (2, .ref g)] → WD B D cA s.heap kd34 ig35 rg36 lg37 H locs → IC τ B kd34 ig35 rg36 → Nx 894 B none kd ig rg lg kd34 ig35 rg36 lg37 → (∃ r : List Fng, Op1 (shR σ ζ x.toInt (stp M v2.toInt)) (3, x.toInt, lstP (stp M v2.toInt) x.toInt + 1) r ∧ FdS B (ff ++ l2 ++ b ++ r) ig35 ∧ r.length ≤ 1) → (Fo B [43, 44] ig lg ig35 lg37) → W p l e (rL 4 0 0) s m args below meth c H locs 0 0 (MQ below (QcW B D cA (PI 894 τ B none kd ig rg lg (fun r kd' ig' rg' lg' => (r = none ∧ ((∃ l2 : List Fng, shA σ ζ x.toInt M l2 ∧ FdS B (ff ++ l2) ig' ∧ l2.length ≤ 240) ∧ Fo B [43, 44] ig lg ig' lg'))))) args s 0 0 (fun q => B ≤ q)) (F0 m 56 ls []) := by
            intro ls H locs kd34 ig35 rg36 lg37 hl hw hI hN g56_0 g56_1
            have hsh := hI.sh
            have hrs := hI.rs
            have hO := g56_1
            obtain ⟨r, or9, fdr, lr9⟩ := g56_0
            refine tc_inc hx hb dX3_gatherShort_56 hl (k := 0) rfl (by decide) (by decide) (fun z38 hz38 ls hl => ?_)
            first | replace hz38 := hz38 (by omega) | clear hz38
            have hl : lv_has ls 6 [(3, .int z38), (0, .ref (B + 43)), (1, .int x), (2, .ref g)] := hl
            refine lv_goto (tgt := 2) hx hb dX3_gatherShort_59 (by decide) ?_
            exact ih2 ls H locs kd34 ig35 rg36 lg37 z38 (lv_sub hl [0, 1, 2, 3] rfl) hw hI hN (by omega) (by omega) (⟨l2 ++ (b ++ r), (by rw [show z38.toInt.toNat = v2.toInt.toNat + 1 by omega]; exact shL.next sh9 (by omega) (by rw [show ((v2.toInt.toNat : Nat) : Int) = v2.toInt by omega]; exact ob9) (by rw [show ((v2.toInt.toNat : Nat) : Int) = v2.toInt by omega]; exact or9)), (by have q9 := fdr; rw [List.append_assoc, List.append_assoc] at q9; exact q9), by rw [List.length_append, List.length_append]; omega⟩) (hO) (by omega)
          refine b_eq (tgt := 56) hx hb dX3_gatherShort_45 (by decide) (fun c45 => ?_) (fun c45 => ?_)
          · exact J56 ls H locs kd22 ig23 rg24 lg25 (lv_sub hl [1, 2, 3, 4] rfl) hw hI hN (⟨[], Op1.n (by rcases sr9 with ⟨q8, q9⟩ | ⟨q9, -⟩; (have q7 := shR.on q8; omega); exact q9), (by rw [List.append_nil]; exact fdb), by simp⟩) (hO)
          · refine lv_aload_n hx hb dX3_gatherShort_48 rfl (lv_at hl 2 rfl) ?_
            refine lv_iconst (v := 3) hx hb dX3_gatherShort_49 (by decide) (ti_c 3 (by decide) fun z39 hz39 => ?_)
            refine lv_iload_n hx hb dX3_gatherShort_50 rfl (lv_at hl 3 rfl) ?_
            refine lv_iload hx hb dX3_gatherShort_51 (lv_at hl 0 rfl) ?_
            refine r_callV (As := [.int z39, .int x, .int z32]) (rest := []) C hw (t_X3_addE l B D cA kd22 ig23 rg24 lg25 _ z39 x z32 _ fdb (by rw [List.length_append, List.length_append]; omega) hI) sv_X3_59 (hsh 43 _ rfl) rfl hl.1 rfl (Nat.le_of_ble_eq_true rfl) ⟨Nat.le_of_ble_eq_true rfl, Nat.le_of_ble_eq_true rfl⟩ ⟨Nat.le_of_ble_eq_true rfl, Nat.le_of_ble_eq_true rfl⟩ dX3_gatherShort_53 (fun r44 kd40 ig41 rg42 lg43 H locs hw hH hp45 => ?_)
            obtain ⟨hI, hchp45, hrhp45⟩ := hp45
            have hN := hN.tr hchp45
            have hsh := hI.sh
            have hrs := hI.rs
            obtain ⟨rfl, hvhp45⟩ := hrhp45
            obtain ⟨phvhp45, ohvhp45⟩ := hvhp45
            have hO := hO.tr ohvhp45
            exact J56 ls H locs kd40 ig41 rg42 lg43 (lv_sub hl [1, 2, 3, 4] rfl) hw hI hN (⟨_, Op1.y (by rcases sr9 with ⟨q9, -⟩ | ⟨-, q9⟩; exact q9; omega) (show (z39.toInt, x.toInt, z32.toInt) = (3, x.toInt, lstP (stp M v2.toInt) x.toInt + 1) by rw [hz39]; exact (by rcases sr9 with ⟨-, q9⟩ | ⟨-, q9⟩; (rw [q9]); omega)), phvhp45, by simp⟩) (hO)
        refine b_eq (tgt := 33) hx hb dX3_gatherShort_22 (by decide) (fun c22 => ?_) (fun c22 => ?_)
        · exact J33 ls H locs kd3 ig4 rg5 lg6 (lv_sub hl [1, 2, 3, 4] rfl) hw hI hN (⟨[], Op1.n (by rcases sb9 with ⟨q8, q9⟩ | ⟨q9, -⟩; (have q7 := shB.on q8; omega); exact q9), (by rw [List.append_nil]; exact fd9), by simp⟩) (hO)
        · refine lv_aload_n hx hb dX3_gatherShort_25 rfl (lv_at hl 2 rfl) ?_
          refine lv_iconst (v := 3) hx hb dX3_gatherShort_26 (by decide) (ti_c 3 (by decide) fun z46 hz46 => ?_)
          refine lv_iload_n hx hb dX3_gatherShort_27 rfl (lv_at hl 3 rfl) ?_
          refine lv_iload hx hb dX3_gatherShort_28 (lv_at hl 0 rfl) ?_
          refine r_callV (As := [.int z46, .int x, .int z20]) (rest := []) C hw (t_X3_addE l B D cA kd3 ig4 rg5 lg6 _ z46 x z20 _ fd9 (by rw [List.length_append]; omega) hI) sv_X3_59 (hsh 43 _ rfl) rfl hl.1 rfl (Nat.le_of_ble_eq_true rfl) ⟨Nat.le_of_ble_eq_true rfl, Nat.le_of_ble_eq_true rfl⟩ ⟨Nat.le_of_ble_eq_true rfl, Nat.le_of_ble_eq_true rfl⟩ dX3_gatherShort_30 (fun r51 kd47 ig48 rg49 lg50 H locs hw hH hp52 => ?_)
          obtain ⟨hI, hchp52, hrhp52⟩ := hp52
          have hN := hN.tr hchp52
          have hsh := hI.sh
          have hrs := hI.rs
          obtain ⟨rfl, hvhp52⟩ := hrhp52
          obtain ⟨phvhp52, ohvhp52⟩ := hvhp52
          have hO := hO.tr ohvhp52
          exact J33 ls H locs kd47 ig48 rg49 lg50 (lv_sub hl [1, 2, 3, 4] rfl) hw hI hN (⟨_, Op1.y (by rcases sb9 with ⟨q9, -⟩ | ⟨-, q9⟩; exact q9; omega) (show (z46.toInt, x.toInt, z20.toInt) = (3, x.toInt, lstP (stp M v2.toInt) x.toInt + 12) by rw [hz46]; exact (by rcases sb9 with ⟨-, q9⟩ | ⟨-, q9⟩; (rw [q9]); omega)), phvhp52, by simp⟩) (hO)
  exact L2 (((M.length : Int) - z1.toInt) + 1).toNat ls s.heap [] kd ig rg lg z1 (lv_sub hl [0, 1, 2, 3] rfl) hw hI hN (by omega) (by omega) (⟨[], (by rw [show z1.toInt.toNat = 0 by omega]; rfl), (by rw [List.append_nil]; exact hF), by simp; omega⟩) (hO) (by omega)

set_option maxHeartbeats 4000000 in
set_option maxRecDepth 100000 in
theorem t_X3_gatherOfE {τ : Tp} (l : Launch) (B : Nat) (D : va_G) (cA : Nat → ClassId) (kd : sK) (ig : sI) (rg : sR) (lg : sG) (sz : Nat) (x : Int32) (σ : Sg) (π : Ps) (ν : Nat) (hS : SCh B σ π ν kd ig rg) (ζ : Nat → Int) (hζ : FA B ζ ig) (hW : WS σ π) (hK3 : isK3 (σ x.toInt.toNat)) (K : Nat → Prop) (hK : KpC B K ig) (hX : TtP B (isTot σ) 288 ig) (w : Nat → Nat → Int) (hTw : isTot σ x.toInt.toNat → TwR B w x.toInt.toNat lg) (hLk : LkF B σ ig lg) (cz9 : Cs) (hc9 : clR B ig x.toInt.toNat = cz9 x.toInt.toNat) (hx0 : 0 ≤ x.toInt ∧ x.toInt < 288) (hk0 : kdO (atC σ x.toInt) ≠ 0) (ff : List Fng) (hF : FdS B ff ig) (hs0 : (ff.length : Int) ≤ 80000) (hI : IC τ B kd ig rg) : MC l B D cA yX3_gatherOf cX3_gatherOf 6 none (rL 5 0 0) [.ref (B + 43), .int x] kd ig rg lg sz (PI 894 τ B none kd ig rg lg (fun r kd' ig' rg' lg' => (r = none ∧ ((∃ b : List Fng, FdR σ ζ w cz9 K x.toInt.toNat b ∧ FdS B (ff ++ b) ig' ∧ b.length ≤ 244) ∧ Fo B [43, 44] ig lg ig' lg')))) := by
  refine MC.of (own := RX3) (by decide +kernel) rfl (Nat.le_of_ble_eq_true rfl) ?_
  intro p e s m args below meth c ls C hr hlk hnm hw hsz hl
  have hx := C.1.1
  have hb := C.1.2.1
  have hown := C.1.2.2.2.1
  have hts := C.1.2.2.2.2
  have hl : lv_has ls 6 [(0, .ref (B + 43)), (1, .int x)] := hl
  have hN : Nx 894 B none kd ig rg lg kd ig rg lg := Nx.rf
  have hsh := hI.sh
  have hrs := hI.rs
  have hO : Fo B [43, 44] ig lg ig lg := Fo.rf
  have hk3 : kdO (σ x.toInt.toNat) = 0 ∨ kdO (σ x.toInt.toNat) = 1 ∨ kdO (σ x.toInt.toNat) = 2 := hK3
  have hka : kdO (atC σ x.toInt) = kdO (σ x.toInt.toNat) := by rw [atC_on hx0]
  refine lv_aload_n hx hb dX3_gatherOf_0 rfl (lv_at hl 0 rfl) ?_
  refine r_get C hw (hsh 43 _ rfl) fl_X3_9 (oV_r rfl (hrs (43, 0, 9) (by decide))) dX3_gatherOf_1 ?_
  refine lv_iload_n hx hb dX3_gatherOf_4 rfl (lv_at hl 1 rfl) ?_
  refine r_callV (As := [.int x]) (rest := []) C hw (t_X6_kindAtE l B D cA kd ig rg lg _ x σ π ν (hS.nx hN) hI) sv_X3_44 (hsh 9 _ rfl) rfl hl.1 rfl (Nat.le_of_ble_eq_true rfl) ⟨Nat.le_of_ble_eq_true rfl, Nat.le_of_ble_eq_true rfl⟩ ⟨Nat.le_of_ble_eq_true rfl, Nat.le_of_ble_eq_true rfl⟩ dX3_gatherOf_5 (fun r5 kd1 ig2 rg3 lg4 H locs hw hH hp6 => ?_)
  obtain ⟨rfl, rfl, rfl, rfl, hzhp6, hrhp6⟩ := hp6
  obtain ⟨z7, rfl, hz7⟩ := hrhp6
  refine lv_iconst (v := 1) hx hb dX3_gatherOf_8 (by decide) (ti_c 1 (by decide) fun z8 hz8 => ?_)
  have J17 : ∀ (ls : Array Slot) (H : Heap) (locs : List Loc) (kd10 : sK) (ig11 : sI) (rg12 : sR) (lg13 : sG) (u9 : Int32), lv_has ls 6 [(0, .ref (B + 43)), (1, .int x)] → WD B D cA s.heap kd10 ig11 rg12 lg13 H locs → IC τ B kd10 ig11 rg12 → Nx 894 B none kd ig rg lg kd10 ig11 rg12 lg13 → ((u9.toInt = 1 ∧ kdO (σ x.toInt.toNat) = 1) ∨ (u9.toInt = 0 ∧ kdO (σ x.toInt.toNat) ≠ 1)) → (FdS B ff ig11) → (Fo B [43, 44] ig lg ig11 lg13) → W p l e (rL 5 0 0) s m args below meth c H locs 0 0 (MQ below (QcW B D cA (PI 894 τ B none kd ig rg lg (fun r kd' ig' rg' lg' => (r = none ∧ ((∃ b : List Fng, FdR σ ζ w cz9 K x.toInt.toNat b ∧ FdS B (ff ++ b) ig' ∧ b.length ≤ 244) ∧ Fo B [43, 44] ig lg ig' lg'))))) args s 0 0 (fun q => B ≤ q)) (F0 m 17 ls [.int u9]) := by
    intro ls H locs kd10 ig11 rg12 lg13 u9 hl hw hI hN g17_0 g17_1 g17_2
    have hsh := hI.sh
    have hrs := hI.rs
    have hO := g17_2
    have hF := g17_1
    refine lv_istore_n (lv' := [(2, .int u9), (0, .ref (B + 43)), (1, .int x)]) hx hb dX3_gatherOf_17 rfl hl (by decide) rfl (fun ls hl => ?_)
    refine lv_aload_n hx hb dX3_gatherOf_18 rfl (lv_at hl 1 rfl) ?_
    refine r_get C hw (hsh 43 _ rfl) fl_X3_19 (oV_r rfl (hrs (43, 2, 29) (by decide))) dX3_gatherOf_19 ?_
    refine lv_iload_n hx hb dX3_gatherOf_22 rfl (lv_at hl 2 rfl) ?_
    refine r_callV (As := [.int x]) (rest := []) C hw (t_X2_neighbourToCopyE l B D cA kd10 ig11 rg12 lg13 _ x σ π ν (hS.nx hN) ζ (fun p hp => by rw [hO.i 30 p]; exact hζ p hp) hI) sv_X3_54 (hsh 29 _ rfl) rfl hl.1 rfl (Nat.le_of_ble_eq_true rfl) ⟨Nat.le_of_ble_eq_true rfl, Nat.le_of_ble_eq_true rfl⟩ ⟨Nat.le_of_ble_eq_true rfl, Nat.le_of_ble_eq_true rfl⟩ dX3_gatherOf_23 (fun r18 kd14 ig15 rg16 lg17 H locs hw hH hp19 => ?_)
    obtain ⟨rfl, rfl, rfl, rfl, hzhp19, hrhp19⟩ := hp19
    obtain ⟨z20, rfl, hz20⟩ := hrhp19
    have od9 : OddR σ ζ ((x.toInt.toNat : Nat) : Int) z20.toInt := by rw [show ((x.toInt.toNat : Nat) : Int) = x.toInt by omega]; exact hz20
    refine lv_istore_n (lv' := [(3, .int z20), (2, .int u9), (0, .ref (B + 43)), (1, .int x)]) hx hb dX3_gatherOf_26 rfl hl (by decide) rfl (fun ls hl => ?_)
    refine lv_iload_n hx hb dX3_gatherOf_27 rfl (lv_at hl 0 rfl) ?_
    refine lv_iconst (v := (-1)) hx hb dX3_gatherOf_28 (by decide) (ti_c (-1) (by decide) fun z21 hz21 => ?_)
    have J47 : ∀ (ls : Array Slot) (H : Heap) (locs : List Loc) (kd22 : sK) (ig23 : sI) (rg24 : sR) (lg25 : sG) , lv_has ls 6 [(0, .ref (B + 43)), (1, .int x)] → WD B D cA s.heap kd22 ig23 rg24 lg25 H locs → IC τ B kd22 ig23 rg24 → Nx 894 B none kd ig rg lg kd22 ig23 rg24 lg25 → (∃ l1 : List Fng, Op1 (z20.toInt ≠ -1) (if kdO (σ x.toInt.toNat) = 2 then 1 else 2, ((x.toInt.toNat : Nat) : Int), z20.toInt) l1 ∧ FdS B (ff ++ l1) ig23 ∧ l1.length ≤ 1) → (Fo B [43, 44] ig lg ig23 lg25) → W p l e (rL 5 0 0) s m args below meth c H locs 0 0 (MQ below (QcW B D cA (PI 894 τ B none kd ig rg lg (fun r kd' ig' rg' lg' => (r = none ∧ ((∃ b : List Fng, FdR σ ζ w cz9 K x.toInt.toNat b ∧ FdS B (ff ++ b) ig' ∧ b.length ≤ 244) ∧ Fo B [43, 44] ig lg ig' lg'))))) args s 0 0 (fun q => B ≤ q)) (F0 m 47 ls []) := by
      intro ls H locs kd22 ig23 rg24 lg25 hl hw hI hN g47_0 g47_1
      have hsh := hI.sh
      have hrs := hI.rs
      have hO := g47_1
      obtain ⟨l1, o1, fd1, n1⟩ := g47_0
      refine lv_aload_n hx hb dX3_gatherOf_47 rfl (lv_at hl 0 rfl) ?_
      refine r_get C hw (hsh 43 _ rfl) fl_X3_9 (oV_r rfl (hrs (43, 0, 9) (by decide))) dX3_gatherOf_48 ?_
      refine lv_iload_n hx hb dX3_gatherOf_51 rfl (lv_at hl 1 rfl) ?_
      refine r_callV (As := [.int x]) (rest := []) C hw (t_X6_formulaAtE l B D cA kd22 ig23 rg24 lg25 _ x σ π ν (hS.nx hN) hI) sv_X3_63 (hsh 9 _ rfl) rfl hl.1 rfl (Nat.le_of_ble_eq_true rfl) ⟨Nat.le_of_ble_eq_true rfl, Nat.le_of_ble_eq_true rfl⟩ ⟨Nat.le_of_ble_eq_true rfl, Nat.le_of_ble_eq_true rfl⟩ dX3_gatherOf_52 (fun r30 kd26 ig27 rg28 lg29 H locs hw hH hp31 => ?_)
      obtain ⟨rfl, rfl, rfl, rfl, hzhp31, hrhp31⟩ := hp31
      rcases hrhp31 with ⟨rfl, nkf32⟩ | ⟨f32, rfl, nkf32, hLf32⟩
      · refine lv_astoreN (lv' := [(4, .null), (0, .ref (B + 43)), (1, .int x)]) hx hb dX3_gatherOf_55 hl (by decide) rfl (fun ls hl => ?_)
        refine lv_aloadN hx hb dX3_gatherOf_57 (lv_at hl 0 rfl) ?_
        have J69 : ∀ (ls : Array Slot) (H : Heap) (locs : List Loc) (kd33 : sK) (ig34 : sI) (rg35 : sR) (lg36 : sG) , lv_has ls 6 [(0, .ref (B + 43)), (1, .int x)] → WD B D cA s.heap kd33 ig34 rg35 lg36 H locs → IC τ B kd33 ig34 rg35 → Nx 894 B none kd ig rg lg kd33 ig34 rg35 lg36 → (∃ l2 : List Fng, ((kdO (σ x.toInt.toNat) = 2 ∧ shA σ ζ ((x.toInt.toNat : Nat) : Int) (fmO (σ x.toInt.toNat)) l2) ∨ (kdO (σ x.toInt.toNat) ≠ 2 ∧ l2 = [])) ∧ FdS B (ff ++ l1 ++ l2) ig34 ∧ l2.length ≤ 240) → (Fo B [43, 44] ig lg ig34 lg36) → W p l e (rL 5 0 0) s m args below meth c H locs 0 0 (MQ below (QcW B D cA (PI 894 τ B none kd ig rg lg (fun r kd' ig' rg' lg' => (r = none ∧ ((∃ b : List Fng, FdR σ ζ w cz9 K x.toInt.toNat b ∧ FdS B (ff ++ b) ig' ∧ b.length ≤ 244) ∧ Fo B [43, 44] ig lg ig' lg'))))) args s 0 0 (fun q => B ≤ q)) (F0 m 69 ls []) := by
          intro ls H locs kd33 ig34 rg35 lg36 hl hw hI hN g69_0 g69_1
          have hsh := hI.sh
          have hrs := hI.rs
          have hO := g69_1
          obtain ⟨l2, s2, fd2, n2⟩ := g69_0
          refine lv_aload_n hx hb dX3_gatherOf_69 rfl (lv_at hl 0 rfl) ?_
          refine r_get C hw (hsh 43 _ rfl) fl_X3_27 (oV_r rfl (hrs (43, 4, 37) (by decide))) dX3_gatherOf_70 ?_
          refine lv_iload_n hx hb dX3_gatherOf_73 rfl (lv_at hl 1 rfl) ?_
          refine r_callV (As := [.int x]) (rest := []) C hw (t_X8_leastTwiceE l B D cA kd33 ig34 rg35 lg36 _ x σ (hX.ag (fun p => hO.i 38 p)) w (fun q9 => (hTw q9).ag (fun j => hO.l 41 j) (fun j => hO.l 42 j)) (by omega) hI) sv_X3_71 (hsh 37 _ rfl) rfl hl.1 rfl (Nat.le_of_ble_eq_true rfl) ⟨Nat.le_of_ble_eq_true rfl, Nat.le_of_ble_eq_true rfl⟩ ⟨Nat.le_of_ble_eq_true rfl, Nat.le_of_ble_eq_true rfl⟩ dX3_gatherOf_74 (fun r41 kd37 ig38 rg39 lg40 H locs hw hH hp42 => ?_)
          obtain ⟨rfl, rfl, rfl, rfl, hzhp42, hrhp42⟩ := hp42
          obtain ⟨z43, rfl, hz43⟩ := hrhp42
          have lt9 := hz43
          refine lv_istore (lv' := [(5, .int z43), (0, .ref (B + 43)), (1, .int x)]) hx hb dX3_gatherOf_77 hl (by decide) rfl (fun ls hl => ?_)
          refine lv_iload hx hb dX3_gatherOf_79 (lv_at hl 0 rfl) ?_
          refine lv_iconst (v := (-1)) hx hb dX3_gatherOf_81 (by decide) (ti_c (-1) (by decide) fun z44 hz44 => ?_)
          have J93 : ∀ (ls : Array Slot) (H : Heap) (locs : List Loc) (kd45 : sK) (ig46 : sI) (rg47 : sR) (lg48 : sG) , lv_has ls 6 [(0, .ref (B + 43)), (1, .int x)] → WD B D cA s.heap kd45 ig46 rg47 lg48 H locs → IC τ B kd45 ig46 rg47 → Nx 894 B none kd ig rg lg kd45 ig46 rg47 lg48 → (∃ l3 : List Fng, Op1 (z43.toInt ≠ -1) (4, ((x.toInt.toNat : Nat) : Int), z43.toInt) l3 ∧ FdS B (ff ++ l1 ++ l2 ++ l3) ig46 ∧ l3.length ≤ 1) → (Fo B [43, 44] ig lg ig46 lg48) → W p l e (rL 5 0 0) s m args below meth c H locs 0 0 (MQ below (QcW B D cA (PI 894 τ B none kd ig rg lg (fun r kd' ig' rg' lg' => (r = none ∧ ((∃ b : List Fng, FdR σ ζ w cz9 K x.toInt.toNat b ∧ FdS B (ff ++ b) ig' ∧ b.length ≤ 244) ∧ Fo B [43, 44] ig lg ig' lg'))))) args s 0 0 (fun q => B ≤ q)) (F0 m 93 ls []) := by
            intro ls H locs kd45 ig46 rg47 lg48 hl hw hI hN g93_0 g93_1
            have hsh := hI.sh
            have hrs := hI.rs
            have hO := g93_1
            obtain ⟨l3, o3, fd3, n3⟩ := g93_0
            refine lv_aload_n hx hb dX3_gatherOf_93 rfl (lv_at hl 0 rfl) ?_
            refine r_get C hw (hsh 43 _ rfl) fl_X3_9 (oV_r rfl (hrs (43, 0, 9) (by decide))) dX3_gatherOf_94 ?_
            refine lv_iload_n hx hb dX3_gatherOf_97 rfl (lv_at hl 1 rfl) ?_
            refine r_callV (As := [.int x]) (rest := []) C hw (t_X6_isKeptE l B D cA kd45 ig46 rg47 lg48 _ x K (hK.ag (fun p => hO.i 12 p)) (by omega) hI) sv_X3_74 (hsh 9 _ rfl) rfl hl.1 rfl (Nat.le_of_ble_eq_true rfl) ⟨Nat.le_of_ble_eq_true rfl, Nat.le_of_ble_eq_true rfl⟩ ⟨Nat.le_of_ble_eq_true rfl, Nat.le_of_ble_eq_true rfl⟩ dX3_gatherOf_98 (fun r53 kd49 ig50 rg51 lg52 H locs hw hH hp54 => ?_)
            obtain ⟨rfl, rfl, rfl, rfl, hzhp54, hrhp54⟩ := hp54
            obtain ⟨z55, rfl, hz55⟩ := hrhp54
            have kp9 := hz55
            have J122 : ∀ (ls : Array Slot) (H : Heap) (locs : List Loc) (kd56 : sK) (ig57 : sI) (rg58 : sR) (lg59 : sG) , lv_has ls 6 [(0, .ref (B + 43)), (1, .int x)] → WD B D cA s.heap kd56 ig57 rg58 lg59 H locs → IC τ B kd56 ig57 rg58 → Nx 894 B none kd ig rg lg kd56 ig57 rg58 lg59 → (∃ l4 : List Fng, Op1 (kdO (σ x.toInt.toNat) ≠ 0 ∧ ¬ K x.toInt.toNat ∧ ∀ q, ¬ Rd σ q x.toInt.toNat) (5, ((x.toInt.toNat : Nat) : Int), -1) l4 ∧ FdS B (ff ++ l1 ++ l2 ++ l3 ++ l4) ig57 ∧ l4.length ≤ 1) → (Fo B [43, 44] ig lg ig57 lg59) → W p l e (rL 5 0 0) s m args below meth c H locs 0 0 (MQ below (QcW B D cA (PI 894 τ B none kd ig rg lg (fun r kd' ig' rg' lg' => (r = none ∧ ((∃ b : List Fng, FdR σ ζ w cz9 K x.toInt.toNat b ∧ FdS B (ff ++ b) ig' ∧ b.length ≤ 244) ∧ Fo B [43, 44] ig lg ig' lg'))))) args s 0 0 (fun q => B ≤ q)) (F0 m 122 ls []) := by
              intro ls H locs kd56 ig57 rg58 lg59 hl hw hI hN g122_0 g122_1
              have hsh := hI.sh
              have hrs := hI.rs
              have hO := g122_1
              obtain ⟨l4, o4, fd4, n4⟩ := g122_0
              refine lv_aload_n hx hb dX3_gatherOf_122 rfl (lv_at hl 0 rfl) ?_
              refine r_get C hw (hsh 43 _ rfl) fl_X3_23 (oV_r rfl (hrs (43, 3, 32) (by decide))) dX3_gatherOf_123 ?_
              refine lv_iload_n hx hb dX3_gatherOf_126 rfl (lv_at hl 1 rfl) ?_
              have hO7 := hO
              refine r_callV (As := [.int x]) (rest := []) C hw (t_X9_clashesAtE l B D cA kd56 ig57 rg58 lg59 _ x (by omega) hI) sv_X3_83 (hsh 32 _ rfl) rfl hl.1 rfl (Nat.le_of_ble_eq_true rfl) ⟨Nat.le_of_ble_eq_true rfl, Nat.le_of_ble_eq_true rfl⟩ ⟨Nat.le_of_ble_eq_true rfl, Nat.le_of_ble_eq_true rfl⟩ dX3_gatherOf_127 (fun r64 kd60 ig61 rg62 lg63 H locs hw hH hp65 => ?_)
              obtain ⟨rfl, rfl, rfl, rfl, hzhp65, hrhp65⟩ := hp65
              obtain ⟨z66, rfl, hz66⟩ := hrhp65
              have cl9 := hz66
              refine z_eq (tgt := 141) hx hb dX3_gatherOf_130 (by decide) (fun c130 => ?_) (fun c130 => ?_)
              · exact r_vret C hw hr hlk (Nat.le_of_ble_eq_true rfl) (Nat.le_of_ble_eq_true rfl) dX3_gatherOf_141 ⟨hI, hN, ⟨rfl, ⟨⟨l1 ++ (l2 ++ (l3 ++ (l4 ++ ([] : List Fng)))), ⟨z20.toInt, z43.toInt, l1, l2, l3, l4, ([] : List Fng), od9, o1, s2, lt9, o3, o4, (Op1.n (fun q9 => by0 cl9 (by omega) (by rw [show clR B ig57 x.toInt.toNat = clR B ig x.toInt.toNat by show czB (ig57 (B + 34) x.toInt.toNat) = czB (ig (B + 34) x.toInt.toNat); rw [hO7.i 34 _], hc9]; exact q9))), rfl⟩, (by have q9 := (show FdS B (ff ++ l1 ++ l2 ++ l3 ++ l4 ++ ([] : List Fng)) ig57 from (by rw [List.append_nil]; exact fd4)); simp only [List.append_assoc] at q9 ⊢; exact q9), (by simp only [List.length_append, List.length_cons, List.length_nil]; omega)⟩, hO⟩⟩⟩
              · refine lv_aload_n hx hb dX3_gatherOf_133 rfl (lv_at hl 0 rfl) ?_
                refine lv_bipush (v := 6) hx hb dX3_gatherOf_134 (by decide) (ti_c 6 (by decide) fun z67 hz67 => ?_)
                refine lv_iload_n hx hb dX3_gatherOf_136 rfl (lv_at hl 1 rfl) ?_
                refine lv_iconst (v := (-1)) hx hb dX3_gatherOf_137 (by decide) (ti_c (-1) (by decide) fun z68 hz68 => ?_)
                refine r_callV (As := [.int z67, .int x, .int z68]) (rest := []) C hw (t_X3_addE l B D cA kd56 ig57 rg58 lg59 _ z67 x z68 _ fd4 (by rw [List.length_append, List.length_append, List.length_append, List.length_append]; omega) hI) sv_X3_59 (hsh 43 _ rfl) rfl hl.1 rfl (Nat.le_of_ble_eq_true rfl) ⟨Nat.le_of_ble_eq_true rfl, Nat.le_of_ble_eq_true rfl⟩ ⟨Nat.le_of_ble_eq_true rfl, Nat.le_of_ble_eq_true rfl⟩ dX3_gatherOf_138 (fun r73 kd69 ig70 rg71 lg72 H locs hw hH hp74 => ?_)
                obtain ⟨hI, hchp74, hrhp74⟩ := hp74
                have hN := hN.tr hchp74
                have hsh := hI.sh
                have hrs := hI.rs
                obtain ⟨rfl, hvhp74⟩ := hrhp74
                obtain ⟨phvhp74, ohvhp74⟩ := hvhp74
                have hO := hO.tr ohvhp74
                exact r_vret C hw hr hlk (Nat.le_of_ble_eq_true rfl) (Nat.le_of_ble_eq_true rfl) dX3_gatherOf_141 ⟨hI, hN, ⟨rfl, ⟨⟨l1 ++ (l2 ++ (l3 ++ (l4 ++ [(z67.toInt, x.toInt, z68.toInt)]))), ⟨z20.toInt, z43.toInt, l1, l2, l3, l4, [(z67.toInt, x.toInt, z68.toInt)], od9, o1, s2, lt9, o3, o4, (Op1.y (show cz9 x.toInt.toNat = true by rw [← hc9]; have q9 := by1 cl9 (by omega); rw [show clR B ig57 x.toInt.toNat = clR B ig x.toInt.toNat by show czB (ig57 (B + 34) x.toInt.toNat) = czB (ig (B + 34) x.toInt.toNat); rw [hO7.i 34 _]] at q9; exact q9) (show (z67.toInt, x.toInt, z68.toInt) = (6, ((x.toInt.toNat : Nat) : Int), -1) by rw [hz67, hz68, show ((x.toInt.toNat : Nat) : Int) = x.toInt by omega])), rfl⟩, (by have q9 := (show FdS B (ff ++ l1 ++ l2 ++ l3 ++ l4 ++ [(z67.toInt, x.toInt, z68.toInt)]) ig70 from phvhp74); simp only [List.append_assoc] at q9 ⊢; exact q9), (by simp only [List.length_append, List.length_cons, List.length_nil]; omega)⟩, hO⟩⟩⟩
            refine z_ne (tgt := 122) hx hb dX3_gatherOf_101 (by decide) (fun c101 => ?_) (fun c101 => ?_)
            · exact J122 ls H locs kd45 ig46 rg47 lg48 (lv_sub hl [0, 1] rfl) hw hI hN (⟨[], Op1.n (fun q9 => q9.2.1 (by1 kp9 (by omega))), (by rw [List.append_nil]; exact fd3), by simp⟩) (hO)
            · refine lv_aload_n hx hb dX3_gatherOf_104 rfl (lv_at hl 0 rfl) ?_
              refine r_get C hw (hsh 43 _ rfl) fl_X3_15 (oV_r rfl (hrs (43, 1, 15) (by decide))) dX3_gatherOf_105 ?_
              refine lv_iload_n hx hb dX3_gatherOf_108 rfl (lv_at hl 1 rfl) ?_
              refine r_callV (As := [.int x]) (rest := []) C hw (t_X5_readersOfE l B D cA kd45 ig46 rg47 lg48 _ x σ (hLk.ag (by rw [hO.i 15 2]) (fun i => hO.i 16 i) (fun j => hO.l 18 j)) (by omega) hI) sv_X3_78 (hsh 15 _ rfl) rfl hl.1 rfl (Nat.le_of_ble_eq_true rfl) ⟨Nat.le_of_ble_eq_true rfl, Nat.le_of_ble_eq_true rfl⟩ ⟨Nat.le_of_ble_eq_true rfl, Nat.le_of_ble_eq_true rfl⟩ dX3_gatherOf_109 (fun r79 kd75 ig76 rg77 lg78 H locs hw hH hp80 => ?_)
              obtain ⟨rfl, rfl, rfl, rfl, hzhp80, hrhp80⟩ := hp80
              obtain ⟨z81, rfl, hz81⟩ := hrhp80
              have rd9 := hz81
              refine z_ne (tgt := 122) hx hb dX3_gatherOf_112 (by decide) (fun c112 => ?_) (fun c112 => ?_)
              · exact J122 ls H locs kd45 ig46 rg47 lg48 (lv_sub hl [0, 1] rfl) hw hI hN (⟨[], Op1.n (fun q9 => absurd (rd9.none.mpr (fun q8 _ => q9.2.2 q8)) (by omega)), (by rw [List.append_nil]; exact fd3), by simp⟩) (hO)
              · refine lv_aload_n hx hb dX3_gatherOf_115 rfl (lv_at hl 0 rfl) ?_
                refine lv_iconst (v := 5) hx hb dX3_gatherOf_116 (by decide) (ti_c 5 (by decide) fun z82 hz82 => ?_)
                refine lv_iload_n hx hb dX3_gatherOf_117 rfl (lv_at hl 1 rfl) ?_
                refine lv_iconst (v := (-1)) hx hb dX3_gatherOf_118 (by decide) (ti_c (-1) (by decide) fun z83 hz83 => ?_)
                refine r_callV (As := [.int z82, .int x, .int z83]) (rest := []) C hw (t_X3_addE l B D cA kd45 ig46 rg47 lg48 _ z82 x z83 _ fd3 (by rw [List.length_append, List.length_append, List.length_append]; omega) hI) sv_X3_59 (hsh 43 _ rfl) rfl hl.1 rfl (Nat.le_of_ble_eq_true rfl) ⟨Nat.le_of_ble_eq_true rfl, Nat.le_of_ble_eq_true rfl⟩ ⟨Nat.le_of_ble_eq_true rfl, Nat.le_of_ble_eq_true rfl⟩ dX3_gatherOf_119 (fun r88 kd84 ig85 rg86 lg87 H locs hw hH hp89 => ?_)
                obtain ⟨hI, hchp89, hrhp89⟩ := hp89
                have hN := hN.tr hchp89
                have hsh := hI.sh
                have hrs := hI.rs
                obtain ⟨rfl, hvhp89⟩ := hrhp89
                obtain ⟨phvhp89, ohvhp89⟩ := hvhp89
                have hO := hO.tr ohvhp89
                exact J122 ls H locs kd84 ig85 rg86 lg87 (lv_sub hl [0, 1] rfl) hw hI hN (⟨_, Op1.y ⟨by rw [← atC_on (σ := σ) (x := x.toInt) hx0]; exact hk0, by0 kp9 (by omega), fun q9 r9 => rd9.none.mp (by omega) q9 r9.1 r9⟩ (show (z82.toInt, x.toInt, z83.toInt) = (5, ((x.toInt.toNat : Nat) : Int), -1) by rw [hz82, hz83, show ((x.toInt.toNat : Nat) : Int) = x.toInt by omega]), phvhp89, by simp⟩) (hO)
          refine b_eq (tgt := 93) hx hb dX3_gatherOf_82 (by decide) (fun c82 => ?_) (fun c82 => ?_)
          · exact J93 ls H locs kd33 ig34 rg35 lg36 (lv_sub hl [1, 2] rfl) hw hI hN (⟨[], Op1.n (fun q9 => q9 (by omega)), (by rw [List.append_nil]; exact fd2), by simp⟩) (hO)
          · refine lv_aload_n hx hb dX3_gatherOf_85 rfl (lv_at hl 1 rfl) ?_
            refine lv_iconst (v := 4) hx hb dX3_gatherOf_86 (by decide) (ti_c 4 (by decide) fun z90 hz90 => ?_)
            refine lv_iload_n hx hb dX3_gatherOf_87 rfl (lv_at hl 2 rfl) ?_
            refine lv_iload hx hb dX3_gatherOf_88 (lv_at hl 0 rfl) ?_
            refine r_callV (As := [.int z90, .int x, .int z43]) (rest := []) C hw (t_X3_addE l B D cA kd33 ig34 rg35 lg36 _ z90 x z43 _ fd2 (by rw [List.length_append, List.length_append]; omega) hI) sv_X3_59 (hsh 43 _ rfl) rfl hl.1 rfl (Nat.le_of_ble_eq_true rfl) ⟨Nat.le_of_ble_eq_true rfl, Nat.le_of_ble_eq_true rfl⟩ ⟨Nat.le_of_ble_eq_true rfl, Nat.le_of_ble_eq_true rfl⟩ dX3_gatherOf_90 (fun r95 kd91 ig92 rg93 lg94 H locs hw hH hp96 => ?_)
            obtain ⟨hI, hchp96, hrhp96⟩ := hp96
            have hN := hN.tr hchp96
            have hsh := hI.sh
            have hrs := hI.rs
            obtain ⟨rfl, hvhp96⟩ := hrhp96
            obtain ⟨phvhp96, ohvhp96⟩ := hvhp96
            have hO := hO.tr ohvhp96
            exact J93 ls H locs kd91 ig92 rg93 lg94 (lv_sub hl [1, 2] rfl) hw hI hN (⟨_, Op1.y (by omega) (show (z90.toInt, x.toInt, z43.toInt) = (4, ((x.toInt.toNat : Nat) : Int), z43.toInt) by rw [hz90, show ((x.toInt.toNat : Nat) : Int) = x.toInt by omega]), phvhp96, by simp⟩) (hO)
        refine lv_ifnullN (tgt := 69) hx hb dX3_gatherOf_59 (by decide) ?_
        exact J69 ls H locs kd22 ig23 rg24 lg25 (lv_sub hl [1, 2] rfl) hw hI hN (⟨[], Or.inr ⟨by rw [← atC_on (σ := σ) (x := x.toInt) hx0]; exact nkf32, rfl⟩, (by rw [List.append_nil]; exact fd1), by simp⟩) (hO)
      · have lf32 := hLf32.le
        refine lv_astore (lv' := [(4, .ref f32), (0, .ref (B + 43)), (1, .int x)]) hx hb dX3_gatherOf_55 hl (by decide) rfl (fun ls hl => ?_)
        refine lv_aload hx hb dX3_gatherOf_57 (lv_at hl 0 rfl) ?_
        have J69 : ∀ (ls : Array Slot) (H : Heap) (locs : List Loc) (kd97 : sK) (ig98 : sI) (rg99 : sR) (lg100 : sG) , lv_has ls 6 [(0, .ref (B + 43)), (1, .int x)] → WD B D cA s.heap kd97 ig98 rg99 lg100 H locs → IC τ B kd97 ig98 rg99 → Nx 894 B none kd ig rg lg kd97 ig98 rg99 lg100 → (∃ l2 : List Fng, ((kdO (σ x.toInt.toNat) = 2 ∧ shA σ ζ ((x.toInt.toNat : Nat) : Int) (fmO (σ x.toInt.toNat)) l2) ∨ (kdO (σ x.toInt.toNat) ≠ 2 ∧ l2 = [])) ∧ FdS B (ff ++ l1 ++ l2) ig98 ∧ l2.length ≤ 240) → (Fo B [43, 44] ig lg ig98 lg100) → W p l e (rL 5 0 0) s m args below meth c H locs 0 0 (MQ below (QcW B D cA (PI 894 τ B none kd ig rg lg (fun r kd' ig' rg' lg' => (r = none ∧ ((∃ b : List Fng, FdR σ ζ w cz9 K x.toInt.toNat b ∧ FdS B (ff ++ b) ig' ∧ b.length ≤ 244) ∧ Fo B [43, 44] ig lg ig' lg'))))) args s 0 0 (fun q => B ≤ q)) (F0 m 69 ls []) := by
          intro ls H locs kd97 ig98 rg99 lg100 hl hw hI hN g69_0 g69_1
          have hsh := hI.sh
          have hrs := hI.rs
          have hO := g69_1
          obtain ⟨l2, s2, fd2, n2⟩ := g69_0
          refine lv_aload_n hx hb dX3_gatherOf_69 rfl (lv_at hl 0 rfl) ?_
          refine r_get C hw (hsh 43 _ rfl) fl_X3_27 (oV_r rfl (hrs (43, 4, 37) (by decide))) dX3_gatherOf_70 ?_
          refine lv_iload_n hx hb dX3_gatherOf_73 rfl (lv_at hl 1 rfl) ?_
          refine r_callV (As := [.int x]) (rest := []) C hw (t_X8_leastTwiceE l B D cA kd97 ig98 rg99 lg100 _ x σ (hX.ag (fun p => hO.i 38 p)) w (fun q9 => (hTw q9).ag (fun j => hO.l 41 j) (fun j => hO.l 42 j)) (by omega) hI) sv_X3_71 (hsh 37 _ rfl) rfl hl.1 rfl (Nat.le_of_ble_eq_true rfl) ⟨Nat.le_of_ble_eq_true rfl, Nat.le_of_ble_eq_true rfl⟩ ⟨Nat.le_of_ble_eq_true rfl, Nat.le_of_ble_eq_true rfl⟩ dX3_gatherOf_74 (fun r105 kd101 ig102 rg103 lg104 H locs hw hH hp106 => ?_)
          obtain ⟨rfl, rfl, rfl, rfl, hzhp106, hrhp106⟩ := hp106
          obtain ⟨z107, rfl, hz107⟩ := hrhp106
          have lt9 := hz107
          refine lv_istore (lv' := [(5, .int z107), (0, .ref (B + 43)), (1, .int x)]) hx hb dX3_gatherOf_77 hl (by decide) rfl (fun ls hl => ?_)
          refine lv_iload hx hb dX3_gatherOf_79 (lv_at hl 0 rfl) ?_
          refine lv_iconst (v := (-1)) hx hb dX3_gatherOf_81 (by decide) (ti_c (-1) (by decide) fun z108 hz108 => ?_)
          have J93 : ∀ (ls : Array Slot) (H : Heap) (locs : List Loc) (kd109 : sK) (ig110 : sI) (rg111 : sR) (lg112 : sG) , lv_has ls 6 [(0, .ref (B + 43)), (1, .int x)] → WD B D cA s.heap kd109 ig110 rg111 lg112 H locs → IC τ B kd109 ig110 rg111 → Nx 894 B none kd ig rg lg kd109 ig110 rg111 lg112 → (∃ l3 : List Fng, Op1 (z107.toInt ≠ -1) (4, ((x.toInt.toNat : Nat) : Int), z107.toInt) l3 ∧ FdS B (ff ++ l1 ++ l2 ++ l3) ig110 ∧ l3.length ≤ 1) → (Fo B [43, 44] ig lg ig110 lg112) → W p l e (rL 5 0 0) s m args below meth c H locs 0 0 (MQ below (QcW B D cA (PI 894 τ B none kd ig rg lg (fun r kd' ig' rg' lg' => (r = none ∧ ((∃ b : List Fng, FdR σ ζ w cz9 K x.toInt.toNat b ∧ FdS B (ff ++ b) ig' ∧ b.length ≤ 244) ∧ Fo B [43, 44] ig lg ig' lg'))))) args s 0 0 (fun q => B ≤ q)) (F0 m 93 ls []) := by
            intro ls H locs kd109 ig110 rg111 lg112 hl hw hI hN g93_0 g93_1
            have hsh := hI.sh
            have hrs := hI.rs
            have hO := g93_1
            obtain ⟨l3, o3, fd3, n3⟩ := g93_0
            refine lv_aload_n hx hb dX3_gatherOf_93 rfl (lv_at hl 0 rfl) ?_
            refine r_get C hw (hsh 43 _ rfl) fl_X3_9 (oV_r rfl (hrs (43, 0, 9) (by decide))) dX3_gatherOf_94 ?_
            refine lv_iload_n hx hb dX3_gatherOf_97 rfl (lv_at hl 1 rfl) ?_
            refine r_callV (As := [.int x]) (rest := []) C hw (t_X6_isKeptE l B D cA kd109 ig110 rg111 lg112 _ x K (hK.ag (fun p => hO.i 12 p)) (by omega) hI) sv_X3_74 (hsh 9 _ rfl) rfl hl.1 rfl (Nat.le_of_ble_eq_true rfl) ⟨Nat.le_of_ble_eq_true rfl, Nat.le_of_ble_eq_true rfl⟩ ⟨Nat.le_of_ble_eq_true rfl, Nat.le_of_ble_eq_true rfl⟩ dX3_gatherOf_98 (fun r117 kd113 ig114 rg115 lg116 H locs hw hH hp118 => ?_)
            obtain ⟨rfl, rfl, rfl, rfl, hzhp118, hrhp118⟩ := hp118
            obtain ⟨z119, rfl, hz119⟩ := hrhp118
            have kp9 := hz119
            have J122 : ∀ (ls : Array Slot) (H : Heap) (locs : List Loc) (kd120 : sK) (ig121 : sI) (rg122 : sR) (lg123 : sG) , lv_has ls 6 [(0, .ref (B + 43)), (1, .int x)] → WD B D cA s.heap kd120 ig121 rg122 lg123 H locs → IC τ B kd120 ig121 rg122 → Nx 894 B none kd ig rg lg kd120 ig121 rg122 lg123 → (∃ l4 : List Fng, Op1 (kdO (σ x.toInt.toNat) ≠ 0 ∧ ¬ K x.toInt.toNat ∧ ∀ q, ¬ Rd σ q x.toInt.toNat) (5, ((x.toInt.toNat : Nat) : Int), -1) l4 ∧ FdS B (ff ++ l1 ++ l2 ++ l3 ++ l4) ig121 ∧ l4.length ≤ 1) → (Fo B [43, 44] ig lg ig121 lg123) → W p l e (rL 5 0 0) s m args below meth c H locs 0 0 (MQ below (QcW B D cA (PI 894 τ B none kd ig rg lg (fun r kd' ig' rg' lg' => (r = none ∧ ((∃ b : List Fng, FdR σ ζ w cz9 K x.toInt.toNat b ∧ FdS B (ff ++ b) ig' ∧ b.length ≤ 244) ∧ Fo B [43, 44] ig lg ig' lg'))))) args s 0 0 (fun q => B ≤ q)) (F0 m 122 ls []) := by
              intro ls H locs kd120 ig121 rg122 lg123 hl hw hI hN g122_0 g122_1
              have hsh := hI.sh
              have hrs := hI.rs
              have hO := g122_1
              obtain ⟨l4, o4, fd4, n4⟩ := g122_0
              refine lv_aload_n hx hb dX3_gatherOf_122 rfl (lv_at hl 0 rfl) ?_
              refine r_get C hw (hsh 43 _ rfl) fl_X3_23 (oV_r rfl (hrs (43, 3, 32) (by decide))) dX3_gatherOf_123 ?_
              refine lv_iload_n hx hb dX3_gatherOf_126 rfl (lv_at hl 1 rfl) ?_
              have hO7 := hO
              refine r_callV (As := [.int x]) (rest := []) C hw (t_X9_clashesAtE l B D cA kd120 ig121 rg122 lg123 _ x (by omega) hI) sv_X3_83 (hsh 32 _ rfl) rfl hl.1 rfl (Nat.le_of_ble_eq_true rfl) ⟨Nat.le_of_ble_eq_true rfl, Nat.le_of_ble_eq_true rfl⟩ ⟨Nat.le_of_ble_eq_true rfl, Nat.le_of_ble_eq_true rfl⟩ dX3_gatherOf_127 (fun r128 kd124 ig125 rg126 lg127 H locs hw hH hp129 => ?_)
              obtain ⟨rfl, rfl, rfl, rfl, hzhp129, hrhp129⟩ := hp129
              obtain ⟨z130, rfl, hz130⟩ := hrhp129
              have cl9 := hz130
              refine z_eq (tgt := 141) hx hb dX3_gatherOf_130 (by decide) (fun c130 => ?_) (fun c130 => ?_)
              · exact r_vret C hw hr hlk (Nat.le_of_ble_eq_true rfl) (Nat.le_of_ble_eq_true rfl) dX3_gatherOf_141 ⟨hI, hN, ⟨rfl, ⟨⟨l1 ++ (l2 ++ (l3 ++ (l4 ++ ([] : List Fng)))), ⟨z20.toInt, z107.toInt, l1, l2, l3, l4, ([] : List Fng), od9, o1, s2, lt9, o3, o4, (Op1.n (fun q9 => by0 cl9 (by omega) (by rw [show clR B ig121 x.toInt.toNat = clR B ig x.toInt.toNat by show czB (ig121 (B + 34) x.toInt.toNat) = czB (ig (B + 34) x.toInt.toNat); rw [hO7.i 34 _], hc9]; exact q9))), rfl⟩, (by have q9 := (show FdS B (ff ++ l1 ++ l2 ++ l3 ++ l4 ++ ([] : List Fng)) ig121 from (by rw [List.append_nil]; exact fd4)); simp only [List.append_assoc] at q9 ⊢; exact q9), (by simp only [List.length_append, List.length_cons, List.length_nil]; omega)⟩, hO⟩⟩⟩
              · refine lv_aload_n hx hb dX3_gatherOf_133 rfl (lv_at hl 0 rfl) ?_
                refine lv_bipush (v := 6) hx hb dX3_gatherOf_134 (by decide) (ti_c 6 (by decide) fun z131 hz131 => ?_)
                refine lv_iload_n hx hb dX3_gatherOf_136 rfl (lv_at hl 1 rfl) ?_
                refine lv_iconst (v := (-1)) hx hb dX3_gatherOf_137 (by decide) (ti_c (-1) (by decide) fun z132 hz132 => ?_)
                refine r_callV (As := [.int z131, .int x, .int z132]) (rest := []) C hw (t_X3_addE l B D cA kd120 ig121 rg122 lg123 _ z131 x z132 _ fd4 (by rw [List.length_append, List.length_append, List.length_append, List.length_append]; omega) hI) sv_X3_59 (hsh 43 _ rfl) rfl hl.1 rfl (Nat.le_of_ble_eq_true rfl) ⟨Nat.le_of_ble_eq_true rfl, Nat.le_of_ble_eq_true rfl⟩ ⟨Nat.le_of_ble_eq_true rfl, Nat.le_of_ble_eq_true rfl⟩ dX3_gatherOf_138 (fun r137 kd133 ig134 rg135 lg136 H locs hw hH hp138 => ?_)
                obtain ⟨hI, hchp138, hrhp138⟩ := hp138
                have hN := hN.tr hchp138
                have hsh := hI.sh
                have hrs := hI.rs
                obtain ⟨rfl, hvhp138⟩ := hrhp138
                obtain ⟨phvhp138, ohvhp138⟩ := hvhp138
                have hO := hO.tr ohvhp138
                exact r_vret C hw hr hlk (Nat.le_of_ble_eq_true rfl) (Nat.le_of_ble_eq_true rfl) dX3_gatherOf_141 ⟨hI, hN, ⟨rfl, ⟨⟨l1 ++ (l2 ++ (l3 ++ (l4 ++ [(z131.toInt, x.toInt, z132.toInt)]))), ⟨z20.toInt, z107.toInt, l1, l2, l3, l4, [(z131.toInt, x.toInt, z132.toInt)], od9, o1, s2, lt9, o3, o4, (Op1.y (show cz9 x.toInt.toNat = true by rw [← hc9]; have q9 := by1 cl9 (by omega); rw [show clR B ig121 x.toInt.toNat = clR B ig x.toInt.toNat by show czB (ig121 (B + 34) x.toInt.toNat) = czB (ig (B + 34) x.toInt.toNat); rw [hO7.i 34 _]] at q9; exact q9) (show (z131.toInt, x.toInt, z132.toInt) = (6, ((x.toInt.toNat : Nat) : Int), -1) by rw [hz131, hz132, show ((x.toInt.toNat : Nat) : Int) = x.toInt by omega])), rfl⟩, (by have q9 := (show FdS B (ff ++ l1 ++ l2 ++ l3 ++ l4 ++ [(z131.toInt, x.toInt, z132.toInt)]) ig134 from phvhp138); simp only [List.append_assoc] at q9 ⊢; exact q9), (by simp only [List.length_append, List.length_cons, List.length_nil]; omega)⟩, hO⟩⟩⟩
            refine z_ne (tgt := 122) hx hb dX3_gatherOf_101 (by decide) (fun c101 => ?_) (fun c101 => ?_)
            · exact J122 ls H locs kd109 ig110 rg111 lg112 (lv_sub hl [0, 1] rfl) hw hI hN (⟨[], Op1.n (fun q9 => q9.2.1 (by1 kp9 (by omega))), (by rw [List.append_nil]; exact fd3), by simp⟩) (hO)
            · refine lv_aload_n hx hb dX3_gatherOf_104 rfl (lv_at hl 0 rfl) ?_
              refine r_get C hw (hsh 43 _ rfl) fl_X3_15 (oV_r rfl (hrs (43, 1, 15) (by decide))) dX3_gatherOf_105 ?_
              refine lv_iload_n hx hb dX3_gatherOf_108 rfl (lv_at hl 1 rfl) ?_
              refine r_callV (As := [.int x]) (rest := []) C hw (t_X5_readersOfE l B D cA kd109 ig110 rg111 lg112 _ x σ (hLk.ag (by rw [hO.i 15 2]) (fun i => hO.i 16 i) (fun j => hO.l 18 j)) (by omega) hI) sv_X3_78 (hsh 15 _ rfl) rfl hl.1 rfl (Nat.le_of_ble_eq_true rfl) ⟨Nat.le_of_ble_eq_true rfl, Nat.le_of_ble_eq_true rfl⟩ ⟨Nat.le_of_ble_eq_true rfl, Nat.le_of_ble_eq_true rfl⟩ dX3_gatherOf_109 (fun r143 kd139 ig140 rg141 lg142 H locs hw hH hp144 => ?_)
              obtain ⟨rfl, rfl, rfl, rfl, hzhp144, hrhp144⟩ := hp144
              obtain ⟨z145, rfl, hz145⟩ := hrhp144
              have rd9 := hz145
              refine z_ne (tgt := 122) hx hb dX3_gatherOf_112 (by decide) (fun c112 => ?_) (fun c112 => ?_)
              · exact J122 ls H locs kd109 ig110 rg111 lg112 (lv_sub hl [0, 1] rfl) hw hI hN (⟨[], Op1.n (fun q9 => absurd (rd9.none.mpr (fun q8 _ => q9.2.2 q8)) (by omega)), (by rw [List.append_nil]; exact fd3), by simp⟩) (hO)
              · refine lv_aload_n hx hb dX3_gatherOf_115 rfl (lv_at hl 0 rfl) ?_
                refine lv_iconst (v := 5) hx hb dX3_gatherOf_116 (by decide) (ti_c 5 (by decide) fun z146 hz146 => ?_)
                refine lv_iload_n hx hb dX3_gatherOf_117 rfl (lv_at hl 1 rfl) ?_
                refine lv_iconst (v := (-1)) hx hb dX3_gatherOf_118 (by decide) (ti_c (-1) (by decide) fun z147 hz147 => ?_)
                refine r_callV (As := [.int z146, .int x, .int z147]) (rest := []) C hw (t_X3_addE l B D cA kd109 ig110 rg111 lg112 _ z146 x z147 _ fd3 (by rw [List.length_append, List.length_append, List.length_append]; omega) hI) sv_X3_59 (hsh 43 _ rfl) rfl hl.1 rfl (Nat.le_of_ble_eq_true rfl) ⟨Nat.le_of_ble_eq_true rfl, Nat.le_of_ble_eq_true rfl⟩ ⟨Nat.le_of_ble_eq_true rfl, Nat.le_of_ble_eq_true rfl⟩ dX3_gatherOf_119 (fun r152 kd148 ig149 rg150 lg151 H locs hw hH hp153 => ?_)
                obtain ⟨hI, hchp153, hrhp153⟩ := hp153
                have hN := hN.tr hchp153
                have hsh := hI.sh
                have hrs := hI.rs
                obtain ⟨rfl, hvhp153⟩ := hrhp153
                obtain ⟨phvhp153, ohvhp153⟩ := hvhp153
                have hO := hO.tr ohvhp153
                exact J122 ls H locs kd148 ig149 rg150 lg151 (lv_sub hl [0, 1] rfl) hw hI hN (⟨_, Op1.y ⟨by rw [← atC_on (σ := σ) (x := x.toInt) hx0]; exact hk0, by0 kp9 (by omega), fun q9 r9 => rd9.none.mp (by omega) q9 r9.1 r9⟩ (show (z146.toInt, x.toInt, z147.toInt) = (5, ((x.toInt.toNat : Nat) : Int), -1) by rw [hz146, hz147, show ((x.toInt.toNat : Nat) : Int) = x.toInt by omega]), phvhp153, by simp⟩) (hO)
          refine b_eq (tgt := 93) hx hb dX3_gatherOf_82 (by decide) (fun c82 => ?_) (fun c82 => ?_)
          · exact J93 ls H locs kd97 ig98 rg99 lg100 (lv_sub hl [1, 2] rfl) hw hI hN (⟨[], Op1.n (fun q9 => q9 (by omega)), (by rw [List.append_nil]; exact fd2), by simp⟩) (hO)
          · refine lv_aload_n hx hb dX3_gatherOf_85 rfl (lv_at hl 1 rfl) ?_
            refine lv_iconst (v := 4) hx hb dX3_gatherOf_86 (by decide) (ti_c 4 (by decide) fun z154 hz154 => ?_)
            refine lv_iload_n hx hb dX3_gatherOf_87 rfl (lv_at hl 2 rfl) ?_
            refine lv_iload hx hb dX3_gatherOf_88 (lv_at hl 0 rfl) ?_
            refine r_callV (As := [.int z154, .int x, .int z107]) (rest := []) C hw (t_X3_addE l B D cA kd97 ig98 rg99 lg100 _ z154 x z107 _ fd2 (by rw [List.length_append, List.length_append]; omega) hI) sv_X3_59 (hsh 43 _ rfl) rfl hl.1 rfl (Nat.le_of_ble_eq_true rfl) ⟨Nat.le_of_ble_eq_true rfl, Nat.le_of_ble_eq_true rfl⟩ ⟨Nat.le_of_ble_eq_true rfl, Nat.le_of_ble_eq_true rfl⟩ dX3_gatherOf_90 (fun r159 kd155 ig156 rg157 lg158 H locs hw hH hp160 => ?_)
            obtain ⟨hI, hchp160, hrhp160⟩ := hp160
            have hN := hN.tr hchp160
            have hsh := hI.sh
            have hrs := hI.rs
            obtain ⟨rfl, hvhp160⟩ := hrhp160
            obtain ⟨phvhp160, ohvhp160⟩ := hvhp160
            have hO := hO.tr ohvhp160
            exact J93 ls H locs kd155 ig156 rg157 lg158 (lv_sub hl [1, 2] rfl) hw hI hN (⟨_, Op1.y (by omega) (show (z154.toInt, x.toInt, z107.toInt) = (4, ((x.toInt.toNat : Nat) : Int), z107.toInt) by rw [hz154, show ((x.toInt.toNat : Nat) : Int) = x.toInt by omega]), phvhp160, by simp⟩) (hO)
        refine lv_ifnull hx hb dX3_gatherOf_59 ?_
        refine lv_aload_n hx hb dX3_gatherOf_62 rfl (lv_at hl 1 rfl) ?_
        refine lv_iload_n hx hb dX3_gatherOf_63 rfl (lv_at hl 2 rfl) ?_
        refine lv_aload hx hb dX3_gatherOf_64 (lv_at hl 0 rfl) ?_
        refine r_callV (As := [.int x, .ref f32]) (rest := []) C hw (t_X3_gatherShortE l B D cA kd22 ig23 rg24 lg25 _ x f32 (fmO (atC σ x.toInt)) hLf32 σ π ν (hS.nx hN) ζ (fun p hp => by rw [hO.i 30 p]; exact hζ p hp) (by omega) (hW.wf nkf32).2 _ fd1 (by rw [List.length_append]; omega) hI) sv_X3_67 (hsh 43 _ rfl) rfl hl.1 rfl (Nat.le_of_ble_eq_true rfl) ⟨Nat.le_of_ble_eq_true rfl, Nat.le_of_ble_eq_true rfl⟩ ⟨Nat.le_of_ble_eq_true rfl, Nat.le_of_ble_eq_true rfl⟩ dX3_gatherOf_66 (fun r165 kd161 ig162 rg163 lg164 H locs hw hH hp166 => ?_)
        obtain ⟨hI, hchp166, hrhp166⟩ := hp166
        have hN := hN.tr hchp166
        have hsh := hI.sh
        have hrs := hI.rs
        obtain ⟨rfl, hvhp166⟩ := hrhp166
        obtain ⟨phvhp166, ohvhp166⟩ := hvhp166
        have hO := hO.tr ohvhp166
        exact J69 ls H locs kd161 ig162 rg163 lg164 (lv_sub hl [1, 2] rfl) hw hI hN ((by obtain ⟨q1, q2, q3, q4⟩ := phvhp166; exact ⟨q1, Or.inl ⟨by rw [← atC_on (σ := σ) (x := x.toInt) hx0]; exact nkf32, (by rw [show ((x.toInt.toNat : Nat) : Int) = x.toInt by omega, ← atC_on (σ := σ) (x := x.toInt) hx0]; exact q2)⟩, q3, q4⟩)) (hO)
    refine b_eq (tgt := 47) hx hb dX3_gatherOf_29 (by decide) (fun c29 => ?_) (fun c29 => ?_)
    · exact J47 ls H locs kd10 ig11 rg12 lg13 (lv_sub hl [2, 3] rfl) hw hI hN (⟨[], Op1.n (fun q9 => q9 (by omega)), (by rw [List.append_nil]; exact hF), by simp⟩) (hO)
    · refine lv_aload_n hx hb dX3_gatherOf_32 rfl (lv_at hl 2 rfl) ?_
      refine lv_iload_n hx hb dX3_gatherOf_33 rfl (lv_at hl 1 rfl) ?_
      refine z_eq (tgt := 41) hx hb dX3_gatherOf_34 (by decide) (fun c34 => ?_) (fun c34 => ?_)
      · refine lv_iconst (v := 1) hx hb dX3_gatherOf_41 (by decide) (ti_c 1 (by decide) fun z167 hz167 => ?_)
        refine lv_iload_n hx hb dX3_gatherOf_42 rfl (lv_at hl 3 rfl) ?_
        refine lv_iload_n hx hb dX3_gatherOf_43 rfl (lv_at hl 0 rfl) ?_
        have hk42 : z167.toInt = if kdO (σ x.toInt.toNat) = 2 then 1 else 2 := by split <;> omega
        refine r_callV (As := [.int z167, .int x, .int z20]) (rest := []) C hw (t_X3_addE l B D cA kd10 ig11 rg12 lg13 _ z167 x z20 ff hF (by omega) hI) sv_X3_59 (hsh 43 _ rfl) rfl hl.1 rfl (Nat.le_of_ble_eq_true rfl) ⟨Nat.le_of_ble_eq_true rfl, Nat.le_of_ble_eq_true rfl⟩ ⟨Nat.le_of_ble_eq_true rfl, Nat.le_of_ble_eq_true rfl⟩ dX3_gatherOf_44 (fun r172 kd168 ig169 rg170 lg171 H locs hw hH hp173 => ?_)
        obtain ⟨hI, hchp173, hrhp173⟩ := hp173
        have hN := hN.tr hchp173
        have hsh := hI.sh
        have hrs := hI.rs
        obtain ⟨rfl, hvhp173⟩ := hrhp173
        obtain ⟨phvhp173, ohvhp173⟩ := hvhp173
        have hO := hO.tr ohvhp173
        exact J47 ls H locs kd168 ig169 rg170 lg171 (lv_sub hl [2, 3] rfl) hw hI hN (⟨_, Op1.y (by omega) (show (z167.toInt, x.toInt, z20.toInt) = (if kdO (σ x.toInt.toNat) = 2 then 1 else 2, ((x.toInt.toNat : Nat) : Int), z20.toInt) by rw [hk42, show ((x.toInt.toNat : Nat) : Int) = x.toInt by omega]), phvhp173, by simp⟩) (hO)
      · refine lv_iconst (v := 2) hx hb dX3_gatherOf_37 (by decide) (ti_c 2 (by decide) fun z174 hz174 => ?_)
        refine lv_goto (tgt := 42) hx hb dX3_gatherOf_38 (by decide) ?_
        refine lv_iload_n hx hb dX3_gatherOf_42 rfl (lv_at hl 3 rfl) ?_
        refine lv_iload_n hx hb dX3_gatherOf_43 rfl (lv_at hl 0 rfl) ?_
        have hk42 : z174.toInt = if kdO (σ x.toInt.toNat) = 2 then 1 else 2 := by split <;> omega
        refine r_callV (As := [.int z174, .int x, .int z20]) (rest := []) C hw (t_X3_addE l B D cA kd10 ig11 rg12 lg13 _ z174 x z20 ff hF (by omega) hI) sv_X3_59 (hsh 43 _ rfl) rfl hl.1 rfl (Nat.le_of_ble_eq_true rfl) ⟨Nat.le_of_ble_eq_true rfl, Nat.le_of_ble_eq_true rfl⟩ ⟨Nat.le_of_ble_eq_true rfl, Nat.le_of_ble_eq_true rfl⟩ dX3_gatherOf_44 (fun r179 kd175 ig176 rg177 lg178 H locs hw hH hp180 => ?_)
        obtain ⟨hI, hchp180, hrhp180⟩ := hp180
        have hN := hN.tr hchp180
        have hsh := hI.sh
        have hrs := hI.rs
        obtain ⟨rfl, hvhp180⟩ := hrhp180
        obtain ⟨phvhp180, ohvhp180⟩ := hvhp180
        have hO := hO.tr ohvhp180
        exact J47 ls H locs kd175 ig176 rg177 lg178 (lv_sub hl [2, 3] rfl) hw hI hN (⟨_, Op1.y (by omega) (show (z174.toInt, x.toInt, z20.toInt) = (if kdO (σ x.toInt.toNat) = 2 then 1 else 2, ((x.toInt.toNat : Nat) : Int), z20.toInt) by rw [hk42, show ((x.toInt.toNat : Nat) : Int) = x.toInt by omega]), phvhp180, by simp⟩) (hO)
  refine b_ne (tgt := 16) hx hb dX3_gatherOf_9 (by decide) (fun c9 => ?_) (fun c9 => ?_)
  · refine lv_iconst (v := 0) hx hb dX3_gatherOf_16 (by decide) (ti_c 0 (by decide) fun z181 hz181 => ?_)
    exact J17 ls H locs kd ig rg lg z181 (lv_sub hl [0, 1] rfl) hw hI hN (by omega) (hF) (hO)
  · refine lv_iconst (v := 1) hx hb dX3_gatherOf_12 (by decide) (ti_c 1 (by decide) fun z182 hz182 => ?_)
    refine lv_goto (tgt := 17) hx hb dX3_gatherOf_13 (by decide) ?_
    exact J17 ls H locs kd ig rg lg z182 (lv_sub hl [0, 1] rfl) hw hI hN (by omega) (hF) (hO)

set_option maxHeartbeats 4000000 in
set_option maxRecDepth 100000 in
theorem t_X3_gatherE {τ : Tp} (l : Launch) (B : Nat) (D : va_G) (cA : Nat → ClassId) (kd : sK) (ig : sI) (rg : sR) (lg : sG) (sz : Nat) (σ : Sg) (π : Ps) (ν : Nat) (hS : SCh B σ π ν kd ig rg) (ζ : Nat → Int) (hζ : FA B ζ ig) (hW : WS σ π) (hK3 : K3S σ π) (K : Nat → Prop) (hK : KpC B K ig) (hLs : LSt B σ ig lg) (hX : TtP B (isTot σ) 288 ig) (w : Nat → Nat → Int) (hwr : WR σ w) (u : Us) (cz9 : Cs) (hu : UOk σ u cz9) (hc9 : ∀ p, p < 288 → clR B ig p = cz9 p) (hI : IC τ B kd ig rg) : MC l B D cA yX3_gather cX3_gather 2 (some .int) (rL 6 0 0) [.ref (B + 43)] kd ig rg lg sz (PI 830 τ B none kd ig rg lg (fun r kd' ig' rg' lg' => ∃ z : Int32, r = some (.int z) ∧ ((∃ ff : List Fng, FdL σ ζ w cz9 K 288 ff ∧ FdS B ff ig' ∧ z.toInt = (ff.length : Int)) ∧ Fo B [40, 41, 42, 43, 44] ig lg ig' lg'))) := by
  refine MC.of (own := RX3) (by decide +kernel) rfl (Nat.le_of_ble_eq_true rfl) ?_
  intro p e s m args below meth c ls C hr hlk hnm hw hsz hl
  have hx := C.1.1
  have hb := C.1.2.1
  have hown := C.1.2.2.2.1
  have hts := C.1.2.2.2.2
  have hl : lv_has ls 2 [(0, .ref (B + 43))] := hl
  have hN : Nx 830 B none kd ig rg lg kd ig rg lg := Nx.rf
  have hsh := hI.sh
  have hrs := hI.rs
  have hO : Fo B [40, 41, 42, 43, 44] ig lg ig lg := Fo.rf
  have hLk := hLs.1
  refine lv_aload_n hx hb dX3_gather_0 rfl (lv_at hl 0 rfl) ?_
  refine lv_iconst (v := 0) hx hb dX3_gather_1 (by decide) (ti_c 0 (by decide) fun z1 hz1 => ?_)
  refine r_puti C hw (hsh 43 _ rfl) fl_X3_35 rfl rfl rfl dX3_gather_2 (fun H locs hH hw => ?_)
  have hO0 := hO
  obtain ⟨ig2, eig2⟩ : ∃ f, f = up2 ig (B + 43) 6 z1 := ⟨_, rfl⟩
  rw [← eig2] at hw
  have hN : Nx 830 B none kd ig rg lg kd ig2 rg lg := by rw [eig2]; exact hN.pi (by omega)
  have hI : IC τ B kd ig2 rg := by rw [eig2]; exact hI.pi (show okR (some (0, 100000)) _ from ⟨by show (0 : Int) ≤ _; omega, by show _ ≤ (100000 : Int); omega⟩)
  have wig2 : (ig2 (B + 43) 6).toInt = z1.toInt := by rw [eig2, up2_eq]
  have hO : Fo B [40, 41, 42, 43, 44] ig lg ig2 lg := by rw [eig2]; exact hO0.pi (by decide)
  clear hO0
  refine lv_aload_n hx hb dX3_gather_5 rfl (lv_at hl 0 rfl) ?_
  refine r_get C hw (hsh 43 _ rfl) fl_X3_27 (oV_r rfl (hrs (43, 4, 37) (by decide))) dX3_gather_6 ?_
  refine r_callV (As := []) (rest := []) C hw (t_X8_gatherTwiceE l B D cA kd ig2 rg lg _  σ π ν (hS.nx hN) (hLs.ag (fun c j hc => by rcases hc with rfl | rfl | rfl <;> exact hO.i _ j) (by rw [hO.i 15 2]) (by rw [hO.i 15 9]) (fun j => hO.l 18 j)) (hX.ag (fun p => hO.i 38 p)) hW w hwr hI) sv_X3_39 (hsh 37 _ rfl) rfl hl.1 rfl (Nat.le_of_ble_eq_true rfl) ⟨Nat.le_of_ble_eq_true rfl, Nat.le_of_ble_eq_true rfl⟩ ⟨Nat.le_of_ble_eq_true rfl, Nat.le_of_ble_eq_true rfl⟩ dX3_gather_9 (fun r7 kd3 ig4 rg5 lg6 H locs hw hH hp8 => ?_)
  obtain ⟨hI, hchp8, hrhp8⟩ := hp8
  have hN := hN.tr hchp8
  have hsh := hI.sh
  have hrs := hI.rs
  obtain ⟨rfl, hvhp8⟩ := hrhp8
  obtain ⟨phvhp8, ohvhp8⟩ := hvhp8
  have hO := hO.tr ohvhp8
  have kwhvhp8_43_6 : (ig4 (B + 43) 6).toInt = (ig2 (B + 43) 6).toInt := by rw [ohvhp8.i 43 6]
  refine lv_iconst (v := 0) hx hb dX3_gather_12 (by decide) (ti_c 0 (by decide) fun z9 hz9 => ?_)
  refine lv_istore_n (lv' := [(1, .int z9), (0, .ref (B + 43))]) hx hb dX3_gather_13 rfl hl (by decide) rfl (fun ls hl => ?_)
  have L14 : ∀ (n : Nat) (ls : Array Slot) (H : Heap) (locs : List Loc) (kd11 : sK) (ig12 : sI) (rg13 : sR) (lg14 : sG) (v10 : Int32), lv_has ls 2 [(1, .int v10), (0, .ref (B + 43))] → WD B D cA s.heap kd11 ig12 rg13 lg14 H locs → IC τ B kd11 ig12 rg13 → Nx 830 B none kd ig rg lg kd11 ig12 rg13 lg14 → (0 ≤ v10.toInt) → (v10.toInt ≤ 288) → (∃ ff : List Fng, FdL σ ζ w cz9 K v10.toInt.toNat ff ∧ FdS B ff ig12 ∧ (ff.length : Int) ≤ 244 * v10.toInt) → (∀ p, isTot σ p → TwR B w p lg14) → (Fo B [40, 41, 42, 43, 44] ig lg ig12 lg14) → 288 - v10.toInt < (n : Int) → W p l e (rL 6 0 0) s m args below meth c H locs 0 0 (MQ below (QcW B D cA (PI 830 τ B none kd ig rg lg (fun r kd' ig' rg' lg' => ∃ z : Int32, r = some (.int z) ∧ ((∃ ff : List Fng, FdL σ ζ w cz9 K 288 ff ∧ FdS B ff ig' ∧ z.toInt = (ff.length : Int)) ∧ Fo B [40, 41, 42, 43, 44] ig lg ig' lg')))) args s 0 0 (fun q => B ≤ q)) (F0 m 14 ls []) := by
    intro n14
    induction n14 with
    | zero => intro ls H locs kd11 ig12 rg13 lg14 v10 hl hw hI hN g14_0 g14_1 g14_2 g14_3 g14_4 hmu; exact absurd hmu (by omega)
    | succ n14 ih14 =>
      intro ls H locs kd11 ig12 rg13 lg14 v10 hl hw hI hN g14_0 g14_1 g14_2 g14_3 g14_4 hmu
      have hsh := hI.sh
      have hrs := hI.rs
      have hO := g14_4
      obtain ⟨ff, fl9, fd9, ln9⟩ := g14_2
      refine lv_iload_n hx hb dX3_gather_14 rfl (lv_at hl 0 rfl) ?_
      refine lv_sipush (v := 288) hx hb dX3_gather_15 (by decide) (ti_c 288 (by decide) fun z15 hz15 => ?_)
      refine b_ge (tgt := 43) hx hb dX3_gather_18 (by decide) (fun c18 => ?_) (fun c18 => ?_)
      · refine lv_aload_n hx hb dX3_gather_43 rfl (lv_at hl 1 rfl) ?_
        refine r_get C hw (hsh 43 _ rfl) fl_X3_35 (oV_i rfl) dX3_gather_44 (ti_c (ig12 (B + 43) 6).toInt rfl fun z16 hz16 => ?_)
        have k17 : 0 ≤ (ig12 (B + 43) 6).toInt ∧ (ig12 (B + 43) 6).toInt ≤ 100000 := hI.i 43 6 (by decide)
        exact r_iret C hw hr hlk rfl (Nat.le_of_ble_eq_true rfl) (Nat.le_of_ble_eq_true rfl) dX3_gather_47 ⟨hI, hN, ⟨_, rfl, ⟨⟨ff, (by have q9 := fl9; rw [show v10.toInt.toNat = 288 by omega] at q9; exact q9), fd9, by rw [hz16]; exact fd9.1⟩, hO⟩⟩⟩
      · refine lv_aload_n hx hb dX3_gather_21 rfl (lv_at hl 1 rfl) ?_
        refine r_get C hw (hsh 43 _ rfl) fl_X3_9 (oV_r rfl (hrs (43, 0, 9) (by decide))) dX3_gather_22 ?_
        refine lv_iload_n hx hb dX3_gather_25 rfl (lv_at hl 0 rfl) ?_
        refine r_callV (As := [.int v10]) (rest := []) C hw (t_X6_kindAtE l B D cA kd11 ig12 rg13 lg14 _ v10 σ π ν (hS.nx hN) hI) sv_X3_44 (hsh 9 _ rfl) rfl hl.1 rfl (Nat.le_of_ble_eq_true rfl) ⟨Nat.le_of_ble_eq_true rfl, Nat.le_of_ble_eq_true rfl⟩ ⟨Nat.le_of_ble_eq_true rfl, Nat.le_of_ble_eq_true rfl⟩ dX3_gather_26 (fun r22 kd18 ig19 rg20 lg21 H locs hw hH hp23 => ?_)
        obtain ⟨rfl, rfl, rfl, rfl, hzhp23, hrhp23⟩ := hp23
        obtain ⟨z24, rfl, hz24⟩ := hrhp23
        have kd9 := hz24
        refine z_eq (tgt := 37) hx hb dX3_gather_29 (by decide) (fun c29 => ?_) (fun c29 => ?_)
        · refine tc_inc hx hb dX3_gather_37 hl (k := 0) rfl (by decide) (by decide) (fun z25 hz25 ls hl => ?_)
          first | replace hz25 := hz25 (by omega) | clear hz25
          have hl : lv_has ls 2 [(1, .int z25), (0, .ref (B + 43))] := hl
          refine lv_goto (tgt := 14) hx hb dX3_gather_40 (by decide) ?_
          exact ih14 ls H locs kd11 ig12 rg13 lg14 z25 (lv_sub hl [0, 1] rfl) hw hI hN (by omega) (by omega) (⟨ff, (by rw [show z25.toInt.toNat = v10.toInt.toNat + 1 by omega]; exact ⟨ff, [], fl9, FdR.empty hu (by omega) (by rw [← atC_on (σ := σ) (x := v10.toInt) (by omega)]; omega), (List.append_nil ff).symm⟩), fd9, by omega⟩) (g14_3) (hO) (by omega)
        · refine lv_aload_n hx hb dX3_gather_32 rfl (lv_at hl 1 rfl) ?_
          refine lv_iload_n hx hb dX3_gather_33 rfl (lv_at hl 0 rfl) ?_
          refine r_callV (As := [.int v10]) (rest := []) C hw (t_X3_gatherOfE l B D cA kd11 ig12 rg13 lg14 _ v10 σ π ν (hS.nx hN) ζ (fun p hp => by rw [hO.i 30 p]; exact hζ p hp) hW (hK3.1 _ (by omega)) K (hK.ag (fun p => hO.i 12 p)) (hX.ag (fun p => hO.i 38 p)) w (g14_3 _) (hLk.ag (by rw [hO.i 15 2]) (fun i => hO.i 16 i) (fun j => hO.l 18 j)) cz9 (by show czB (ig12 (B + 34) v10.toInt.toNat) = cz9 v10.toInt.toNat; rw [hO.i 34 _]; exact hc9 _ (by omega)) (by omega) (by omega) ff fd9 (by omega) hI) sv_X3_50 (hsh 43 _ rfl) rfl hl.1 rfl (Nat.le_of_ble_eq_true rfl) ⟨Nat.le_of_ble_eq_true rfl, Nat.le_of_ble_eq_true rfl⟩ ⟨Nat.le_of_ble_eq_true rfl, Nat.le_of_ble_eq_true rfl⟩ dX3_gather_34 (fun r30 kd26 ig27 rg28 lg29 H locs hw hH hp31 => ?_)
          obtain ⟨hI, hchp31, hrhp31⟩ := hp31
          have hN := hN.tr hchp31
          have hsh := hI.sh
          have hrs := hI.rs
          obtain ⟨rfl, hvhp31⟩ := hrhp31
          obtain ⟨phvhp31, ohvhp31⟩ := hvhp31
          have hO := hO.tr ohvhp31
          refine tc_inc hx hb dX3_gather_37 hl (k := 0) rfl (by decide) (by decide) (fun z32 hz32 ls hl => ?_)
          first | replace hz32 := hz32 (by omega) | clear hz32
          have hl : lv_has ls 2 [(1, .int z32), (0, .ref (B + 43))] := hl
          refine lv_goto (tgt := 14) hx hb dX3_gather_40 (by decide) ?_
          exact ih14 ls H locs kd26 ig27 rg28 lg29 z32 (lv_sub hl [0, 1] rfl) hw hI hN (by omega) (by omega) ((by obtain ⟨b9, q1, q2, q3⟩ := phvhp31; exact ⟨ff ++ b9, (by rw [show z32.toInt.toNat = v10.toInt.toNat + 1 by omega]; exact ⟨ff, b9, fl9, q1, rfl⟩), q2, by rw [List.length_append]; omega⟩)) ((fun p hp => (g14_3 p hp).ag (fun j => ohvhp31.l 41 j) (fun j => ohvhp31.l 42 j))) (hO) (by omega)
  exact L14 ((288 - z9.toInt) + 1).toNat ls H locs kd3 ig4 rg5 lg6 z9 (lv_sub hl [0, 1] rfl) hw hI hN (by omega) (by omega) (⟨[], (by rw [show z9.toInt.toNat = 0 by omega]; rfl), FdS.zero (by omega), by simp; omega⟩) (phvhp8) (hO) (by omega)

set_option maxHeartbeats 4000000 in
set_option maxRecDepth 100000 in
theorem t_X3_tellE {τ : Tp} (l : Launch) (B : Nat) (D : va_G) (cA : Nat → ClassId) (kd : sK) (ig : sI) (rg : sR) (lg : sG) (sz : Nat) (x : Int32) (y : Int32) (ff : List Fng) (hF : FdS B ff ig) (hI : IC τ B kd ig rg) : MC l B D cA yX3_tell cX3_tell 3 (some .int) (rL 0 0 0) [.ref (B + 43), .int x, .int y] kd ig rg lg sz (Pu kd ig rg lg sz (fun r => ∃ z : Int32, r = some (.int z) ∧ FgR ff x.toInt y.toInt z.toInt)) := by
  refine MC.of (own := RX3) (by decide +kernel) rfl (Nat.le_of_ble_eq_true rfl) ?_
  intro p e s m args below meth c ls C hr hlk hnm hw hsz hl
  have hx := C.1.1
  have hb := C.1.2.1
  have hown := C.1.2.2.2.1
  have hts := C.1.2.2.2.2
  have hl : lv_has ls 3 [(0, .ref (B + 43)), (1, .int x), (2, .int y)] := hl
  have hsh := hI.sh
  have hrs := hI.rs
  have hF1 := hF.1
  refine lv_iload_n hx hb dX3_tell_0 rfl (lv_at hl 1 rfl) ?_
  refine z_lt (tgt := 28) hx hb dX3_tell_1 (by decide) (fun c1 => ?_) (fun c1 => ?_)
  · refine lv_iconst (v := (-1)) hx hb dX3_tell_28 (by decide) (ti_c (-1) (by decide) fun z1 hz1 => ?_)
    exact r_iret C hw hr hlk rfl (Nat.le_of_ble_eq_true rfl) (Nat.le_of_ble_eq_true rfl) dX3_tell_29 ⟨rfl, rfl, rfl, rfl, hsz, ⟨_, rfl, Or.inr ⟨by omega, by omega⟩⟩⟩
  · refine lv_iload_n hx hb dX3_tell_4 rfl (lv_at hl 1 rfl) ?_
    refine lv_aload_n hx hb dX3_tell_5 rfl (lv_at hl 0 rfl) ?_
    refine r_get C hw (hsh 43 _ rfl) fl_X3_35 (oV_i rfl) dX3_tell_6 (ti_c (ig (B + 43) 6).toInt rfl fun z2 hz2 => ?_)
    have k3 : 0 ≤ (ig (B + 43) 6).toInt ∧ (ig (B + 43) 6).toInt ≤ 100000 := hI.i 43 6 (by decide)
    refine b_ge (tgt := 28) hx hb dX3_tell_9 (by decide) (fun c9 => ?_) (fun c9 => ?_)
    · refine lv_iconst (v := (-1)) hx hb dX3_tell_28 (by decide) (ti_c (-1) (by decide) fun z4 hz4 => ?_)
      exact r_iret C hw hr hlk rfl (Nat.le_of_ble_eq_true rfl) (Nat.le_of_ble_eq_true rfl) dX3_tell_29 ⟨rfl, rfl, rfl, rfl, hsz, ⟨_, rfl, Or.inr ⟨by omega, by omega⟩⟩⟩
    · refine lv_iload_n hx hb dX3_tell_12 rfl (lv_at hl 1 rfl) ?_
      refine lv_sipush (v := 300) hx hb dX3_tell_13 (by decide) (ti_c 300 (by decide) fun z5 hz5 => ?_)
      refine b_ge (tgt := 28) hx hb dX3_tell_16 (by decide) (fun c16 => ?_) (fun c16 => ?_)
      · refine lv_iconst (v := (-1)) hx hb dX3_tell_28 (by decide) (ti_c (-1) (by decide) fun z6 hz6 => ?_)
        exact r_iret C hw hr hlk rfl (Nat.le_of_ble_eq_true rfl) (Nat.le_of_ble_eq_true rfl) dX3_tell_29 ⟨rfl, rfl, rfl, rfl, hsz, ⟨_, rfl, Or.inr ⟨by omega, by omega⟩⟩⟩
      · refine lv_iload_n hx hb dX3_tell_19 rfl (lv_at hl 2 rfl) ?_
        refine z_lt (tgt := 28) hx hb dX3_tell_20 (by decide) (fun c20 => ?_) (fun c20 => ?_)
        · refine lv_iconst (v := (-1)) hx hb dX3_tell_28 (by decide) (ti_c (-1) (by decide) fun z7 hz7 => ?_)
          exact r_iret C hw hr hlk rfl (Nat.le_of_ble_eq_true rfl) (Nat.le_of_ble_eq_true rfl) dX3_tell_29 ⟨rfl, rfl, rfl, rfl, hsz, ⟨_, rfl, Or.inr ⟨by omega, by omega⟩⟩⟩
        · refine lv_iload_n hx hb dX3_tell_23 rfl (lv_at hl 2 rfl) ?_
          refine lv_iconst (v := 3) hx hb dX3_tell_24 (by decide) (ti_c 3 (by decide) fun z8 hz8 => ?_)
          refine b_lt (tgt := 30) hx hb dX3_tell_25 (by decide) (fun c25 => ?_) (fun c25 => ?_)
          · refine lv_aload_n hx hb dX3_tell_30 rfl (lv_at hl 0 rfl) ?_
            refine r_get C hw (hsh 43 _ rfl) fl_X3_31 (oV_r rfl (hrs (43, 5, 44) (by decide))) dX3_tell_31 ?_
            refine lv_iload_n hx hb dX3_tell_34 rfl (lv_at hl 1 rfl) ?_
            refine lv_iconst (v := 3) hx hb dX3_tell_35 (by decide) (ti_c 3 (by decide) fun z9 hz9 => ?_)
            refine lv_imul hx hb dX3_tell_36 (tc_mulR 3 hz9 fun z10 hz10 => ?_)
            first | replace hz10 := hz10 (by omega) | clear hz10
            refine lv_iload_n hx hb dX3_tell_37 rfl (lv_at hl 2 rfl) ?_
            refine lv_iadd hx hb dX3_tell_38 (tc_add fun z11 hz11 => ?_)
            first | replace hz11 := hz11 (by omega) | clear hz11
            refine r_iald C hw (hsh 44 _ rfl) (by omega) (by omega) dX3_tell_39 (ti_c (ig (B + 44) z11.toInt.toNat).toInt rfl fun z12 hz12 => ?_)
            have li9 : x.toInt.toNat < ff.length := by omega
            have tl9 := hF.2 x.toInt.toNat li9 (by omega)
            have tz9 : z12.toInt = (ig (B + 44) (3 * x.toInt.toNat + y.toInt.toNat)).toInt := by rw [hz12, show z11.toInt.toNat = 3 * x.toInt.toNat + y.toInt.toNat by omega]
            exact r_iret C hw hr hlk rfl (Nat.le_of_ble_eq_true rfl) (Nat.le_of_ble_eq_true rfl) dX3_tell_40 ⟨rfl, rfl, rfl, rfl, hsz, ⟨_, rfl, (Or.inl ⟨x.toInt.toNat, li9, by omega, by omega, (by rcases (show y.toInt = 0 ∨ y.toInt = 1 ∨ y.toInt = 2 by omega) with q9 | q9 | q9; (exact Or.inl ⟨q9, by rw [tz9, show 3 * x.toInt.toNat + y.toInt.toNat = 3 * x.toInt.toNat by omega]; exact tl9.1⟩); (exact Or.inr (Or.inl ⟨q9, by rw [tz9, show 3 * x.toInt.toNat + y.toInt.toNat = 3 * x.toInt.toNat + 1 by omega]; exact tl9.2.1⟩)); (exact Or.inr (Or.inr ⟨q9, by rw [tz9, show 3 * x.toInt.toNat + y.toInt.toNat = 3 * x.toInt.toNat + 2 by omega]; exact tl9.2.2⟩)))⟩)⟩⟩
          · refine lv_iconst (v := (-1)) hx hb dX3_tell_28 (by decide) (ti_c (-1) (by decide) fun z13 hz13 => ?_)
            exact r_iret C hw hr hlk rfl (Nat.le_of_ble_eq_true rfl) (Nat.le_of_ble_eq_true rfl) dX3_tell_29 ⟨rfl, rfl, rfl, rfl, hsz, ⟨_, rfl, Or.inr ⟨by omega, by omega⟩⟩⟩
