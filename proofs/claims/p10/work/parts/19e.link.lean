/-! THE ORDER OF WORK: counts of what a formula waits for -/
def CntIs (P : Nat → Prop) (n k : Nat) : Prop := ∃ f : Nat → Bool, (∀ q, q < n → (f q = true ↔ P q)) ∧ cnt f n = k
section CNT
variable {P P' : Nat → Prop} {n k j : Nat}
theorem CntIs.z (h : CntIs P n k) : k = 0 ↔ ∀ q, q < n → ¬ P q := by
  obtain ⟨f, hf, e⟩ := h
  constructor
  · intro hk q hq hP
    have := cnt.of0 (e.trans hk) q hq
    rw [(hf q hq).mpr hP] at this
    cases this
  · intro hq
    rw [← e]
    exact cnt.zero fun q h1 => by
      cases h2 : f q with
      | false => rfl
      | true => exact absurd ((hf q h1).mp h2) (hq q h1)
theorem CntIs.cg (h : CntIs P n k) (e : ∀ q, q < n → (P' q ↔ P q)) : CntIs P' n k := by
  obtain ⟨f, hf, h2⟩ := h
  exact ⟨f, fun q hq => (hf q hq).trans (e q hq).symm, h2⟩
theorem CntIs.out (h : CntIs P n k) (hj : j < n) (pj : P j) (e : ∀ q, q < n → (P' q ↔ P q ∧ q ≠ j)) : 1 ≤ k ∧ CntIs P' n (k - 1) := by
  obtain ⟨f, hf, h2⟩ := h
  have h3 := cnt.out (f := f) (g := fun q => f q && decide (q ≠ j)) hj ((hf j hj).mpr pj) (by simp) (fun q hq => by simp [hq])
  refine ⟨by omega, fun q => f q && decide (q ≠ j), fun q hq => ?_, by omega⟩
  rw [e q hq, ← hf q hq]
  simp
theorem CntIs.le (h : CntIs P n k) : k ≤ n := by
  obtain ⟨f, _, e⟩ := h
  rw [← e]; exact cnt.le f n
theorem CntIs.ex (h : CntIs P n k) (hk : k ≠ 0) : ∃ q, q < n ∧ P q := by
  apply Classical.byContradiction
  intro hn
  exact hk (h.z.mpr fun q hq hP => hn ⟨q, hq, hP⟩)
end CNT
def fo (σ : Sg) (p : Nat) : Prop := p < 288 ∧ kdO (σ p) = 2
def inO (od : Nat → Nat) (n q : Nat) : Prop := ∃ j, j < n ∧ od j = q
def upN (od : Nat → Nat) (n r : Nat) : Nat → Nat := fun j => if j = n then r else od j
def upZ (W : Nat → Int) (r : Nat) (z : Int) : Nat → Int := fun j => if j = r then z else W j
theorem upN_ne {od : Nat → Nat} {n r j : Nat} (h : j ≠ n) : upN od n r j = od j := if_neg h
theorem upN_eq {od : Nat → Nat} {n r : Nat} : upN od n r n = r := if_pos rfl
theorem upZ_ne {W : Nat → Int} {r j : Nat} {z : Int} (h : j ≠ r) : upZ W r z j = W j := if_neg h
theorem upZ_eq {W : Nat → Int} {r : Nat} {z : Int} : upZ W r z r = z := if_pos rfl
theorem inO.up {od : Nat → Nat} {n r q m : Nat} (hm : m ≤ n) : inO (upN od n r) m q ↔ inO od m q :=
  ⟨fun ⟨j, hj, e⟩ => ⟨j, hj, by rwa [upN_ne (by omega)] at e⟩, fun ⟨j, hj, e⟩ => ⟨j, hj, by rwa [upN_ne (by omega)]⟩⟩
theorem inO.s {od : Nat → Nat} {n q : Nat} : inO od (n + 1) q ↔ inO od n q ∨ q = od n := by
  constructor
  · rintro ⟨j, hj, e⟩
    by_cases h : j = n
    · exact Or.inr (by rw [← e, h])
    · exact Or.inl ⟨j, by omega, e⟩
  · rintro (⟨j, hj, e⟩ | e)
    · exact ⟨j, by omega, e⟩
    · exact ⟨n, by omega, e.symm⟩
theorem inO.us {od : Nat → Nat} {n r q : Nat} : inO (upN od n r) (n + 1) q ↔ inO od n q ∨ q = r := by
  rw [inO.s, inO.up (Nat.le_refl n), upN_eq]
/-- the order up to now: n of it; W what each waits for, but what D has taken off; X waits for nobody -/
def RLk (σ : Sg) (X : Nat → Prop) (D : Nat → Nat → Prop) (od : Nat → Nat) (n : Nat) (W : Nat → Int) : Prop :=
  (∀ j, j < n → fo σ (od j)) ∧ (∀ j k, j < k → k < n → od j ≠ od k) ∧
  (∀ p, fo σ p → ¬ X p → ∃ k : Nat, W p = (k : Int) ∧ CntIs (fun q => Rd σ p q ∧ fo σ q ∧ ¬ D p q) 288 k) ∧
  (∀ p, fo σ p → (W p = 0 ↔ inO od n p)) ∧ (∀ p, X p → fo σ p ∧ W p = 0) ∧
  ∀ j, j < n → ¬ X (od j) → ∀ q, Rd σ (od j) q → fo σ q → ∃ k, k < j ∧ od k = q
section RLS
variable {σ : Sg} {X : Nat → Prop} {D D' : Nat → Nat → Prop} {od : Nat → Nat} {n r d : Nat} {W : Nat → Int}
theorem RLk.le (h : RLk σ X D od n W) : n ≤ 288 := by
  apply Classical.byContradiction
  intro hn
  obtain ⟨i, j, hij, hj, e⟩ := pigeon 288 od (fun i hi => (h.1 i (by omega)).1)
  exact h.2.1 i j hij (by omega) e
/-- one more finds room -/
theorem RLk.lt (h : RLk σ X D od n W) (hr : r < 288) (hn : ¬ inO od n r) : n < 288 := by
  apply Classical.byContradiction
  intro hh
  obtain ⟨i, j, hij, hj, e⟩ := pigeon 288 (upN od 288 r) (fun i hi => by
    by_cases q : i = 288
    · rw [q, upN_eq]; exact hr
    · rw [upN_ne q]; exact (h.1 i (by omega)).1)
  rw [upN_ne (show i ≠ 288 by omega)] at e
  by_cases q : j = 288
  · rw [q, upN_eq] at e; exact hn ⟨i, by omega, e⟩
  · rw [upN_ne q] at e; exact h.2.1 i j hij (by omega) e
theorem RLk.nn (h : RLk σ X D od n W) {p : Nat} (hp : fo σ p) : 0 ≤ W p ∧ W p ≤ 288 := by
  by_cases x : X p
  · rw [(h.2.2.2.2.1 p x).2]; omega
  · obtain ⟨k, e, c⟩ := h.2.2.1 p hp x
    have := c.le
    omega
/-- nothing is taken off: the reader waits for nobody, or does not read it -/
theorem RLk.skip (h : RLk σ X D od n W) (hd : W r = 0 ∨ ¬ Rd σ r d) (hD : ∀ p q, D' p q ↔ D p q ∨ (p = r ∧ q = d)) : RLk σ X D' od n W := by
  refine ⟨h.1, h.2.1, fun p hp hx => ?_, h.2.2.2⟩
  obtain ⟨k, e, c⟩ := h.2.2.1 p hp hx
  refine ⟨k, e, c.cg fun q hq => ?_⟩
  show (Rd σ p q ∧ fo σ q ∧ ¬ D' p q) ↔ (Rd σ p q ∧ fo σ q ∧ ¬ D p q)
  rw [hD]
  constructor
  · exact fun ⟨a, b, c⟩ => ⟨a, b, fun x => c (Or.inl x)⟩
  · rintro ⟨a, b, c2⟩
    refine ⟨a, b, fun x => ?_⟩
    rcases x with x | ⟨rfl, rfl⟩
    · exact c2 x
    · rcases hd with hd | hd
      · have k0 : k = 0 := by omega
        exact c.z.mp k0 q hq ⟨a, b, c2⟩
      · exact hd a
/-- one is taken off, and more are left -/
theorem RLk.off (h : RLk σ X D od n W) (hr : fo σ r) (hw : W r ≠ 0) (hd : Rd σ r d) (fd : fo σ d) (nd : ¬ D r d) (hD : ∀ p q, D' p q ↔ D p q ∨ (p = r ∧ q = d)) (h1 : W r ≠ 1) : RLk σ X D' od n (upZ W r (W r - 1)) := by
  have nx : ¬ X r := fun x => hw (h.2.2.2.2.1 r x).2
  refine ⟨h.1, h.2.1, fun p hp hx => ?_, fun p hp => ?_, fun p x => ?_, h.2.2.2.2.2⟩
  · obtain ⟨k, e, c⟩ := h.2.2.1 p hp hx
    by_cases q : p = r
    · subst q
      obtain ⟨k1, c1⟩ := c.out fd.1 ⟨hd, fd, nd⟩ (P' := fun q => Rd σ p q ∧ fo σ q ∧ ¬ D' p q) (fun q hq => by
        rw [hD]
        constructor
        · rintro ⟨a, b, c⟩
          exact ⟨⟨a, b, fun x => c (Or.inl x)⟩, fun e => c (Or.inr ⟨rfl, e⟩)⟩
        · rintro ⟨⟨a, b, c⟩, e⟩
          exact ⟨a, b, fun x => x.elim c fun y => e y.2⟩)
      exact ⟨k - 1, by rw [upZ_eq]; omega, c1⟩
    · refine ⟨k, by rw [upZ_ne q]; exact e, c.cg fun x hx => ?_⟩
      show (Rd σ p x ∧ fo σ x ∧ ¬ D' p x) ↔ (Rd σ p x ∧ fo σ x ∧ ¬ D p x)
      rw [hD]
      constructor
      · exact fun ⟨a, b, c⟩ => ⟨a, b, fun x => c (Or.inl x)⟩
      · exact fun ⟨a, b, c⟩ => ⟨a, b, fun x => x.elim c fun y => q y.1⟩
  · by_cases q : p = r
    · subst q
      rw [upZ_eq, ← h.2.2.2.1 p hp]
      omega
    · rw [upZ_ne q]; exact h.2.2.2.1 p hp
  · have q : p ≠ r := by rintro rfl; exact nx x
    rw [upZ_ne q]; exact h.2.2.2.2.1 p x
/-- the last one is taken off: it comes into the order -/
theorem RLk.put (h : RLk σ X D od n W) (hr : fo σ r) (hw : W r = 1) (hd : Rd σ r d) (fd : fo σ d) (nd : ¬ D r d) (hD : ∀ p q, D' p q ↔ D p q ∨ (p = r ∧ q = d)) (hb : ∀ q, D' r q → inO od n q) : RLk σ X D' (upN od n r) (n + 1) (upZ W r 0) := by
  have nx : ¬ X r := fun x => by have := (h.2.2.2.2.1 r x).2; omega
  have ni : ¬ inO od n r := fun x => by have := (h.2.2.2.1 r hr).mpr x; omega
  have hk : ∀ p, fo σ p → ¬ X p → ∃ k : Nat, upZ W r 0 p = (k : Int) ∧ CntIs (fun q => Rd σ p q ∧ fo σ q ∧ ¬ D' p q) 288 k := fun p hp hx => by
    obtain ⟨k, e, c⟩ := h.2.2.1 p hp hx
    by_cases q : p = r
    · subst q
      obtain ⟨k1, c1⟩ := c.out fd.1 ⟨hd, fd, nd⟩ (P' := fun q => Rd σ p q ∧ fo σ q ∧ ¬ D' p q) (fun q hq => by
        rw [hD]
        constructor
        · rintro ⟨a, b, c⟩
          exact ⟨⟨a, b, fun x => c (Or.inl x)⟩, fun e => c (Or.inr ⟨rfl, e⟩)⟩
        · rintro ⟨⟨a, b, c⟩, e⟩
          exact ⟨a, b, fun x => x.elim c fun y => e y.2⟩)
      exact ⟨k - 1, by rw [upZ_eq]; omega, c1⟩
    · refine ⟨k, by rw [upZ_ne q]; exact e, c.cg fun x hx => ?_⟩
      show (Rd σ p x ∧ fo σ x ∧ ¬ D' p x) ↔ (Rd σ p x ∧ fo σ x ∧ ¬ D p x)
      rw [hD]
      constructor
      · exact fun ⟨a, b, c⟩ => ⟨a, b, fun x => c (Or.inl x)⟩
      · exact fun ⟨a, b, c⟩ => ⟨a, b, fun x => x.elim c fun y => q y.1⟩
  refine ⟨fun j hj => ?_, fun j k hjk hk e => ?_, hk, fun p hp => ?_, fun p x => ?_, fun j hj hx q rq fq => ?_⟩
  · by_cases q : j = n
    · rw [q, upN_eq]; exact hr
    · rw [upN_ne q]; exact h.1 j (by omega)
  · rw [upN_ne (show j ≠ n by omega)] at e
    by_cases q : k = n
    · rw [q, upN_eq] at e; exact ni ⟨j, by omega, e⟩
    · rw [upN_ne q] at e; exact h.2.1 j k hjk (by omega) e
  · rw [inO.us]
    by_cases q : p = r
    · subst q; rw [upZ_eq]; simp
    · rw [upZ_ne q, h.2.2.2.1 p hp]
      exact ⟨Or.inl, fun x => x.elim id fun y => absurd y q⟩
  · have q : p ≠ r := by rintro rfl; exact nx x
    rw [upZ_ne q]; exact h.2.2.2.2.1 p x
  · by_cases e : j = n
    · subst e
      rw [upN_eq] at rq
      obtain ⟨k, e1, c⟩ := hk r hr nx
      rw [upZ_eq] at e1
      have k0 : k = 0 := by omega
      have hq : D' r q := Classical.byContradiction fun hn => c.z.mp k0 q fq.1 ⟨rq, fq, hn⟩
      obtain ⟨i, hi, e2⟩ := hb q hq
      exact ⟨i, hi, by rw [upN_ne (by omega)]; exact e2⟩
    · rw [upN_ne e] at hx rq
      obtain ⟨i, hi, e2⟩ := h.2.2.2.2.2 j (by omega) hx q rq fq
      exact ⟨i, hi, by rw [upN_ne (by omega)]; exact e2⟩
/-- a ring's formula waits for nobody any more -/
theorem RLk.ring (h : RLk σ X D od n W) (hr : fo σ r) (hw : W r ≠ 0) : RLk σ (fun p => X p ∨ p = r) D (upN od n r) (n + 1) (upZ W r 0) := by
  have ni : ¬ inO od n r := fun x => hw ((h.2.2.2.1 r hr).mpr x)
  refine ⟨fun j hj => ?_, fun j k hjk hk e => ?_, fun p hp hx => ?_, fun p hp => ?_, fun p x => ?_, fun j hj hx q rq fq => ?_⟩
  · by_cases q : j = n
    · rw [q, upN_eq]; exact hr
    · rw [upN_ne q]; exact h.1 j (by omega)
  · rw [upN_ne (show j ≠ n by omega)] at e
    by_cases q : k = n
    · rw [q, upN_eq] at e; exact ni ⟨j, by omega, e⟩
    · rw [upN_ne q] at e; exact h.2.1 j k hjk (by omega) e
  · rw [upZ_ne (fun e => hx (Or.inr e))]; exact h.2.2.1 p hp (fun x => hx (Or.inl x))
  · rw [inO.us]
    by_cases q : p = r
    · subst q; rw [upZ_eq]; simp
    · rw [upZ_ne q, h.2.2.2.1 p hp]
      exact ⟨Or.inl, fun x => x.elim id fun y => absurd y q⟩
  · by_cases q : p = r
    · subst q; exact ⟨hr, upZ_eq⟩
    · rw [upZ_ne q]; exact h.2.2.2.2.1 p (x.elim id fun y => absurd y q)
  · by_cases e : j = n
    · subst e
      rw [upN_eq] at hx
      exact absurd (Or.inr rfl) hx
    · rw [upN_ne e] at hx rq
      obtain ⟨i, hi, e2⟩ := h.2.2.2.2.2 j (by omega) (fun x => hx (Or.inl x)) q rq fq
      exact ⟨i, hi, by rw [upN_ne (by omega)]; exact e2⟩
theorem RLk.eqD (h : RLk σ X D od n W) (e : ∀ p q, D' p q ↔ D p q) : RLk σ X D' od n W := by
  refine ⟨h.1, h.2.1, fun p hp hx => ?_, h.2.2.2⟩
  obtain ⟨k, e1, c⟩ := h.2.2.1 p hp hx
  exact ⟨k, e1, c.cg fun q _ => by rw [e]⟩
theorem RLk.eqX {X' : Nat → Prop} (h : RLk σ X D od n W) (e : ∀ p, X' p ↔ X p) : RLk σ X' D od n W := by
  have : X' = X := funext fun p => propext (e p)
  rw [this]; exact h
theorem RLk.eqO {od' : Nat → Nat} {W' : Nat → Int} (h : RLk σ X D od n W) (e : ∀ j, j < n → od' j = od j) (e2 : ∀ p, fo σ p → W' p = W p) : RLk σ X D od' n W' := by
  have hi : ∀ m, m ≤ n → ∀ q, inO od' m q ↔ inO od m q := fun m hm q => ⟨fun ⟨j, hj, x⟩ => ⟨j, hj, by rwa [← e j (by omega)]⟩, fun ⟨j, hj, x⟩ => ⟨j, hj, by rwa [e j (by omega)]⟩⟩
  refine ⟨fun j hj => by rw [e j hj]; exact h.1 j hj, fun j k hjk hk => by rw [e j (by omega), e k hk]; exact h.2.1 j k hjk hk, fun p hp hx => by rw [e2 p hp]; exact h.2.2.1 p hp hx, fun p hp => by rw [e2 p hp, hi n (Nat.le_refl n)]; exact h.2.2.2.1 p hp, fun p x => ⟨(h.2.2.2.2.1 p x).1, by rw [e2 p (h.2.2.2.2.1 p x).1]; exact (h.2.2.2.2.1 p x).2⟩, fun j hj hx q rq fq => ?_⟩
  rw [e j hj] at hx rq
  obtain ⟨k, hk, x⟩ := h.2.2.2.2.2 j hj hx q rq fq
  exact ⟨k, hk, by rw [e k (by omega)]; exact x⟩
/-- all is taken off: what is not in the order reads a formula that is not in it -/
theorem RLk.rest (h : RLk σ X (fun _ q => inO od n q) od n W) {p : Nat} (hp : fo σ p) (hn : ¬ inO od n p) : ∃ q, fo σ q ∧ ¬ inO od n q ∧ Rd σ p q := by
  have hw : W p ≠ 0 := fun e => hn ((h.2.2.2.1 p hp).mp e)
  have nx : ¬ X p := fun x => hw (h.2.2.2.2.1 p x).2
  obtain ⟨k, e, c⟩ := h.2.2.1 p hp nx
  obtain ⟨q, hq, a, b, d⟩ := c.ex (by omega)
  exact ⟨q, b, d, a⟩
theorem Rd.f {p q : Nat} (h : Rd σ p q) : fo σ p := ⟨h.1, h.2.1⟩
theorem TG.f {p q : Nat} (h : TG (Rd σ) p q) : fo σ p := by
  induction h with
  | single r => exact r.f
  | tail _ _ ih => exact ih
/-- what came into the order without waiting is in no ring -/
theorem RLk.noring (h : RLk σ (fun _ => False) D od n W) {p : Nat} (hp : inO od n p) : ¬ Rg σ p := by
  intro hr
  have key : ∀ j x y, TG (Rd σ) x y → fo σ y → j < n → od j = x → ∃ k, k < j ∧ od k = y := by
    intro j x y t
    induction t with
    | single r => intro fy hj e; exact h.2.2.2.2.2 j hj (fun w => w) _ (by rw [e]; exact r) fy
    | tail t r ih =>
      intro fy hj e
      obtain ⟨k, hk, e2⟩ := ih r.f hj e
      obtain ⟨i, hi, e3⟩ := h.2.2.2.2.2 k (by omega) (fun w => w) _ (by rw [e2]; exact r) fy
      exact ⟨i, by omega, e3⟩
  obtain ⟨j, hj, e⟩ := hp
  obtain ⟨k, hk, e2⟩ := key j p p hr hr.f hj e
  exact h.2.1 k j hk hj (by rw [e2, e])
/-- with the rings in it the order is whole -/
theorem RLk.whole (h : RLk σ (Rg σ) (fun _ q => inO od n q) od n W) {p : Nat} (hp : fo σ p) : inO od n p := by
  apply Classical.byContradiction
  intro hn
  obtain ⟨q, ⟨fq, nq⟩, t⟩ := ring_ex (R := Rd σ) (S := fun x => fo σ x ∧ ¬ inO od n x) (n := 288) (fun a ha => by
    obtain ⟨q, h1, h2, h3⟩ := h.rest ha.1 ha.2
    exact ⟨ha.1.1, q, ⟨h1, h2⟩, h3⟩) ⟨hp, hn⟩
  exact nq ((h.2.2.2.1 q fq).mp (h.2.2.2.2.1 q t).2)
end RLS
/-! rows of bits: 5 longs a place -/
def bR (f : Nat → Int64) (p q : Nat) : Bool := Bt (f (5 * p + q / 64)) (q % 64)
theorem bR_set {f g : Nat → Int64} {p q j : Nat} {y : Int32} (hj : j = 5 * p + q / 64) (hy : y.toInt = ((q % 64 : Nat) : Int)) (hg : g j = f j ||| ((1 : Int64) <<< (y.toInt64 &&& 63))) (hr : ∀ k, k ≠ j → g k = f k) {p' q' : Nat} (hq : q < 320) (hq' : q' < 320) : bR g p' q' = (bR f p' q' || (decide (p' = p) && decide (q' = q))) := by
  unfold bR
  by_cases e : 5 * p' + q' / 64 = j
  · have ep : p' = p := by omega
    have eq : q' / 64 = q / 64 := by omega
    rw [e, hg, Bt.or, Bt.one ⟨by omega, by omega⟩ (Nat.mod_lt _ (by decide)), show y.toInt.toNat = q % 64 by omega]
    congr 1
    by_cases c : q' = q
    · subst c; simp [ep]
    · have : ¬ (q' % 64 = q % 64) := by omega
      simp [this, c]
  · rw [hr _ e]
    have : ¬ (p' = p ∧ q' = q) := by rintro ⟨rfl, rfl⟩; exact e hj.symm
    by_cases c1 : p' = p
    · have c2 : ¬ (q' = q) := fun h => this ⟨c1, h⟩
      simp [c2]
    · simp [c1]
theorem bR_z {f : Nat → Int64} {p q : Nat} (h : ∀ w, w < 5 → f (5 * p + w) = 0) (hq : q < 320) : bR f p q = false := by
  unfold bR; rw [h _ (by omega)]; exact Bt.z
/-- the five counts are one -/
theorem bR_cnt (f : Nat → Int64) (p : Nat) : cnt (Bt (f (5 * p))) 64 + cnt (Bt (f (5 * p + 1))) 64 + cnt (Bt (f (5 * p + 2))) 64 + cnt (Bt (f (5 * p + 3))) 64 + cnt (Bt (f (5 * p + 4))) 64 = cnt (bR f p) 320 := by
  have h : ∀ w n, cnt (bR f p) (64 * w + 64) = n + cnt (Bt (f (5 * p + w))) 64 ↔ cnt (bR f p) (64 * w) = n := fun w n => by
    rw [cnt.add, cnt.cg (f := fun k => bR f p (64 * w + k)) (g := Bt (f (5 * p + w))) (n := 64) (fun k hk => by
      unfold bR; rw [show (64 * w + k) / 64 = w by omega, show (64 * w + k) % 64 = k by omega])]
    omega
  have h0 := (h 0 0).mpr rfl
  have h1 := (h 1 _).mpr h0
  have h2 := (h 2 _).mpr h1
  have h3 := (h 3 _).mpr h2
  have h4 := (h 4 _).mpr h3
  have : cnt (bR f p) 320 = _ := h4
  rw [this]
  simp
theorem bR_and {f g : Nat → Int64} {p k w : Nat} : Bt (f (5 * p + w) &&& g w) k = (Bt (f (5 * p + w)) k && Bt (g w) k) := Bt.and
/-! only the rows of T are written -/
def Fo (B : Nat) (T : List Nat) (ig : sI) (lg : sG) (ig' : sI) (lg' : sG) : Prop := (∀ c j, c < 49 → c ∉ T → ig' (B + c) j = ig (B + c) j) ∧ ∀ c j, c < 49 → c ∉ T → lg' (B + c) j = lg (B + c) j
section FO
variable {B : Nat} {T T2 : List Nat} {ig ig' ig2 : sI} {lg lg' lg2 : sG}
theorem Fo.rf : Fo B T ig lg ig lg := ⟨fun _ _ _ _ => rfl, fun _ _ _ _ => rfl⟩
theorem Fo.i (h : Fo B T ig lg ig' lg') (c j : Nat) (h1 : c < 49 := by decide) (h2 : c ∉ T := by decide) : ig' (B + c) j = ig (B + c) j := h.1 c j h1 h2
theorem Fo.l (h : Fo B T ig lg ig' lg') (c j : Nat) (h1 : c < 49 := by decide) (h2 : c ∉ T := by decide) : lg' (B + c) j = lg (B + c) j := h.2 c j h1 h2
theorem Fo.pi (h : Fo B T ig lg ig' lg') {c j : Nat} {v : Int32} (hc : c ∈ T) : Fo B T ig lg (up2 ig' (B + c) j v) lg' :=
  ⟨fun c2 j2 h1 h2 => (up2_a (fun e => h2 (by rw [show c2 = c by omega]; exact hc))).trans (h.1 c2 j2 h1 h2), h.2⟩
theorem Fo.pl (h : Fo B T ig lg ig' lg') {c j : Nat} {v : Int64} (hc : c ∈ T) : Fo B T ig lg ig' (up2 lg' (B + c) j v) :=
  ⟨h.1, fun c2 j2 h1 h2 => (up2_a (fun e => h2 (by rw [show c2 = c by omega]; exact hc))).trans (h.2 c2 j2 h1 h2)⟩
theorem Fo.tr (h1 : Fo B T ig lg ig' lg') (h2 : Fo B T2 ig' lg' ig2 lg2) (hT : ∀ q ∈ T2, q ∈ T := by decide) : Fo B T ig lg ig2 lg2 :=
  ⟨fun c j a b => (h2.1 c j a (fun q => b (hT c q))).trans (h1.1 c j a b), fun c j a b => (h2.2 c j a (fun q => b (hT c q))).trans (h1.2 c j a b)⟩
theorem Fo.ol (h : Fo B T ig lg ig' lg') {a : Nat} (ha : a ∈ T) (e : ∀ b i, b ≠ B + a → lg2 b i = lg' b i) : Fo B T ig lg ig' lg2 :=
  ⟨h.1, fun c j h1 h2 => (e _ _ (fun q => h2 (by rw [show c = a by omega]; exact ha))).trans (h.2 c j h1 h2)⟩
end FO
/-! a list of places in a row of ints -/
def SpL (B c0 : Nat) (l : List Int) (ig : sI) (n : Int) : Prop := n = (l.length : Int) ∧ ∀ k (h : k < l.length), (ig (B + c0) k).toInt = l[k]
section SPL
variable {B c0 : Nat} {l : List Int} {ig ig' : sI} {n m : Int}
theorem SpL.nil (h : n = 0) : SpL B c0 [] ig n := ⟨h, fun k hk => absurd hk (Nat.not_lt_zero k)⟩
theorem SpL.add (h : SpL B c0 l ig n) {i : Nat} {v : Int32} {q : Int} (hi : (i : Int) = n) (hm : m = n + 1) (hq : v.toInt = q) : SpL B c0 (l ++ [q]) (up2 ig (B + c0) i v) m := by
  have h1 := h.1
  refine ⟨by rw [List.length_append, List.length_singleton]; omega, fun k hk => ?_⟩
  rw [List.length_append, List.length_singleton] at hk
  by_cases e : k = i
  · subst e
    rw [up2_eq, List.getElem_append_right (by omega)]
    have : k - l.length = 0 := by omega
    simp only [this, List.getElem_cons_zero]
    exact hq
  · rw [up2_j e, List.getElem_append_left (by omega)]
    exact h.2 k (by omega)
theorem SpL.to (h : SpL B c0 l ig n) (e : m = n) : SpL B c0 l ig m := e ▸ h
theorem SpL.ag (h : SpL B c0 l ig n) (e : ∀ j, ig' (B + c0) j = ig (B + c0) j) : SpL B c0 l ig' n := ⟨h.1, fun k hk => by rw [e]; exact h.2 k hk⟩
theorem SpL.at (h : SpL B c0 l ig n) {k : Nat} (hk : (k : Int) < n) : ∃ hk : k < l.length, (ig (B + c0) k).toInt = l[k] := by
  have h1 := h.1
  exact ⟨by omega, h.2 k (by omega)⟩
end SPL
theorem spW_le {s : St} {h : Int} (hf : fitS h s) : spW s h ≤ 12 ∧ spH s h ≤ 24 ∧ (spW s h : Int) = colv s.2.2 h - colv s.2.1 h + 1 ∧ (spH s h : Int) = rowv s.2.2 h - rowv s.2.1 h + 1 := by
  obtain ⟨⟨⟨a1, a2⟩, a3, a4⟩, ⟨⟨b1, b2⟩, b3, b4⟩, c1, c2⟩ := hf
  unfold spW spH
  omega
theorem plF_lt {s : St} {h y y' c c' : Int} {j k : Nat} (hf : fitS h s) (hj : j < spH s h) (hk : k < spW s h) : (plF y c (spW s h) j ++ plR y' c' k).length < 288 := by
  obtain ⟨w1, w2, -, -⟩ := spW_le hf
  rw [List.length_append, plF_len, plR_len]
  have : j * spW s h ≤ 23 * 12 := Nat.mul_le_mul (by omega) w1
  omega
theorem plS_len {s : St} {h : Int} (hf : fitS h s) : (plS s h).length ≤ 288 := by
  obtain ⟨w1, w2, -, -⟩ := spW_le hf
  unfold plS
  rw [plF_len]
  exact Nat.mul_le_mul w2 w1
/-! the class's links -/
def fL (B : Nat) (ig : sI) (i : Nat) : Nat := (ig (B + 16) i).toInt.toNat
def fN (B : Nat) (ig : sI) : Nat := (ig (B + 15) 2).toInt.toNat
/-- the rows of those that were no formulas are empty -/
def LAz (B : Nat) (ig : sI) (lg : sG) : Prop := ∀ p, p < 288 → (∀ i, i < fN B ig → fL B ig i ≠ p) → ∀ w, w < 5 → lg (B + 18) (5 * p + w) = 0
def FZ (B : Nat) (ig : sI) (n : Nat) (lg : sG) : Prop := ∀ p, p < 288 → ((∀ k, k < fN B ig → fL B ig k ≠ p) ∨ ∃ k, k < n ∧ fL B ig k = p) → ∀ w, w < 5 → lg (B + 18) (5 * p + w) = 0
def FWz (B p k : Nat) (lg : sG) : Prop := ∀ w, w < k → lg (B + 18) (5 * p + w) = 0
def FRz (B : Nat) (lg : sG) : Prop := ∀ p w, p < 288 → w < 5 → lg (B + 18) (5 * p + w) = 0
def FSz (B k : Nat) (lg : sG) : Prop := ∀ w, w < k → lg (B + 17) w = 0
section FGT
variable {B : Nat} {ig : sI} {lg : sG} {n p k i : Nat} {v : Int64}
theorem FZ.zero (h : LAz B ig lg) : FZ B ig 0 lg := fun p hp hq w hw => by
  rcases hq with hq | ⟨k, hk, _⟩
  · exact h p hp hq w hw
  · exact absurd hk (Nat.not_lt_zero k)
theorem FZ.put (h : FZ B ig n lg) (hv : v = 0) : FZ B ig n (up2 lg (B + 18) i v) := fun p hp hq w hw => by
  by_cases e : 5 * p + w = i
  · rw [e, up2_eq, hv]
  · rw [up2_j e]; exact h p hp hq w hw
theorem FWz.put (h : FWz B p k lg) (hv : v = 0) (hi : i = 5 * p + k) : FWz B p (k + 1) (up2 lg (B + 18) i v) := fun w hw => by
  by_cases e : 5 * p + w = i
  · rw [e, up2_eq, hv]
  · rw [up2_j e]; exact h w (by omega)
theorem FWz.zero : FWz B p 0 lg := fun w hw => absurd hw (Nat.not_lt_zero w)
theorem FZ.next (h : FZ B ig n lg) (hw : FWz B (fL B ig n) 5 lg) : FZ B ig (n + 1) lg := fun p hp hq w w5 => by
  rcases hq with hq | ⟨k, hk, e⟩
  · exact h p hp (Or.inl hq) w w5
  · by_cases c : k = n
    · subst c; subst e; exact hw w w5
    · exact h p hp (Or.inr ⟨k, by omega, e⟩) w w5
theorem FZ.all (h : FZ B ig n lg) (hn : fN B ig ≤ n) : FRz B lg := fun p w hp hw => by
  by_cases c : ∃ k, k < fN B ig ∧ fL B ig k = p
  · obtain ⟨k, hk, e⟩ := c
    exact h p hp (Or.inr ⟨k, by omega, e⟩) w hw
  · exact h p hp (Or.inl fun k hk e => c ⟨k, hk, e⟩) w hw
theorem FRz.s (h : FRz B lg) : FRz B (up2 lg (B + 17) i v) := fun p w hp hw => by rw [up2_a (by omega)]; exact h p w hp hw
theorem FSz.zero : FSz B 0 lg := fun w hw => absurd hw (Nat.not_lt_zero w)
theorem FSz.put (h : FSz B k lg) (hv : v = 0) (hi : i = k) : FSz B (k + 1) (up2 lg (B + 17) i v) := fun w hw => by
  by_cases e : w = i
  · rw [e, up2_eq, hv]
  · rw [up2_j e]; exact h w (by omega)
end FGT
/-- what a list of steps reads -/
def rdT (h : Int) (L : Fm) (q : Nat) : Prop := ∃ s ∈ L, rdS s ∧ (q : Int) ∈ plS s h
def RdL (M : Fm) (h i : Int) (l : List Int) : Prop := (∀ q, q ∈ l ↔ (rdS (stp M i) ∧ q ∈ plS (stp M i) h)) ∧ (∀ q ∈ l, 0 ≤ q ∧ q < 288) ∧ l.length ≤ 288
theorem RdL.no {M : Fm} {h i : Int} (hn : ¬ rdS (stp M i)) : RdL M h i [] := ⟨fun q => ⟨fun w => by simp at w, fun w => absurd w.1 hn⟩, fun q w => by simp at w, by simp⟩
theorem RdL.yes {M : Fm} {h i : Int} (hy : rdS (stp M i)) (hf : fitS h (stp M i)) : RdL M h i (plS (stp M i) h) := ⟨fun q => ⟨fun w => ⟨hy, w⟩, fun w => w.2⟩, fun q w => plS_on hf w, plS_len hf⟩
/-- bits that are set -/
def SBt (f g : Nat → Int64) (x y : Nat) : Prop := ∀ p q, q < 320 → bR g p q = (bR f p q || (decide (p = x) && decide (q = y)))
def GRo (B : Nat) (x : Nat) (S : Nat → Prop) (lg lg' : sG) : Prop := ∀ p q, q < 320 → (bR (lg' (B + 18)) p q = true ↔ bR (lg (B + 18)) p q = true ∨ (p = x ∧ S q))
theorem GRo.zero {B x : Nat} {S : Nat → Prop} {lg : sG} (hS : ∀ q, ¬ S q) : GRo B x S lg lg := fun p q hq => ⟨Or.inl, fun w => w.elim id fun w => (hS q w.2).elim⟩
theorem GRo.eqS {B x : Nat} {S S' : Nat → Prop} {lg lg' : sG} (h : GRo B x S lg lg') (e : ∀ q, S' q ↔ S q) : GRo B x S' lg lg' := fun p q hq => by rw [e]; exact h p q hq
theorem GRo.add {B x y : Nat} {S : Nat → Prop} {lg lg' lg2 : sG} (h : GRo B x S lg lg') (hs : SBt (lg' (B + 18)) (lg2 (B + 18)) x y) : GRo B x (fun q => S q ∨ q = y) lg lg2 := fun p q hq => by
  rw [hs p q hq, Bool.or_eq_true, h p q hq, Bool.and_eq_true, decide_eq_true_eq, decide_eq_true_eq]
  constructor
  · rintro ((a | ⟨a, b⟩) | ⟨a, b⟩)
    · exact Or.inl a
    · exact Or.inr ⟨a, Or.inl b⟩
    · exact Or.inr ⟨a, Or.inr b⟩
  · rintro (a | ⟨a, b | b⟩)
    · exact Or.inl (Or.inl a)
    · exact Or.inl (Or.inr ⟨a, b⟩)
    · exact Or.inr ⟨a, b⟩
theorem GRo.ag {B x : Nat} {S : Nat → Prop} {lg lg' lg2 : sG} (h : GRo B x S lg lg') (e : ∀ j, lg2 (B + 18) j = lg' (B + 18) j) : GRo B x S lg lg2 := fun p q hq => by
  rw [show lg2 (B + 18) = lg' (B + 18) from funext e]; exact h p q hq
theorem GRo.base {B x : Nat} {S : Nat → Prop} {lg lg' lg2 : sG} (h : GRo B x S lg lg') (e : ∀ j, lg (B + 18) j = lg2 (B + 18) j) : GRo B x S lg2 lg' := fun p q hq => by
  rw [← show lg (B + 18) = lg2 (B + 18) from funext e]; exact h p q hq
theorem take_s {l : List Int} {k : Nat} (hk : k < l.length) {q : Int} : q ∈ l.take (k + 1) ↔ q ∈ l.take k ∨ q = l[k] := by
  rw [List.take_succ_eq_append_getElem hk, List.mem_append, List.mem_singleton]
theorem GRo.nx {B x y k : Nat} {S : Nat → Prop} {l : List Int} {lg lg' lg2 : sG} (h : GRo B x (fun q => S q ∨ (q : Int) ∈ l.take k) lg lg') (hk : k < l.length) (hs : SBt (lg' (B + 18)) (lg2 (B + 18)) x y) (hy : (y : Int) = l[k]) : GRo B x (fun q => S q ∨ (q : Int) ∈ l.take (k + 1)) lg lg2 :=
  (h.add hs).eqS fun q => by
    rw [take_s hk, or_assoc]
    exact or_congr Iff.rfl (or_congr Iff.rfl ⟨fun w => by omega, fun w => by omega⟩)
theorem rdT_nil {h : Int} {q : Nat} : ¬ rdT h [] q := fun ⟨s, hs, _⟩ => by simp at hs
theorem rdT_s {h : Int} {M : Fm} {i : Nat} (hi : i < M.length) {l : List Int} (hl : RdL M h (i : Int) l) {q : Nat} : rdT h (M.take (i + 1)) q ↔ rdT h (M.take i) q ∨ (q : Int) ∈ l := by
  have es : stp M (i : Int) = M[i] := by rw [stp_in (by omega) (by omega)]; simp
  rw [hl.1, es]
  unfold rdT
  rw [List.take_succ_eq_append_getElem hi]
  constructor
  · rintro ⟨s, hs, a, b⟩
    rcases List.mem_append.mp hs with hs | hs
    · exact Or.inl ⟨s, hs, a, b⟩
    · rw [List.mem_singleton] at hs
      subst hs
      exact Or.inr ⟨a, b⟩
  · rintro (⟨s, hs, a, b⟩ | ⟨a, b⟩)
    · exact ⟨s, List.mem_append_left _ hs, a, b⟩
    · exact ⟨_, List.mem_append_right _ (List.mem_singleton.mpr rfl), a, b⟩
/-! formulas, their set, who reads whom: n places are through -/
def GR (B : Nat) (σ : Sg) (n : Nat) (ig : sI) (lg : sG) : Prop :=
  (∀ p, p < n → (ig (B + 20) p).toInt = 0 ∧ (ig (B + 21) p).toInt = 0) ∧
  (∀ i, i < fN B ig → fL B ig i < n ∧ fo σ (fL B ig i)) ∧ (∀ i j, i < j → j < fN B ig → fL B ig i < fL B ig j) ∧ (∀ p, p < n → fo σ p → ∃ i, i < fN B ig ∧ fL B ig i = p) ∧
  (∀ q, q < 320 → (bR (lg (B + 17)) 0 q = true ↔ q < n ∧ fo σ q)) ∧
  ∀ p q, p < 288 → q < 320 → (bR (lg (B + 18)) p q = true ↔ p < n ∧ Rd σ p q)
section GRS
variable {B : Nat} {σ : Sg} {n : Nat} {ig ig' : sI} {lg lg' : sG}
theorem GR.zero (h1 : FRz B lg) (h2 : FSz B 5 lg) (h3 : (ig (B + 15) 2).toInt = 0) : GR B σ 0 ig lg := by
  have e : fN B ig = 0 := by unfold fN; omega
  refine ⟨fun p hp => absurd hp (Nat.not_lt_zero p), fun i hi => by omega, fun i j _ hj => by omega, fun p hp => absurd hp (Nat.not_lt_zero p), fun q hq => ?_, fun p q hp hq => ?_⟩
  · rw [bR_z (fun w hw => by rw [show 5 * 0 + w = w by omega]; exact h2 w hw) hq]
    simp
  · rw [bR_z (fun w hw => h1 p w hp hw) hq]
    simp
theorem GR.ag (h : GR B σ n ig lg) (e15 : ig' (B + 15) 2 = ig (B + 15) 2) (e16 : ∀ i, ig' (B + 16) i = ig (B + 16) i) (e20 : ∀ p, p < n → ig' (B + 20) p = ig (B + 20) p) (e21 : ∀ p, p < n → ig' (B + 21) p = ig (B + 21) p) : GR B σ n ig' lg := by
  have a : fN B ig' = fN B ig := by unfold fN; rw [e15]
  have b : ∀ i, fL B ig' i = fL B ig i := fun i => by unfold fL; rw [e16]
  obtain ⟨h1, h2, h3, h4, h5, h6⟩ := h
  refine ⟨fun p hp => by rw [e20 p hp, e21 p hp]; exact h1 p hp, fun i hi => by rw [b]; exact h2 i (by omega), fun i j hij hj => by rw [b, b]; exact h3 i j hij (by omega), fun p hp hf => ?_, h5, h6⟩
  obtain ⟨i, hi, e⟩ := h4 p hp hf
  exact ⟨i, by omega, by rw [b]; exact e⟩
theorem GR.no (h : GR B σ n ig lg) (hk : ¬ fo σ n) (h20 : (ig (B + 20) n).toInt = 0) (h21 : (ig (B + 21) n).toInt = 0) : GR B σ (n + 1) ig lg := by
  obtain ⟨h1, h2, h3, h4, h5, h6⟩ := h
  have nl : ∀ p, p < n + 1 → p < n ∨ p = n := fun p hp => by omega
  refine ⟨fun p hp => ?_, fun i hi => ⟨by have := (h2 i hi).1; omega, (h2 i hi).2⟩, h3, fun p hp hf => ?_, fun q hq => ?_, fun p q hp hq => ?_⟩
  · rcases nl p hp with q | rfl
    · exact h1 p q
    · exact ⟨h20, h21⟩
  · rcases nl p hp with q | rfl
    · exact h4 p q hf
    · exact (hk hf).elim
  · rw [h5 q hq]
    constructor
    · exact fun w => ⟨by omega, w.2⟩
    · rintro ⟨w1, w2⟩
      rcases nl q w1 with e | rfl
      · exact ⟨e, w2⟩
      · exact (hk w2).elim
  · rw [h6 p q hp hq]
    constructor
    · exact fun w => ⟨by omega, w.2⟩
    · rintro ⟨w1, w2⟩
      rcases nl p w1 with e | rfl
      · exact ⟨e, w2⟩
      · exact (hk w2.f).elim
theorem GR.yes (h : GR B σ n ig lg) (hk : fo σ n) (h20 : (ig (B + 20) n).toInt = 0) (h21 : (ig (B + 21) n).toInt = 0) (e15 : fN B ig' = fN B ig + 1) (e16 : fL B ig' (fN B ig) = n) (e17 : ∀ i, i < fN B ig → fL B ig' i = fL B ig i) (e20 : ∀ p, ig' (B + 20) p = ig (B + 20) p) (e21 : ∀ p, ig' (B + 21) p = ig (B + 21) p)
    (s17 : SBt (lg (B + 17)) (lg' (B + 17)) 0 n) (s18 : GRo B n (rdT (n : Int) (fmO (σ n))) lg lg') : GR B σ (n + 1) ig' lg' := by
  obtain ⟨h1, h2, h3, h4, h5, h6⟩ := h
  have nl : ∀ p, p < n + 1 → p < n ∨ p = n := fun p hp => by omega
  refine ⟨fun p hp => ?_, fun i hi => ?_, fun i j hij hj => ?_, fun p hp hf => ?_, fun q hq => ?_, fun p q hp hq => ?_⟩
  · rw [e20, e21]
    rcases nl p hp with q | rfl
    · exact h1 p q
    · exact ⟨h20, h21⟩
  · by_cases c : i = fN B ig
    · rw [c, e16]; exact ⟨by omega, hk⟩
    · rw [e17 i (by omega)]
      have := h2 i (by omega)
      exact ⟨by omega, this.2⟩
  · by_cases c : j = fN B ig
    · rw [c, e16, e17 i (by omega)]
      exact (h2 i (by omega)).1
    · rw [e17 i (by omega), e17 j (by omega)]
      exact h3 i j hij (by omega)
  · rcases nl p hp with q | rfl
    · obtain ⟨i, hi, e⟩ := h4 p q hf
      exact ⟨i, by omega, by rw [e17 i hi]; exact e⟩
    · exact ⟨fN B ig, by omega, e16⟩
  · rw [s17 0 q hq, Bool.or_eq_true, h5 q hq, Bool.and_eq_true, decide_eq_true_eq, decide_eq_true_eq]
    constructor
    · rintro (w | ⟨-, rfl⟩)
      · exact ⟨by omega, w.2⟩
      · exact ⟨by omega, hk⟩
    · rintro ⟨w1, w2⟩
      rcases nl q w1 with e | rfl
      · exact Or.inl ⟨e, w2⟩
      · exact Or.inr ⟨rfl, rfl⟩
  · rw [s18 p q hq, h6 p q hp hq]
    constructor
    · rintro (w | ⟨rfl, w⟩)
      · exact ⟨by omega, w.2⟩
      · exact ⟨by omega, hk.1, hk.2, w⟩
    · rintro ⟨w1, w2⟩
      rcases nl p w1 with e | rfl
      · exact Or.inl ⟨e, w2⟩
      · exact Or.inr ⟨rfl, w2.2.2⟩
theorem GR.le (h : GR B σ n ig lg) : ∀ i, i < fN B ig → i ≤ fL B ig i
  | 0, _ => Nat.zero_le _
  | i + 1, hi => by
    have a := GR.le h i (by omega)
    have b := h.2.2.1 i (i + 1) (by omega) hi
    omega
theorem GR.fn (h : GR B σ n ig lg) : fN B ig ≤ n := by
  apply Classical.byContradiction
  intro q
  have a := h.le n (by omega)
  have b := (h.2.1 n (by omega)).1
  omega
end GRS
/-- how many formulas a formula reads -/
def fRB (B : Nat) (lg : sG) (p q : Nat) : Bool := bR (lg (B + 18)) p q && bR (lg (B + 17)) 0 q
theorem fRB.w {B : Nat} {lg : sG} {p w : Nat} (hw : w < 5) : cnt (fRB B lg p) (64 * (w + 1)) = cnt (fRB B lg p) (64 * w) + cnt (Bt (lg (B + 18) (5 * p + w) &&& lg (B + 17) w)) 64 := by
  rw [show 64 * (w + 1) = 64 * w + 64 by omega, cnt.add]
  congr 1
  refine cnt.cg fun k hk => ?_
  unfold fRB bR
  rw [Bt.and, show (64 * w + k) / 64 = w by omega, show (64 * w + k) % 64 = k by omega, show 5 * 0 + w = w by omega]
/-- all places are through -/
def LkF (B : Nat) (σ : Sg) (ig : sI) (lg : sG) : Prop := (∀ i, i < fN B ig → fo σ (fL B ig i)) ∧ (∀ i j, i < j → j < fN B ig → fL B ig i < fL B ig j) ∧ (∀ p, fo σ p → ∃ i, i < fN B ig ∧ fL B ig i = p) ∧ (∀ p q, p < 288 → q < 320 → (bR (lg (B + 18)) p q = true ↔ Rd σ p q)) ∧ ∀ p q, Rd σ p q → q < 288
section LKF
variable {B : Nat} {σ : Sg} {π : Ps} {ig ig' : sI} {lg lg' : sG}
theorem Rd.lt (hW : WS σ π) {p q : Nat} (h : Rd σ p q) : q < 288 := by
  obtain ⟨h1, h2, s, hs, r, m⟩ := h
  have := plS_on (((hW.1 p h1).1 h2).1 s hs r) m
  omega
theorem GR.F (h : GR B σ 288 ig lg) (hW : WS σ π) : LkF B σ ig lg := by
  obtain ⟨h1, h2, h3, h4, h5, h6⟩ := h
  exact ⟨fun i hi => (h2 i hi).2, h3, fun p hp => h4 p hp.1 hp, fun p q hp hq => (h6 p q hp (by omega)).trans ⟨fun w => w.2, fun w => ⟨hp, w⟩⟩, fun p q w => w.lt hW⟩
theorem LkF.ag (h : LkF B σ ig lg) (e15 : (ig' (B + 15) 2).toInt = (ig (B + 15) 2).toInt) (e16 : ∀ i, ig' (B + 16) i = ig (B + 16) i) (e18 : ∀ j, lg' (B + 18) j = lg (B + 18) j) : LkF B σ ig' lg' := by
  have a : fN B ig' = fN B ig := by unfold fN; rw [e15]
  have b : ∀ i, fL B ig' i = fL B ig i := fun i => by unfold fL; rw [e16]
  have d : lg' (B + 18) = lg (B + 18) := funext e18
  obtain ⟨h1, h2, h3, h4, h5⟩ := h
  refine ⟨fun i hi => by rw [b]; exact h1 i (by omega), fun i j hij hj => by rw [b, b]; exact h2 i j hij (by omega), fun p hp => ?_, by rw [d]; exact h4, h5⟩
  obtain ⟨i, hi, e⟩ := h3 p hp
  exact ⟨i, by omega, by rw [b]; exact e⟩
theorem LkF.inj (h : LkF B σ ig lg) {i j : Nat} (hi : i < fN B ig) (hj : j < fN B ig) (e : fL B ig i = fL B ig j) : i = j := by
  rcases Nat.lt_trichotomy i j with q | q | q
  · have := h.2.1 i j q hj; omega
  · exact q
  · have := h.2.1 j i q hi; omega
end LKF
/-! the order of work in the class's cells -/
def oD (B : Nat) (ig : sI) (j : Nat) : Nat := if 0 ≤ (ig (B + 22) j).toInt then (ig (B + 22) j).toInt.toNat else 999
theorem oD_v {B : Nat} {ig : sI} {j : Nat} (h : oD B ig j < 288) : (ig (B + 22) j).toInt = (oD B ig j : Int) := by
  unfold oD at h ⊢
  split at h
  · rename_i c; rw [if_pos c]; omega
  · omega
def oN (B : Nat) (ig : sI) : Nat := (ig (B + 15) 9).toInt.toNat
def wT (B : Nat) (ig : sI) (p : Nat) : Int := (ig (B + 21) p).toInt
def LkS (B : Nat) (σ : Sg) (X : Nat → Prop) (D : Nat → Nat → Prop) (ig : sI) : Prop := RLk σ X D (oD B ig) (oN B ig) (wT B ig)
def ApO (B : Nat) (x : Int) (ig ig' : sI) : Prop := (ig' (B + 15) 9).toInt = (ig (B + 15) 9).toInt + 1 ∧ (ig' (B + 22) (oN B ig)).toInt = x ∧ ∀ j, j ≠ oN B ig → ig' (B + 22) j = ig (B + 22) j
section APO
variable {B : Nat} {ig ig' : sI} {x : Int}
theorem ApO.n (h : ApO B x ig ig') (h0 : 0 ≤ (ig (B + 15) 9).toInt) : oN B ig' = oN B ig + 1 := by
  have := h.1
  unfold oN
  omega
theorem ApO.d (h : ApO B x ig ig') (hx : 0 ≤ x) : oD B ig' = upN (oD B ig) (oN B ig) x.toNat := by
  funext j
  unfold upN
  by_cases e : j = oN B ig
  · rw [if_pos e, e]; unfold oD; rw [h.2.1]; exact if_pos hx
  · rw [if_neg e]; unfold oD; rw [h.2.2 j e]
end APO
theorem wT_up {B : Nat} {ig : sI} {r : Nat} {v : Int32} : wT B (up2 ig (B + 21) r v) = upZ (wT B ig) r v.toInt := by
  funext p
  unfold wT upZ
  by_cases e : p = r
  · rw [if_pos e, e, up2_eq]
  · rw [if_neg e, up2_j e]
/-! the first count -/
def RL0 (σ : Sg) (S : Nat → Prop) (od : Nat → Nat) (n : Nat) (W : Nat → Int) : Prop := (∀ j, j < n → S (od j)) ∧ (∀ j k, j < k → k < n → od j ≠ od k) ∧ (∀ p, S p → fo σ p ∧ ∃ k : Nat, W p = (k : Int) ∧ CntIs (fun q => Rd σ p q ∧ fo σ q) 288 k) ∧ ∀ p, S p → (W p = 0 ↔ inO od n p)
section RLZ
variable {σ : Sg} {S S' : Nat → Prop} {od : Nat → Nat} {n r k : Nat} {W : Nat → Int}
theorem RL0.skip (h : RL0 σ S od n W) (hr : fo σ r) (hn : ¬ S r) (hc : CntIs (fun q => Rd σ r q ∧ fo σ q) 288 k) (hk : k ≠ 0) : RL0 σ (fun p => S p ∨ p = r) od n (upZ W r (k : Int)) := by
  obtain ⟨h1, h2, h3, h4⟩ := h
  have ni : ¬ inO od n r := fun ⟨j, hj, e⟩ => hn (e ▸ h1 j hj)
  refine ⟨fun j hj => Or.inl (h1 j hj), h2, fun p hp => ?_, fun p hp => ?_⟩
  · by_cases e : p = r
    · subst e; exact ⟨hr, k, upZ_eq, hc⟩
    · rw [upZ_ne e]; exact h3 p (hp.resolve_right e)
  · by_cases e : p = r
    · subst e
      rw [upZ_eq]
      exact ⟨fun w => absurd w (by omega), fun w => (ni w).elim⟩
    · rw [upZ_ne e]; exact h4 p (hp.resolve_right e)
theorem RL0.put (h : RL0 σ S od n W) (hr : fo σ r) (hn : ¬ S r) (hc : CntIs (fun q => Rd σ r q ∧ fo σ q) 288 0) : RL0 σ (fun p => S p ∨ p = r) (upN od n r) (n + 1) (upZ W r 0) := by
  obtain ⟨h1, h2, h3, h4⟩ := h
  refine ⟨fun j hj => ?_, fun j i hji hi e => ?_, fun p hp => ?_, fun p hp => ?_⟩
  · by_cases q : j = n
    · rw [q, upN_eq]; exact Or.inr rfl
    · rw [upN_ne q]; exact Or.inl (h1 j (by omega))
  · rw [upN_ne (show j ≠ n by omega)] at e
    by_cases q : i = n
    · rw [q, upN_eq] at e; exact hn (e ▸ h1 j (by omega))
    · rw [upN_ne q] at e; exact h2 j i hji (by omega) e
  · by_cases e : p = r
    · subst e; exact ⟨hr, 0, upZ_eq, hc⟩
    · rw [upZ_ne e]; exact h3 p (hp.resolve_right e)
  · rw [inO.us]
    by_cases e : p = r
    · subst e; rw [upZ_eq]; simp
    · rw [upZ_ne e, h4 p (hp.resolve_right e)]
      exact ⟨Or.inl, fun w => w.resolve_right e⟩
theorem RL0.eqS (h : RL0 σ S od n W) (e : ∀ p, S' p ↔ S p) : RL0 σ S' od n W := by
  have : S' = S := funext fun p => propext (e p)
  rw [this]; exact h
theorem RL0.zero {S : Nat → Prop} (hS : ∀ p, ¬ S p) : RL0 σ S od 0 W := ⟨fun j hj => absurd hj (Nat.not_lt_zero j), fun j k _ hk => absurd hk (Nat.not_lt_zero k), fun p hp => (hS p hp).elim, fun p hp => (hS p hp).elim⟩
theorem RL0.fin (h : RL0 σ S od n W) (hS : ∀ p, fo σ p → S p) : RLk σ (fun _ => False) (fun _ q => inO od 0 q) od n W := by
  obtain ⟨h1, h2, h3, h4⟩ := h
  refine ⟨fun j hj => (h3 _ (h1 j hj)).1, h2, fun p hp _ => ?_, fun p hp => h4 p (hS p hp), fun p hp => hp.elim, fun j hj _ q rq fq => ?_⟩
  · obtain ⟨k, e, c⟩ := (h3 p (hS p hp)).2
    refine ⟨k, e, c.cg fun q _ => ⟨fun w => ⟨w.1, w.2.1⟩, fun w => ⟨w.1, w.2, fun ⟨j, hj, _⟩ => absurd hj (Nat.not_lt_zero j)⟩⟩⟩
  · exfalso
    obtain ⟨k, e, c⟩ := (h3 _ (h1 j hj)).2
    have k0 : k = 0 := by
      have := (h4 _ (h1 j hj)).mpr ⟨j, hj, rfl⟩
      omega
    exact c.z.mp k0 q fq.1 ⟨rq, fq⟩
end RLZ
theorem RLk.eqF {σ : Sg} {X : Nat → Prop} {D D' : Nat → Nat → Prop} {od : Nat → Nat} {n : Nat} {W : Nat → Int} (h : RLk σ X D od n W) (e : ∀ p q, fo σ p → (D' p q ↔ D p q)) : RLk σ X D' od n W := by
  refine ⟨h.1, h.2.1, fun p hp hx => ?_, h.2.2.2⟩
  obtain ⟨k, e1, c⟩ := h.2.2.1 p hp hx
  exact ⟨k, e1, c.cg fun q _ => by rw [e p q hp]⟩
/-- as many as there are formulas: then all are in it -/
theorem RLk.full {σ : Sg} {X : Nat → Prop} {D : Nat → Nat → Prop} {od : Nat → Nat} {n m : Nat} {W : Nat → Int} {F : Nat → Nat} (h : RLk σ X D od n W) (hF : ∀ p, fo σ p → ∃ i, i < m ∧ F i = p) (hm : m ≤ n) {p : Nat} (hp : fo σ p) : inO od n p := by
  apply Classical.byContradiction
  intro hn
  have hex : ∀ q : {q // fo σ q}, ∃ i, i < m ∧ F i = q.1 := fun q => hF q.1 q.2
  let ix : {q // fo σ q} → Nat := fun q => Classical.choose (hex q)
  have hix : ∀ q, ix q < m ∧ F (ix q) = q.1 := fun q => Classical.choose_spec (hex q)
  let f : Nat → Nat := fun j => if hj : j < m then ix ⟨od j, h.1 j (by omega)⟩ else ix ⟨p, hp⟩
  obtain ⟨i, j, hij, hj, e⟩ := pigeon m f (fun i hi => by
    show (if hj : i < m then ix ⟨od i, h.1 i (by omega)⟩ else ix ⟨p, hp⟩) < m
    split
    · exact (hix _).1
    · exact (hix _).1)
  have fi : f i = ix ⟨od i, h.1 i (by omega)⟩ := dif_pos (by omega)
  rw [fi] at e
  by_cases c : j < m
  · have fj : f j = ix ⟨od j, h.1 j (by omega)⟩ := dif_pos c
    rw [fj] at e
    have e2 := congrArg F e
    rw [(hix _).2, (hix _).2] at e2
    exact h.2.1 i j hij (by omega) e2
  · have fj : f j = ix ⟨p, hp⟩ := dif_neg c
    rw [fj] at e
    have e2 := congrArg F e
    rw [(hix _).2, (hix _).2] at e2
    exact hn ⟨i, by omega, e2⟩
/-! one place of the order is worked off: k readers are through -/
def DR (B : Nat) (ig0 ig : sI) (d k : Nat) (p q : Nat) : Prop := inO (oD B ig) d q ∨ (q = oD B ig d ∧ ∃ i, i < k ∧ fL B ig0 i = p)
section REL
variable {B : Nat} {σ : Sg} {X : Nat → Prop} {ig0 ig ig' : sI} {lg : sG} {d k r : Nat} {v : Int32}
theorem DR.s {p q : Nat} : DR B ig0 ig d (k + 1) p q ↔ DR B ig0 ig d k p q ∨ (p = fL B ig0 k ∧ q = oD B ig d) := by
  unfold DR
  constructor
  · rintro (w | ⟨w, i, hi, e⟩)
    · exact Or.inl (Or.inl w)
    · by_cases c : i = k
      · subst c; exact Or.inr ⟨e.symm, w⟩
      · exact Or.inl (Or.inr ⟨w, i, by omega, e⟩)
  · rintro ((w | ⟨w, i, hi, e⟩) | ⟨w1, w2⟩)
    · exact Or.inl w
    · exact Or.inr ⟨w, i, by omega, e⟩
    · exact Or.inr ⟨w2, k, by omega, w1.symm⟩
theorem DR.zero {p q : Nat} : DR B ig0 ig d 0 p q ↔ inO (oD B ig) d q := by
  unfold DR
  exact ⟨fun w => w.elim id fun ⟨_, i, hi, _⟩ => absurd hi (Nat.not_lt_zero i), Or.inl⟩
theorem LkS.in (h : LkS B σ X (fun _ q => inO (oD B ig) d q) ig) : LkS B σ X (DR B ig0 ig d 0) ig := RLk.eqD h fun _ _ => DR.zero
theorem LkS.out (h : LkS B σ X (DR B ig0 ig d k) ig) (hF : LkF B σ ig0 lg) (hk : fN B ig0 ≤ k) : LkS B σ X (fun _ q => inO (oD B ig) (d + 1) q) ig := RLk.eqF h fun p q hp => by
  rw [inO.s]
  unfold DR
  constructor
  · rintro (w | w)
    · exact Or.inl w
    · obtain ⟨i, hi, e⟩ := hF.2.2.1 p hp
      exact Or.inr ⟨w, i, by omega, e⟩
  · rintro (w | ⟨w, _⟩)
    · exact Or.inl w
    · exact Or.inr w
theorem LkS.skip (h : LkS B σ X (DR B ig0 ig d k) ig) (hd : wT B ig (fL B ig0 k) = 0 ∨ ¬ Rd σ (fL B ig0 k) (oD B ig d)) : LkS B σ X (DR B ig0 ig d (k + 1)) ig := RLk.skip h hd fun _ _ => DR.s
theorem LkS.nd (h : LkS B σ X (DR B ig0 ig d k) ig) (hF : LkF B σ ig0 lg) (hk : k < fN B ig0) (hd : d < oN B ig) : ¬ DR B ig0 ig d k (fL B ig0 k) (oD B ig d) := by
  rintro (⟨j, hj, e⟩ | ⟨-, i, hi, e⟩)
  · exact h.2.1 j d hj hd e
  · have := hF.inj (by omega) hk e
    omega
theorem DR.up {p q : Nat} : DR B ig0 (up2 ig (B + 21) r v) d k p q ↔ DR B ig0 ig d k p q := by
  have e : oD B (up2 ig (B + 21) r v) = oD B ig := by funext j; unfold oD; rw [up2_a (by omega)]
  unfold DR
  rw [e]
theorem oD_up {j : Nat} : oD B (up2 ig (B + 21) r v) j = oD B ig j := by unfold oD; rw [up2_a (by omega)]
theorem oN_up : oN B (up2 ig (B + 21) r v) = oN B ig := by unfold oN; rw [up2_a (by omega)]
theorem LkS.off (h : LkS B σ X (DR B ig0 ig d k) ig) (hF : LkF B σ ig0 lg) (hk : k < fN B ig0) (hd : d < oN B ig) (hr : r = fL B ig0 k) (hrd : Rd σ r (oD B ig d)) (hw : wT B ig r ≠ 0) (hv : v.toInt = wT B ig r - 1) (h1 : v.toInt ≠ 0) : LkS B σ X (DR B ig0 (up2 ig (B + 21) r v) d (k + 1)) (up2 ig (B + 21) r v) := by
  subst hr
  have nd := h.nd hF hk hd
  have q := RLk.off (D' := DR B ig0 (up2 ig (B + 21) (fL B ig0 k) v) d (k + 1)) h (hF.1 k hk) hw hrd (h.1 d hd) nd (fun p q => DR.up.trans DR.s) (by omega)
  unfold LkS
  rw [wT_up, hv, oN_up, show oD B (up2 ig (B + 21) (fL B ig0 k) v) = oD B ig from funext fun j => oD_up]
  exact q
theorem LkS.lt (h : LkS B σ X (DR B ig0 ig d k) ig) (hF : LkF B σ ig0 lg) (hk : k < fN B ig0) (hw : wT B ig (fL B ig0 k) ≠ 0) : oN B ig < 288 :=
  RLk.lt h (hF.1 k hk).1 fun w => hw ((h.2.2.2.1 _ (hF.1 k hk)).mpr w)
theorem LkS.put (h : LkS B σ X (DR B ig0 ig d k) ig) (hF : LkF B σ ig0 lg) (hk : k < fN B ig0) (hd : d < oN B ig) (hr : r = fL B ig0 k) (hrd : Rd σ r (oD B ig d)) (hw : wT B ig r = 1) (hv : v.toInt = 0) (ha : ApO B (r : Int) (up2 ig (B + 21) r v) ig') (e21 : ∀ p, ig' (B + 21) p = up2 ig (B + 21) r v (B + 21) p) (h0 : 0 ≤ (ig (B + 15) 9).toInt) : LkS B σ X (DR B ig0 ig' d (k + 1)) ig' := by
  subst hr
  have nd := h.nd hF hk hd
  have en : oN B ig' = oN B ig + 1 := by rw [ha.n (by rw [up2_a (by omega)]; exact h0), oN_up]
  have ed : oD B ig' = upN (oD B ig) (oN B ig) (fL B ig0 k) := by
    have e1 := ha.d (Int.natCast_nonneg _)
    rw [oN_up, show oD B (up2 ig (B + 21) (fL B ig0 k) v) = oD B ig from funext fun j => oD_up] at e1
    exact e1
  have ew : wT B ig' = upZ (wT B ig) (fL B ig0 k) 0 := by
    rw [← hv, ← wT_up]
    funext p
    unfold wT
    rw [e21]
  have hD : ∀ p q, DR B ig0 ig' d (k + 1) p q ↔ DR B ig0 ig d k p q ∨ (p = fL B ig0 k ∧ q = oD B ig d) := fun p q => by
    rw [← DR.s]
    unfold DR
    rw [ed, inO.up (Nat.le_of_lt hd), upN_ne (by omega)]
  have q := RLk.put (D' := DR B ig0 ig' d (k + 1)) h (hF.1 k hk) hw hrd (h.1 d hd) nd hD (fun q hq => by
    rcases (hD _ q).mp hq with (⟨j, hj, e⟩ | ⟨e, _⟩) | ⟨-, e⟩
    · exact ⟨j, by omega, e⟩
    · exact ⟨d, hd, e.symm⟩
    · exact ⟨d, hd, e.symm⟩)
  unfold LkS
  rw [ew, en, ed]
  exact q
end REL
/-! rings: what reaches what through those that wait -/
def RwT (B : Nat) (σ : Sg) (ig : sI) : Rl := fun a b => (fo σ a ∧ 0 < wT B ig a) ∧ Rd σ a b
def RcP (B : Nat) (σ : Sg) (ig : sI) (lg : sG) : Rl := fun a b => (fo σ a ∧ 0 < wT B ig a) ∧ b < 288 ∧ bR (lg (B + 19)) a b = true
def RcH (B : Nat) (σ : Sg) (ig0 ig : sI) (lg : sG) (k : Nat) : Prop := Wsh (RwT B σ ig) (fun m => ∃ i, i < k ∧ fL B ig0 i = m) (RcP B σ ig lg)
def Thr (B : Nat) (σ : Sg) (x : Nat) (S : Nat → Prop) (ig : sI) (lg lg' : sG) : Prop := ∀ a b, a < 288 → b < 320 → (bR (lg' (B + 19)) a b = true ↔ bR (lg (B + 19)) a b = true ∨ ((S a ∧ 0 < wT B ig a ∧ bR (lg (B + 19)) a x = true) ∧ bR (lg (B + 19)) x b = true))
theorem Wsh.eq {R : Rl} {M M' : Nat → Prop} {P P' : Rl} (h : Wsh R M P) (eM : ∀ k, M' k → M k) (eP : ∀ a b, P' a b ↔ P a b) : Wsh R M' P' := by
  obtain rfl : P' = P := funext fun a => funext fun b => propext (eP a b)
  exact ⟨h.1, h.2.1, fun k hk => h.2.2 k (eM k hk)⟩
/-- one row takes another's bits, word by word -/
def RwO (B p x w : Nat) (lg lg' : sG) : Prop := ∀ a b, b < 320 → bR (lg' (B + 19)) a b = (bR (lg (B + 19)) a b || (decide (a = p) && decide (b < 64 * w) && bR (lg (B + 19)) x b))
section ROW
variable {B p x w i i2 : Nat} {lg lg' : sG} {v : Int64}
theorem RwO.zero : RwO B p x 0 lg lg := fun a b hb => by simp
theorem RwO.step (h : RwO B p x w lg lg') (hw : w < 5) (hi : i = 5 * p + w) (hi2 : i2 = 5 * x + w) (hv : v = lg' (B + 19) i ||| lg' (B + 19) i2) : RwO B p x (w + 1) lg (up2 lg' (B + 19) i v) := fun a b hb => by
  have hx : ∀ k, k < 64 → Bt (lg' (B + 19) i2) k = bR (lg (B + 19)) x (64 * w + k) := fun k hk => by
    have q := h x (64 * w + k) (by omega)
    have e : bR (lg' (B + 19)) x (64 * w + k) = Bt (lg' (B + 19) i2) k := by unfold bR; rw [show 5 * x + (64 * w + k) / 64 = i2 by omega, show (64 * w + k) % 64 = k by omega]
    rw [e] at q
    rw [q]
    have : ¬ (64 * w + k < 64 * w) := by omega
    simp [this]
  by_cases e : 5 * a + b / 64 = i
  · have ea : a = p := by omega
    have eb : b / 64 = w := by omega
    subst ea
    have q := h a b hb
    have e1 : bR (lg' (B + 19)) a b = Bt (lg' (B + 19) i) (b % 64) := by unfold bR; rw [e]
    have e2 : bR (up2 lg' (B + 19) i v (B + 19)) a b = Bt v (b % 64) := by unfold bR; rw [e, up2_eq]
    rw [e2, hv, Bt.or, ← e1, q, hx (b % 64) (by omega), show 64 * w + b % 64 = b by omega]
    have c1 : ¬ (b < 64 * w) := by omega
    have c2 : b < 64 * (w + 1) := by omega
    simp [c1, c2]
  · have e2 : bR (up2 lg' (B + 19) i v (B + 19)) a b = bR (lg' (B + 19)) a b := by unfold bR; rw [up2_j e]
    rw [e2, h a b hb]
    by_cases c : a = p
    · have : (b < 64 * w) ↔ (b < 64 * (w + 1)) := by
        constructor
        · omega
        · intro q
          apply Classical.byContradiction
          intro q2
          exact e (by rw [c]; omega)
      simp [c, this]
    · simp [c]
end ROW
theorem RLk.noringW {σ : Sg} {D : Nat → Nat → Prop} {od : Nat → Nat} {n : Nat} {W : Nat → Int} (h : RLk σ (fun _ => False) D od n W) {p : Nat} (hp : fo σ p) (hw : W p = 0) : ¬ Rg σ p := h.noring ((h.2.2.2.1 p hp).mp hw)
section RNG
variable {B : Nat} {σ : Sg} {ig0 ig ig' : sI} {lg lg' lg2 : sG} {k r n0 x : Nat} {S : Nat → Prop} {D : Nat → Nat → Prop} {v : Int32}
theorem Thr.zero (hS : ∀ a, ¬ S a) : Thr B σ x S ig lg lg := fun a b ha hb => ⟨Or.inl, fun w => w.elim id fun w => (hS a w.1.1).elim⟩
theorem Thr.eqS {S' : Nat → Prop} (h : Thr B σ x S ig lg lg') (e : ∀ a, S' a ↔ S a) : Thr B σ x S' ig lg lg' := fun a b ha hb => by rw [e]; exact h a b ha hb
theorem Thr.mx (h : Thr B σ x S ig lg lg') (hx : x < 288) {b : Nat} (hb : b < 320) : bR (lg' (B + 19)) x b = true ↔ bR (lg (B + 19)) x b = true := by
  rw [h x b hx hb]
  exact ⟨fun w => w.elim id fun w => w.2, Or.inl⟩
theorem Thr.skip (h : Thr B σ x S ig lg lg') (hr : r < 288) (hx : x < 288) (hn : ¬ S r) (hq : wT B ig r ≤ 0 ∨ ¬ bR (lg' (B + 19)) r x = true) : Thr B σ x (fun a => S a ∨ a = r) ig lg lg' := fun a b ha hb => by
  rw [h a b ha hb]
  constructor
  · rintro (w | ⟨⟨w1, w2⟩, w3⟩)
    · exact Or.inl w
    · exact Or.inr ⟨⟨Or.inl w1, w2⟩, w3⟩
  · rintro (w | ⟨⟨w1 | rfl, w2⟩, w3⟩)
    · exact Or.inl w
    · exact Or.inr ⟨⟨w1, w2⟩, w3⟩
    · exfalso
      rcases hq with q | q
      · have := w2.1; omega
      · exact q ((h a x ha (by omega)).mpr (Or.inl w2.2))
theorem Thr.put (h : Thr B σ x S ig lg lg') (hr : r < 288) (hx : x < 288) (hn : ¬ S r) (hw : 0 < wT B ig r) (hq : bR (lg' (B + 19)) r x = true) (ho : RwO B r x 5 lg' lg2) : Thr B σ x (fun a => S a ∨ a = r) ig lg lg2 := fun a b ha hb => by
  have q0 : bR (lg (B + 19)) r x = true := by
    rcases (h r x hr (by omega)).mp hq with w | w
    · exact w
    · exact (hn w.1.1).elim
  rw [ho a b hb, Bool.or_eq_true, Bool.and_eq_true, Bool.and_eq_true, decide_eq_true_eq, decide_eq_true_eq, h a b ha hb, h.mx hx hb]
  constructor
  · rintro ((w | ⟨⟨w1, w2⟩, w3⟩) | ⟨⟨rfl, -⟩, w⟩)
    · exact Or.inl w
    · exact Or.inr ⟨⟨Or.inl w1, w2⟩, w3⟩
    · exact Or.inr ⟨⟨Or.inr rfl, hw, q0⟩, w⟩
  · rintro (w | ⟨⟨w1 | rfl, w2⟩, w3⟩)
    · exact Or.inl (Or.inl w)
    · exact Or.inl (Or.inr ⟨⟨w1, w2⟩, w3⟩)
    · exact Or.inr ⟨⟨rfl, by omega⟩, w3⟩
theorem RcH.zero2 (hF : LkF B σ ig lg) (e : ∀ j, j < 1440 → lg' (B + 19) j = lg (B + 18) j) : RcH B σ ig ig lg' 0 := by
  have e1 : ∀ a b, a < 288 → b < 288 → bR (lg' (B + 19)) a b = bR (lg (B + 18)) a b := fun a b ha hb => by unfold bR; rw [e _ (by omega)]
  refine Wsh.eq (Wsh.zero (R := RwT B σ ig)) (fun k ⟨i, hi, _⟩ => absurd hi (Nat.not_lt_zero i)) fun a b => ?_
  unfold RcP RwT
  constructor
  · rintro ⟨w1, w2, w3⟩
    rw [e1 a b w1.1.1 w2] at w3
    exact ⟨w1, (hF.2.2.2.1 a b w1.1.1 (by omega)).mp w3⟩
  · rintro ⟨w1, w2⟩
    have := hF.2.2.2.2 a b w2
    exact ⟨w1, this, by rw [e1 a b w1.1.1 this]; exact (hF.2.2.2.1 a b w1.1.1 (by omega)).mpr w2⟩
theorem Thr.igw (h : Thr B σ x S ig' lg lg') (e : ∀ p, ig' (B + 21) p = ig (B + 21) p) : Thr B σ x S ig lg lg' := fun a b ha hb => by
  have q := h a b ha hb
  unfold wT at q ⊢
  rw [e] at q
  exact q
theorem RcH.turn (h : RcH B σ ig0 ig lg k) (hx : fo σ (fL B ig0 k)) (hw : 0 < wT B ig (fL B ig0 k)) (ht : Thr B σ (fL B ig0 k) (fo σ) ig lg lg') : RcH B σ ig0 ig lg' (k + 1) := by
  refine Wsh.eq (Wsh.turn (m := fL B ig0 k) h) (fun m ⟨i, hi, e⟩ => ?_) fun a b => ?_
  · by_cases c : i = k
    · subst c; exact Or.inr e.symm
    · exact Or.inl ⟨i, by omega, e⟩
  · unfold thru RcP
    constructor
    · rintro ⟨w1, w2, w3⟩
      rcases (ht a b w1.1.1 (by omega)).mp w3 with w | ⟨⟨-, -, w4⟩, w5⟩
      · exact Or.inl ⟨w1, w2, w⟩
      · exact Or.inr ⟨⟨w1, hx.1, w4⟩, ⟨hx, hw⟩, w2, w5⟩
    · rintro (⟨w1, w2, w3⟩ | ⟨⟨w1, -, w4⟩, -, w2, w5⟩)
      · exact ⟨w1, w2, (ht a b w1.1.1 (by omega)).mpr (Or.inl w3)⟩
      · exact ⟨w1, w2, (ht a b w1.1.1 (by omega)).mpr (Or.inr ⟨⟨w1.1, w1.2, w4⟩, w5⟩)⟩
theorem RcH.free (h : RcH B σ ig0 ig lg k) (hw : wT B ig (fL B ig0 k) ≤ 0) : RcH B σ ig0 ig lg (k + 1) := by
  refine Wsh.eq (Wsh.free (m := fL B ig0 k) h (fun b w => by have := w.1.2; omega)) (fun m ⟨i, hi, e⟩ => ?_) fun a b => Iff.rfl
  by_cases c : i = k
  · subst c; exact Or.inr e.symm
  · exact Or.inl ⟨i, by omega, e⟩
/-- rings are found -/
def RgF (B : Nat) (σ : Sg) (ig : sI) (lg : sG) : Prop := ∀ a, fo σ a → 0 < wT B ig a → (bR (lg (B + 19)) a a = true ↔ Rg σ a)
theorem RcH.all (h : RcH B σ ig0 ig lg k) (hF : LkF B σ ig0 lg2) (hk : fN B ig0 ≤ k) (hL : LkS B σ (fun _ => False) D ig) : RgF B σ ig lg := by
  have hM : ∀ a b, RwT B σ ig a b → ∃ i, i < k ∧ fL B ig0 i = a := fun a b w => by
    obtain ⟨i, hi, e⟩ := hF.2.2.1 a w.1.1
    exact ⟨i, by omega, e⟩
  have hW : ∀ a, TG (Rd σ) a a → fo σ a ∧ 0 < wT B ig a := fun a t => by
    have fa : fo σ a := t.f
    have n1 : ¬ inO (oD B ig) (oN B ig) a := fun w => RLk.noring hL w t
    have n2 : wT B ig a ≠ 0 := fun w => n1 ((hL.2.2.2.1 a fa).mp w)
    have n3 := RLk.nn hL fa
    exact ⟨fa, by omega⟩
  intro a fa wa
  have q := Wsh.all h hM (a := a) (b := a)
  constructor
  · intro w
    have t := q.mp ⟨⟨fa, wa⟩, fa.1, w⟩
    exact TG.mono (fun x y w => w.2) t
  · intro w
    have t : TG (RwT B σ ig) a a := TG.mono (fun x y w => ⟨w.2.1, w.1⟩) (TG.ring hW w w)
    exact (q.mpr t).2.2
def RnG (B : Nat) (σ : Sg) (ig0 : sI) (k p : Nat) : Prop := (∃ i, i < k ∧ fL B ig0 i = p) ∧ Rg σ p
def RgA (B : Nat) (X : Nat → Prop) (ig : sI) : Prop := ∀ p, p < 288 → ((ig (B + 20) p).toInt = 1 ∧ X p) ∨ ((ig (B + 20) p).toInt = 0 ∧ ¬ X p)
theorem RnG.n {p : Nat} (hn : ¬ Rg σ (fL B ig0 k)) : RnG B σ ig0 (k + 1) p ↔ RnG B σ ig0 k p := by
  constructor
  · rintro ⟨⟨i, hi, e⟩, w⟩
    by_cases c : i = k
    · subst c; subst e; exact (hn w).elim
    · exact ⟨⟨i, by omega, e⟩, w⟩
  · rintro ⟨⟨i, hi, e⟩, w⟩
    exact ⟨⟨i, by omega, e⟩, w⟩
theorem RnG.y {p : Nat} (hy : Rg σ (fL B ig0 k)) : RnG B σ ig0 (k + 1) p ↔ RnG B σ ig0 k p ∨ p = fL B ig0 k := by
  constructor
  · rintro ⟨⟨i, hi, e⟩, w⟩
    by_cases c : i = k
    · subst c; exact Or.inr e.symm
    · exact Or.inl ⟨⟨i, by omega, e⟩, w⟩
  · rintro (⟨⟨i, hi, e⟩, w⟩ | rfl)
    · exact ⟨⟨i, by omega, e⟩, w⟩
    · exact ⟨⟨k, by omega, rfl⟩, hy⟩
theorem RnG.all {p : Nat} (hF : LkF B σ ig0 lg) (hk : fN B ig0 ≤ k) : RnG B σ ig0 k p ↔ Rg σ p := by
  constructor
  · exact fun w => w.2
  · intro w
    obtain ⟨i, hi, e⟩ := hF.2.2.1 p (TG.f w)
    exact ⟨⟨i, by omega, e⟩, w⟩
theorem RgA.eq {X X' : Nat → Prop} (h : RgA B X ig) (e : ∀ p, X' p ↔ X p) : RgA B X' ig := fun p hp => by rw [e]; exact h p hp
theorem RgA.ag {X : Nat → Prop} (h : RgA B X ig) (e : ∀ p, ig' (B + 20) p = ig (B + 20) p) : RgA B X ig' := fun p hp => by rw [e]; exact h p hp
theorem RgA.put {X : Nat → Prop} (h : RgA B X ig) (hv : v.toInt = 1) : RgA B (fun p => X p ∨ p = r) (up2 ig (B + 20) r v) := fun p hp => by
  by_cases e : p = r
  · subst e; rw [up2_eq]; exact Or.inl ⟨hv, Or.inr rfl⟩
  · rw [up2_j e]
    exact (h p hp).imp (fun w => ⟨w.1, Or.inl w.2⟩) (fun w => ⟨w.1, fun q => q.elim w.2 e⟩)
theorem LkS.eqX {X X' : Nat → Prop} (h : LkS B σ X D ig) (e : ∀ p, X' p ↔ X p) : LkS B σ X' D ig := RLk.eqX h e
/-- nothing of the order is written -/
theorem LkS.ag {X : Nat → Prop} (h : LkS B σ X (fun _ q => inO (oD B ig) n0 q) ig) (e15 : (ig' (B + 15) 9).toInt = (ig (B + 15) 9).toInt) (e21 : ∀ p, ig' (B + 21) p = ig (B + 21) p) (e22 : ∀ p, ig' (B + 22) p = ig (B + 22) p) : LkS B σ X (fun _ q => inO (oD B ig') n0 q) ig' := by
  have a : oN B ig' = oN B ig := by unfold oN; rw [e15]
  have b : oD B ig' = oD B ig := funext fun j => by unfold oD; rw [e22]
  have c : wT B ig' = wT B ig := funext fun j => by unfold wT; rw [e21]
  unfold LkS
  rw [a, b, c]
  exact h
theorem LkS.rput {X : Nat → Prop} (h : LkS B σ X (fun _ q => inO (oD B ig) n0 q) ig) (hr : fo σ r) (hw : wT B ig r ≠ 0) (hv : v.toInt = 0) (ha : ApO B (r : Int) (up2 ig (B + 21) r v) ig') (e21 : ∀ p, ig' (B + 21) p = up2 ig (B + 21) r v (B + 21) p) (h0 : 0 ≤ (ig (B + 15) 9).toInt) (hn : n0 ≤ oN B ig) : LkS B σ (fun p => X p ∨ p = r) (fun _ q => inO (oD B ig') n0 q) ig' := by
  have en : oN B ig' = oN B ig + 1 := by rw [ha.n (by rw [up2_a (by omega)]; exact h0), oN_up]
  have ed : oD B ig' = upN (oD B ig) (oN B ig) r := by
    have e1 := ha.d (Int.natCast_nonneg _)
    rw [oN_up, show oD B (up2 ig (B + 21) r v) = oD B ig from funext fun j => oD_up] at e1
    exact e1
  have ew : wT B ig' = upZ (wT B ig) r 0 := by
    rw [← hv, ← wT_up]
    funext p
    unfold wT
    rw [e21]
  have q := RLk.eqD (D' := fun _ q => inO (oD B ig') n0 q) (RLk.ring h hr hw) (fun p q => by rw [ed, inO.up hn])
  unfold LkS
  rw [ew, en]
  rw [ed] at q ⊢
  exact q
theorem LkS.rlt {X : Nat → Prop} (h : LkS B σ X D ig) (hr : fo σ r) (hw : wT B ig r ≠ 0) : oN B ig < 288 := RLk.lt h hr.1 fun w => hw ((h.2.2.2.1 _ hr).mpr w)
end RNG
/-! all of it -/
def OkO (σ : Sg) (od : Nat → Nat) (n : Nat) : Prop := (∀ j, j < n → fo σ (od j)) ∧ (∀ j k, j < k → k < n → od j ≠ od k) ∧ (∀ p, fo σ p → inO od n p) ∧ ∀ j, j < n → ¬ Rg σ (od j) → ∀ q, Rd σ (od j) q → fo σ q → ∃ k, k < j ∧ od k = q
def LSt (B : Nat) (σ : Sg) (ig : sI) (lg : sG) : Prop := LkF B σ ig lg ∧ RgA B (Rg σ) ig ∧ OkO σ (oD B ig) (oN B ig)
def LV (κ : Int) (B : Nat) (σ : Sg) (ν : Nat) (ig : sI) (lg : sG) : Prop := (κ ≤ (ig (B + 15) 11).toInt ∧ (ig (B + 15) 11).toInt ≤ (ν : Int)) ∧ LAz B ig lg ∧ ((ig (B + 15) 11).toInt = (ν : Int) → LSt B σ ig lg)
section LST
variable {b B : Nat} {σ σ' : Sg} {ν : Nat} {kd kd' : sK} {ig ig' : sI} {rg rg' : sR} {lg lg' : sG}
theorem LkS.ok {D : Nat → Nat → Prop} (h : LkS B σ (Rg σ) D ig) (ha : ∀ p, fo σ p → inO (oD B ig) (oN B ig) p) : OkO σ (oD B ig) (oN B ig) := ⟨h.1, h.2.1, ha, h.2.2.2.2.2⟩
theorem LAz.ag (h : LAz B ig lg) (e15 : (ig' (B + 15) 2).toInt = (ig (B + 15) 2).toInt) (e16 : ∀ i, ig' (B + 16) i = ig (B + 16) i) (e18 : ∀ j, lg' (B + 18) j = lg (B + 18) j) : LAz B ig' lg' := fun p hp hq w hw => by
  rw [e18]
  exact h p hp (fun i hi e => hq i (by unfold fN at hi ⊢; rw [e15]; exact hi) (by unfold fL at e ⊢; rw [e16]; exact e)) w hw
theorem LSt.ag (h : LSt B σ ig lg) (e : ∀ c j, c = 16 ∨ c = 20 ∨ c = 22 → ig' (B + c) j = ig (B + c) j) (e2 : (ig' (B + 15) 2).toInt = (ig (B + 15) 2).toInt) (e9 : (ig' (B + 15) 9).toInt = (ig (B + 15) 9).toInt) (e18 : ∀ j, lg' (B + 18) j = lg (B + 18) j) : LSt B σ ig' lg' := by
  refine ⟨h.1.ag e2 (fun i => e 16 i (Or.inl rfl)) e18, h.2.1.ag (fun p => e 20 p (Or.inr (Or.inl rfl))), ?_⟩
  have a : oN B ig' = oN B ig := by unfold oN; rw [e9]
  have d : oD B ig' = oD B ig := funext fun j => by unfold oD; rw [e 22 j (Or.inr (Or.inr rfl))]
  rw [a, d]
  exact h.2.2
theorem LV.nx {κ : Int} (h : LV κ B σ ν ig lg) (hN : Nx b B none kd ig rg lg kd' ig' rg' lg') (hb : b.testBit 3 = true := by decide) : LV κ B σ ν ig' lg' := by
  have r : ∀ c j, gO c j = 3 → ig' (B + c) j = ig (B + c) j := fun c j hc => hN.2.2.2.1 c j (by rw [hc]; exact hb)
  have r8 : ∀ j, lg' (B + 18) j = lg (B + 18) j := fun j => hN.2.2.2.2 18 j (by show b.testBit 3 = true; exact hb)
  have e2 : ig' (B + 15) 2 = ig (B + 15) 2 := r 15 2 rfl
  have e9 : ig' (B + 15) 9 = ig (B + 15) 9 := r 15 9 rfl
  have e11 : ig' (B + 15) 11 = ig (B + 15) 11 := r 15 11 rfl
  refine ⟨by rw [e11]; exact h.1, h.2.1.ag (by rw [e2]) (fun i => r 16 i rfl) r8, fun q => (h.2.2 (by rw [← e11]; exact q)).ag (fun c j hc => ?_) (by rw [e2]) (by rw [e9]) r8⟩
  rcases hc with rfl | rfl | rfl <;> exact r _ j rfl
/-- the sheet is another one -/
theorem LV.step {κ : Int} (h : LV κ B σ ν ig lg) (hN : Nx b B none kd ig rg lg kd' ig' rg' lg') (hb : b.testBit 3 = true := by decide) : LV κ B σ' (ν + 1) ig' lg' := by
  obtain ⟨h1, h2, -⟩ := h.nx hN hb
  exact ⟨by omega, h2, fun q => by omega⟩
theorem LV.of {κ : Int} (h1 : LSt B σ ig lg) (h2 : LAz B ig lg) (h3 : (ig (B + 15) 11).toInt = (ν : Int)) (hk : κ ≤ (ν : Int)) : LV κ B σ ν ig lg := ⟨by omega, h2, fun _ => h1⟩
theorem LV.le {κ : Int} (h : LV κ B σ ν ig lg) : κ ≤ (ν : Int) := by have := h.1; omega
end LST
