/-! the tokens as the grammar reads them; the steps that the tape keeps -/
def pkW (cf rf c r h : Int) : Int := (if cf = 1 then 8192 + 128 * c else 128 * (c - h % 12 + 32)) + (if rf = 1 then 64 + r else r - h / 12 + 32)
theorem pkW_ok {cf rf c r h : Int} (hc : 0 ≤ c ∧ c < 12) (hr : 0 ≤ r ∧ r < 24) (hh : 0 ≤ h ∧ h < 288) (h1 : cf = 0 ∨ cf = 1) (h2 : rf = 0 ∨ rf = 1) : pkR (pkW cf rf c r h) ∧ colv (pkW cf rf c r h) h = c ∧ rowv (pkW cf rf c r h) h = r := by
  have e1 : (12 * r + c) % 12 = c := by omega
  have e2 : (12 * r + c) / 12 = r := by omega
  obtain ⟨p, hp, hp2⟩ : ∃ p : Int, ((cf = 1 ∧ p = 8192 + 128 * c) ∨ (cf = 0 ∧ p = 128 * (c - h % 12 + 32))) ∧ (if cf = 1 then 8192 + 128 * c else 128 * (c - h % 12 + 32)) = p := ⟨_, by rcases h1 with rfl | rfl <;> simp, rfl⟩
  obtain ⟨q, hq, hq2⟩ : ∃ q : Int, ((rf = 1 ∧ q = 64 + r) ∨ (rf = 0 ∧ q = r - h / 12 + 32)) ∧ (if rf = 1 then 64 + r else r - h / 12 + 32) = q := ⟨_, by rcases h2 with rfl | rfl <;> simp, rfl⟩
  have k := pk_ok (x := 12 * r + c) (w := h) (by omega) hh (by rw [e1]; exact hp) (by rw [e2]; exact hq) (z := pkW cf rf c r h) (by unfold pkW; rw [hp2, hq2])
  rw [e1, e2] at k
  refine ⟨⟨k.1, ?_⟩, k.2⟩
  unfold pkW
  rw [hp2, hq2]
  omega
def tNu (τ : Tp) (a : Nat) (v : Int) : Prop := tK τ a = 110 ∧ v = tV τ a
def tSi (τ : Tp) (c : Int) (a : Nat) : Prop := tK τ a = c ∧ c ≠ 110 ∧ c ≠ 119
def tSm (τ : Tp) (a : Nat) : Prop := tK τ a = 119 ∧ tV τ a = 26
def dlf (τ : Tp) (a a1 : Nat) (cf : Int) : Prop := (tK τ a = 36 ∧ a1 = a + 1 ∧ cf = 1) ∨ (tK τ a ≠ 36 ∧ a1 = a ∧ cf = 0)
def tRf (τ : Tp) (h : Nat) (a b : Nat) (w : Int) : Prop := ∃ a1 a2 cf rf, dlf τ a a1 cf ∧ (tK τ a1 = 119 ∧ tV τ a1 < 12) ∧ dlf τ (a1 + 1) a2 rf ∧ (tK τ a2 = 110 ∧ 1 ≤ tV τ a2 ∧ tV τ a2 ≤ 24) ∧ b = a2 + 1 ∧ w = pkW cf rf (tV τ a1) (tV τ a2 - 1) (h : Int)
theorem dlf.det {τ : Tp} {a b c : Nat} {x y : Int} (h1 : dlf τ a b x) (h2 : dlf τ a c y) : b = c ∧ x = y := by
  unfold dlf at h1 h2
  omega
theorem dlf.b {τ : Tp} {a b : Nat} {x : Int} (h : dlf τ a b x) : a ≤ b ∧ (x = 0 ∨ x = 1) := by
  unfold dlf at h
  omega
theorem tRf.lt {τ : Tp} {h a b : Nat} {w : Int} (q : tRf τ h a b w) : a + 2 ≤ b := by
  obtain ⟨a1, a2, cf, rf, d1, -, d2, -, e, -⟩ := q
  have := d1.b; have := d2.b
  omega
theorem tGD (τ : Tp) (h : Nat) : GD (tNu τ) (tSi τ) (tRf τ h) (tSm τ) := by
  refine ⟨fun a v w h1 h2 => h1.2.trans h2.2.symm, fun a c e h1 h2 => h1.1.symm.trans h2.1, fun a b c v w h1 h2 => ?_, fun a v c h1 h2 => h2.2.1 (h2.1.symm.trans h1.1), fun a v h1 h2 => ?_, fun a c h1 h2 => h1.2.2 (h1.1.symm.trans h2.1), fun a b w h1 => ?_⟩
  · obtain ⟨a1, a2, cf, rf, d1, o1, d2, o2, rfl, rfl⟩ := h1
    obtain ⟨b1, b2, cf', rf', e1, o3, e2, o4, rfl, rfl⟩ := h2
    obtain ⟨rfl, rfl⟩ := d1.det e1
    obtain ⟨rfl, rfl⟩ := d2.det e2
    exact ⟨rfl, rfl⟩
  · have := h1.1.symm.trans h2.1
    omega
  · obtain ⟨a1, a2, cf, rf, d1, o1, -⟩ := h1
    have k : tK τ a = 36 ∨ (tK τ a = 119 ∧ tV τ a < 12) := by
      rcases d1 with ⟨q, -⟩ | ⟨-, rfl, -⟩
      · exact Or.inl q
      · exact Or.inr o1
    exact ⟨fun v q => by have := q.1; omega, fun q => by have := q.1; have := q.2; omega, fun q => by have := q.1; omega, fun q => by have := q.1; omega⟩
def tPa (τ : Tp) (h d : Nat) : Nat → Nat → Fm → Prop := hPart (tNu τ) (tSi τ) (tRf τ h) (tSm τ) d
def tPr (τ : Tp) (h d : Nat) : Nat → Nat → Fm → Prop := hProd (tNu τ) (tSi τ) (tRf τ h) (tSm τ) d
def tEe (τ : Tp) (h d : Nat) : Nat → Nat → Fm → Prop := hE (tNu τ) (tSi τ) (tRf τ h) (tSm τ) d
/-- the formula that the tape spells at a home -/
def tTop (τ : Tp) (h : Nat) (L : Fm) : Prop := ∃ c, tEe τ h 8 0 c L ∧ tK τ c = 0
theorem tTop.det {τ : Tp} {h : Nat} {L M : Fm} (h1 : tTop τ h L) (h2 : tTop τ h M) : L = M := by
  obtain ⟨c, p, -⟩ := h1
  obtain ⟨d, q, -⟩ := h2
  exact (hE.det (tGD τ h) 8 _ _ _ _ _ p q).2
/-! how long it is -/
def LnP (P : Nat → Nat → Fm → Prop) : Prop := ∀ a c y, P a c y → a + y.length ≤ c
theorem hCt.ln {P : Nat → Nat → Fm → Prop} {s : Nat → Int → Prop} (hP : LnP P) {a : Nat} : ∀ n acc b c x, a + acc.length ≤ b → hCt P s n acc b c x → a + x.length ≤ c
  | 0, acc, b, c, x, h0, h => by rw [h.2.1, h.2.2]; exact h0
  | n + 1, acc, b, c, x, h0, h => by
    obtain ⟨o, m, y, q1, q2, q3⟩ := h
    have k := hP _ _ _ q2
    exact hCt.ln hP n _ _ _ _ (by rw [List.length_append, List.length_append, List.length_singleton]; omega) q3
theorem hCh.ln {P : Nat → Nat → Fm → Prop} {s : Nat → Int → Prop} (hP : LnP P) : LnP (hCh P s) := by
  intro a c x h
  obtain ⟨n, m, y, q1, q2⟩ := h
  exact hCt.ln hP n _ _ _ _ (hP _ _ _ q1) q2
theorem tPa.ln {τ : Tp} {h : Nat} : ∀ d, LnP (tPa τ h d)
  | 0 => fun _ _ _ q => q.elim
  | d + 1 => by
    intro a c x q
    rcases q with ⟨v, p1, p2, rfl⟩ | ⟨w, u, p1, rfl⟩ | ⟨p1, z, p2, rfl⟩ | ⟨p1, e, z, p2, p3, p4, rfl⟩ | ⟨w, p1, rfl⟩
    · rw [List.length_singleton]; omega
    · obtain ⟨-, -, b1, b2, r1, -, r2, -, rfl⟩ := p1
      have := r1.lt; have := r2.lt
      rw [List.length_singleton]; omega
    · have := tPa.ln d _ _ _ p2
      rw [List.length_append, List.length_singleton]; omega
    · have := hCh.ln (hCh.ln (tPa.ln d)) _ _ _ p2
      rw [List.length_append, List.length_singleton]; omega
    · have := p1.lt
      rw [List.length_singleton]; omega
theorem tPr.ln {τ : Tp} {h : Nat} (d : Nat) : LnP (tPr τ h d) := hCh.ln (tPa.ln d)
theorem tEe.ln {τ : Tp} {h : Nat} (d : Nat) : LnP (tEe τ h d) := hCh.ln (tPr.ln d)
/-! it fits its home -/
def fitW (h : Nat) (y : Fm) : Prop := fitL (h : Int) y ∧ WfL y
theorem fitW.app {h : Nat} {x y : Fm} (h1 : fitW h x) (h2 : fitW h y) : fitW h (x ++ y) := ⟨okL.app.mpr ⟨h1.1, h2.1⟩, okL.app.mpr ⟨h1.2, h2.2⟩⟩
theorem fitW.op {h : Nat} {s : St} (hs : s.1 ≠ 1 ∧ s.1 ≠ 2) : fitW h [s] := ⟨okL.one.mpr fun q => by omega, okL.one.mpr fun q => by omega⟩
theorem fitW.rd {h : Nat} {s w u : Int} (h1 : inR (h : Int) w ∧ pkR w) (h2 : inR (h : Int) u ∧ pkR u) (h3 : orR (h : Int) w u) : fitW h [(s, w, u)] := ⟨okL.one.mpr fun _ => ⟨h1.1, h2.1, h3⟩, okL.one.mpr fun _ => ⟨h1.2, h2.2, trivial⟩⟩
theorem fitW.ops {h : Nat} {o : Int} : fitW h [(opS o, 0, 0)] := fitW.op ⟨opS_n.2.1, opS_n.2.2.1⟩
theorem is2_t {L : Fm} {i : Nat} (h : i < L.length) (h2 : (stp L (i : Int)).1 = 2) : List.countP is2 (L.take (i + 1)) = List.countP is2 (L.take i) + 1 := by
  rw [stp_in (by omega) (by omega)] at h2
  simp only [Int.toNat_natCast] at h2
  rw [List.take_succ_eq_append_getElem h, List.countP_append, List.countP_singleton]
  have : is2 L[i] = true := by unfold is2; rw [h2]; rfl
  rw [this]; rfl
theorem is2_f {L : Fm} {i : Nat} (h : i < L.length) (h2 : (stp L (i : Int)).1 ≠ 2) : List.countP is2 (L.take (i + 1)) = List.countP is2 (L.take i) := by
  rw [stp_in (by omega) (by omega)] at h2
  simp only [Int.toNat_natCast] at h2
  rw [List.take_succ_eq_append_getElem h, List.countP_append, List.countP_singleton]
  have : is2 L[i] = false := by unfold is2; exact decide_eq_false h2
  rw [this]; rfl
/-- the step of the k-th sum, or none -/
def sumS (L : Fm) (k z : Int) : Prop := (∃ l : Nat, l < L.length ∧ z = (l : Int) ∧ (stp L (l : Int)).1 = 2 ∧ (List.countP is2 (L.take l) : Int) = k) ∨ (z = -1 ∧ ∀ l : Nat, l < L.length → (stp L (l : Int)).1 = 2 → (List.countP is2 (L.take l) : Int) ≠ k)
/-! families by their numbers -/
theorem by1 {z : Int} {K : Prop} (h : (z = 1 ∧ K) ∨ (z = 0 ∧ ¬ K)) (hz : z ≠ 0) : K := by
  rcases h with ⟨-, q⟩ | ⟨q, -⟩
  · exact q
  · exact (hz q).elim
theorem by0 {z : Int} {K : Prop} (h : (z = 1 ∧ K) ∨ (z = 0 ∧ ¬ K)) (hz : z = 0) : ¬ K := by
  rcases h with ⟨q, -⟩ | ⟨-, q⟩
  · omega
  · exact q
theorem atC_k {σ : Sg} {x : Int} (h : kdO (atC σ x) ≠ 0) : 0 ≤ x ∧ x < 288 := by
  by_cases e : 0 ≤ x ∧ x < 288
  · exact e
  · rw [atC_off e] at h
    exact (h rfl).elim
theorem atC_n {σ : Sg} {x : Int} {p : Nat} (h : x = (p : Int)) (hp : p < 288) : atC σ x = σ p := by
  subst h
  rw [atC_on (by omega), Int.toNat_natCast]
def kinN (ζ : Nat → Int) (x y : Int) : Prop := (0 ≤ x ∧ x < 288) ∧ (0 ≤ y ∧ y < 288) ∧ ζ x.toNat ≠ -1 ∧ ζ x.toNat = ζ y.toNat
def strN (ζ : Nat → Int) (x y u : Int) : Prop := kinN ζ y u ∧ ¬ kinN ζ y x
def oddA (ζ : Nat → Int) (x : Int) : Prop := (0 < x % 12 ∧ x % 12 < 11) ∧ strN ζ x (x - 1) (x + 1)
def oddB (ζ : Nat → Int) (x : Int) : Prop := strN ζ x (x - 12) (x + 12)
def OddR (σ : Sg) (ζ : Nat → Int) (x z : Int) : Prop := (kdO (atC σ x) = 0 ∧ z = -1) ∨ (kdO (atC σ x) ≠ 0 ∧ ((oddA ζ x ∧ z = x - 1) ∨ (¬ oddA ζ x ∧ oddB ζ x ∧ z = x - 12) ∨ (¬ oddA ζ x ∧ ¬ oddB ζ x ∧ z = -1)))
def gonN (σ : Sg) (ζ : Nat → Int) (x y u : Int) : Prop := u ≠ x ∧ (kdO (atC σ u) = 1 ∨ kinN ζ y u)
/-- the last place of what a step reads -/
def lstP (s : St) (x : Int) : Int := rowv s.2.2 x * 12 + colv s.2.2 x
def shB (σ : Sg) (ζ : Nat → Int) (x : Int) (s : St) : Prop := s.1 = 2 ∧ colv s.2.1 x = colv s.2.2 x ∧ rowv s.2.2 x < 23 ∧ gonN σ ζ x (lstP s x) (lstP s x + 12)
def shR (σ : Sg) (ζ : Nat → Int) (x : Int) (s : St) : Prop := s.1 = 2 ∧ rowv s.2.1 x = rowv s.2.2 x ∧ colv s.2.2 x < 11 ∧ gonN σ ζ x (lstP s x) (lstP s x + 1)
theorem OddR.det {σ : Sg} {ζ : Nat → Int} {x y z : Int} (h1 : OddR σ ζ x y) (h2 : OddR σ ζ x z) : y = z := by
  rcases h1 with ⟨a, b⟩ | ⟨a, ⟨b, c⟩ | ⟨b, c, d⟩ | ⟨b, c, d⟩⟩ <;> rcases h2 with ⟨a', b'⟩ | ⟨a', ⟨b', c'⟩ | ⟨b', c', d'⟩ | ⟨b', c', d'⟩⟩ <;> first | omega | contradiction
theorem stp_2 {L : Fm} {x : Int} (h : (stp L x).1 = 2) : 0 ≤ x ∧ x < (L.length : Int) := by
  by_cases e : 0 ≤ x ∧ x < (L.length : Int)
  · exact e
  · rw [stp_out (by omega)] at h
    exact absurd h (by decide)
theorem colv_b {w x : Int} (hw : pkR w) (hx : 0 ≤ x ∧ x < 288) : -32 ≤ colv w x ∧ colv w x ≤ 74 := by
  unfold pkR at hw; unfold colv
  split <;> omega
theorem rowv_b {w x : Int} (hw : pkR w) (hx : 0 ≤ x ∧ x < 288) : -32 ≤ rowv w x ∧ rowv w x ≤ 86 := by
  unfold pkR at hw; unfold rowv
  split <;> omega
/-- the class's families, by their numbers -/
def FA (B : Nat) (ζ : Nat → Int) (ig : sI) : Prop := ∀ p, p < 288 → (ig (B + 30) p).toInt = ζ p
/-- the eldest of the families of the first k places -/
def ELd (B : Nat) (σ : Sg) (k : Nat) (ig : sI) : Prop := (0 ≤ (ig (B + 29) 3).toInt ∧ (ig (B + 29) 3).toInt ≤ (k : Int)) ∧
  (∀ i : Nat, (i : Int) < (ig (B + 29) 3).toInt → ∃ e : Nat, e < k ∧ (ig (B + 31) i).toInt = (e : Int) ∧ kdO (σ e) = 2 ∧ FmR σ e (e : Int)) ∧
  (∀ q, q < k → kdO (σ q) = 2 → ∃ i e : Nat, (i : Int) < (ig (B + 29) 3).toInt ∧ (ig (B + 31) i).toInt = (e : Int) ∧ fmO (σ e) = fmO (σ q))
section FAM
variable {B : Nat} {σ : Sg} {k : Nat} {ig : sI}
theorem FmR.self {e : Nat} (h : FmR σ e (e : Int)) (hk : kdO (σ e) = 2) {r : Nat} (hr : r < e) (h2 : kdO (σ r) = 2) : fmO (σ r) ≠ fmO (σ e) := by
  obtain ⟨q, a1, a2, a3, a4, a5⟩ := h.2 hk
  exact a5 r (by omega) h2
theorem ELd.zero (h : (ig (B + 29) 3).toInt = 0) : ELd B σ 0 ig := ⟨by omega, fun i hi => by omega, fun q hq => by omega⟩
theorem ELd.nof (h : ELd B σ k ig) (hk : kdO (σ k) ≠ 2) : ELd B σ (k + 1) ig := by
  refine ⟨by have := h.1; omega, fun i hi => ?_, fun q hq h2 => ?_⟩
  · obtain ⟨e, e1, e2⟩ := h.2.1 i hi
    exact ⟨e, by omega, e2⟩
  · by_cases e : q = k
    · subst e; exact (hk h2).elim
    · exact h.2.2 q (by omega) h2
theorem ELd.found (h : ELd B σ k ig) (hk : kdO (σ k) = 2) {i e : Nat} (hi : (i : Int) < (ig (B + 29) 3).toInt) (he : (ig (B + 31) i).toInt = (e : Int)) (hf : fmO (σ e) = fmO (σ k)) : FmR σ k (e : Int) ∧ ELd B σ (k + 1) ig := by
  obtain ⟨e', e1, e2, e3, e4⟩ := h.2.1 i hi
  obtain rfl : e' = e := by omega
  refine ⟨⟨fun w => (w hk).elim, fun _ => ⟨e', by omega, rfl, e3, hf, fun r hr h2 => ?_⟩⟩, by have := h.1; omega, fun i hi => ?_, fun q hq h2 => ?_⟩
  · rw [← hf]; exact e4.self e3 hr h2
  · obtain ⟨e, f1, f2⟩ := h.2.1 i hi
    exact ⟨e, by omega, f2⟩
  · by_cases e : q = k
    · subst e; exact ⟨i, e', hi, he, hf⟩
    · exact h.2.2 q (by omega) h2
theorem ELd.add (h : ELd B σ k ig) (hk : kdO (σ k) = 2) (hn : ∀ i e : Nat, (i : Int) < (ig (B + 29) 3).toInt → (ig (B + 31) i).toInt = (e : Int) → fmO (σ e) ≠ fmO (σ k)) {n : Nat} {v w : Int32} (hs : (n : Int) = (ig (B + 29) 3).toInt) (hv : v.toInt = (k : Int)) (hw : w.toInt = (ig (B + 29) 3).toInt + 1) : FmR σ k (k : Int) ∧ ELd B σ (k + 1) (up2 (up2 ig (B + 31) n v) (B + 29) 3 w) := by
  have no : ∀ r, r < k → kdO (σ r) = 2 → fmO (σ r) ≠ fmO (σ k) := fun r hr h2 e => by
    obtain ⟨i, e', f1, f2, f3⟩ := h.2.2 r hr h2
    exact hn i e' f1 f2 (f3.trans e)
  have F : FmR σ k (k : Int) := ⟨fun w => (w hk).elim, fun _ => ⟨k, Nat.le_refl _, rfl, hk, rfl, no⟩⟩
  have r1 : up2 (up2 ig (B + 31) n v) (B + 29) 3 w (B + 29) 3 = w := up2_eq
  have r2 : ∀ i, up2 (up2 ig (B + 31) n v) (B + 29) 3 w (B + 31) i = up2 ig (B + 31) n v (B + 31) i := fun i => up2_a (by omega)
  refine ⟨F, ?_, fun i hi => ?_, fun q hq h2 => ?_⟩
  · rw [r1]; have := h.1; omega
  · rw [r1] at hi
    rw [r2]
    by_cases e : i = n
    · subst e
      rw [up2_eq]
      exact ⟨k, by omega, hv, hk, F⟩
    · rw [up2_j e]
      obtain ⟨e', f1, f2⟩ := h.2.1 i (by omega)
      exact ⟨e', by omega, f2⟩
  · rw [r1]
    by_cases e : q = k
    · subst e
      exact ⟨n, q, by omega, by rw [r2, up2_eq]; exact hv, rfl⟩
    · obtain ⟨i, e', f1, f2, f3⟩ := h.2.2 q (by omega) h2
      exact ⟨i, e', by omega, by rw [r2, up2_j (by omega)]; exact f2, f3⟩
theorem ELd.ag {ig' : sI} (h : ELd B σ k ig) (e1 : ig' (B + 29) 3 = ig (B + 29) 3) (e2 : ∀ i, ig' (B + 31) i = ig (B + 31) i) : ELd B σ k ig' := by
  unfold ELd
  rw [e1]
  simp only [e2]
  exact h
theorem FmR.cast {z y : Int} {p : Nat} (h : FmR σ p y) (e : z = y) : FmR σ p z := e ▸ h
theorem FmR.up {v : Int32} (h : ∀ p, p < k → FmR σ p (ig (B + 30) p).toInt) (hv : FmR σ k v.toInt) : ∀ p, p < k + 1 → FmR σ p (up2 ig (B + 30) k v (B + 30) p).toInt := fun p hp => by
  by_cases e : p = k
  · subst e; rw [up2_eq]; exact hv
  · rw [up2_j e]; exact h p (by omega)
end FAM
/-! what each call makes of the sheet, and of what can be taken back -/
def onS (x : Int) : Prop := 0 ≤ x ∧ x < 288
def sSame (σ : Sg) (π : Ps) (σ' : Sg) (π' : Ps) : Prop := σ' = σ ∧ π' = π
def sPut (σ : Sg) (π : Ps) (p : Nat) (c : Cl) (σ' : Sg) (π' : Ps) : Prop := σ' = upS σ p c ∧ π' = pput π p (σ p)
def fCl (L : Fm) : Cl := ((2, 0), (0, 0, 0), L)
def nCl (v : Int) : Cl := ((1, v), (0, 0, 0), [])
def uCl (v a b c : Int) : Cl := ((1, v), (a, b, c), [])
section STEPS
variable (τ : Tp) (σ : Sg) (π : Ps) (x y : Int) (z : Int) (σ' : Sg) (π' : Ps)
def stF : Prop := (¬ onS x ∧ z = -1 ∧ sSame σ π σ' π') ∨ (onS x ∧ ((z ≠ 0 ∧ pTop (tK τ) (tV τ) (tS τ) z ∧ sSame σ π σ' π') ∨ (z = 0 ∧ pTop (tK τ) (tV τ) (tS τ) 0 ∧ ∃ L, tTop τ x.toNat L ∧ fitW x.toNat L ∧ sPut σ π x.toNat (fCl L) σ' π')))
def stN : Prop := (¬ onS x ∧ z = 0 ∧ sSame σ π σ' π') ∨ (onS x ∧ z = 1 ∧ sPut σ π x.toNat (nCl y) σ' π')
def stE : Prop := (¬ onS x ∧ z = 0 ∧ sSame σ π σ' π') ∨ (onS x ∧ z = 1 ∧ sPut σ π x.toNat blk σ' π')
def cpO : Prop := onS x ∧ onS y ∧ fitC y (atC σ x)
def stC : Prop := (¬ cpO σ x y ∧ z = 0 ∧ sSame σ π σ' π') ∨ (cpO σ x y ∧ z = 1 ∧ sPut σ π y.toNat (wuC (atC σ x)) σ' π')
def unO (a b c : Int) : Prop := kdO (atC σ x) = 1 ∧ (-4 ≤ a ∧ a ≤ 4) ∧ (-4 ≤ b ∧ b ≤ 4) ∧ -4 ≤ c ∧ c ≤ 4
def stU (a b c : Int) : Prop := (¬ unO σ x a b c ∧ z = 0 ∧ sSame σ π σ' π') ∨ (unO σ x a b c ∧ z = 1 ∧ σ' = upS σ x.toNat (uCl (atC σ x).1.2 a b c) ∧ π' = π)
def FaR (ζ : Nat → Int) : Prop := ∀ p, p < 288 → FmR σ p (ζ p)
def meO (n : Int) : Prop := n ≠ -1 ∧ fitC x (atC σ n)
def stM : Prop := ∃ ζ n, FaR σ ζ ∧ OddR σ ζ x n ∧ ((¬ meO σ x n ∧ sSame σ π σ' π') ∨ (meO σ x n ∧ sPut σ π x.toNat (wuC (atC σ n)) σ' π'))
def stL (L : Fm) (i d : Int) : Fm := L.set i.toNat ((stp L i).1, (stp L i).2.1, (stp L i).2.2 + d)
/-- the formula that stretch makes, or none -/
def stQ (k : Int) (o : Option Fm) : Prop := (kdO (atC σ x) ≠ 2 ∧ o = none) ∨ (kdO (atC σ x) = 2 ∧ ∃ ζ i, FaR σ ζ ∧ sumS (fmO (atC σ x)) k i ∧
  ((shB σ ζ x (stp (fmO (atC σ x)) i) ∧ o = some (stL (fmO (atC σ x)) i 1)) ∨ (¬ shB σ ζ x (stp (fmO (atC σ x)) i) ∧ shR σ ζ x (stp (fmO (atC σ x)) i) ∧ o = some (stL (fmO (atC σ x)) i 128)) ∨ (¬ shB σ ζ x (stp (fmO (atC σ x)) i) ∧ ¬ shR σ ζ x (stp (fmO (atC σ x)) i) ∧ o = none)))
def stT (k : Int) : Prop := ∃ o, stQ σ x k o ∧ ((o = none ∧ sSame σ π σ' π') ∨ ∃ L, o = some L ∧ sPut σ π x.toNat (fCl L) σ' π')
def stB : Prop := (π = [] ∧ sSame σ π σ' π') ∨ ∃ π0 p c, π = π0 ++ [(p, c)] ∧ σ' = upS σ p c ∧ π' = π0
end STEPS
/-! each of them has one end -/
section STDET
variable {τ : Tp} {σ : Sg} {π : Ps} {x y : Int} {z z2 : Int} {σ1 σ2 : Sg} {π1 π2 : Ps}
theorem sSame.det (h1 : sSame σ π σ1 π1) (h2 : sSame σ π σ2 π2) : σ1 = σ2 ∧ π1 = π2 := ⟨h1.1.trans h2.1.symm, h1.2.trans h2.2.symm⟩
theorem sPut.det {p : Nat} {c : Cl} (h1 : sPut σ π p c σ1 π1) (h2 : sPut σ π p c σ2 π2) : σ1 = σ2 ∧ π1 = π2 := ⟨h1.1.trans h2.1.symm, h1.2.trans h2.2.symm⟩
theorem stF.det (h1 : stF τ σ π x z σ1 π1) (h2 : stF τ σ π x z2 σ2 π2) : z = z2 ∧ σ1 = σ2 ∧ π1 = π2 := by
  have hS : ∀ a, 0 ≤ tS τ a := fun a => by unfold tS; omega
  rcases h1 with ⟨a1, a2, a3⟩ | ⟨a1, ⟨a2, a3, a4⟩ | ⟨a2, a3, L, a4, a5, a6⟩⟩ <;> rcases h2 with ⟨b1, b2, b3⟩ | ⟨b1, ⟨b2, b3, b4⟩ | ⟨b2, b3, M, b4, b5, b6⟩⟩
  · exact ⟨by omega, a3.det b3⟩
  · exact (a1 b1).elim
  · exact (a1 b1).elim
  · exact (b1 a1).elim
  · exact ⟨pTop.det hS a3 b3, a4.det b4⟩
  · exact absurd (pTop.det hS a3 b3) a2
  · exact (b1 a1).elim
  · exact absurd (pTop.det hS b3 a3) b2
  · obtain rfl := a4.det b4
    exact ⟨by omega, a6.det b6⟩
theorem stN.det (h1 : stN σ π x y z σ1 π1) (h2 : stN σ π x y z2 σ2 π2) : σ1 = σ2 ∧ π1 = π2 := by
  rcases h1 with ⟨a1, a2, a3⟩ | ⟨a1, a2, a3⟩ <;> rcases h2 with ⟨b1, b2, b3⟩ | ⟨b1, b2, b3⟩
  · exact a3.det b3
  · exact (a1 b1).elim
  · exact (b1 a1).elim
  · exact a3.det b3
theorem stE.det (h1 : stE σ π x z σ1 π1) (h2 : stE σ π x z2 σ2 π2) : σ1 = σ2 ∧ π1 = π2 := by
  rcases h1 with ⟨a1, a2, a3⟩ | ⟨a1, a2, a3⟩ <;> rcases h2 with ⟨b1, b2, b3⟩ | ⟨b1, b2, b3⟩
  · exact a3.det b3
  · exact (a1 b1).elim
  · exact (b1 a1).elim
  · exact a3.det b3
theorem stC.det (h1 : stC σ π x y z σ1 π1) (h2 : stC σ π x y z2 σ2 π2) : z = z2 ∧ σ1 = σ2 ∧ π1 = π2 := by
  rcases h1 with ⟨a1, a2, a3⟩ | ⟨a1, a2, a3⟩ <;> rcases h2 with ⟨b1, b2, b3⟩ | ⟨b1, b2, b3⟩
  · exact ⟨by omega, a3.det b3⟩
  · exact (a1 b1).elim
  · exact (b1 a1).elim
  · exact ⟨by omega, a3.det b3⟩
theorem stU.det {a b c : Int} (h1 : stU σ π x z σ1 π1 a b c) (h2 : stU σ π x z2 σ2 π2 a b c) : z = z2 ∧ σ1 = σ2 ∧ π1 = π2 := by
  rcases h1 with ⟨a1, a2, a3⟩ | ⟨a1, a2, a3⟩ <;> rcases h2 with ⟨b1, b2, b3⟩ | ⟨b1, b2, b3⟩
  · exact ⟨by omega, a3.det b3⟩
  · exact (a1 b1).elim
  · exact (b1 a1).elim
  · exact ⟨by omega, a3.1.trans b3.1.symm, a3.2.trans b3.2.symm⟩
theorem FaR.det {ζ ψ : Nat → Int} (h1 : FaR σ ζ) (h2 : FaR σ ψ) : ∀ p, p < 288 → ζ p = ψ p := fun p hp => (h1 p hp).det (h2 p hp)
theorem kinN.cg {ζ ψ : Nat → Int} {x y : Int} (h : ∀ p, p < 288 → ζ p = ψ p) : kinN ζ x y ↔ kinN ψ x y := by
  unfold kinN
  constructor
  · rintro ⟨a, b, c⟩
    rw [h _ (by omega), h _ (by omega)] at c
    exact ⟨a, b, c⟩
  · rintro ⟨a, b, c⟩
    rw [← h _ (by omega), ← h y.toNat (by omega)] at c
    exact ⟨a, b, c⟩
theorem OddR.cg {ζ ψ : Nat → Int} (h : ∀ p, p < 288 → ζ p = ψ p) (q : OddR σ ζ x z) : OddR σ ψ x z := by
  unfold OddR oddA oddB strN at *
  simp only [kinN.cg h] at q
  exact q
theorem gonN.cg {ζ ψ : Nat → Int} {x y u : Int} (h : ∀ p, p < 288 → ζ p = ψ p) : gonN σ ζ x y u ↔ gonN σ ψ x y u := by
  unfold gonN
  rw [kinN.cg h]
theorem shB.cg {ζ ψ : Nat → Int} {s : St} (h : ∀ p, p < 288 → ζ p = ψ p) : shB σ ζ x s ↔ shB σ ψ x s := by
  unfold shB
  rw [gonN.cg h]
theorem shR.cg {ζ ψ : Nat → Int} {s : St} (h : ∀ p, p < 288 → ζ p = ψ p) : shR σ ζ x s ↔ shR σ ψ x s := by
  unfold shR
  rw [gonN.cg h]
theorem stM.det (h1 : stM σ π x σ1 π1) (h2 : stM σ π x σ2 π2) : σ1 = σ2 ∧ π1 = π2 := by
  obtain ⟨ζ, n, f1, o1, h1⟩ := h1
  obtain ⟨ψ, m, f2, o2, h2⟩ := h2
  obtain rfl := (o1.cg (f1.det f2)).det o2
  rcases h1 with ⟨a1, a2⟩ | ⟨a1, a2⟩ <;> rcases h2 with ⟨b1, b2⟩ | ⟨b1, b2⟩
  · exact a2.det b2
  · exact (a1 b1).elim
  · exact (b1 a1).elim
  · exact a2.det b2
theorem cnt_lt {L : Fm} {i j : Nat} (hi : i < L.length) (h2 : (stp L (i : Int)).1 = 2) (hij : i < j) : List.countP is2 (L.take i) < List.countP is2 (L.take j) := by
  have e : L.take (i + 1) = (L.take j).take (i + 1) := by rw [List.take_take, Nat.min_eq_left hij]
  have l := is2_t hi h2
  have : List.countP is2 ((L.take j).take (i + 1)) ≤ List.countP is2 (L.take j) := (List.take_sublist _ _).countP_le
  rw [← e] at this
  omega
theorem sumS.det {L : Fm} {k i j : Int} (h1 : sumS L k i) (h2 : sumS L k j) : i = j := by
  rcases h1 with ⟨l, a1, a2, a3, a4⟩ | ⟨a1, a2⟩ <;> rcases h2 with ⟨m, b1, b2, b3, b4⟩ | ⟨b1, b2⟩
  · rcases Nat.lt_trichotomy l m with w | w | w
    · have := cnt_lt a1 a3 w; omega
    · omega
    · have := cnt_lt b1 b3 w; omega
  · exact (b2 l a1 a3 a4).elim
  · exact (a2 m b1 b3 b4).elim
  · omega
theorem stQ.det {k : Int} {o q : Option Fm} (h1 : stQ σ x k o) (h2 : stQ σ x k q) : o = q := by
  rcases h1 with ⟨a1, a2⟩ | ⟨a1, ζ, i, f1, a2, a3⟩ <;> rcases h2 with ⟨b1, b2⟩ | ⟨b1, ψ, j, f2, b2, b3⟩
  · rw [a2, b2]
  · exact (a1 b1).elim
  · exact (b1 a1).elim
  · have cg := f1.det f2
    obtain rfl := a2.det b2
    rw [shB.cg cg, shR.cg cg] at a3
    rcases a3 with ⟨c1, c2⟩ | ⟨c1, c2, c3⟩ | ⟨c1, c2, c3⟩ <;> rcases b3 with ⟨d1, d2⟩ | ⟨d1, d2, d3⟩ | ⟨d1, d2, d3⟩
    · rw [c2, d2]
    · exact (d1 c1).elim
    · exact (d1 c1).elim
    · exact (c1 d1).elim
    · rw [c3, d3]
    · exact (d2 c2).elim
    · exact (c1 d1).elim
    · exact (c2 d2).elim
    · rw [c3, d3]
theorem stT.det {k : Int} (h1 : stT σ π x σ1 π1 k) (h2 : stT σ π x σ2 π2 k) : σ1 = σ2 ∧ π1 = π2 := by
  obtain ⟨o, a, h1⟩ := h1
  obtain ⟨q, b, h2⟩ := h2
  obtain rfl := a.det b
  rcases h1 with ⟨e1, a2⟩ | ⟨L, e1, a2⟩ <;> rcases h2 with ⟨e2, b2⟩ | ⟨M, e2, b2⟩
  · exact a2.det b2
  · rw [e1] at e2; cases e2
  · rw [e1] at e2; cases e2
  · rw [e1] at e2
    cases e2
    exact a2.det b2
theorem stB.det (h1 : stB σ π σ1 π1) (h2 : stB σ π σ2 π2) : σ1 = σ2 ∧ π1 = π2 := by
  rcases h1 with ⟨a1, a2⟩ | ⟨π3, p, c, a1, a2, a3⟩ <;> rcases h2 with ⟨b1, b2⟩ | ⟨π4, q, d, b1, b2, b3⟩
  · exact a2.det b2
  · rw [a1] at b1; exact absurd b1.symm (by simp)
  · rw [b1] at a1; exact absurd a1.symm (by simp)
  · rw [a1] at b1
    have e := List.append_inj' b1 rfl
    obtain ⟨rfl, e2⟩ := e
    cases e2
    exact ⟨a2.trans b2.symm, a3.trans b3.symm⟩
end STDET
/-! formulas that fit where they stand, and that are well packed -/
def wfC (p : Nat) (c : Cl) : Prop := (kdO c = 2 → fitW p (fmO c)) ∧ (kdO c ≠ 1 → c.2.1 = (0, 0, 0) ∧ c.1.2 = 0)
def WS (σ : Sg) (π : Ps) : Prop := (∀ p, p < 288 → wfC p (σ p)) ∧ ∀ e ∈ π, e.1 < 288 ∧ wfC e.1 e.2
section WSS
variable {τ : Tp} {σ σ' : Sg} {π π' : Ps} {x y z : Int}
theorem WS.at (h : WS σ π) {x : Int} (hx : onS x) : wfC x.toNat (atC σ x) := by
  rw [atC_on hx]
  exact h.1 _ (by unfold onS at hx; omega)
theorem WS.wf (h : WS σ π) {x : Int} (h2 : kdO (atC σ x) = 2) : fitL x (fmO (atC σ x)) ∧ WfL (fmO (atC σ x)) := by
  have hx : onS x := atC_k (σ := σ) (by omega)
  have k := (h.at hx).1 h2
  unfold onS at hx
  unfold fitW at k
  rw [show ((x.toNat : Nat) : Int) = x by omega] at k
  exact k
theorem WS.same (h : WS σ π) (q : sSame σ π σ' π') : WS σ' π' := by
  obtain ⟨rfl, rfl⟩ := q
  exact h
theorem WS.up (h : WS σ π) {p : Nat} {c : Cl} (hp : p < 288) (hc : wfC p c) : WS (upS σ p c) π := ⟨fun k hk => by
  by_cases e : k = p
  · subst e; rw [upS_eq]; exact hc
  · rw [upS_ne e]; exact h.1 k hk, h.2⟩
theorem WS.put (h : WS σ π) {p : Nat} {c : Cl} (hp : p < 288) (hc : wfC p c) (q : sPut σ π p c σ' π') : WS σ' π' := by
  obtain ⟨rfl, rfl⟩ := q
  refine ⟨(h.up hp hc).1, fun e he => ?_⟩
  unfold pput at he
  rcases List.mem_append.mp he with he | he
  · refine h.2 e ?_
    unfold ptl at he
    split at he
    · exact List.mem_of_mem_tail he
    · exact he
  · obtain rfl := List.mem_singleton.mp he
    exact ⟨hp, h.1 p hp⟩
theorem wfC.wu {p : Nat} {c : Cl} (h : kdO c = 2 → fitW p (fmO c)) (hz : kdO c ≠ 1 → c.2.1 = (0, 0, 0) ∧ c.1.2 = 0) : wfC p (wuC c) := by
  unfold wuC
  split
  · exact ⟨fun q => absurd q (by show ¬ (1 : Int) = 2; decide), fun q => absurd rfl q⟩
  · exact ⟨h, hz⟩
theorem WS.uz (h : WS σ π) {x : Int} : kdO (atC σ x) ≠ 1 → (atC σ x).2.1 = (0, 0, 0) ∧ (atC σ x).1.2 = 0 := by
  by_cases e : 0 ≤ x ∧ x < 288
  · exact (h.at e).2
  · intro _; rw [atC_off e]; exact ⟨rfl, rfl⟩
theorem WS.stF (h : WS σ π) (q : stF τ σ π x z σ' π') : WS σ' π' := by
  rcases q with ⟨-, -, q⟩ | ⟨hx, ⟨-, -, q⟩ | ⟨-, -, L, -, hf, q⟩⟩
  · exact h.same q
  · exact h.same q
  · exact h.put (by unfold onS at hx; omega) ⟨fun _ => hf, fun _ => ⟨rfl, rfl⟩⟩ q
theorem WS.stN (h : WS σ π) (q : stN σ π x y z σ' π') : WS σ' π' := by
  rcases q with ⟨-, -, q⟩ | ⟨hx, -, q⟩
  · exact h.same q
  · exact h.put (by unfold onS at hx; omega) ⟨fun w => absurd w (by show ¬ (1 : Int) = 2; decide), fun w => absurd rfl w⟩ q
theorem WS.stE (h : WS σ π) (q : stE σ π x z σ' π') : WS σ' π' := by
  rcases q with ⟨-, -, q⟩ | ⟨hx, -, q⟩
  · exact h.same q
  · exact h.put (by unfold onS at hx; omega) ⟨fun w => absurd w (by decide), fun _ => ⟨rfl, rfl⟩⟩ q
theorem WS.cp (h : WS σ π) {n y : Int} (hy : onS y) (hf : fitC y (atC σ n)) (q : sPut σ π y.toNat (wuC (atC σ n)) σ' π') : WS σ' π' := by
  refine h.put (by unfold onS at hy; omega) (wfC.wu (fun h2 => ⟨?_, (h.wf h2).2⟩) h.uz) q
  unfold onS at hy
  rw [show ((y.toNat : Nat) : Int) = y by omega]
  exact hf h2
theorem WS.stC (h : WS σ π) (q : stC σ π x y z σ' π') : WS σ' π' := by
  rcases q with ⟨-, -, q⟩ | ⟨⟨-, hy, hf⟩, -, q⟩
  · exact h.same q
  · exact h.cp hy hf q
theorem WS.stU {a b c : Int} (h : WS σ π) (q : stU σ π x z σ' π' a b c) : WS σ' π' := by
  rcases q with ⟨-, -, q⟩ | ⟨⟨hk, -⟩, -, q, q2⟩
  · exact h.same q
  · obtain rfl := q
    obtain rfl := q2
    have hx := atC_k (σ := σ) (x := x) (by omega)
    exact h.up (by omega) ⟨fun w => absurd w (by show ¬ (1 : Int) = 2; decide), fun w => absurd rfl w⟩
theorem WS.stM (h : WS σ π) (q : stM σ π x σ' π') : WS σ' π' := by
  obtain ⟨ζ, n, -, o, ⟨-, q⟩ | ⟨⟨hn, hf⟩, q⟩⟩ := q
  · exact h.same q
  · have hx : onS x := by
      rcases o with ⟨-, e⟩ | ⟨e, -⟩
      · exact (hn e).elim
      · exact atC_k e
    exact h.cp hx hf q
theorem WS.stB (h : WS σ π) (q : stB σ π σ' π') : WS σ' π' := by
  rcases q with ⟨-, q⟩ | ⟨π0, p, c, e, q1, q2⟩
  · exact h.same q
  · subst e
    obtain rfl := q1
    obtain rfl := q2
    have k := h.2 (p, c) (List.mem_append.mpr (Or.inr (List.mem_singleton.mpr rfl)))
    exact ⟨(h.up k.1 k.2).1, fun e he => h.2 e (List.mem_append.mpr (Or.inl he))⟩
/-- one row, or one column, further -/
theorem pk_1 {w x : Int} (h : pkR w) (hx : 0 ≤ x ∧ x < 288) (hi : inR x w) (hr : rowv w x < 23) : pkR (w + 1) ∧ rowv (w + 1) x = rowv w x + 1 ∧ colv (w + 1) x = colv w x := by
  unfold pkR inR colv rowv at *
  have d1 : (w + 1) / 128 = w / 128 ∧ (w + 1) / 64 = w / 64 ∧ (w + 1) % 64 = w % 64 + 1 := by
    split at hr <;> omega
  rw [d1.1, d1.2.1, d1.2.2]
  refine ⟨by omega, by split <;> omega, ?_⟩
  by_cases e : 8192 ≤ w
  · rw [if_pos (by omega), if_pos e]
  · rw [if_neg (by omega), if_neg e]
theorem pk_128 {w x : Int} (h : pkR w) (hx : 0 ≤ x ∧ x < 288) (hi : inR x w) (hr : colv w x < 11) : pkR (w + 128) ∧ rowv (w + 128) x = rowv w x ∧ colv (w + 128) x = colv w x + 1 := by
  unfold pkR inR colv rowv at *
  have d1 : (w + 128) / 128 = w / 128 + 1 ∧ (w + 128) / 64 % 2 = w / 64 % 2 ∧ (w + 128) % 64 = w % 64 := by omega
  rw [d1.1, d1.2.1, d1.2.2]
  by_cases e : 8192 ≤ w
  · rw [if_pos e] at hr hi
    refine ⟨by omega, rfl, ?_⟩
    rw [if_pos (by omega), if_pos e]
    omega
  · rw [if_neg e] at hr hi
    refine ⟨by omega, rfl, ?_⟩
    rw [if_neg (by omega), if_neg e]
    omega
theorem mem_set {L : Fm} {i : Nat} {s t : St} (h : t ∈ L.set i s) : t = s ∨ t ∈ L := by
  rcases List.mem_or_eq_of_mem_set h with h | h
  · exact Or.inr h
  · exact Or.inl h
theorem fit_st {L : Fm} {i d : Int} {p : Nat} (h : fitW p L) (hi : 0 ≤ i ∧ i < (L.length : Int)) (hs : rdS (stp L i)) (hw : inR (p : Int) ((stp L i).2.2 + d) ∧ pkR ((stp L i).2.2 + d) ∧ orR (p : Int) (stp L i).2.1 ((stp L i).2.2 + d)) : fitW p (stL L i d) := by
  have k1 := h.1 _ (stp_mem hi.1 hi.2) hs
  have k2 := h.2 _ (stp_mem hi.1 hi.2) hs
  refine ⟨fun s hs2 q => ?_, fun s hs2 q => ?_⟩
  · rcases mem_set hs2 with rfl | e
    · exact ⟨k1.1, hw.1, hw.2.2⟩
    · exact h.1 s e q
  · rcases mem_set hs2 with rfl | e
    · exact ⟨k2.1, hw.2.1, trivial⟩
    · exact h.2 s e q
theorem stQ.fit {k : Int} {L : Fm} (h : WS σ π) (q : stQ σ x k (some L)) : onS x ∧ fitW x.toNat L := by
  rcases q with ⟨-, e⟩ | ⟨h2, ζ, i, -, hi, q⟩
  · cases e
  · have hx := atC_k (σ := σ) (x := x) (by omega)
    have hf := (h.at hx).1 h2
    have ep : ((x.toNat : Nat) : Int) = x := by omega
    refine ⟨hx, ?_⟩
    rcases q with ⟨c1, c2⟩ | ⟨-, c1, c2⟩ | ⟨-, -, c2⟩
    · cases c2
      have b := stp_2 c1.1
      have rd : rdS (stp (fmO (atC σ x)) i) := Or.inr c1.1
      have k1 := hf.1 _ (stp_mem b.1 b.2) rd
      have k2 := hf.2 _ (stp_mem b.1 b.2) rd
      rw [ep] at k1
      obtain ⟨e1, e2, e3⟩ := pk_1 k2.2.1 hx k1.2.1 c1.2.2.1
      refine fit_st hf b rd ?_
      rw [ep]
      have k3 := k1.2.1
      have k4 := k1.2.2
      have k5 := c1.2.2.1
      unfold inR orR at *
      rw [e2, e3]
      exact ⟨by omega, e1, by omega⟩
    · cases c2
      have b := stp_2 c1.1
      have rd : rdS (stp (fmO (atC σ x)) i) := Or.inr c1.1
      have k1 := hf.1 _ (stp_mem b.1 b.2) rd
      have k2 := hf.2 _ (stp_mem b.1 b.2) rd
      rw [ep] at k1
      obtain ⟨e1, e2, e3⟩ := pk_128 k2.2.1 hx k1.2.1 c1.2.2.1
      refine fit_st hf b rd ?_
      rw [ep]
      have k3 := k1.2.1
      have k4 := k1.2.2
      have k5 := c1.2.2.1
      unfold inR orR at *
      rw [e2, e3]
      exact ⟨by omega, e1, by omega⟩
    · cases c2
theorem WS.stT {k : Int} (h : WS σ π) (q : stT σ π x σ' π' k) : WS σ' π' := by
  obtain ⟨o, a, ⟨-, q⟩ | ⟨L, rfl, q⟩⟩ := q
  · exact h.same q
  · have k := stQ.fit h a
    have k1 := k.1
    exact h.put (by unfold onS at k1; omega) ⟨fun _ => k.2, fun _ => ⟨rfl, rfl⟩⟩ q
end WSS
theorem FV.step {B : Nat} {σ σ' : Sg} {ν : Nat} {ig ig' : sI} (h : FV B σ ν ig) (e : (ig' (B + 29) 4).toInt = (ig (B + 29) 4).toInt) : FV B σ' (ν + 1) ig' := by
  have k := h.1
  refine ⟨by omega, fun q => ?_⟩
  omega
theorem FV.of {B : Nat} {σ : Sg} {ν : Nat} {ig : sI} (h : ∀ p, p < 288 → FmR σ p (ig (B + 30) p).toInt) (e : (ig (B + 29) 4).toInt = (ν : Int)) : FV B σ ν ig := ⟨by omega, fun _ => h⟩
theorem FV.eq {B : Nat} {σ σ' : Sg} {ν : Nat} {ig : sI} (h : FV B σ ν ig) (e : σ' = σ) : FV B σ' ν ig := e ▸ h
