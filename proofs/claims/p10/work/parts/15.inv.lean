/-! THE CLASS AT ANY TIME: what holds between its steps, and what a step leaves as it was -/
def cR (c j : Nat) : Option (Int × Int) :=
  if c = 1 ∧ j = 1 then some (0, 120) else if c = 1 ∧ j = 6 then some (0, 121) else if c = 1 ∧ j = 12 then some (0, 120) else if c = 9 ∧ j = 5 then some (0, 20) else if c = 15 ∧ j = 2 then some (0, 288) else if c = 15 ∧ j = 9 then some (0, 288) else if c = 16 then some (0, 287)
  else if c = 24 ∧ j = 6 then some (0, 32) else if c = 29 ∧ j = 3 then some (0, 288) else if c = 32 ∧ j = 6 then some (0, 32) else if c = 32 ∧ j = 7 then some (0, 1) else if c = 43 ∧ j = 6 then some (0, 100000) else if c = 45 ∧ j = 4 then some (0, 288) else none
def okR (o : Option (Int × Int)) (v : Int32) : Prop := match o with
  | none => True
  | some q => q.1 ≤ v.toInt ∧ v.toInt ≤ q.2
/-- a formula: three rows of one length -/
def isFn (B : Nat) (kd : sK) (rg : sR) (f n : Nat) : Prop := kd f = some (4, 0) ∧ n ≤ 120 ∧ ∀ j, j < 3 → ∃ a, rg f j = some a ∧ kd a = some (20, n) ∧ B + 80 ≤ a
def IC0 (B : Nat) (kd : sK) (ig : sI) (rg : sR) : Prop :=
  Sh B kd ∧ Rs B rg ∧ (∀ c j, c < 49 → okR (cR c j) (ig (B + c) j)) ∧ (∀ j, j < 288 → ∃ q n, rg (B + 11) j = some q ∧ kd q = some (0, n)) ∧ (∀ j, j < 20 → ∃ q n, rg (B + 14) j = some q ∧ kd q = some (0, n)) ∧ ∀ q n, kd q = some (0, n) → rg q 2 = none ∨ ∃ f nf, rg q 2 = some f ∧ isFn B kd rg f nf
/-- cells and formulas never change once made -/
def Frz (kd : sK) (a : Nat) : Prop := ∃ n, kd a = some (0, n) ∨ kd a = some (4, n)
def Nx0 (B : Nat) (x : Option Nat) (kd : sK) (ig : sI) (rg : sR) (lg : sG) (kd' : sK) (ig' : sI) (rg' : sR) (lg' : sG) : Prop :=
  (∀ a q, kd a = some q → kd' a = some q) ∧ (∀ a j, some a ≠ x → Frz kd a → rg' a j = rg a j) ∧ (∀ a j, B + 49 ≤ a → a < B + 80 → ig' a j = ig a j) ∧ (∀ a j, B + 49 ≤ a → a < B + 80 → rg' a j = rg a j) ∧ ∀ a j, B + 49 ≤ a → a < B + 80 → lg' a j = lg a j
section INV
variable {B : Nat} {x : Option Nat} {kd kd' kd2 : sK} {ig ig' ig2 : sI} {rg rg' rg2 : sR} {lg lg' lg2 : sG}
theorem isFn.k {f n : Nat} (h : isFn B kd rg f n) : kd f = some (4, 0) := h.1
theorem isFn.le {f n : Nat} (h : isFn B kd rg f n) : n ≤ 120 := h.2.1
theorem isFn.arr {f n : Nat} (h : isFn B kd rg f n) (j : Nat) (hj : j < 3) : ∃ a, rg f j = some a ∧ kd a = some (20, n) ∧ B + 80 ≤ a := h.2.2 j hj
theorem Nx0.rf : Nx0 B x kd ig rg lg kd ig rg lg := ⟨fun _ _ h => h, fun _ _ _ _ => rfl, fun _ _ _ _ => rfl, fun _ _ _ _ => rfl, fun _ _ _ _ => rfl⟩
theorem Frz.to (h : ∀ a q, kd a = some q → kd' a = some q) {a : Nat} (hz : Frz kd a) : Frz kd' a := hz.elim fun n h1 => ⟨n, h1.imp (h a _) (h a _)⟩
theorem Nx0.tr (h1 : Nx0 B x kd ig rg lg kd' ig' rg' lg') (h2 : Nx0 B none kd' ig' rg' lg' kd2 ig2 rg2 lg2) : Nx0 B x kd ig rg lg kd2 ig2 rg2 lg2 :=
  ⟨fun a q h => h2.1 a q (h1.1 a q h), fun a j e hz => (h2.2.1 a j (by simp) (hz.to h1.1)).trans (h1.2.1 a j e hz), fun a j e1 e2 => (h2.2.2.1 a j e1 e2).trans (h1.2.2.1 a j e1 e2), fun a j e1 e2 => (h2.2.2.2.1 a j e1 e2).trans (h1.2.2.2.1 a j e1 e2), fun a j e1 e2 => (h2.2.2.2.2 a j e1 e2).trans (h1.2.2.2.2 a j e1 e2)⟩
/-- behind a constructor's call: the object was not there at the start -/
theorem Nx0.trx {q : Nat} (h1 : Nx0 B x kd ig rg lg kd' ig' rg' lg') (h2 : Nx0 B (some q) kd' ig' rg' lg' kd2 ig2 rg2 lg2) (hq : kd q = none) : Nx0 B x kd ig rg lg kd2 ig2 rg2 lg2 :=
  ⟨fun a q h => h2.1 a q (h1.1 a q h), fun a j e hz => (h2.2.1 a j (by rintro h; cases h; obtain ⟨n, h | h⟩ := hz <;> (rw [hq] at h; cases h)) (hz.to h1.1)).trans (h1.2.1 a j e hz), fun a j e1 e2 => (h2.2.2.1 a j e1 e2).trans (h1.2.2.1 a j e1 e2), fun a j e1 e2 => (h2.2.2.2.1 a j e1 e2).trans (h1.2.2.2.1 a j e1 e2), fun a j e1 e2 => (h2.2.2.2.2 a j e1 e2).trans (h1.2.2.2.2 a j e1 e2)⟩
theorem Nx0.k (h : Nx0 B x kd ig rg lg kd' ig' rg' lg') {a : Nat} {q : Nat × Nat} (hk : kd a = some q) : kd' a = some q := h.1 a q hk
theorem Nx0.no (h : Nx0 B x kd ig rg lg kd' ig' rg' lg') {a : Nat} (hk : kd' a = none) : kd a = none := by
  cases h9 : kd a with
  | none => rfl
  | some q => rw [h.1 a q h9] at hk; cases hk
theorem Nx0.F (h : Nx0 B none kd ig rg lg kd' ig' rg' lg') {f n : Nat} (hf : isFn B kd rg f n) : isFn B kd' rg' f n :=
  ⟨h.1 _ _ hf.1, hf.2.1, fun j hj => (hf.2.2 j hj).elim fun a h9 => ⟨a, (h.2.1 f j (by simp) ⟨0, Or.inr hf.1⟩).trans h9.1, h.1 _ _ h9.2.1, h9.2.2⟩⟩
theorem Nx0.Fe {q : Nat} (h : Nx0 B (some q) kd ig rg lg kd' ig' rg' lg') {f n : Nat} (hf : isFn B kd rg f n) (hne : f ≠ q) : isFn B kd' rg' f n :=
  ⟨h.1 _ _ hf.1, hf.2.1, fun j hj => (hf.2.2 j hj).elim fun a h9 => ⟨a, (h.2.1 f j (by simpa using hne) ⟨0, Or.inr hf.1⟩).trans h9.1, h.1 _ _ h9.2.1, h9.2.2⟩⟩
theorem Nx0.pi (h : Nx0 B x kd ig rg lg kd' ig' rg' lg') {a j : Nat} {v : Int32} (ha : a < B + 49 ∨ B + 80 ≤ a) : Nx0 B x kd ig rg lg kd' (up2 ig' a j v) rg' lg' :=
  ⟨h.1, h.2.1, fun b i e1 e2 => (up2_a (by omega)).trans (h.2.2.1 b i e1 e2), h.2.2.2.1, h.2.2.2.2⟩
theorem Nx0.pl (h : Nx0 B x kd ig rg lg kd' ig' rg' lg') {a j : Nat} {v : Int64} (ha : a < B + 49 ∨ B + 80 ≤ a) : Nx0 B x kd ig rg lg kd' ig' rg' (up2 lg' a j v) :=
  ⟨h.1, h.2.1, h.2.2.1, h.2.2.2.1, fun b i e1 e2 => (up2_a (by omega)).trans (h.2.2.2.2 b i e1 e2)⟩
theorem Nx0.pr (h : Nx0 B x kd ig rg lg kd' ig' rg' lg') {a j : Nat} {v : Option Nat} (ha : a < B + 49 ∨ B + 80 ≤ a) (hz : some a = x ∨ ¬ Frz kd a) : Nx0 B x kd ig rg lg kd' ig' (up2 rg' a j v) lg' :=
  ⟨h.1, fun b i e hb => (up2_a (by rintro rfl; rcases hz with hz | hz; exact e hz; exact hz hb)).trans (h.2.1 b i e hb), h.2.2.1, fun b i e1 e2 => (up2_a (by omega)).trans (h.2.2.2.1 b i e1 e2), h.2.2.2.2⟩
theorem Nx0.new (h : Nx0 B x kd ig rg lg kd' ig' rg' lg') {a k n : Nat} (hn : kd' a = none) (ha : B + 80 ≤ a) : Nx0 B x kd ig rg lg (upK kd' a k n) (upR ig' a 0) (upR rg' a none) lg' := by
  have hn0 := h.no hn
  refine ⟨fun b q hb => ?_, fun b i e hb => ?_, fun b i e1 e2 => (upR_ne (by omega)).trans (h.2.2.1 b i e1 e2), fun b i e1 e2 => (upR_ne (by omega)).trans (h.2.2.2.1 b i e1 e2), h.2.2.2.2⟩
  · have h1 := h.1 b q hb
    rw [upK_ne (by rintro rfl; rw [hn] at h1; cases h1)]; exact h1
  · rw [upR_ne (by rintro rfl; obtain ⟨n, hb | hb⟩ := hb <;> (rw [hn0] at hb; cases hb))]; exact h.2.1 b i e hb
theorem Nx0.newa (h : Nx0 B x kd ig rg lg kd' ig' rg' lg') {a k n : Nat} (hn : kd' a = none) (ha : B + 80 ≤ a) : Nx0 B x kd ig rg lg (upK kd' a k n) (upR ig' a 0) rg' lg' :=
  ⟨fun b q hb => by have h1 := h.1 b q hb; rw [upK_ne (by rintro rfl; rw [hn] at h1; cases h1)]; exact h1, h.2.1, fun b i e1 e2 => (upR_ne (by omega)).trans (h.2.2.1 b i e1 e2), h.2.2.2.1, h.2.2.2.2⟩
theorem IC0.sh (h : IC0 B kd ig rg) : Sh B kd := h.1
theorem IC0.rs (h : IC0 B kd ig rg) : Rs B rg := h.2.1
theorem IC0.i (h : IC0 B kd ig rg) (c j : Nat) (hc : c < 49) : okR (cR c j) (ig (B + c) j) := h.2.2.1 c j hc
theorem IC0.cell (h : IC0 B kd ig rg) {j : Nat} (hj : j < 288) : ∃ q n, rg (B + 11) j = some q ∧ kd q = some (0, n) := h.2.2.2.1 j hj
theorem IC0.past (h : IC0 B kd ig rg) {j : Nat} (hj : j < 20) : ∃ q n, rg (B + 14) j = some q ∧ kd q = some (0, n) := h.2.2.2.2.1 j hj
theorem IC0.fo (h : IC0 B kd ig rg) {q n : Nat} (hq : kd q = some (0, n)) : rg q 2 = none ∨ ∃ f nf, rg q 2 = some f ∧ isFn B kd rg f nf := h.2.2.2.2.2 q n hq
theorem IC0.pi (h : IC0 B kd ig rg) {c j : Nat} {v : Int32} (hv : okR (cR c j) v) : IC0 B kd (up2 ig (B + c) j v) rg := by
  refine ⟨h.1, h.2.1, fun c' j' hc' => ?_, h.2.2.2⟩
  by_cases e : c' = c ∧ j' = j
  · obtain ⟨rfl, rfl⟩ := e
    rw [up2_eq]; exact hv
  · have e2 : up2 ig (B + c) j v (B + c') j' = ig (B + c') j' := by
      simp only [up2]; rw [if_neg (by omega)]
    rw [e2]; exact h.2.2.1 c' j' hc'
theorem IC0.pd (h : IC0 B kd ig rg) {a j : Nat} {v : Int32} (ha : B + 49 ≤ a) : IC0 B kd (up2 ig a j v) rg :=
  ⟨h.1, h.2.1, fun c' j' hc' => by rw [up2_a (by omega)]; exact h.2.2.1 c' j' hc', h.2.2.2⟩
theorem isFn.up {f n a j : Nat} {v : Option Nat} (h : isFn B kd rg f n) (ha : f ≠ a) : isFn B kd (up2 rg a j v) f n := ⟨h.1, h.2.1, fun i hi => (h.2.2 i hi).elim fun b h9 => ⟨b, (up2_a ha).trans h9.1, h9.2⟩⟩
theorem rfp_c : ∀ x ∈ rfp, x.1 ≠ 11 ∧ x.1 ≠ 14 ∧ x.1 < 49 := by decide
/-- a cell is put into one of the two rows of cells -/
theorem IC0.pc (h : IC0 B kd ig rg) {c j q n : Nat} (hc : c = 11 ∨ c = 14) (hq : kd q = some (0, n)) : IC0 B kd ig (up2 rg (B + c) j (some q)) := by
  have hne : ∀ f, kd f = some (4, 0) → f ≠ B + c := by
    rintro f hf rfl
    rcases hc with rfl | rfl
    · rw [h.1 11 _ rfl] at hf; cases hf
    · rw [h.1 14 _ rfl] at hf; cases hf
  have hnc : ∀ a n, kd a = some (0, n) → a ≠ B + c := by
    rintro f n hf rfl
    rcases hc with rfl | rfl
    · rw [h.1 11 _ rfl] at hf; cases hf
    · rw [h.1 14 _ rfl] at hf; cases hf
  refine ⟨h.1, fun x hx => ?_, h.2.2.1, fun j' hj' => ?_, fun j' hj' => ?_, fun a n ha => ?_⟩
  · have := rfp_c x hx
    rw [up2_a (by omega)]; exact h.2.1 x hx
  · by_cases e : B + 11 = B + c ∧ j' = j
    · rw [e.1, e.2, up2_eq]; exact ⟨q, n, rfl, hq⟩
    · have e2 : up2 rg (B + c) j (some q) (B + 11) j' = rg (B + 11) j' := by simp only [up2]; rw [if_neg e]
      rw [e2]; exact h.cell hj'
  · by_cases e : B + 14 = B + c ∧ j' = j
    · rw [e.1, e.2, up2_eq]; exact ⟨q, n, rfl, hq⟩
    · have e2 : up2 rg (B + c) j (some q) (B + 14) j' = rg (B + 14) j' := by simp only [up2]; rw [if_neg e]
      rw [e2]; exact h.past hj'
  · rw [up2_a (hnc a n ha)]
    rcases h.fo ha with e | ⟨f, nf, e, hf⟩
    · exact Or.inl e
    · exact Or.inr ⟨f, nf, e, hf.up (hne f hf.1)⟩
/-- a reference is put into a new cell's or formula's own slot -/
theorem IC0.pf (h : IC0 B kd ig rg) {a j : Nat} {v : Option Nat} (ha : B + 80 ≤ a) (h4 : ∀ q n, kd q = some (0, n) → rg q 2 ≠ some a) (h0 : ∀ n, kd a = some (0, n) → j = 2 → v = none ∨ ∃ f nf, v = some f ∧ f ≠ a ∧ isFn B kd rg f nf) : IC0 B kd ig (up2 rg a j v) := by
  refine ⟨h.1, fun x hx => ?_, h.2.2.1, fun j' hj' => ?_, fun j' hj' => ?_, fun q n hq => ?_⟩
  · have := rfp_c x hx
    rw [up2_a (by omega)]; exact h.2.1 x hx
  · rw [up2_a (by omega)]; exact h.cell hj'
  · rw [up2_a (by omega)]; exact h.past hj'
  · by_cases e : q = a ∧ 2 = j
    · obtain ⟨rfl, rfl⟩ := e
      rw [up2_eq]
      rcases h0 n hq rfl with e1 | ⟨f, nf, e1, e2, e3⟩
      · exact Or.inl e1
      · exact Or.inr ⟨f, nf, e1, e3.up e2⟩
    · have e2 : up2 rg a j v q 2 = rg q 2 := by simp only [up2]; rw [if_neg e]
      rw [e2]
      rcases h.fo hq with e1 | ⟨f, nf, e1, e3⟩
      · exact Or.inl e1
      · exact Or.inr ⟨f, nf, e1, e3.up (by rintro rfl; exact h4 q n hq e1)⟩
theorem isFn.new {f nf a k n : Nat} (h : isFn B kd rg f nf) (hn : kd a = none) : isFn B (upK kd a k n) (upR rg a none) f nf := by
  have hne : f ≠ a := by rintro rfl; rw [h.1] at hn; cases hn
  refine ⟨by rw [upK_ne hne]; exact h.1, h.2.1, fun j hj => ?_⟩
  obtain ⟨b, h1, h2, h3⟩ := h.2.2 j hj
  exact ⟨b, by rw [upR_ne hne]; exact h1, by rw [upK_ne (by rintro rfl; rw [h2] at hn; cases hn)]; exact h2, h3⟩
theorem isFn.newa {f nf a k n : Nat} (h : isFn B kd rg f nf) (hn : kd a = none) : isFn B (upK kd a k n) rg f nf := by
  have hne : f ≠ a := by rintro rfl; rw [h.1] at hn; cases hn
  refine ⟨by rw [upK_ne hne]; exact h.1, h.2.1, fun j hj => ?_⟩
  obtain ⟨b, h1, h2, h3⟩ := h.2.2 j hj
  exact ⟨b, h1, by rw [upK_ne (by rintro rfl; rw [h2] at hn; cases hn)]; exact h2, h3⟩
theorem IC0.new (h : IC0 B kd ig rg) {a k n : Nat} (hn : kd a = none) (ha : B + 80 ≤ a) : IC0 B (upK kd a k n) (upR ig a 0) (upR rg a none) := by
  have up : ∀ {b : Nat} {q : Nat × Nat}, kd b = some q → upK kd a k n b = some q := fun {b q} hb => by rw [upK_ne (by rintro rfl; rw [hb] at hn; cases hn)]; exact hb
  refine ⟨fun c q hc => up (h.1 c q hc), fun x hx => ?_, fun c j hc => ?_, fun j hj => ?_, fun j hj => ?_, fun q m hq => ?_⟩
  · have := rfp_c x hx
    rw [upR_ne (by omega)]; exact h.2.1 x hx
  · rw [upR_ne (by omega)]; exact h.2.2.1 c j hc
  · obtain ⟨q, m, h1, h2⟩ := h.cell hj
    exact ⟨q, m, by rw [upR_ne (by omega)]; exact h1, up h2⟩
  · obtain ⟨q, m, h1, h2⟩ := h.past hj
    exact ⟨q, m, by rw [upR_ne (by omega)]; exact h1, up h2⟩
  · by_cases e : q = a
    · subst e; exact Or.inl upR_eq
    · rw [upK_ne e] at hq
      rw [upR_ne e]
      rcases h.fo hq with e1 | ⟨f, nf, e1, e3⟩
      · exact Or.inl e1
      · exact Or.inr ⟨f, nf, e1, e3.new hn⟩
theorem IC0.newa (h : IC0 B kd ig rg) {a n : Nat} (hn : kd a = none) (ha : B + 80 ≤ a) : IC0 B (upK kd a 20 n) (upR ig a 0) rg := by
  have up : ∀ {b : Nat} {q : Nat × Nat}, kd b = some q → upK kd a 20 n b = some q := fun {b q} hb => by rw [upK_ne (by rintro rfl; rw [hb] at hn; cases hn)]; exact hb
  refine ⟨fun c q hc => up (h.1 c q hc), h.2.1, fun c j hc => ?_, fun j hj => ?_, fun j hj => ?_, fun q m hq => ?_⟩
  · rw [upR_ne (by omega)]; exact h.2.2.1 c j hc
  · obtain ⟨q, m, h1, h2⟩ := h.cell hj
    exact ⟨q, m, h1, up h2⟩
  · obtain ⟨q, m, h1, h2⟩ := h.past hj
    exact ⟨q, m, h1, up h2⟩
  · by_cases e : q = a
    · subst e; rw [upK_eq] at hq; cases hq
    · rw [upK_ne e] at hq
      rcases h.fo hq with e1 | ⟨f, nf, e1, e3⟩
      · exact Or.inl e1
      · exact Or.inr ⟨f, nf, e1, e3.newa hn⟩
theorem IC0.nr (h : IC0 B kd ig rg) {a : Nat} (ha : kd a = some (0, 0)) : ∀ q n, kd q = some (0, n) → rg q 2 ≠ some a := by
  intro q n hq e
  rcases h.fo hq with e1 | ⟨f, nf, e1, e3⟩
  · rw [e] at e1; cases e1
  · rw [e] at e1; cases e1; rw [e3.1] at ha; cases ha
theorem IC0.nrj (h : IC0 B kd ig rg) {a j : Nat} (hj : j < 3) (ha : rg a j = none) : ∀ q n, kd q = some (0, n) → rg q 2 ≠ some a := by
  intro q n hq e
  rcases h.fo hq with e1 | ⟨f, nf, e1, e3⟩
  · rw [e] at e1; cases e1
  · rw [e] at e1; cases e1
    obtain ⟨b, h1, -⟩ := e3.arr j hj
    rw [ha] at h1; cases h1
theorem IC0.oi (h : IC0 B kd ig rg) (e : ∀ b i, b < B + 49 → ig' b i = ig b i) : IC0 B kd ig' rg := ⟨h.1, h.2.1, fun c j hc => by rw [e _ _ (by omega)]; exact h.2.2.1 c j hc, h.2.2.2⟩
theorem Nx0.oi {igx : sI} (h : Nx0 B x kd ig rg lg kd' ig' rg' lg') (e : ∀ b i, B + 49 ≤ b → b < B + 80 → igx b i = ig' b i) : Nx0 B x kd ig rg lg kd' igx rg' lg' := ⟨h.1, h.2.1, fun b i e1 e2 => (e b i e1 e2).trans (h.2.2.1 b i e1 e2), h.2.2.2.1, h.2.2.2.2⟩
theorem Nx0.ol {lgx : sG} (h : Nx0 B x kd ig rg lg kd' ig' rg' lg') (e : ∀ b i, B + 49 ≤ b → b < B + 80 → lgx b i = lg' b i) : Nx0 B x kd ig rg lg kd' ig' rg' lgx := ⟨h.1, h.2.1, h.2.2.1, h.2.2.2.1, fun b i e1 e2 => (e b i e1 e2).trans (h.2.2.2.2 b i e1 e2)⟩
theorem Nx0.kdn (h : Nx0 B x kd ig rg lg kd' ig' rg' lg') {a k n : Nat} (hn : kd' a = none) : Nx0 B x kd ig rg lg (upK kd' a k n) ig' rg' lg' :=
  ⟨fun b q hb => by have h1 := h.1 b q hb; rw [upK_ne (by rintro rfl; rw [hn] at h1; cases h1)]; exact h1, h.2⟩
/-- the rows that listPlaces() writes -/
def isSp (c : Nat) : Prop := c = 23 ∨ c = 27 ∨ c = 35 ∨ c = 40
theorem isSp.k {B c : Nat} {kd : sK} (h : isSp c) (hs : Sh B kd) : kd (B + c) = some (20, 288) := by
  rcases h with rfl | rfl | rfl | rfl <;> exact hs _ _ rfl
theorem isSp.ok {c j : Nat} {v : Int32} (h : isSp c) : okR (cR c j) v := by
  rcases h with rfl | rfl | rfl | rfl <;> exact trivial
theorem isSp.lt {c : Nat} (h : isSp c) : c < 49 := by rcases h with rfl | rfl | rfl | rfl <;> decide
end INV
/-! the tape as it is: a list of signs -/
abbrev Tp : Type := List Int32
def TC (B : Nat) (τ : Tp) (ig : sI) : Prop := (ig (B + 1) 1).toInt = (τ.length : Int) ∧ τ.length ≤ 120 ∧ ∀ (j : Nat) (h : j < τ.length), ig (B + 2) j = τ[j]
def IC (τ : Tp) (B : Nat) (kd : sK) (ig : sI) (rg : sR) : Prop := IC0 B kd ig rg ∧ TC B τ ig
def nTp (c j : Nat) : Prop := (c ≠ 1 ∧ c ≠ 2) ∨ (c = 1 ∧ j ≠ 1)
theorem isSp.nTp {c j : Nat} (h : isSp c) : nTp c j := Or.inl (by rcases h with rfl | rfl | rfl | rfl <;> decide)
/-! what a step leaves as it was, by groups: 1 the sheet, 2 families, 3 links, 4 values, 5 units, 6 totals, 7 findings, 8 changes, 9 what is kept; 0 is nobody's -/
def gA (c : Nat) : Nat := if c = 13 then 1 else if c = 30 then 2 else if c = 16 then 3 else if c = 20 then 3 else if c = 22 then 3 else if c = 25 then 4 else if c = 26 then 4 else if c = 33 then 5 else if c = 34 then 5 else if c = 38 then 6 else if c = 44 then 7 else if c = 46 then 8 else if c = 47 then 8 else if c = 48 then 8 else if c = 12 then 9 else 0
def gO (c j : Nat) : Nat := if c = 9 then (if j = 5 then 1 else if j = 6 then 1 else 0) else if c = 29 then (if j = 4 then 2 else 0) else if c = 15 then (if j = 2 then 3 else if j = 9 then 3 else if j = 11 then 3 else 0) else if c = 24 then (if j = 8 then 4 else 0) else if c = 32 then (if j = 8 then 5 else 0) else if c = 37 then (if j = 7 then 6 else 0) else if c = 43 then (if j = 6 then 7 else 0) else if c = 45 then (if j = 4 then 8 else 0) else gA c
def gL (c : Nat) : Nat := if c = 17 then 3 else if c = 18 then 3 else if c = 41 then 6 else if c = 42 then 6 else 0
def Ns (b : Nat) (B : Nat) (x : Option Nat) (kd : sK) (ig : sI) (rg : sR) (lg : sG) (ig' : sI) (rg' : sR) (lg' : sG) : Prop :=
  (∀ a j, (a = B + 10 ∨ (B + 80 ≤ a ∧ kd a ≠ none ∧ some a ≠ x)) → ig' a j = ig a j) ∧
  (b.testBit 1 = true → ∀ j, rg' (B + 11) j = rg (B + 11) j ∧ rg' (B + 14) j = rg (B + 14) j) ∧
  (∀ c j, b.testBit (gO c j) = true → ig' (B + c) j = ig (B + c) j) ∧
  ∀ c j, b.testBit (gL c) = true → lg' (B + c) j = lg (B + c) j
def Nx (b : Nat) (B : Nat) (x : Option Nat) (kd : sK) (ig : sI) (rg : sR) (lg : sG) (kd' : sK) (ig' : sI) (rg' : sR) (lg' : sG) : Prop := Nx0 B x kd ig rg lg kd' ig' rg' lg' ∧ Ns b B x kd ig rg lg ig' rg' lg'
/-- a place that may be written -/
def nWr (b : Nat) (x : Option Nat) (kd : sK) (B a j : Nat) : Prop := a ≠ B + 10 ∧ (B + 80 ≤ a → kd a = none ∨ some a = x) ∧ ∀ c, a = B + c → b.testBit (gO c j) = false
def nWl (b B a : Nat) : Prop := ∀ c, a = B + c → b.testBit (gL c) = false
/-- b2 leaves all that b leaves -/
def mLe (b b2 : Nat) : Bool := Nat.beq (b &&& b2) b
theorem mLe.t {b b2 k : Nat} (h : mLe b b2 = true) (hb : b.testBit k = true) : b2.testBit k = true := by
  have e : b &&& b2 = b := Nat.eq_of_beq_eq_true h
  rw [← e, Nat.testBit_and, Bool.and_eq_true] at hb
  exact hb.2
/-- groups are the class's own cells' -/
theorem gO_big {b c j : Nat} (h : 49 ≤ c) (h0 : b.testBit 0 = false) : b.testBit (gO c j) = false := by
  have : gO c j = 0 := by
    unfold gO gA
    simp only [show ¬ c = 9 by omega, show ¬ c = 29 by omega, show ¬ c = 15 by omega, show ¬ c = 24 by omega, show ¬ c = 32 by omega, show ¬ c = 37 by omega, show ¬ c = 43 by omega, show ¬ c = 45 by omega, show ¬ c = 13 by omega, show ¬ c = 30 by omega, show ¬ c = 16 by omega, show ¬ c = 20 by omega, show ¬ c = 22 by omega, show ¬ c = 25 by omega, show ¬ c = 26 by omega, show ¬ c = 33 by omega, show ¬ c = 34 by omega, show ¬ c = 38 by omega, show ¬ c = 44 by omega, show ¬ c = 46 by omega, show ¬ c = 47 by omega, show ¬ c = 48 by omega, show ¬ c = 12 by omega, if_false]
  rw [this]; exact h0
section NXS
variable {b b2 : Nat} {B : Nat} {x : Option Nat} {kd kd' kd2 : sK} {ig ig' ig2 : sI} {rg rg' rg2 : sR} {lg lg' lg2 : sG}
theorem nWr.lit {c j : Nat} (h : c ≠ 10 ∧ c < 80) (h1 : b.testBit (gO c j) = false) : nWr b x kd B (B + c) j := ⟨by omega, fun q => by omega, fun c' e => by
  obtain rfl : c' = c := by omega
  exact h1⟩
def isOb (c : Nat) : Bool := c == 9 || c == 29 || c == 15 || c == 24 || c == 32 || c == 37 || c == 43 || c == 45
theorem gO_arr {c j : Nat} (h : isOb c = false) : gO c j = gA c := by
  unfold isOb at h
  simp only [Bool.or_eq_false_iff, beq_eq_false_iff_ne] at h
  unfold gO
  simp only [h.2, h.1.2, h.1.1.2, h.1.1.1.2, h.1.1.1.1.2, h.1.1.1.1.1.2, h.1.1.1.1.1.1.2, h.1.1.1.1.1.1.1, if_false]
/-- any element of a row -/
theorem nWr.arr {c j : Nat} (h : c ≠ 10 ∧ c < 80) (ho : isOb c = false) (h1 : b.testBit (gA c) = false) : nWr b x kd B (B + c) j := nWr.lit h (by rw [gO_arr ho]; exact h1)
theorem nWr.own {a j : Nat} (ha : B + 80 ≤ a) (h0 : b.testBit 0 = false := by rfl) : nWr b (some a) kd B a j := ⟨by omega, fun _ => Or.inr rfl, fun c e => gO_big (by omega) h0⟩
theorem nWr.new {a j : Nat} (ha : B + 80 ≤ a) (hk : kd a = none) (h0 : b.testBit 0 = false := by rfl) : nWr b x kd B a j := ⟨by omega, fun _ => Or.inl hk, fun c e => gO_big (by omega) h0⟩
theorem isSp.nWr {c j : Nat} (h : isSp c) (h0 : b.testBit 0 = false := by rfl) : nWr b x kd B (B + c) j := by
  rcases h with rfl | rfl | rfl | rfl <;> exact nWr.lit (by decide) h0
theorem nWl.lit {c : Nat} (h1 : b.testBit (gL c) = false) : nWl b B (B + c) := fun c' e => by
  obtain rfl : c' = c := by omega
  exact h1
def isLr (c : Nat) : Prop := c = 18 ∨ c = 19 ∨ c = 41 ∨ c = 42
theorem isLr.nWl {c : Nat} (h : isLr c) (h0 : b.testBit 0 = false := by rfl) (h3 : b.testBit 3 = false := by rfl) (h6 : b.testBit 6 = false := by rfl) : nWl b B (B + c) := by
  rcases h with rfl | rfl | rfl | rfl
  · exact nWl.lit h3
  · exact nWl.lit h0
  · exact nWl.lit h6
  · exact nWl.lit h6
theorem Nx.rf : Nx b B x kd ig rg lg kd ig rg lg := ⟨Nx0.rf, fun _ _ _ => rfl, fun _ _ => ⟨rfl, rfl⟩, fun _ _ _ => rfl, fun _ _ _ => rfl⟩
theorem Nx.wk (h : Nx b B x kd ig rg lg kd' ig' rg' lg') (hb : mLe b2 b = true := by rfl) : Nx b2 B x kd ig rg lg kd' ig' rg' lg' := ⟨h.1, h.2.1, fun q => h.2.2.1 (mLe.t hb q), fun c j q => h.2.2.2.1 c j (mLe.t hb q), fun c j q => h.2.2.2.2 c j (mLe.t hb q)⟩
theorem Nx.tr (h1 : Nx b B x kd ig rg lg kd' ig' rg' lg') (h2 : Nx b2 B none kd' ig' rg' lg' kd2 ig2 rg2 lg2) (hb : mLe b b2 = true := by rfl) : Nx b B x kd ig rg lg kd2 ig2 rg2 lg2 :=
  ⟨h1.1.tr h2.1, fun a j ha => (h2.2.1 a j (ha.imp id (fun q => ⟨q.1, fun e => q.2.1 (h1.1.no e), by simp⟩))).trans (h1.2.1 a j ha), fun q j =>
    ⟨(h2.2.2.1 (mLe.t hb q) j).1.trans (h1.2.2.1 q j).1, (h2.2.2.1 (mLe.t hb q) j).2.trans (h1.2.2.1 q j).2⟩, fun c j q => (h2.2.2.2.1 c j (mLe.t hb q)).trans (h1.2.2.2.1 c j q), fun c j q => (h2.2.2.2.2 c j (mLe.t hb q)).trans (h1.2.2.2.2 c j q)⟩
theorem Nx.trx {q : Nat} (h1 : Nx b B x kd ig rg lg kd' ig' rg' lg') (h2 : Nx b2 B (some q) kd' ig' rg' lg' kd2 ig2 rg2 lg2) (hq : kd q = none) (hb : mLe b b2 = true := by rfl) : Nx b B x kd ig rg lg kd2 ig2 rg2 lg2 :=
  ⟨h1.1.trx h2.1 hq, fun a j ha => (h2.2.1 a j (ha.imp id (fun w => ⟨w.1, fun e => w.2.1 (h1.1.no e), fun e => by cases e; exact w.2.1 hq⟩))).trans (h1.2.1 a j ha), fun q j =>
    ⟨(h2.2.2.1 (mLe.t hb q) j).1.trans (h1.2.2.1 q j).1, (h2.2.2.1 (mLe.t hb q) j).2.trans (h1.2.2.1 q j).2⟩, fun c j q => (h2.2.2.2.1 c j (mLe.t hb q)).trans (h1.2.2.2.1 c j q), fun c j q => (h2.2.2.2.2 c j (mLe.t hb q)).trans (h1.2.2.2.2 c j q)⟩
theorem Nx.k (h : Nx b B x kd ig rg lg kd' ig' rg' lg') {a : Nat} {q : Nat × Nat} (hk : kd a = some q) : kd' a = some q := h.1.k hk
theorem Nx.no (h : Nx b B x kd ig rg lg kd' ig' rg' lg') {a : Nat} (hk : kd' a = none) : kd a = none := h.1.no hk
theorem Nx.F (h : Nx b B none kd ig rg lg kd' ig' rg' lg') {f n : Nat} (hf : isFn B kd rg f n) : isFn B kd' rg' f n := h.1.F hf
theorem Nx.Fe {q : Nat} (h : Nx b B (some q) kd ig rg lg kd' ig' rg' lg') {f n : Nat} (hf : isFn B kd rg f n) (hne : f ≠ q) : isFn B kd' rg' f n := h.1.Fe hf hne
theorem Nx.i (h : Nx b B x kd ig rg lg kd' ig' rg' lg') (c j : Nat) (hb : b.testBit (gO c j) = true) : ig' (B + c) j = ig (B + c) j := h.2.2.2.1 c j hb
theorem Nx.ia (h : Nx b B x kd ig rg lg kd' ig' rg' lg') (c j : Nat) (ho : isOb c = false) (hb : b.testBit (gA c) = true) : ig' (B + c) j = ig (B + c) j := h.2.2.2.1 c j (by rw [gO_arr ho]; exact hb)
theorem Nx.l (h : Nx b B x kd ig rg lg kd' ig' rg' lg') (c j : Nat) (hb : b.testBit (gL c) = true) : lg' (B + c) j = lg (B + c) j := h.2.2.2.2 c j hb
theorem Nx.pi (h : Nx b B x kd ig rg lg kd' ig' rg' lg') {a j : Nat} {v : Int32} (ha : a < B + 49 ∨ B + 80 ≤ a) (hs : nWr b x kd B a j := by first | exact nWr.arr (by decide) (by decide) (by decide) | exact nWr.lit (by decide) (by decide) | exact nWr.own (by omega) | exact isSp.nWr (by assumption)) : Nx b B x kd ig rg lg kd' (up2 ig' a j v) rg' lg' := by
  refine ⟨h.1.pi ha, fun a2 j2 h2 => ?_, h.2.2.1, fun c j2 hc => ?_, h.2.2.2.2⟩
  · by_cases e : a2 = a
    · subst e
      rcases h2 with h2 | ⟨h2, h3, h4⟩
      · exact (hs.1 h2).elim
      · rcases hs.2.1 h2 with h5 | h5
        · exact (h3 h5).elim
        · exact (h4 h5).elim
    · rw [up2_a e]; exact h.2.1 a2 j2 h2
  · have : up2 ig' a j v (B + c) j2 = ig' (B + c) j2 := by
      simp only [up2]
      rw [if_neg (fun e => by
        obtain ⟨e1, e2⟩ := e
        subst e2
        have := hs.2.2 c e1.symm
        rw [hc] at this; cases this)]
    rw [this]; exact h.2.2.2.1 c j2 hc
theorem Nx.pl (h : Nx b B x kd ig rg lg kd' ig' rg' lg') {a j : Nat} {v : Int64} (ha : a < B + 49 ∨ B + 80 ≤ a) (hs : nWl b B a := by first | exact nWl.lit (by decide) | assumption | exact isLr.nWl (by assumption)) : Nx b B x kd ig rg lg kd' ig' rg' (up2 lg' a j v) := ⟨h.1.pl ha, h.2.1, h.2.2.1, h.2.2.2.1, fun c j2 hc => by
  rw [up2_a (fun e => by
    have := hs c e.symm
    rw [hc] at this; cases this)]
  exact h.2.2.2.2 c j2 hc⟩
theorem Nx.pr (h : Nx b B x kd ig rg lg kd' ig' rg' lg') {a j : Nat} {v : Option Nat} (ha : a < B + 49 ∨ B + 80 ≤ a) (hz : some a = x ∨ ¬ Frz kd a) (hs : b.testBit 1 = false ∨ (a ≠ B + 11 ∧ a ≠ B + 14) := by first | exact Or.inl (by rfl) | exact Or.inr (by omega)) : Nx b B x kd ig rg lg kd' ig' (up2 rg' a j v) lg' :=
  ⟨h.1.pr ha hz, h.2.1, fun hb i => by
    rcases hs with e | ⟨e1, e2⟩
    · rw [hb] at e; cases e
    · rw [up2_a (Ne.symm e1), up2_a (Ne.symm e2)]; exact h.2.2.1 hb i, h.2.2.2⟩
theorem Ns.new {a : Nat} (h : Ns b B x kd ig rg lg ig' rg' lg') (hn : kd a = none) (ha : B + 80 ≤ a) {igx : sI} (e : ∀ b i, b ≠ a → igx b i = ig' b i) (h0 : b.testBit 0 = false) : Ns b B x kd ig rg lg igx rg' lg' :=
  ⟨fun a2 j h2 => by
    rw [e a2 j (by
      rintro rfl
      rcases h2 with h2 | ⟨h2, h3, h4⟩
      · omega
      · exact h3 hn)]
    exact h.1 a2 j h2, h.2.1, fun c j hc => by
      rw [e _ _ (fun q => by rw [gO_big (by omega) h0] at hc; cases hc)]; exact h.2.2.1 c j hc, h.2.2.2⟩
theorem Nx.newa (h : Nx b B x kd ig rg lg kd' ig' rg' lg') {a k n : Nat} (hn : kd' a = none) (ha : B + 80 ≤ a) (h0 : b.testBit 0 = false := by rfl) : Nx b B x kd ig rg lg (upK kd' a k n) (upR ig' a 0) rg' lg' := ⟨h.1.newa hn ha, h.2.new (h.1.no hn) ha (fun b i hb => upR_ne hb) h0⟩
theorem Nx.new (h : Nx b B x kd ig rg lg kd' ig' rg' lg') {a k n : Nat} (hn : kd' a = none) (ha : B + 80 ≤ a) (h0 : b.testBit 0 = false := by rfl) : Nx b B x kd ig rg lg (upK kd' a k n) (upR ig' a 0) (upR rg' a none) lg' := by
  have h2 := h.2.new (h.1.no hn) ha (igx := upR ig' a 0) (fun b i hb => upR_ne hb) h0
  exact ⟨h.1.new hn ha, h2.1, fun hb j => by rw [upR_ne (by omega), upR_ne (by omega)]; exact h2.2.1 hb j, h2.2.2⟩
/-- a row that was not there at the start is written -/
theorem Nx.oa {igx : sI} {a : Nat} (h : Nx b B x kd ig rg lg kd' ig' rg' lg') (hn : kd a = none) (ha : B + 80 ≤ a) (e : ∀ b i, b ≠ a → igx b i = ig' b i) (h0 : b.testBit 0 = false := by rfl) : Nx b B x kd ig rg lg kd' igx rg' lg' := ⟨h.1.oi (fun b i h1 h2 => e b i (by omega)), h.2.new hn ha e h0⟩
theorem Nx.ol {lgx : sG} (h : Nx b B x kd ig rg lg kd' ig' rg' lg') (e : ∀ b i, B + 49 ≤ b → b < B + 80 → lgx b i = lg' b i) (e2 : ∀ c j, b.testBit (gL c) = true → lgx (B + c) j = lg' (B + c) j) : Nx b B x kd ig rg lg kd' ig' rg' lgx := ⟨h.1.ol e, h.2.1, h.2.2.1, h.2.2.2.1, fun c j hc => (e2 c j hc).trans (h.2.2.2.2 c j hc)⟩
end NXS
def PI (b : Nat) (τ : Tp) (B : Nat) (x : Option Nat) (kd : sK) (ig : sI) (rg : sR) (lg : sG) (res : Option Value → sK → sI → sR → sG → Prop) : aP := fun r kd' ig' rg' lg' _ => IC τ B kd' ig' rg' ∧ Nx b B x kd ig rg lg kd' ig' rg' lg' ∧ res r kd' ig' rg' lg'
section INT
variable {τ : Tp} {B : Nat} {x : Option Nat} {kd kd' kd2 : sK} {ig ig' ig2 : sI} {rg rg' rg2 : sR} {lg lg' lg2 : sG}
theorem TC.ag (h : TC B τ ig) (e : ∀ b i, b < B + 49 → ig' b i = ig b i) : TC B τ ig' := ⟨by rw [e _ _ (by omega)]; exact h.1, h.2.1, fun j hj => by rw [e _ _ (by omega)]; exact h.2.2 j hj⟩
theorem TC.pi (h : TC B τ ig) {c j : Nat} {v : Int32} (hn : nTp c j) : TC B τ (up2 ig (B + c) j v) := by
  have e : ∀ b i, (b = B + 1 ∧ i = 1) ∨ b = B + 2 → up2 ig (B + c) j v b i = ig b i := fun b i hb => by
    unfold nTp at hn
    simp only [up2]; rw [if_neg (by omega)]
  exact ⟨by rw [e _ _ (Or.inl ⟨rfl, rfl⟩)]; exact h.1, h.2.1, fun j hj => by rw [e _ _ (Or.inr rfl)]; exact h.2.2 j hj⟩
theorem IC.sh (h : IC τ B kd ig rg) : Sh B kd := h.1.sh
theorem IC.rs (h : IC τ B kd ig rg) : Rs B rg := h.1.rs
theorem IC.i (h : IC τ B kd ig rg) (c j : Nat) (hc : c < 49) : okR (cR c j) (ig (B + c) j) := h.1.i c j hc
theorem IC.cell (h : IC τ B kd ig rg) {j : Nat} (hj : j < 288) : ∃ q n, rg (B + 11) j = some q ∧ kd q = some (0, n) := h.1.cell hj
theorem IC.past (h : IC τ B kd ig rg) {j : Nat} (hj : j < 20) : ∃ q n, rg (B + 14) j = some q ∧ kd q = some (0, n) := h.1.past hj
theorem IC.fo (h : IC τ B kd ig rg) {q n : Nat} (hq : kd q = some (0, n)) : rg q 2 = none ∨ ∃ f nf, rg q 2 = some f ∧ isFn B kd rg f nf := h.1.fo hq
theorem IC.pi (h : IC τ B kd ig rg) {c j : Nat} {v : Int32} (hv : okR (cR c j) v) (hn : nTp c j := by first | exact Or.inl (by decide) | exact Or.inr (by decide) | exact isSp.nTp (by assumption)) : IC τ B kd (up2 ig (B + c) j v) rg := ⟨h.1.pi hv, h.2.pi hn⟩
theorem IC.pd (h : IC τ B kd ig rg) {a j : Nat} {v : Int32} (ha : B + 49 ≤ a) : IC τ B kd (up2 ig a j v) rg := ⟨h.1.pd ha, h.2.ag (fun b i hb => up2_a (by omega))⟩
theorem IC.pc (h : IC τ B kd ig rg) {c j q n : Nat} (hc : c = 11 ∨ c = 14) (hq : kd q = some (0, n)) : IC τ B kd ig (up2 rg (B + c) j (some q)) := ⟨h.1.pc hc hq, h.2⟩
theorem IC.pf (h : IC τ B kd ig rg) {a j : Nat} {v : Option Nat} (ha : B + 80 ≤ a) (h4 : ∀ q n, kd q = some (0, n) → rg q 2 ≠ some a) (h0 : ∀ n, kd a = some (0, n) → j = 2 → v = none ∨ ∃ f nf, v = some f ∧ f ≠ a ∧ isFn B kd rg f nf) : IC τ B kd ig (up2 rg a j v) := ⟨h.1.pf ha h4 h0, h.2⟩
theorem IC.new (h : IC τ B kd ig rg) {a k n : Nat} (hn : kd a = none) (ha : B + 80 ≤ a) : IC τ B (upK kd a k n) (upR ig a 0) (upR rg a none) := ⟨h.1.new hn ha, h.2.ag (fun b i hb => upR_ne (by omega))⟩
theorem IC.newa (h : IC τ B kd ig rg) {a n : Nat} (hn : kd a = none) (ha : B + 80 ≤ a) : IC τ B (upK kd a 20 n) (upR ig a 0) rg := ⟨h.1.newa hn ha, h.2.ag (fun b i hb => upR_ne (by omega))⟩
theorem IC.nr (h : IC τ B kd ig rg) {a : Nat} (ha : kd a = some (0, 0)) : ∀ q n, kd q = some (0, n) → rg q 2 ≠ some a := h.1.nr ha
theorem IC.nrj (h : IC τ B kd ig rg) {a j : Nat} (hj : j < 3) (ha : rg a j = none) : ∀ q n, kd q = some (0, n) → rg q 2 ≠ some a := h.1.nrj hj ha
theorem IC.oi (h : IC τ B kd ig rg) (e : ∀ b i, b < B + 49 → ig' b i = ig b i) : IC τ B kd ig' rg := ⟨h.1.oi e, h.2.ag e⟩
theorem IC.len (h : IC τ B kd ig rg) : (ig (B + 1) 1).toInt = (τ.length : Int) ∧ τ.length ≤ 120 := ⟨h.2.1, h.2.2.1⟩
/-- the tape is taken -/
theorem IC.clr (h : IC τ B kd ig rg) {v : Int32} (hv : v.toInt = 0) : IC [] B kd (up2 ig (B + 1) 1 v) rg :=
  ⟨h.1.pi (show okR (some (0, 120)) _ from ⟨by show (0 : Int) ≤ _; omega, by show _ ≤ (120 : Int); omega⟩), by rw [up2_eq, hv]; rfl, by decide, fun j hj => absurd hj (Nat.not_lt_zero j)⟩
/-- one sign more -/
theorem IC.app (h : IC τ B kd ig rg) {b w : Int32} {k : Nat} (hlt : τ.length < 120) (hk : k = τ.length) (hw : w.toInt = (τ.length : Int) + 1) : IC (τ ++ [b]) B kd (up2 (up2 ig (B + 2) k b) (B + 1) 1 w) rg := by
  have h1 : IC0 B kd (up2 ig (B + 2) k b) rg := h.1.pi (show okR none _ from trivial)
  refine ⟨h1.pi (show okR (some (0, 120)) _ from ⟨by show (0 : Int) ≤ _; omega, by show _ ≤ (120 : Int); omega⟩), by rw [up2_eq, hw]; simp, by simp; omega, fun j hj => ?_⟩
  rw [up2_a (by omega)]
  by_cases e : j = k
  · subst e; subst hk
    rw [up2_eq]; simp
  · rw [up2_j e, h.2.2.2 j (by simp at hj; omega), List.getElem_append_left (by simp at hj; omega)]
end INT
/-! what feed() does to the tape -/
def sh8 (i : Nat) : Int32 := Int32.ofInt (56 - 8 * (i : Int))
theorem sh8_toInt {i : Nat} (h : i ≤ 8) : (sh8 i).toInt = 56 - 8 * (i : Int) := by
  have h2 : ∀ i : Nat, i ≤ 8 → (sh8 i).toInt = 56 - 8 * (i : Int) := by decide
  exact h2 i h
def by8 (x : Int64) (i : Nat) : Int32 := (x.toUInt64 >>> ((sh8 i).toInt64.toUInt64 &&& Int64.toUInt64 63)).toInt64.toInt32 &&& 255
def byM (x : Int64) (i : Nat) : Int32 := (x >>> ((sh8 i).toInt64 &&& 63)).toInt32 &&& 255
def fd (τ : Tp) (f : Nat → Int32) : Nat → Tp
  | 0 => τ
  | n + 1 => if 32 ≤ (f n).toInt ∧ (f n).toInt ≤ 126 ∧ (fd τ f n).length < 120 then fd τ f n ++ [f n] else fd τ f n
theorem fd_no {τ : Tp} {f : Nat → Int32} {n : Nat} (h : ¬ (32 ≤ (f n).toInt ∧ (f n).toInt ≤ 126 ∧ (fd τ f n).length < 120)) : fd τ f (n + 1) = fd τ f n := by rw [fd, if_neg h]
theorem fd_yes {τ : Tp} {f : Nat → Int32} {n : Nat} (h : 32 ≤ (f n).toInt ∧ (f n).toInt ≤ 126 ∧ (fd τ f n).length < 120) : fd τ f (n + 1) = fd τ f n ++ [f n] := by rw [fd, if_pos h]
theorem fd_eq {τ : Tp} {f g : Nat → Int32} : ∀ n : Nat, (∀ i, i < n → f i = g i) → fd τ f n = fd τ g n := by
  intro n
  induction n with
  | zero => intro _; rfl
  | succ k ih => intro h; simp only [fd, ih (fun i hi => h i (by omega)), h k (by omega)]
theorem i2c_id {x : Int32} (h : 0 ≤ x.toInt ∧ x.toInt ≤ 126) : (x.toUInt32 % 65536).toInt32 = x := by
  apply Int32.toBitVec_inj.mp
  have e1 : (x.toUInt32 % 65536).toInt32.toBitVec = x.toBitVec % 65536#32 := rfl
  have h1 : x.toBitVec.toInt = x.toInt := rfl
  have h2 : x.toBitVec.toNat ≤ 126 := by
    have h3 := BitVec.toInt_eq_toNat_cond x.toBitVec
    have h4 := x.toBitVec.isLt
    rw [h1] at h3
    split at h3 <;> omega
  rw [e1]
  apply BitVec.eq_of_toNat_eq
  rw [BitVec.toNat_umod]
  exact Nat.mod_eq_of_lt (by show _ < 65536; omega)
/-! the tape's bytes and the model's are the same -/
theorem by_255 : ∀ q : Fin 32, ¬ q.val < 8 → (255#32)[q.val] = false := by decide
theorem by_bits (v : BitVec 64) (n : Nat) (h : n + 8 ≤ 64) : (v >>> n).signExtend 32 &&& 255#32 = (v.sshiftRight n).signExtend 32 &&& 255#32 := by
  rw [BitVec.signExtend_eq_setWidth_of_le _ (by decide), BitVec.signExtend_eq_setWidth_of_le _ (by decide)]
  ext j hj
  simp only [BitVec.getElem_and, BitVec.getElem_setWidth, BitVec.getLsbD_ushiftRight, BitVec.getLsbD_sshiftRight]
  by_cases h8 : j < 8
  · have h1 : n + j < 64 := by omega
    have h2 : ¬ 64 ≤ j := by omega
    simp [h1, h2]
  · have h3 : (255#32)[j] = false := by_255 ⟨j, hj⟩ h8
    simp [h3]
theorem by_one (x : Int64) (i n : Nat) (h : n + 8 ≤ 64) (e1 : (sh8 i).toInt64.toUInt64 &&& Int64.toUInt64 63 = UInt64.ofNat n) (e2 : (sh8 i).toInt64 &&& 63 = Int64.ofNat n) (f1 : (UInt64.ofNat n % 64).toBitVec.toNat = n) (f2 : ((Int64.ofNat n).toBitVec.smod 64).toNat = n) : by8 x i = byM x i := by
  apply Int32.toBitVec_inj.mp
  unfold by8 byM
  rw [e1, e2]
  have a1 : ((x.toUInt64 >>> UInt64.ofNat n).toInt64.toInt32 &&& 255).toBitVec = (x.toBitVec >>> (UInt64.ofNat n % 64).toBitVec.toNat).signExtend 32 &&& 255#32 := by
    have b1 : (x.toUInt64 >>> UInt64.ofNat n).toBitVec = x.toBitVec >>> (UInt64.ofNat n % 64).toBitVec.toNat := by first | rfl | exact UInt64.toBitVec_shiftRight _ _ | (simp; done)
    have b2 : ∀ u : UInt64, (u.toInt64.toInt32 &&& 255).toBitVec = u.toBitVec.signExtend 32 &&& 255#32 := fun u => by first | rfl | (simp; done)
    rw [b2, b1]
  have a2 : ((x >>> Int64.ofNat n).toInt32 &&& 255).toBitVec = (x.toBitVec.sshiftRight ((Int64.ofNat n).toBitVec.smod 64).toNat).signExtend 32 &&& 255#32 := rfl
  rw [a1, a2, f1, f2]
  exact by_bits x.toBitVec n h
theorem by8_eq (x : Int64) (i : Nat) (h : i < 8) : by8 x i = byM x i := by
  have hi : i = 0 ∨ i = 1 ∨ i = 2 ∨ i = 3 ∨ i = 4 ∨ i = 5 ∨ i = 6 ∨ i = 7 := by omega
  rcases hi with rfl | rfl | rfl | rfl | rfl | rfl | rfl | rfl
  · exact by_one x 0 56 (by decide) (by decide +kernel) (by decide +kernel) (by decide +kernel) (by decide +kernel)
  · exact by_one x 1 48 (by decide) (by decide +kernel) (by decide +kernel) (by decide +kernel) (by decide +kernel)
  · exact by_one x 2 40 (by decide) (by decide +kernel) (by decide +kernel) (by decide +kernel) (by decide +kernel)
  · exact by_one x 3 32 (by decide) (by decide +kernel) (by decide +kernel) (by decide +kernel) (by decide +kernel)
  · exact by_one x 4 24 (by decide) (by decide +kernel) (by decide +kernel) (by decide +kernel) (by decide +kernel)
  · exact by_one x 5 16 (by decide) (by decide +kernel) (by decide +kernel) (by decide +kernel) (by decide +kernel)
  · exact by_one x 6 8 (by decide) (by decide +kernel) (by decide +kernel) (by decide +kernel) (by decide +kernel)
  · exact by_one x 7 0 (by decide) (by decide +kernel) (by decide +kernel) (by decide +kernel) (by decide +kernel)
theorem fd_by (τ : Tp) (x : Int64) : fd τ (by8 x) 8 = fd τ (byM x) 8 := fd_eq 8 (fun i hi => by8_eq x i hi)
theorem los {x : Int32} {a o d : Int} {r : List (Int × Int)} (h : ¬ x.toInt = a) : Op.lookupswitch.offset ((a, o) :: r) d x.toInt = Op.lookupswitch.offset r d x.toInt := by
  rw [Op.lookupswitch.offset_cons, if_neg]
  intro q
  exact h q.symm
/-! numbers, where nothing may be known -/
theorem i32_bd (x : Int32) : -2147483648 ≤ x.toInt ∧ x.toInt ≤ 2147483647 := by
  have h1 := Int32.le_toInt x
  have h2 := Int32.toInt_lt x
  omega
section NUMC
variable {p : Program} {l : Launch} {e : Env} {R : Room} {s : State} {m : MethodId} {args : Array Value} {below : List Frame} {meth : Method} {c : Code} {H : Heap} {locs : List Loc} {cells slots : Nat} {Q : State → Prop}
variable {cc : ByteArray} {pc : Nat} {ls : Array Slot} {rest : List Value}
theorem tc_add {x y : Int32} (k : ∀ z : Int32, ((-2147483648 ≤ x.toInt + y.toInt ∧ x.toInt + y.toInt ≤ 2147483647) → z.toInt = x.toInt + y.toInt) → W p l e R s m args below meth c H locs cells slots Q (F0 m pc ls (.int z :: rest))) : W p l e R s m args below meth c H locs cells slots Q (F0 m pc ls (.int (x + y) :: rest)) := k _ (fun h => i32_add h.1 h.2)
theorem tc_sub {x y : Int32} (k : ∀ z : Int32, ((-2147483648 ≤ x.toInt - y.toInt ∧ x.toInt - y.toInt ≤ 2147483647) → z.toInt = x.toInt - y.toInt) → W p l e R s m args below meth c H locs cells slots Q (F0 m pc ls (.int z :: rest))) : W p l e R s m args below meth c H locs cells slots Q (F0 m pc ls (.int (x - y) :: rest)) := k _ (fun h => i32_sub h.1 h.2)
theorem tc_mulL {x y : Int32} (n : Int) (hn : x.toInt = n) (k : ∀ z : Int32, ((-2147483648 ≤ n * y.toInt ∧ n * y.toInt ≤ 2147483647) → z.toInt = n * y.toInt) → W p l e R s m args below meth c H locs cells slots Q (F0 m pc ls (.int z :: rest))) : W p l e R s m args below meth c H locs cells slots Q (F0 m pc ls (.int (x * y) :: rest)) := k _ (fun h => by rw [← hn]; exact i32_mul (by rw [hn]; exact h.1) (by rw [hn]; exact h.2))
theorem tc_mulR {x y : Int32} (n : Int) (hn : y.toInt = n) (k : ∀ z : Int32, ((-2147483648 ≤ x.toInt * n ∧ x.toInt * n ≤ 2147483647) → z.toInt = x.toInt * n) → W p l e R s m args below meth c H locs cells slots Q (F0 m pc ls (.int z :: rest))) : W p l e R s m args below meth c H locs cells slots Q (F0 m pc ls (.int (x * y) :: rest)) := k _ (fun h => by rw [← hn]; exact i32_mul (by rw [hn]; exact h.1) (by rw [hn]; exact h.2))
theorem i32_tq {x y : Int32} (h1 : 0 < y.toInt) : (x / y).toInt = x.toInt.tdiv y.toInt := by
  have b0 := i32_bd x
  rw [Int32.toInt_div]
  have h2 := Int.natAbs_tdiv_le_natAbs x.toInt y.toInt
  have h3 : x.toInt.tdiv y.toInt ≤ 2147483647 := by
    rcases Int.le_total 0 x.toInt with h | h
    · omega
    · have e1 : (-x.toInt).tdiv y.toInt = -(x.toInt.tdiv y.toInt) := Int.neg_tdiv ..
      have e2 : 0 ≤ (-x.toInt).tdiv y.toInt := Int.tdiv_nonneg (by omega) (Int.le_of_lt h1)
      omega
  exact Int.bmod_eq_of_le (by omega) (by omega)
theorem i32_tdiv {x y : Int32} (h1 : 0 < y.toInt) : -2147483648 ≤ y.toInt * (x / y).toInt ∧ y.toInt * (x / y).toInt ≤ 2147483647 := by
  have b0 := i32_bd x
  have hd := i32_tq (x := x) h1
  have hm := Int.tmod_add_mul_tdiv x.toInt y.toInt
  rw [hd]
  rcases Int.le_total 0 x.toInt with h | h
  · have e1 := Int.tmod_nonneg y.toInt h
    have e2 := Int.mul_nonneg (Int.le_of_lt h1) (Int.tdiv_nonneg h (Int.le_of_lt h1))
    omega
  · have e0 : x.toInt.tmod y.toInt = -((-x.toInt).tmod y.toInt) := by rw [Int.neg_tmod]; omega
    have e1 : 0 ≤ (-x.toInt).tmod y.toInt := Int.tmod_nonneg _ (by omega)
    have e3 := Int.tmod_add_mul_tdiv (-x.toInt) y.toInt
    have e4 := Int.mul_nonneg (Int.le_of_lt h1) (Int.tdiv_nonneg (a := -x.toInt) (by omega) (Int.le_of_lt h1))
    omega
theorem tc_div {x y : Int32} (n : Int) (hn : y.toInt = n) (h1 : 0 < n) (k : ∀ z : Int32, (-2147483648 ≤ n * z.toInt ∧ n * z.toInt ≤ 2147483647) → (0 ≤ x.toInt → z.toInt = x.toInt / n) → W p l e R s m args below meth c H locs cells slots Q (F0 m pc ls (.int z :: rest))) : W p l e R s m args below meth c H locs cells slots Q (F0 m pc ls (.int (x / y) :: rest)) := k _ (by subst hn; exact i32_tdiv h1) (fun h0 => by rw [← hn]; exact i32_div h0 (by omega))
theorem i32_tmod {x y : Int32} (h1 : 0 < y.toInt) : -y.toInt < (x - x / y * y).toInt ∧ (x - x / y * y).toInt < y.toInt := by
  have e : x - x / y * y = x % y := by
    apply Int32.toInt_inj.mp
    have b0 := i32_bd x
    have b1 := i32_bd y
    have hd := i32_tq (x := x) h1
    rw [Int32.toInt_mod]
    have hm := Int.tmod_add_mul_tdiv x.toInt y.toInt
    have hml : (x.toInt.tdiv y.toInt) * y.toInt = x.toInt - x.toInt.tmod y.toInt := by rw [Int.mul_comm]; omega
    have hlt := Int.tmod_lt_of_pos x.toInt h1
    have hgt := Int.lt_tmod_of_pos x.toInt h1
    have hsg : (0 ≤ x.toInt → 0 ≤ x.toInt.tmod y.toInt ∧ x.toInt.tmod y.toInt ≤ x.toInt) ∧ (x.toInt ≤ 0 → x.toInt.tmod y.toInt ≤ 0 ∧ x.toInt ≤ x.toInt.tmod y.toInt) := by
      refine ⟨fun h => ⟨Int.tmod_nonneg _ h, ?_⟩, fun h => ?_⟩
      · have := Int.mul_nonneg (Int.tdiv_nonneg h (Int.le_of_lt h1)) (Int.le_of_lt h1); omega
      · have e1 : x.toInt.tmod y.toInt = -((-x.toInt).tmod y.toInt) := by rw [Int.neg_tmod]; omega
        have e2 : 0 ≤ (-x.toInt).tmod y.toInt := Int.tmod_nonneg _ (by omega)
        have e3 := Int.tmod_add_mul_tdiv (-x.toInt) y.toInt
        have e4 := Int.mul_nonneg (Int.le_of_lt h1) (Int.tdiv_nonneg (a := -x.toInt) (by omega) (Int.le_of_lt h1))
        omega
    have hq : (x / y * y).toInt = x.toInt - x.toInt.tmod y.toInt := by
      rw [i32_mul (by rw [hd, hml]; omega) (by rw [hd, hml]; omega), hd, hml]
    rw [i32_sub (by rw [hq]; omega) (by rw [hq]; omega), hq]
    omega
  rw [e, Int32.toInt_mod]
  exact ⟨Int.lt_tmod_of_pos x.toInt h1, Int.tmod_lt_of_pos x.toInt h1⟩
theorem tc_rem {x y : Int32} (n : Int) (hn : y.toInt = n) (h1 : 0 < n) (k : ∀ z : Int32, (-n < z.toInt ∧ z.toInt < n) → (0 ≤ x.toInt → z.toInt = x.toInt % n) → W p l e R s m args below meth c H locs cells slots Q (F0 m pc ls (.int z :: rest))) : W p l e R s m args below meth c H locs cells slots Q (F0 m pc ls (.int (x - x / y * y) :: rest)) := k _ (by subst hn; exact i32_tmod h1) (fun h0 => by rw [← hn]; exact i32_rem h0 (by omega))
theorem tc_inc (hx : p.tables.exec = Jvm.exec) (hb : c.code = cc) {i nL k : Nat} {n : Int} {x : Int32} {lv : List (Nat × Value)} (hdg : decode cc pc = .ok (.iinc i n, 3)) (h : lv_has ls nL lv) (hk : lv[k]? = some (i, .int x)) (hn : i < nL) (hi : (Int32.ofInt n).toInt = n)
    (kk : ∀ z : Int32, ((-2147483648 ≤ x.toInt + n ∧ x.toInt + n ≤ 2147483647) → z.toInt = x.toInt + n) → ∀ ls' : Array Slot, lv_has ls' nL ((i, Value.int z) :: lv.filter (fun q => !(q.1 == i) && !(q.1 + 1 == i && q.2.category == 2))) → W p l e R s m args below meth c H locs cells slots Q (F0 m (pc + 3) ls' rest)) : W p l e R s m args below meth c H locs cells slots Q (F0 m pc ls rest) :=
  lv_iinc hx hb hdg h hk rfl hn rfl (kk _ (fun hr => by rw [i32_add (by rw [hi]; exact hr.1) (by rw [hi]; exact hr.2), hi]))
end NUMC
