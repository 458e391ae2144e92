/-! THE MODEL AT ANY TIME: the grammar of its rows, what holds between its steps, what a step may write -/
/-- P, then signs S with a P behind each -/
def gCh (P : Nat → Nat → Prop) (S : Nat → Prop) : Nat → Nat → Nat → Prop
  | 0, i, j => P i j
  | n + 1, i, j => ∃ m, P i m ∧ S m ∧ gCh P S n (m + 1) j
def sMul (K A : Nat → Int) (m : Nat) : Prop := K m = 1 ∧ (A m = 42 ∨ A m = 47)
def sAdd (K A : Nat → Int) (m : Nat) : Prop := K m = 1 ∧ (A m = 43 ∨ A m = 45)
def gSm (K A : Nat → Int) (i : Nat) : Prop := K i = 2 ∧ (K (i + 1) = 1 ∧ A (i + 1) = 40) ∧ K (i + 2) = 3 ∧ (K (i + 3) = 1 ∧ A (i + 3) = 58) ∧ K (i + 4) = 3 ∧ K (i + 5) = 1 ∧ A (i + 5) = 41
def gPart (K A : Nat → Int) : Nat → Nat → Nat → Prop
  | 0, _, _ => False
  | d + 1, i, j => ((K i = 0 ∨ K i = 3) ∧ j = i + 1) ∨ (gSm K A i ∧ j = i + 6) ∨ (K i = 1 ∧ A i = 45 ∧ gPart K A d (i + 1) j) ∨
      (K i = 1 ∧ A i = 40 ∧ ∃ m n, gCh (fun x y => ∃ n, gCh (gPart K A d) (sMul K A) n x y) (sAdd K A) n (i + 1) m ∧ K m = 1 ∧ A m = 41 ∧ j = m + 1)
def gProd (K A : Nat → Int) (d i j : Nat) : Prop := ∃ n, gCh (gPart K A d) (sMul K A) n i j
def gE (K A : Nat → Int) (d i j : Nat) : Prop := ∃ n, gCh (gProd K A d) (sAdd K A) n i j
/-- what stands at a place of an item row -/
def gOk (K A : Nat → Int) (k j : Nat) : Prop := (K k = 2 → k + 5 < j ∧ K (k + 2) = 3 ∧ K (k + 4) = 3) ∧ (K k = 1 ∧ A k = 43 → k + 1 < j)
section GRAM
variable {K A K' A' : Nat → Int}
theorem gCh.lt {P : Nat → Nat → Prop} {S : Nat → Prop} (hP : ∀ i j, P i j → i < j) : ∀ n i j, gCh P S n i j → i < j
  | 0, i, j, h => hP i j h
  | n + 1, i, j, h => by
    obtain ⟨m, h1, -, h3⟩ := h
    have a1 := hP i m h1
    have a2 := gCh.lt hP n (m + 1) j h3
    omega
theorem gPart.lt : ∀ d i j, gPart K A d i j → i < j
  | 0, _, _, h => h.elim
  | d + 1, i, j, h => by
    rcases h with ⟨-, h⟩ | ⟨-, h⟩ | ⟨-, -, h⟩ | ⟨-, -, m, n, h, -, -, h2⟩
    · omega
    · omega
    · have := gPart.lt d (i + 1) j h
      omega
    · have := gCh.lt (fun x y h => h.elim fun n h => gCh.lt (fun i j => gPart.lt d i j) n x y h) n (i + 1) m h
      omega
theorem gProd.lt {d i j : Nat} (h : gProd K A d i j) : i < j := h.elim fun n h => gCh.lt (fun i j => gPart.lt d i j) n i j h
theorem gE.lt {d i j : Nat} (h : gE K A d i j) : i < j := h.elim fun n h => gCh.lt (fun i j => gProd.lt) n i j h
/-- the same on other rows that agree there -/
def gAg (K A K' A' : Nat → Int) (i j : Nat) : Prop := ∀ k, i ≤ k → k < j → K' k = K k ∧ (K k = 1 → A' k = A k)
theorem gCh.ag {P P' : Nat → Nat → Prop} {S S' : Nat → Prop} (hP : ∀ i j, P i j → i < j) (L R : Nat) (h1 : ∀ i j, L ≤ i → j ≤ R → P i j → P' i j) (h2 : ∀ m, L ≤ m → m < R → S m → S' m) : ∀ n i j, L ≤ i → j ≤ R → gCh P S n i j → gCh P' S' n i j
  | 0, i, j, a, b, h => h1 i j a b h
  | n + 1, i, j, a, b, h => by
    obtain ⟨m, g1, g2, g3⟩ := h
    have e1 := hP i m g1
    have e2 := gCh.lt hP n (m + 1) j g3
    exact ⟨m, h1 i m a (by omega) g1, h2 m (by omega) (by omega) g2, gCh.ag hP L R h1 h2 n (m + 1) j (by omega) b g3⟩
theorem sMul.ag {m L R : Nat} (h : gAg K A K' A' L R) (h1 : L ≤ m) (h2 : m < R) (hs : sMul K A m) : sMul K' A' m := by
  obtain ⟨e1, e2⟩ := h m h1 h2
  exact ⟨e1.trans hs.1, by rw [e2 hs.1]; exact hs.2⟩
theorem sAdd.ag {m L R : Nat} (h : gAg K A K' A' L R) (h1 : L ≤ m) (h2 : m < R) (hs : sAdd K A m) : sAdd K' A' m := by
  obtain ⟨e1, e2⟩ := h m h1 h2
  exact ⟨e1.trans hs.1, by rw [e2 hs.1]; exact hs.2⟩
theorem gPart.ag {L R : Nat} (h : gAg K A K' A' L R) : ∀ d i j, L ≤ i → j ≤ R → gPart K A d i j → gPart K' A' d i j
  | 0, _, _, _, _, g => g.elim
  | d + 1, i, j, a, b, g => by
    have hij := gPart.lt (d + 1) i j g
    rcases g with ⟨g1, g2⟩ | ⟨g1, g2⟩ | ⟨g1, g2, g3⟩ | ⟨g1, g2, m, n, g3, g4, g5, g6⟩
    · left
      rw [(h i a (by omega)).1]
      exact ⟨g1, g2⟩
    · right; left
      obtain ⟨q0, ⟨q1, q1'⟩, q2, ⟨q3, q3'⟩, q4, q5, q5'⟩ := g1
      obtain ⟨a0, -⟩ := h i (by omega) (by omega)
      obtain ⟨a1, b1⟩ := h (i + 1) (by omega) (by omega)
      obtain ⟨a2, -⟩ := h (i + 2) (by omega) (by omega)
      obtain ⟨a3, b3⟩ := h (i + 3) (by omega) (by omega)
      obtain ⟨a4, -⟩ := h (i + 4) (by omega) (by omega)
      obtain ⟨a5, b5⟩ := h (i + 5) (by omega) (by omega)
      exact ⟨⟨a0.trans q0, ⟨a1.trans q1, (b1 q1).trans q1'⟩, a2.trans q2, ⟨a3.trans q3, (b3 q3).trans q3'⟩, a4.trans q4, a5.trans q5, (b5 q5).trans q5'⟩, g2⟩
    · right; right; left
      obtain ⟨e1, e2⟩ := h i a (by omega)
      exact ⟨e1.trans g1, (e2 g1).trans g2, gPart.ag h d (i + 1) j (by omega) b g3⟩
    · right; right; right
      obtain ⟨e1, e2⟩ := h i a (by omega)
      have hm := gCh.lt (fun x y h => h.elim fun n h => gCh.lt (fun i j => gPart.lt d i j) n x y h) n (i + 1) m g3
      obtain ⟨e3, e4⟩ := h m (by omega) (by omega)
      exact ⟨e1.trans g1, (e2 g1).trans g2, m, n, gCh.ag (fun x y h => h.elim fun n h => gCh.lt (fun i j => gPart.lt d i j) n x y h) L R (fun x y hx hy q => q.elim fun n q => ⟨n, gCh.ag (fun i j => gPart.lt d i j) L R (fun i j h1 h2 q => gPart.ag h d i j h1 h2 q) (fun m h1 h2 q => sMul.ag h h1 h2 q) n x y hx hy q⟩) (fun m h1 h2 q => sAdd.ag h h1 h2 q) n (i + 1) m (by omega) (by omega) g3, e3.trans g4, (e4 g4).trans g5, g6⟩
theorem gProd.ag {L R d i j : Nat} (h : gAg K A K' A' L R) (a : L ≤ i) (b : j ≤ R) (g : gProd K A d i j) : gProd K' A' d i j := g.elim fun n g => ⟨n, gCh.ag (fun i j => gPart.lt d i j) L R (fun i j h1 h2 q => gPart.ag h d i j h1 h2 q) (fun m h1 h2 q => sMul.ag h h1 h2 q) n i j a b g⟩
theorem gE.ag {L R d i j : Nat} (h : gAg K A K' A' L R) (a : L ≤ i) (b : j ≤ R) (g : gE K A d i j) : gE K' A' d i j := g.elim fun n g => ⟨n, gCh.ag (fun i j => gProd.lt) L R (fun i j h1 h2 q => gProd.ag h h1 h2 q) (fun m h1 h2 q => sAdd.ag h h1 h2 q) n i j a b g⟩
/-- places of a well-formed stretch -/
theorem gOk.mono {k j j' : Nat} (h : gOk K A k j) (hj : j ≤ j') : gOk K A k j' := ⟨fun q => ⟨by have := (h.1 q).1; omega, (h.1 q).2⟩, fun q => by have := h.2 q; omega⟩
theorem gOk.no {k j : Nat} (h1 : K k ≠ 2) (h2 : ¬ (K k = 1 ∧ A k = 43)) : gOk K A k j := ⟨fun q => (h1 q).elim, fun q => (h2 q).elim⟩
theorem gCh.ok {P : Nat → Nat → Prop} {S : Nat → Prop} (hP : ∀ i j, P i j → i < j) (hk : ∀ i j, P i j → ∀ k, i ≤ k → k < j → gOk K A k j) (hS : ∀ m, S m → K m = 1) : ∀ n i j, gCh P S n i j → ∀ k, i ≤ k → k < j → gOk K A k j
  | 0, i, j, h, k, a, b => hk i j h k a b
  | n + 1, i, j, h, k, a, b => by
    obtain ⟨m, g1, g2, g3⟩ := h
    have e1 := hP i m g1
    have e2 := gCh.lt hP n (m + 1) j g3
    rcases Nat.lt_trichotomy k m with c | c | c
    · exact (hk i m g1 k a c).mono (by omega)
    · subst c
      exact ⟨fun q => (by rw [hS k g2] at q; cases q), fun _ => by omega⟩
    · exact gCh.ok hP hk hS n (m + 1) j g3 k (by omega) b
theorem gPart.ok : ∀ d i j, gPart K A d i j → ∀ k, i ≤ k → k < j → gOk K A k j
  | 0, _, _, h, _, _, _ => h.elim
  | d + 1, i, j, h, k, a, b => by
    rcases h with ⟨h1, h2⟩ | ⟨h1, h2⟩ | ⟨h1, h2, h3⟩ | ⟨h1, h2, m, n, h3, h4, h5, h6⟩
    · have e : k = i := by omega
      subst e
      rcases h1 with h1 | h1
      · exact gOk.no (by rw [h1]; decide) (by rw [h1]; rintro ⟨q, -⟩; cases q)
      · exact gOk.no (by rw [h1]; decide) (by rw [h1]; rintro ⟨q, -⟩; cases q)
    · obtain ⟨q0, ⟨q1, q1'⟩, q2, ⟨q3, q3'⟩, q4, q5, q5'⟩ := h1
      rcases (show k = i ∨ k = i + 1 ∨ k = i + 2 ∨ k = i + 3 ∨ k = i + 4 ∨ k = i + 5 by omega) with rfl | rfl | rfl | rfl | rfl | rfl
      · exact ⟨fun _ => ⟨by omega, q2, q4⟩, by rw [q0]; rintro ⟨q, -⟩; cases q⟩
      · exact gOk.no (by rw [q1]; decide) (by rw [q1']; rintro ⟨-, q⟩; cases q)
      · exact gOk.no (by rw [q2]; decide) (by rw [q2]; rintro ⟨q, -⟩; cases q)
      · exact gOk.no (by rw [q3]; decide) (by rw [q3']; rintro ⟨-, q⟩; cases q)
      · exact gOk.no (by rw [q4]; decide) (by rw [q4]; rintro ⟨q, -⟩; cases q)
      · exact gOk.no (by rw [q5]; decide) (by rw [q5']; rintro ⟨-, q⟩; cases q)
    · by_cases e : k = i
      · subst e
        exact gOk.no (by rw [h1]; decide) (by rw [h2]; rintro ⟨-, q⟩; cases q)
      · exact gPart.ok d (i + 1) j h3 k (by omega) b
    · by_cases e : k = i
      · subst e
        exact gOk.no (by rw [h1]; decide) (by rw [h2]; rintro ⟨-, q⟩; cases q)
      · by_cases e2 : k = m
        · subst e2
          exact gOk.no (by rw [h4]; decide) (by rw [h5]; rintro ⟨-, q⟩; cases q)
        · exact (gCh.ok (fun x y h => h.elim fun n h => gCh.lt (fun i j => gPart.lt d i j) n x y h) (fun x y q => q.elim fun n q => gCh.ok (fun i j => gPart.lt d i j) (fun i j => gPart.ok d i j) (fun m q => q.1) n x y q) (fun m q => q.1) n (i + 1) m h3 k (by omega) (by omega)).mono (by omega)
theorem gE.ok {d i j : Nat} (h : gE K A d i j) : ∀ k, i ≤ k → k < j → gOk K A k j := h.elim fun n q => gCh.ok (fun i j => gProd.lt) (fun x y q => q.elim fun n q => gCh.ok (fun i j => gPart.lt d i j) (fun i j => gPart.ok d i j) (fun m q => q.1) n x y q) (fun m q => q.1) n i j q
/-- one more behind it -/
theorem gCh.snoc {P : Nat → Nat → Prop} {S : Nat → Prop} : ∀ n i m j, gCh P S n i m → S m → P (m + 1) j → gCh P S (n + 1) i j
  | 0, i, m, j, h1, h2, h3 => ⟨m, h1, h2, h3⟩
  | n + 1, i, m, j, h1, h2, h3 => by
    obtain ⟨q, g1, g2, g3⟩ := h1
    exact ⟨q, g1, g2, gCh.snoc n (q + 1) m j g3 h2 h3⟩
end GRAM
/-! the model's slots -/
def mK (B : Nat) (ig : sI) : Nat → Int := fun k => (ig (B + 54) k).toInt
def mA (B : Nat) (ig : sI) : Nat → Int := fun k => (ig (B + 55) k).toInt
def mB (B : Nat) (ig : sI) : Nat → Int := fun k => (ig (B + 56) k).toInt
def rOk (B : Nat) (ig : sI) (k : Nat) : Prop := mK B ig k = 3 → (0 ≤ mA B ig k ∧ mA B ig k < 12) ∧ 0 ≤ mB B ig k ∧ mB B ig k < 24
def WFr (B : Nat) (ig : sI) (p : Nat) : Prop := ∃ n : Nat, (ig (B + 58) p).toInt = (n : Int) ∧ n ≤ 120 ∧ gE (mK B ig) (mA B ig) 8 (120 * p) (120 * p + n) ∧ ∀ k, 120 * p ≤ k → k < 120 * p + n → rOk B ig k
def cM (c j : Nat) : Option (Int × Int) :=
  if c = 49 ∧ j = 2 then some (0, 120) else if c = 49 ∧ j = 19 then some (0, 20) else if c = 49 ∧ j = 34 then some (0, 1) else if c = 49 ∧ j = 37 then some (0, 100000) else if c = 49 ∧ j = 41 then some (0, 288)
  else if c = 58 ∧ j < 309 then some (0, 120) else if c = 63 then some (0, 287) else none
def IM0 (B : Nat) (kd : sK) (ig : sI) (rg : sR) : Prop :=
  Sh B kd ∧ Rm B rg ∧ (∀ c j, 49 ≤ c → c < 79 → okR (cM c j) (ig (B + c) j)) ∧ ∀ p, p < 309 → p ≠ 288 → (ig (B + 59) p).toInt = 2 → WFr B ig p
/-- what may have been written: the rows at these places alone -/
def Ft (B : Nat) (T : List Nat) (ig : sI) (lg : sG) (ig' : sI) (lg' : sG) : Prop := (∀ a j, (∀ c ∈ T, a ≠ B + c) → ig' a j = ig a j ∧ lg' a j = lg a j) ∧ (79 ∉ T → ig' (B + 49) 37 = ig (B + 49) 37)
section MINV
variable {B : Nat} {T T1 T2 : List Nat} {kd : sK} {ig ig' ig2 : sI} {rg : sR} {lg lg' lg2 : sG}
theorem Ft.rf : Ft B T ig lg ig lg := ⟨fun _ _ _ => ⟨rfl, rfl⟩, fun _ => rfl⟩
theorem Ft.tr (h1 : Ft B T1 ig lg ig' lg') (h2 : Ft B T2 ig' lg' ig2 lg2) (e1 : ∀ c ∈ T1, c ∈ T) (e2 : ∀ c ∈ T2, c ∈ T) : Ft B T ig lg ig2 lg2 := ⟨fun a j h => by
  obtain ⟨a1, b1⟩ := h1.1 a j (fun c hc => h c (e1 c hc))
  obtain ⟨a2, b2⟩ := h2.1 a j (fun c hc => h c (e2 c hc))
  exact ⟨a2.trans a1, b2.trans b1⟩, fun h => (h2.2 (fun w => h (e2 79 w))).trans (h1.2 (fun w => h (e1 79 w)))⟩
theorem Ft.pi (h : Ft B T ig lg ig' lg') {c j : Nat} {v : Int32} (hc : c ∈ T) (h37 : c = 49 → j = 37 → 79 ∈ T := by first | exact fun e _ => absurd e (by decide) | exact fun _ e => absurd e (by decide) | exact fun _ _ => by decide) : Ft B T ig lg (up2 ig' (B + c) j v) lg' := ⟨fun a i ha => ⟨(up2_a (ha c hc)).trans (h.1 a i ha).1, (h.1 a i ha).2⟩, fun hn => by
  have e : up2 ig' (B + c) j v (B + 49) 37 = ig' (B + 49) 37 := by
    simp only [up2]
    rw [if_neg (fun w => hn (h37 (by omega) (by omega)))]
  exact e.trans (h.2 hn)⟩
theorem Ft.pl (h : Ft B T ig lg ig' lg') {c j : Nat} {v : Int64} (hc : c ∈ T) : Ft B T ig lg ig' (up2 lg' (B + c) j v) := ⟨fun a i ha => ⟨(h.1 a i ha).1, (up2_a (ha c hc)).trans (h.1 a i ha).2⟩, h.2⟩
theorem Ft.i (h : Ft B T ig lg ig' lg') (c j : Nat) (hc : ∀ q ∈ T, c ≠ q) : ig' (B + c) j = ig (B + c) j := (h.1 (B + c) j (fun q hq e => hc q hq (by omega))).1
theorem Ft.l (h : Ft B T ig lg ig' lg') (c j : Nat) (hc : ∀ q ∈ T, c ≠ q) : lg' (B + c) j = lg (B + c) j := (h.1 (B + c) j (fun q hq e => hc q hq (by omega))).2
theorem Ft.f37 (h : Ft B T ig lg ig' lg') (hT : 79 ∉ T := by decide) : ig' (B + 49) 37 = ig (B + 49) 37 := h.2 hT
theorem IM0.sh (h : IM0 B kd ig rg) : Sh B kd := h.1
theorem IM0.rm (h : IM0 B kd ig rg) : Rm B rg := h.2.1
theorem IM0.i (h : IM0 B kd ig rg) (c j : Nat) (h1 : 49 ≤ c) (h2 : c < 79) : okR (cM c j) (ig (B + c) j) := h.2.2.1 c j h1 h2
theorem IM0.its (h : IM0 B kd ig rg) {j : Nat} (hj : j < 309) : 0 ≤ (ig (B + 58) j).toInt ∧ (ig (B + 58) j).toInt ≤ 120 := by
  have h1 := h.i 58 j (by decide) (by decide)
  have e : cM 58 j = some (0, 120) := by
    simp [cM, hj]
  rw [e] at h1
  exact h1
theorem IM0.row (h : IM0 B kd ig rg) {p : Nat} (h1 : p < 309) (h2 : p ≠ 288) (h3 : (ig (B + 59) p).toInt = 2) : WFr B ig p := h.2.2.2 p h1 h2 h3
theorem WFr.same {p : Nat} (h : WFr B ig p) (e0 : ig' (B + 58) p = ig (B + 58) p) (e1 : ∀ k, 120 * p ≤ k → k < 120 * p + 120 → ig' (B + 54) k = ig (B + 54) k ∧ ig' (B + 55) k = ig (B + 55) k ∧ ig' (B + 56) k = ig (B + 56) k) : WFr B ig' p := by
  obtain ⟨n, h1, h2, h3, h4⟩ := h
  refine ⟨n, by rw [e0]; exact h1, h2, gE.ag (L := 120 * p) (R := 120 * p + n) (fun k q1 q2 => ?_) (Nat.le_refl _) (Nat.le_refl _) h3, fun k q1 q2 => ?_⟩
  · obtain ⟨a1, a2, -⟩ := e1 k q1 (by omega)
    exact ⟨by simp only [mK, a1], fun _ => by simp only [mA, a2]⟩
  · obtain ⟨a1, a2, a3⟩ := e1 k q1 (by omega)
    have := h4 k q1 q2
    simp only [rOk, mK, mA, mB, a1, a2, a3] at this ⊢
    exact this
/-- a write outside the rows of cells -/
theorem IM0.pi (h : IM0 B kd ig rg) {c j : Nat} {v : Int32} (hc : c ≠ 54 ∧ c ≠ 55 ∧ c ≠ 56 ∧ c ≠ 58 ∧ c ≠ 59) (hv : okR (cM c j) v) : IM0 B kd (up2 ig (B + c) j v) rg := by
  refine ⟨h.1, h.2.1, fun c' j' q1 q2 => ?_, fun p q1 q2 q3 => ?_⟩
  · by_cases e : c' = c ∧ j' = j
    · obtain ⟨rfl, rfl⟩ := e
      rw [up2_eq]; exact hv
    · have e2 : up2 ig (B + c) j v (B + c') j' = ig (B + c') j' := by
        simp only [up2]; rw [if_neg (by omega)]
      rw [e2]; exact h.2.2.1 c' j' q1 q2
  · rw [up2_a (by omega)] at q3
    exact (h.row q1 q2 q3).same (up2_a (by omega)) (fun k _ _ => ⟨up2_a (by omega), up2_a (by omega), up2_a (by omega)⟩)
/-- a write into the draft's items -/
theorem IM0.pdr (h : IM0 B kd ig rg) {c j : Nat} {v : Int32} (hc : c = 54 ∨ c = 55 ∨ c = 56) (h1 : 34560 ≤ j) (h2 : j < 34680) : IM0 B kd (up2 ig (B + c) j v) rg := by
  refine ⟨h.1, h.2.1, fun c' j' q1 q2 => ?_, fun p q1 q2 q3 => ?_⟩
  · by_cases e : c' = c ∧ j' = j
    · obtain ⟨rfl, rfl⟩ := e
      have e9 : cM c' j' = none := by rcases hc with rfl | rfl | rfl <;> rfl
      rw [e9]; exact trivial
    · have e2 : up2 ig (B + c) j v (B + c') j' = ig (B + c') j' := by
        simp only [up2]; rw [if_neg (by omega)]
      rw [e2]; exact h.2.2.1 c' j' q1 q2
  · rw [up2_a (by omega)] at q3
    have hu : ∀ (c9 k : Nat), 120 * p ≤ k → k < 120 * p + 120 → up2 ig (B + c) j v (B + c9) k = ig (B + c9) k := fun c9 k a b => by
      simp only [up2]; rw [if_neg (by omega)]
    exact (h.row q1 q2 q3).same (up2_a (by omega)) (fun k a b => ⟨hu 54 k a b, hu 55 k a b, hu 56 k a b⟩)
/-- the draft's kind and count -/
theorem IM0.pdk (h : IM0 B kd ig rg) {v : Int32} : IM0 B kd (up2 ig (B + 59) 288 v) rg := by
  refine ⟨h.1, h.2.1, fun c' j' q1 q2 => ?_, fun p q1 q2 q3 => ?_⟩
  · by_cases e : c' = 59 ∧ j' = 288
    · obtain ⟨rfl, rfl⟩ := e
      exact trivial
    · have e2 : up2 ig (B + 59) 288 v (B + c') j' = ig (B + c') j' := by
        simp only [up2]; rw [if_neg (by omega)]
      rw [e2]; exact h.2.2.1 c' j' q1 q2
  · rw [up2_j q2] at q3
    exact (h.row q1 q2 q3).same (up2_a (by omega)) (fun k _ _ => ⟨up2_a (by omega), up2_a (by omega), up2_a (by omega)⟩)
theorem IM0.pdi (h : IM0 B kd ig rg) {v : Int32} (hv : 0 ≤ v.toInt ∧ v.toInt ≤ 120) : IM0 B kd (up2 ig (B + 58) 288 v) rg := by
  refine ⟨h.1, h.2.1, fun c' j' q1 q2 => ?_, fun p q1 q2 q3 => ?_⟩
  · by_cases e : c' = 58 ∧ j' = 288
    · obtain ⟨rfl, rfl⟩ := e
      rw [up2_eq]; exact hv
    · have e2 : up2 ig (B + 58) 288 v (B + c') j' = ig (B + c') j' := by
        simp only [up2]; rw [if_neg (by omega)]
      rw [e2]; exact h.2.2.1 c' j' q1 q2
  · rw [up2_a (by omega)] at q3
    exact (h.row q1 q2 q3).same (up2_j q2) (fun k _ _ => ⟨up2_a (by omega), up2_a (by omega), up2_a (by omega)⟩)
/-- what a formula's row tells of its k-th item -/
theorem IM0.at (h : IM0 B kd ig rg) {p k : Nat} (h1 : p < 309) (h2 : p ≠ 288) (h3 : (ig (B + 59) p).toInt = 2) (hk : (k : Int) < (ig (B + 58) p).toInt) : gOk (mK B ig) (mA B ig) (120 * p + k) (120 * p + (ig (B + 58) p).toInt.toNat) ∧ rOk B ig (120 * p + k) := by
  obtain ⟨n, e1, e2, e3, e4⟩ := h.row h1 h2 h3
  rw [e1] at hk ⊢
  exact ⟨e3.ok (120 * p + k) (by omega) (by show 120 * p + k < 120 * p + ((n : Int)).toNat; omega), e4 (120 * p + k) (by omega) (by omega)⟩
end MINV
def TM (B : Nat) (τ : Tp) (φ υ : Option Int) (ig : sI) : Prop := ((ig (B + 49) 2).toInt = (τ.length : Int) ∧ τ.length ≤ 120 ∧ ∀ (j : Nat) (h : j < τ.length), ig (B + 50) j = τ[j]) ∧ (∀ f, φ = some f → (ig (B + 49) 8).toInt = f) ∧ ∀ f, υ = some f → (ig (B + 49) 19).toInt = f
def IM (τ : Tp) (φ υ : Option Int) (B : Nat) (kd : sK) (ig : sI) (rg : sR) : Prop := IM0 B kd ig rg ∧ TM B τ φ υ ig
def nTm (φ υ : Option Int) (c j : Nat) : Prop := (c ≠ 49 ∧ c ≠ 50) ∨ (c = 49 ∧ j ≠ 2 ∧ (j ≠ 8 ∨ φ = none) ∧ (j ≠ 19 ∨ υ = none))
theorem nTm.a {φ υ : Option Int} {c j : Nat} (h : c ≠ 49 ∧ c ≠ 50) : nTm φ υ c j := Or.inl h
theorem nTm.b {φ υ : Option Int} {c j : Nat} (h : c = 49 ∧ j ≠ 2 ∧ j ≠ 8 ∧ j ≠ 19) : nTm φ υ c j := Or.inr ⟨h.1, h.2.1, Or.inl h.2.2.1, Or.inl h.2.2.2⟩
theorem nTm.c {υ : Option Int} {c j : Nat} (h : c = 49 ∧ j ≠ 2 ∧ j ≠ 19) : nTm none υ c j := Or.inr ⟨h.1, h.2.1, Or.inr rfl, Or.inl h.2.2⟩
theorem nTm.d {φ : Option Int} {c j : Nat} (h : c = 49 ∧ j ≠ 2 ∧ j ≠ 8) : nTm φ none c j := Or.inr ⟨h.1, h.2.1, Or.inl h.2.2, Or.inr rfl⟩
def PM (τ : Tp) (φ υ : Option Int) (B : Nat) (T : List Nat) (kd : sK) (ig : sI) (rg : sR) (lg : sG) (res : Option Value → sI → sG → Prop) : aP := fun r kd' ig' rg' lg' _ => kd = kd' ∧ rg = rg' ∧ IM τ φ υ B kd ig' rg ∧ Ft B T ig lg ig' lg' ∧ res r ig' lg'
section MINT
variable {τ : Tp} {φ υ : Option Int} {B : Nat} {T T1 T2 : List Nat} {kd : sK} {ig ig' ig2 : sI} {rg : sR} {lg lg' lg2 : sG}
theorem TM.ag (h : TM B τ φ υ ig) (e : ∀ c i, c = 49 ∨ c = 50 → ig' (B + c) i = ig (B + c) i) : TM B τ φ υ ig' := ⟨⟨by rw [e _ _ (Or.inl rfl)]; exact h.1.1, h.1.2.1, fun j hj => by rw [e _ _ (Or.inr rfl)]; exact h.1.2.2 j hj⟩, fun f hf => by rw [e _ _ (Or.inl rfl)]; exact h.2.1 f hf, fun f hf => by rw [e _ _ (Or.inl rfl)]; exact h.2.2 f hf⟩
theorem TM.pi (h : TM B τ φ υ ig) {c j : Nat} {v : Int32} (hn : nTm φ υ c j) : TM B τ φ υ (up2 ig (B + c) j v) := by
  have e : ∀ b i, (b = B + 49 ∧ i = 2) ∨ b = B + 50 → up2 ig (B + c) j v b i = ig b i := fun b i hb => by
    simp only [up2]
    rw [if_neg (by rcases hn with h | h <;> omega)]
  refine ⟨⟨by rw [e _ _ (Or.inl ⟨rfl, rfl⟩)]; exact h.1.1, h.1.2.1, fun j hj => by rw [e _ _ (Or.inr rfl)]; exact h.1.2.2 j hj⟩, fun f hf => ?_, fun f hf => ?_⟩
  · have e8 : up2 ig (B + c) j v (B + 49) 8 = ig (B + 49) 8 := by
      simp only [up2]
      rw [if_neg (by
        rcases hn with q | ⟨q, -, q2 | q2, -⟩
        · omega
        · omega
        · rw [q2] at hf; cases hf)]
    rw [e8]
    exact h.2.1 f hf
  · have e8 : up2 ig (B + c) j v (B + 49) 19 = ig (B + 49) 19 := by
      simp only [up2]
      rw [if_neg (by
        rcases hn with q | ⟨q, -, -, q2 | q2⟩
        · omega
        · omega
        · rw [q2] at hf; cases hf)]
    rw [e8]
    exact h.2.2 f hf
theorem IM.sh (h : IM τ φ υ B kd ig rg) : Sh B kd := h.1.sh
theorem IM.rm (h : IM τ φ υ B kd ig rg) : Rm B rg := h.1.rm
theorem IM.i (h : IM τ φ υ B kd ig rg) (c j : Nat) (h1 : 49 ≤ c) (h2 : c < 79) : okR (cM c j) (ig (B + c) j) := h.1.i c j h1 h2
theorem IM.its (h : IM τ φ υ B kd ig rg) {j : Nat} (hj : j < 309) : 0 ≤ (ig (B + 58) j).toInt ∧ (ig (B + 58) j).toInt ≤ 120 := h.1.its hj
theorem IM.row (h : IM τ φ υ B kd ig rg) {p : Nat} (h1 : p < 309) (h2 : p ≠ 288) (h3 : (ig (B + 59) p).toInt = 2) : WFr B ig p := h.1.row h1 h2 h3
theorem IM.pi (h : IM τ φ υ B kd ig rg) {c j : Nat} {v : Int32} (hc : c ≠ 54 ∧ c ≠ 55 ∧ c ≠ 56 ∧ c ≠ 58 ∧ c ≠ 59) (hv : okR (cM c j) v) (hn : nTm φ υ c j := by first | exact nTm.a (by decide) | exact nTm.b (by decide) | exact nTm.c (by decide) | exact nTm.d (by decide)) : IM τ φ υ B kd (up2 ig (B + c) j v) rg := ⟨h.1.pi hc hv, h.2.pi hn⟩
theorem IM.pdr (h : IM τ φ υ B kd ig rg) {c j : Nat} {v : Int32} (hc : c = 54 ∨ c = 55 ∨ c = 56) (h1 : 34560 ≤ j) (h2 : j < 34680) : IM τ φ υ B kd (up2 ig (B + c) j v) rg := ⟨h.1.pdr hc h1 h2, h.2.pi (Or.inl (by omega))⟩
theorem IM.pdk (h : IM τ φ υ B kd ig rg) {v : Int32} : IM τ φ υ B kd (up2 ig (B + 59) 288 v) rg := ⟨h.1.pdk, h.2.pi (Or.inl (by decide))⟩
theorem IM.pdi (h : IM τ φ υ B kd ig rg) {v : Int32} (hv : 0 ≤ v.toInt ∧ v.toInt ≤ 120) : IM τ φ υ B kd (up2 ig (B + 58) 288 v) rg := ⟨h.1.pdi hv, h.2.pi (Or.inl (by decide))⟩
theorem IM.at (h : IM τ φ υ B kd ig rg) {p k : Nat} (h1 : p < 309) (h2 : p ≠ 288) (h3 : (ig (B + 59) p).toInt = 2) (hk : (k : Int) < (ig (B + 58) p).toInt) : gOk (mK B ig) (mA B ig) (120 * p + k) (120 * p + (ig (B + 58) p).toInt.toNat) ∧ rOk B ig (120 * p + k) := h.1.at h1 h2 h3 hk
theorem IM.len (h : IM τ φ υ B kd ig rg) : (ig (B + 49) 2).toInt = (τ.length : Int) ∧ τ.length ≤ 120 := ⟨h.2.1.1, h.2.1.2.1⟩
/-- the second and third ghost come and go -/
theorem IM.no (h : IM τ φ υ B kd ig rg) : IM τ none υ B kd ig rg := ⟨h.1, h.2.1, (fun f hf => by cases hf), h.2.2.2⟩
theorem IM.nu (h : IM τ φ υ B kd ig rg) : IM τ φ none B kd ig rg := ⟨h.1, h.2.1, h.2.2.1, fun f hf => by cases hf⟩
theorem IM.so (h : IM τ φ υ B kd ig rg) {f : Int} (hf : (ig (B + 49) 8).toInt = f) : IM τ (some f) υ B kd ig rg := ⟨h.1, h.2.1, (fun g hg => by cases hg; exact hf), h.2.2.2⟩
theorem IM.su (h : IM τ φ υ B kd ig rg) {f : Int} (hf : (ig (B + 49) 19).toInt = f) : IM τ φ (some f) B kd ig rg := ⟨h.1, h.2.1, h.2.2.1, fun g hg => by cases hg; exact hf⟩
theorem IM.f {f : Int} (h : IM τ (some f) υ B kd ig rg) : (ig (B + 49) 8).toInt = f := h.2.2.1 f rfl
theorem IM.u {f : Int} (h : IM τ φ (some f) B kd ig rg) : (ig (B + 49) 19).toInt = f := h.2.2.2 f rfl
theorem IM.clr (h : IM τ φ υ B kd ig rg) {v : Int32} (hv : v.toInt = 0) : IM [] φ υ B kd (up2 ig (B + 49) 2 v) rg :=
  ⟨h.1.pi (by decide) (show okR (some (0, 120)) _ from ⟨by show (0 : Int) ≤ _; omega, by show _ ≤ (120 : Int); omega⟩), ⟨by rw [up2_eq, hv]; rfl, by decide, fun j hj => absurd hj (Nat.not_lt_zero j)⟩, (fun f hf => by rw [up2_j (by decide)]; exact h.2.2.1 f hf), fun f hf => by rw [up2_j (by decide)]; exact h.2.2.2 f hf⟩
theorem IM.app (h : IM τ φ υ B kd ig rg) {b w : Int32} {k : Nat} (hlt : τ.length < 120) (hk : k = τ.length) (hw : w.toInt = (τ.length : Int) + 1) : IM (τ ++ [b]) φ υ B kd (up2 (up2 ig (B + 50) k b) (B + 49) 2 w) rg := by
  have h1 : IM0 B kd (up2 ig (B + 50) k b) rg := h.1.pi (by decide) (show okR none _ from trivial)
  refine ⟨h1.pi (by decide) (show okR (some (0, 120)) _ from ⟨by show (0 : Int) ≤ _; omega, by show _ ≤ (120 : Int); omega⟩), ⟨by rw [up2_eq, hw]; simp, by simp; omega, fun j hj => ?_⟩, (fun f hf => by rw [up2_j (by decide), up2_a (by omega)]; exact h.2.2.1 f hf), fun f hf => by rw [up2_j (by decide), up2_a (by omega)]; exact h.2.2.2 f hf⟩
  rw [up2_a (by omega)]
  by_cases e : j = k
  · subst e; subst hk
    rw [up2_eq]; simp
  · rw [up2_j e, h.2.1.2.2 j (by simp at hj; omega), List.getElem_append_left (by simp at hj; omega)]
end MINT
