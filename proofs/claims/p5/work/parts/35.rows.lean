/-! a row is the same at another place -/
section GSH
variable {K A K' A' : Nat → Int} {a b N : Nat}
def gSh (K A K' A' : Nat → Int) (a b N : Nat) : Prop := ∀ k, k < N → K' (b + k) = K (a + k) ∧ (K (a + k) = 1 → A' (b + k) = A (a + k))
theorem gCh.sh {P P' : Nat → Nat → Prop} {S S' : Nat → Prop} (hP : ∀ i j, P i j → i < j) (h1 : ∀ i j, j ≤ N → P (a + i) (a + j) → P' (b + i) (b + j)) (h2 : ∀ m, m < N → S (a + m) → S' (b + m)) : ∀ n i j, j ≤ N → gCh P S n (a + i) (a + j) → gCh P' S' n (b + i) (b + j)
  | 0, i, j, hj, h => h1 i j hj h
  | n + 1, i, j, hj, h => by
    obtain ⟨m, g1, g2, g3⟩ := h
    have e1 := hP _ _ g1
    have e2 := gCh.lt hP n _ _ g3
    obtain ⟨m', rfl⟩ : ∃ m', m = a + m' := ⟨m - a, by omega⟩
    exact ⟨b + m', h1 i m' (by omega) g1, h2 m' (by omega) g2, gCh.sh hP h1 h2 n (m' + 1) j hj g3⟩
theorem sMul.sh (h : gSh K A K' A' a b N) {m : Nat} (hm : m < N) (hs : sMul K A (a + m)) : sMul K' A' (b + m) := by
  obtain ⟨e1, e2⟩ := h m hm
  exact ⟨e1.trans hs.1, by rw [e2 hs.1]; exact hs.2⟩
theorem sAdd.sh (h : gSh K A K' A' a b N) {m : Nat} (hm : m < N) (hs : sAdd K A (a + m)) : sAdd K' A' (b + m) := by
  obtain ⟨e1, e2⟩ := h m hm
  exact ⟨e1.trans hs.1, by rw [e2 hs.1]; exact hs.2⟩
theorem gPart.sh (h : gSh K A K' A' a b N) : ∀ d i j, j ≤ N → gPart K A d (a + i) (a + j) → gPart K' A' d (b + i) (b + j)
  | 0, _, _, _, g => g.elim
  | d + 1, i, j, hj, g => by
    have hij := gPart.lt (d + 1) _ _ g
    rcases g with ⟨g1, g2⟩ | ⟨g1, g2⟩ | ⟨g1, g2, g3⟩ | ⟨g1, g2, m, n, g3, g4, g5, g6⟩
    · left
      rw [(h i (by omega)).1]
      exact ⟨g1, by omega⟩
    · right; left
      obtain ⟨q0, ⟨q1, q1'⟩, q2, ⟨q3, q3'⟩, q4, q5, q5'⟩ := g1
      obtain ⟨a0, -⟩ := h i (by omega)
      obtain ⟨a1, b1⟩ := h (i + 1) (by omega)
      obtain ⟨a2, -⟩ := h (i + 2) (by omega)
      obtain ⟨a3, b3⟩ := h (i + 3) (by omega)
      obtain ⟨a4, -⟩ := h (i + 4) (by omega)
      obtain ⟨a5, b5⟩ := h (i + 5) (by omega)
      exact ⟨⟨a0.trans q0, ⟨a1.trans q1, (b1 q1).trans q1'⟩, a2.trans q2, ⟨a3.trans q3, (b3 q3).trans q3'⟩, a4.trans q4, a5.trans q5, (b5 q5).trans q5'⟩, by omega⟩
    · right; right; left
      obtain ⟨e1, e2⟩ := h i (by omega)
      exact ⟨e1.trans g1, (e2 g1).trans g2, gPart.sh h d (i + 1) j hj g3⟩
    · right; right; right
      obtain ⟨e1, e2⟩ := h i (by omega)
      have hm := gCh.lt (fun x y h => h.elim fun n h => gCh.lt (fun i j => gPart.lt d i j) n x y h) n _ _ g3
      obtain ⟨m', rfl⟩ : ∃ m', m = a + m' := ⟨m - a, by omega⟩
      obtain ⟨e3, e4⟩ := h m' (by omega)
      exact ⟨e1.trans g1, (e2 g1).trans g2, b + m', n, gCh.sh (fun x y h => h.elim fun n h => gCh.lt (fun i j => gPart.lt d i j) n x y h) (fun i j hj q => q.elim fun n q => ⟨n, gCh.sh (fun i j => gPart.lt d i j) (fun i j h1 q => gPart.sh h d i j h1 q) (fun m h1 q => sMul.sh h h1 q) n i j hj q⟩) (fun m h1 q => sAdd.sh h h1 q) n (i + 1) m' (by omega) g3, e3.trans g4, (e4 g4).trans g5, by omega⟩
theorem gE.sh (h : gSh K A K' A' a b N) {d i j : Nat} (hj : j ≤ N) (g : gE K A d (a + i) (a + j)) : gE K' A' d (b + i) (b + j) := g.elim fun n g => ⟨n, gCh.sh (fun i j => gProd.lt) (fun i j hj q => q.elim fun n q => ⟨n, gCh.sh (fun i j => gPart.lt d i j) (fun i j h1 q => gPart.sh h d i j h1 q) (fun m h1 q => sMul.sh h h1 q) n i j hj q⟩) (fun m h1 q => sAdd.sh h h1 q) n i j hj g⟩
end GSH
/-- row y is now what row x was, the other rows are the same -/
def CRw (B x y : Nat) (ig ig' : sI) : Prop := ig' (B + 59) y = ig (B + 59) x ∧ ig' (B + 58) y = ig (B + 58) x ∧ (∀ c j, (c = 58 ∨ c = 59) → j ≠ y → ig' (B + c) j = ig (B + c) j) ∧
  (∀ c k, 54 ≤ c → c ≤ 57 → (k : Int) < (ig (B + 58) x).toInt → ig' (B + c) (120 * y + k) = ig (B + c) (120 * x + k)) ∧ ∀ c j, 54 ≤ c → c ≤ 57 → ¬ (120 * y ≤ j ∧ j < 120 * y + 120) → ig' (B + c) j = ig (B + c) j
section CRW
variable {B x y : Nat} {kd : sK} {ig ig' : sI} {rg : sR} {lg lg' : sG} {T : List Nat}
theorem WFr.copy (h : WFr B ig x) (hc : CRw B x y ig ig') : WFr B ig' y := by
  obtain ⟨n, h1, h2, h3, h4⟩ := h
  obtain ⟨c1, c2, c3, c4, c5⟩ := hc
  refine ⟨n, by rw [c2]; exact h1, h2, ?_, fun k q1 q2 => ?_⟩
  · have hs : gSh (mK B ig) (mA B ig) (mK B ig') (mA B ig') (120 * x) (120 * y) n := fun k hk => by
      have e1 := c4 54 k (by decide) (by decide) (by omega)
      have e2 := c4 55 k (by decide) (by decide) (by omega)
      exact ⟨by simp only [mK, e1], fun _ => by simp only [mA, e2]⟩
    exact gE.sh hs (i := 0) (j := n) (Nat.le_refl _) h3
  · obtain ⟨k', rfl⟩ : ∃ k', k = 120 * y + k' := ⟨k - 120 * y, by omega⟩
    have e1 := c4 54 k' (by decide) (by decide) (by omega)
    have e2 := c4 55 k' (by decide) (by decide) (by omega)
    have e3 := c4 56 k' (by decide) (by decide) (by omega)
    have h9 := h4 (120 * x + k') (by omega) (by omega)
    simp only [rOk, mK, mA, mB, e1, e2, e3] at h9 ⊢
    exact h9
theorem IM.cr (h : IM B kd ig rg) (hx : x < 309) (hc : CRw B x y ig ig') (hw : (ig (B + 59) x).toInt = 2 → WFr B ig x) (hr : ∀ c j, 49 ≤ c → c < 79 → ¬ (54 ≤ c ∧ c ≤ 61) → ig' (B + c) j = ig (B + c) j) : IM B kd ig' rg := by
  have hc' := hc
  obtain ⟨c1, c2, c3, c4, c5⟩ := hc
  refine ⟨h.1, h.2.1, fun c j q1 q2 => ?_, fun p q1 q2 q3 => ?_⟩
  · by_cases e : 54 ≤ c ∧ c ≤ 61
    · by_cases e8 : c = 58
      · subst e8
        by_cases ej : j = y
        · subst ej
          rw [c2]
          by_cases hj : j < 309
          · have h9 := h.its hx
            have e9 : cM 58 j = some (0, 120) := by simp [cM, hj]
            rw [e9]; exact h9
          · have e9 : cM 58 j = none := by simp [cM, hj]
            rw [e9]; exact trivial
        · rw [c3 58 j (Or.inl rfl) ej]; exact h.i 58 j q1 q2
      · have e9 : cM c j = none := by
          unfold cM
          rw [if_neg (by omega), if_neg (by omega), if_neg (by omega), if_neg (by omega), if_neg (by omega), if_neg (by omega), if_neg (by omega)]
        rw [e9]; exact trivial
    · rw [hr c j q1 q2 e]; exact h.i c j q1 q2
  · by_cases ep : p = y
    · subst ep
      rw [c1] at q3
      exact (hw q3).copy hc'
    · rw [c3 59 p (Or.inr rfl) ep] at q3
      exact (h.row q1 q2 q3).same (c3 58 p (Or.inl rfl) ep) (fun k a b => ⟨c5 54 k (by decide) (by decide) (by omega), c5 55 k (by decide) (by decide) (by omega), c5 56 k (by decide) (by decide) (by omega)⟩)
theorem cr_step {f : sI} {k : Nat} {v1 v2 v3 v4 : Int32} (h5 : ∀ c q, 54 ≤ c → c ≤ 57 → q < k → f (B + c) (120 * y + q) = ig (B + c) (120 * x + q)) (h6 : ∀ c j, 54 ≤ c → c ≤ 57 → ¬ (120 * y ≤ j ∧ j < 120 * y + 120) → f (B + c) j = ig (B + c) j) (hk : k < 120) {i : Nat} (hi : i = 120 * y + k)
    (e1 : v1 = ig (B + 54) (120 * x + k)) (e2 : v2 = ig (B + 55) (120 * x + k)) (e3 : v3 = ig (B + 56) (120 * x + k)) (e4 : v4 = ig (B + 57) (120 * x + k)) :
    (∀ c q, 54 ≤ c → c ≤ 57 → q < k + 1 → up2 (up2 (up2 (up2 f (B + 54) i v1) (B + 55) i v2) (B + 56) i v3) (B + 57) i v4 (B + c) (120 * y + q) = ig (B + c) (120 * x + q)) ∧ ∀ c j, 54 ≤ c → c ≤ 57 → ¬ (120 * y ≤ j ∧ j < 120 * y + 120) → up2 (up2 (up2 (up2 f (B + 54) i v1) (B + 55) i v2) (B + 56) i v3) (B + 57) i v4 (B + c) j = ig (B + c) j := by
  subst hi e1 e2 e3 e4
  refine ⟨fun c q a b hq => ?_, fun c j a b hj => ?_⟩
  · by_cases e : q = k
    · subst e
      rcases (show c = 54 ∨ c = 55 ∨ c = 56 ∨ c = 57 by omega) with rfl | rfl | rfl | rfl
      · rw [up2_a (by omega), up2_a (by omega), up2_a (by omega), up2_eq]
      · rw [up2_a (by omega), up2_a (by omega), up2_eq]
      · rw [up2_a (by omega), up2_eq]
      · rw [up2_eq]
    · rw [up2_j (by omega), up2_j (by omega), up2_j (by omega), up2_j (by omega)]
      exact h5 c q a b (by omega)
  · rw [up2_j (by omega), up2_j (by omega), up2_j (by omega), up2_j (by omega)]
    exact h6 c j a b hj
end CRW
