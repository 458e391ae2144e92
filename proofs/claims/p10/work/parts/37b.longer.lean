/-! the k-th sum of a row, and of its formula -/
def sumI (R : Rw) (n : Nat) (k z : Int) : Prop := (∃ j : Nat, j < n ∧ z = (j : Int) ∧ is2i (R j) = true ∧ ((seg R 0 j).countP is2i : Int) = k) ∨ (z = -1 ∧ ∀ j : Nat, j < n → is2i (R j) = true → ((seg R 0 j).countP is2i : Int) ≠ k)
section SUMI
variable {R : Rw} {n : Nat} {L : Fm}
theorem cs_t {j : Nat} (h : is2i (R j) = true) : (seg R 0 (j + 1)).countP is2i = (seg R 0 j).countP is2i + 1 := by
  rw [seg_snoc (Nat.zero_le _), List.countP_append, List.countP_singleton, h]; rfl
theorem cs_f {j : Nat} (h : is2i (R j) = false) : (seg R 0 (j + 1)).countP is2i = (seg R 0 j).countP is2i := by
  rw [seg_snoc (Nat.zero_le _), List.countP_append, List.countP_singleton, h]; rfl
theorem cs_le {i : Nat} : ∀ d, (seg R 0 i).countP is2i ≤ (seg R 0 (i + d)).countP is2i
  | 0 => Nat.le_refl _
  | d + 1 => by
    have := cs_le (i := i) d
    rw [show i + (d + 1) = (i + d) + 1 by omega]
    cases e : is2i (R (i + d)) with
    | false => rw [cs_f e]; exact this
    | true => rw [cs_t e]; omega
theorem cs_lt {i j : Nat} (h : is2i (R i) = true) (hij : i < j) : (seg R 0 i).countP is2i < (seg R 0 j).countP is2i := by
  have a := cs_t h
  have b := cs_le (R := R) (i := i + 1) (j - (i + 1))
  rw [show i + 1 + (j - (i + 1)) = j by omega] at b
  omega
theorem ex_cnt : ∀ (L : Fm) (k : Nat), k < L.countP is2 → ∃ l, ∃ hl : l < L.length, (L[l]).1 = 2 ∧ (L.take l).countP is2 = k
  | [], k, h => absurd h (Nat.not_lt_zero k)
  | s :: t, k, h => by
    rw [List.countP_cons] at h
    cases e : is2 s with
    | true =>
      rw [e] at h
      simp only [if_true] at h
      cases k with
      | zero => exact ⟨0, Nat.zero_lt_succ _, by simpa [is2] using e, rfl⟩
      | succ k =>
        obtain ⟨l, hl, h1, h2⟩ := ex_cnt t k (by omega)
        refine ⟨l + 1, Nat.succ_lt_succ hl, h1, ?_⟩
        rw [List.take_succ_cons, List.countP_cons, h2, e]; rfl
    | false =>
      rw [e] at h
      simp only [Bool.false_eq_true, if_false, Nat.add_zero] at h
      obtain ⟨l, hl, h1, h2⟩ := ex_cnt t k h
      refine ⟨l + 1, Nat.succ_lt_succ hl, h1, ?_⟩
      rw [List.take_succ_cons, List.countP_cons, h2, e]; rfl
/-- a sum by its items and its step -/
def SMt (R : Rw) (n : Nat) (L : Fm) (j l : Nat) : Prop := l < L.length ∧ (stp L (l : Int)).1 = 2 ∧ j + 5 < n ∧ R j = (2, 0) ∧ R (j + 2) = (3, (stp L (l : Int)).2.1) ∧ R (j + 4) = (3, (stp L (l : Int)).2.2) ∧ ∀ u, iE (upR1 R (j + 4) (3, u)) 8 0 n (L.set l (2, (stp L (l : Int)).2.1, u))
theorem stp_l {l : Nat} (hl : l < L.length) : stp L (l : Int) = L[l] := by
  have := stp_in (L := L) (x := (l : Int)) (by omega) (by omega)
  simpa using this
theorem sum_match {k z : Int} (h : iE R 8 0 n L) (hz : sumI R n k z) : (z = -1 ∧ sumS L k (-1)) ∨ ∃ j l : Nat, z = (j : Int) ∧ sumS L k (l : Int) ∧ SMt R n L j l := by
  obtain ⟨st1, st2⟩ := iE.st h
  rcases hz with ⟨j, h1, h2, h3, h4⟩ | ⟨h1, h2⟩
  · right
    have lt : (seg R 0 j).countP is2i < L.countP is2 := by rw [st1]; exact cs_lt h3 h1
    obtain ⟨l, hl, a1, a2⟩ := ex_cnt L _ lt
    obtain ⟨j', b1, b2, b3, b4, b5, b6, b7⟩ := st2 l hl a1
    have i2 : is2i (R j') = true := by rw [b3]; rfl
    obtain rfl : j' = j := by
      rcases Nat.lt_trichotomy j' j with w | w | w
      · have := cs_lt i2 w; omega
      · exact w
      · have := cs_lt h3 w; omega
    have es := stp_l hl
    refine ⟨j', l, h2, Or.inl ⟨l, hl, rfl, by rw [es]; exact a1, by omega⟩, hl, by rw [es]; exact a1, b2, b3, by rw [es]; exact b4, by rw [es]; exact b5, fun u => by rw [es]; exact b7 u⟩
  · left
    refine ⟨h1, Or.inr ⟨rfl, fun l hl l2 e => ?_⟩⟩
    rw [stp_l hl] at l2
    obtain ⟨j', b1, b2, b3, b4, b5, b6, b7⟩ := st2 l hl l2
    exact h2 j' (by omega) (by rw [b3]; rfl) (by omega)
end SUMI
section STRM
variable {B : Nat} {ig g f : sI} {σ : Sg} {π : Ps} {L : Fm}
theorem mR_2 {h : Int} {q k : Nat} (hk : (k : Int) < (ig (B + 58) q).toInt) : is2i (mR B ig h q k) = true ↔ (ig (B + 54) (120 * q + k)).toInt = 2 := by
  unfold mR
  rw [if_pos hk]
  unfold itR mK is2i
  by_cases e3 : (ig (B + 54) (120 * q + k)).toInt = 3
  · rw [if_pos e3]
    simp [e3]
  · rw [if_neg e3]
    by_cases e2 : (ig (B + 54) (120 * q + k)).toInt = 2
    · rw [if_pos e2]; simp [e2]
    · rw [if_neg e2]; simp [e2]
theorem rd_ref {p k i : Nat} {w : Int} (hw : mR B ig (p : Int) p k = (3, w)) (hk : (k : Int) < (ig (B + 58) p).toInt) (hi : i = 120 * p + k) (o : itO B ig i) (r : rOk B ig i) (hp : p < 288) : (ig (B + 54) i).toInt = 3 ∧ colv w (p : Int) = (ig (B + 55) i).toInt ∧ rowv w (p : Int) = (ig (B + 56) i).toInt ∧ ((0 ≤ (ig (B + 55) i).toInt ∧ (ig (B + 55) i).toInt < 12) ∧ 0 ≤ (ig (B + 56) i).toInt ∧ (ig (B + 56) i).toInt < 24) ∧ w = pkW ((ig (B + 57) i).toInt % 2) ((ig (B + 57) i).toInt / 2) (ig (B + 55) i).toInt (ig (B + 56) i).toInt (p : Int) ∧ 0 ≤ (ig (B + 57) i).toInt ∧ (ig (B + 57) i).toInt ≤ 3 := by
  rw [mR_in hk hi] at hw
  unfold itR mK mA mB mF at hw
  by_cases e3 : (ig (B + 54) i).toInt = 3
  · rw [if_pos e3] at hw
    have e := (congrArg Prod.snd hw).symm
    simp only at e
    have o1 := o.1 e3
    have r1 := r e3
    unfold mF at o1
    unfold mA mB at r1
    have k9 := pkW_ok (cf := (ig (B + 57) i).toInt % 2) (rf := (ig (B + 57) i).toInt / 2) (c := (ig (B + 55) i).toInt) (r := (ig (B + 56) i).toInt) (h := (p : Int)) r1.1 r1.2 (by omega) (by omega) (by omega)
    exact ⟨e3, by rw [e]; exact k9.2.1, by rw [e]; exact k9.2.2, r1, e, o1⟩
  · rw [if_neg e3] at hw
    by_cases e2 : (ig (B + 54) i).toInt = 2
    · rw [if_pos e2] at hw
      exact absurd (congrArg Prod.fst hw) (show ¬ (2 : Int) = 3 by decide)
    · rw [if_neg e2] at hw
      exact absurd (congrArg Prod.fst hw) e3
theorem pkW_add {cf rf a b da db h : Int} (hc : cf = 0 ∨ cf = 1) (hr : rf = 0 ∨ rf = 1) : pkW cf rf (a + da) (b + db) h = pkW cf rf a b h + (128 * da + db) := by
  obtain ⟨p, q, e, h1, h2⟩ := pkW_eq (c := a) (r := b) (h := h) hc hr
  obtain ⟨p', q', e', h1', h2'⟩ := pkW_eq (c := a + da) (r := b + db) (h := h) hc hr
  rw [e, e']
  generalize h % 12 = hc at *
  generalize h / 12 = hr at *
  omega
/-- the draft with its j-th span one longer -/
theorem RowF.longer {h da db u : Int} {n j l : Nat} {v w : Int32} {i1 i2 : Nat} (r : RowF B g 288 h L) (hn : (g (B + 58) 288).toInt = (n : Int)) (m : SMt (mR B g h 288) n L j l) (hu : u = (stp L (l : Int)).2.2) (h3 : (g (B + 54) (34560 + (j + 4))).toInt = 3) (hu2 : u = pkW ((g (B + 57) (34560 + (j + 4))).toInt % 2) ((g (B + 57) (34560 + (j + 4))).toInt / 2) (g (B + 55) (34560 + (j + 4))).toInt (g (B + 56) (34560 + (j + 4))).toInt h) (hf : 0 ≤ (g (B + 57) (34560 + (j + 4))).toInt ∧ (g (B + 57) (34560 + (j + 4))).toInt ≤ 3)
    (e1 : i1 = 34560 + (j + 4)) (e2 : i2 = 34560 + (j + 4)) (hv : v.toInt = (g (B + 56) (34560 + (j + 4))).toInt + db) (hw : w.toInt = (g (B + 55) (34560 + (j + 4))).toInt + da) : RowF B (up2 (up2 g (B + 56) i1 v) (B + 55) i2 w) 288 h (L.set l (2, (stp L (l : Int)).2.1, u + (128 * da + db))) := by
  subst e1 e2
  obtain ⟨m1, m2, m3, m4, m5, m6, m7⟩ := m
  have e58 : up2 (up2 g (B + 56) (34560 + (j + 4)) v) (B + 55) (34560 + (j + 4)) w (B + 58) 288 = g (B + 58) 288 := by rw [up2_c (by decide), up2_c (by decide)]
  obtain ⟨⟨n', n1, n2, n3⟩, ho⟩ := r
  obtain rfl : n' = n := by omega
  have key : mR B (up2 (up2 g (B + 56) (34560 + (j + 4)) v) (B + 55) (34560 + (j + 4)) w) h 288 = upR1 (mR B g h 288) (j + 4) (3, u + (128 * da + db)) := by
    funext k
    by_cases e : k = j + 4
    · subst e
      rw [upR1_eq]
      unfold mR
      rw [e58, if_pos (by omega)]
      show itR B _ h (34560 + (j + 4)) = _
      have eK : up2 (up2 g (B + 56) (34560 + (j + 4)) v) (B + 55) (34560 + (j + 4)) w (B + 54) (34560 + (j + 4)) = g (B + 54) (34560 + (j + 4)) := by rw [up2_c (by decide), up2_c (by decide)]
      have eA : up2 (up2 g (B + 56) (34560 + (j + 4)) v) (B + 55) (34560 + (j + 4)) w (B + 55) (34560 + (j + 4)) = w := up2_eq
      have eB : up2 (up2 g (B + 56) (34560 + (j + 4)) v) (B + 55) (34560 + (j + 4)) w (B + 56) (34560 + (j + 4)) = v := by rw [up2_c (by decide), up2_eq]
      have eF : up2 (up2 g (B + 56) (34560 + (j + 4)) v) (B + 55) (34560 + (j + 4)) w (B + 57) (34560 + (j + 4)) = g (B + 57) (34560 + (j + 4)) := by rw [up2_c (by decide), up2_c (by decide)]
      unfold itR mK mA mB mF
      rw [eK, eA, eB, eF, if_pos h3, hv, hw, pkW_add (by omega) (by omega), ← hu2]
    · rw [upR1_ne e]
      unfold mR
      rw [e58]
      by_cases hk : (k : Int) < (g (B + 58) 288).toInt
      · rw [if_pos hk, if_pos hk]
        exact itR.ag (fun c a b => by rw [up2_j (by omega), up2_j (by omega)])
      · rw [if_neg hk, if_neg hk]
  refine ⟨⟨n', by rw [e58]; exact n1, n2, by rw [key]; exact m7 _⟩, fun k hk => ?_⟩
  rw [e58] at hk
  by_cases e : k = j + 4
  · subst e
    show itO B _ (34560 + (j + 4))
    have eK : up2 (up2 g (B + 56) (34560 + (j + 4)) v) (B + 55) (34560 + (j + 4)) w (B + 54) (34560 + (j + 4)) = g (B + 54) (34560 + (j + 4)) := by rw [up2_c (by decide), up2_c (by decide)]
    have eF : up2 (up2 g (B + 56) (34560 + (j + 4)) v) (B + 55) (34560 + (j + 4)) w (B + 57) (34560 + (j + 4)) = g (B + 57) (34560 + (j + 4)) := by rw [up2_c (by decide), up2_c (by decide)]
    unfold itO mK mA mF
    rw [eK, eF]
    exact ⟨fun _ => hf, fun q => absurd h3 q, fun q => absurd (h3.symm.trans q) (by decide)⟩
  · exact (ho k hk).ag (fun c a b => by rw [up2_j (by omega), up2_j (by omega)])
/-- what stretch makes: by the reference's own comparing -/
def shDn (B : Nat) (ig : sI) (σ : Sg) (x : Int) (i : Nat) : Prop := (ig (B + 55) i).toInt = (ig (B + 55) (i + 2)).toInt ∧ (ig (B + 56) (i + 2)).toInt ≠ 23 ∧ gonN σ (famZ B ig) x (12 * (ig (B + 56) (i + 2)).toInt + (ig (B + 55) (i + 2)).toInt) (12 * (ig (B + 56) (i + 2)).toInt + (ig (B + 55) (i + 2)).toInt + 12)
def shRt (B : Nat) (ig : sI) (σ : Sg) (x : Int) (i : Nat) : Prop := (ig (B + 56) i).toInt = (ig (B + 56) (i + 2)).toInt ∧ (ig (B + 55) (i + 2)).toInt ≠ 11 ∧ gonN σ (famZ B ig) x (12 * (ig (B + 56) (i + 2)).toInt + (ig (B + 55) (i + 2)).toInt) (12 * (ig (B + 56) (i + 2)).toInt + (ig (B + 55) (i + 2)).toInt + 1)
theorem shDn.iff {x : Int} {s : St} {i : Nat} (h2 : s.1 = 2) (a1 : colv s.2.1 x = (ig (B + 55) i).toInt) (c1 : colv s.2.2 x = (ig (B + 55) (i + 2)).toInt) (c2 : rowv s.2.2 x = (ig (B + 56) (i + 2)).toInt) (hb : (ig (B + 56) (i + 2)).toInt < 24) : shB σ (famZ B ig) x s ↔ shDn B ig σ x i := by
  unfold shB shDn lstP
  rw [a1, c1, c2, show (ig (B + 56) (i + 2)).toInt * 12 = 12 * (ig (B + 56) (i + 2)).toInt by omega]
  exact ⟨fun h => ⟨h.2.1, by have := h.2.2.1; omega, h.2.2.2⟩, fun h => ⟨h2, h.1, by have := h.2.1; omega, h.2.2⟩⟩
theorem shRt.iff {x : Int} {s : St} {i : Nat} (h2 : s.1 = 2) (a1 : rowv s.2.1 x = (ig (B + 56) i).toInt) (c1 : colv s.2.2 x = (ig (B + 55) (i + 2)).toInt) (c2 : rowv s.2.2 x = (ig (B + 56) (i + 2)).toInt) (hb : (ig (B + 55) (i + 2)).toInt < 12) : shR σ (famZ B ig) x s ↔ shRt B ig σ x i := by
  unfold shR shRt lstP
  rw [a1, c1, c2, show (ig (B + 56) (i + 2)).toInt * 12 = 12 * (ig (B + 56) (i + 2)).toInt by omega]
  exact ⟨fun h => ⟨h.2.1, by have := h.2.2.1; omega, h.2.2.2⟩, fun h => ⟨h2, h.1, by have := h.2.1; omega, h.2.2⟩⟩
end STRM
