/-! UNITS: three exponents of each cell, and whether units clash -/
abbrev Un : Type := Int32 × Int32 × Int32
abbrev Us : Type := Nat → Un
abbrev Cs : Type := Nat → Bool
def u0 : Un := (0, 0, 0)
def unA (u : Us) (x : Int) : Un := if 0 ≤ x ∧ x < 288 then u x.toNat else u0
/-- a part of three -/
def ucp (a : Un) (k : Int) : Int32 := if k = 0 then a.1 else if k = 1 then a.2.1 else a.2.2
def un3 (f : Nat → Int32) (j : Nat) : Un := (f (3 * j), f (3 * j + 1), f (3 * j + 2))
def czB (z : Int32) : Bool := decide (z.toInt ≠ 0)
section UN
variable {u u' : Us} {x k : Int} {a b : Un} {f g : Nat → Int32} {j : Nat} {z : Int32}
theorem unA_on (h : 0 ≤ x ∧ x < 288) : unA u x = u x.toNat := if_pos h
theorem unA_off (h : ¬ (0 ≤ x ∧ x < 288)) : unA u x = u0 := if_neg h
theorem ucp_0 : ucp u0 k = 0 := by
  unfold ucp u0
  split
  · rfl
  · split <;> rfl
theorem ucp_3 (h : 0 ≤ k ∧ k ≤ 2) : ucp (un3 f j) k = f (3 * j + k.toNat) := by
  rcases (show k = 0 ∨ k = 1 ∨ k = 2 by omega) with rfl | rfl | rfl <;> rfl
theorem un_ext (h : ∀ k : Int, 0 ≤ k → k < 3 → ucp a k = ucp b k) : a = b := by
  have h0 := h 0 (by decide) (by decide)
  have h1 := h 1 (by decide) (by decide)
  have h2 := h 2 (by decide) (by decide)
  exact Prod.ext h0 (Prod.ext h1 h2)
theorem un3_cg (h : ∀ k, k < 3 → f (3 * j + k) = g (3 * j + k)) : un3 f j = un3 g j := by
  have h0 := h 0 (by decide)
  have h1 := h 1 (by decide)
  have h2 := h 2 (by decide)
  exact Prod.ext h0 (Prod.ext h1 h2)
theorem un3_of (h : ∀ k : Nat, k < 3 → f (3 * j + k) = ucp a (k : Int)) : un3 f j = a :=
  Prod.ext (h 0 (by decide)) (Prod.ext (h 1 (by decide)) (h 2 (by decide)))
theorem czB_0 (h : z.toInt = 0) : czB z = false := by unfold czB; rw [h]; rfl
theorem czB_1 (h : z.toInt ≠ 0) : czB z = true := decide_eq_true h
theorem czB_t : czB z = true ↔ z.toInt ≠ 0 := by unfold czB; exact decide_eq_true_iff
end UN
/-- one place of a span: the first that is filled, and whether another is not the same -/
def umS (σ : Sg) (u : Us) (a : Int × Bool) (q : Int) : Int × Bool := if kdO (atC σ q) = 0 then a else if a.1 = -1 then (q, a.2) else (a.1, a.2 || decide (¬ unA u a.1 = unA u q))
def spU (σ : Sg) (u : Us) (c : Bool) (s : St) (h : Int) : Int × Bool := (plS s h).foldl (umS σ u) (-1, c)
abbrev Ue : Type := List Un × Bool
def opU (o : Int) (x y : Un) : Un := if o = 7 then (x.1 + y.1, x.2.1 + y.2.1, x.2.2 + y.2.2) else if o = 8 then (x.1 - y.1, x.2.1 - y.2.1, x.2.2 - y.2.2) else x
def opC (o : Int) (x y : Un) (c : Bool) : Bool := if o = 7 ∨ o = 8 then c else c || decide (¬ x = y)
def uvS (σ : Sg) (u : Us) (h : Int) (a : Ue) (s : St) : Ue :=
  if s.1 = 0 then (u0 :: a.1, a.2)
  else if s.1 = 1 ∨ s.1 = 2 then (unA u (spU σ u a.2 s h).1 :: a.1, (spU σ u a.2 s h).2)
  else if s.1 = 3 ∨ s.1 = 4 then a
  else (match a.1 with
    | y :: x :: k => (opU s.1 x y :: k, opC s.1 x y a.2)
    | _ => a)
def uv (σ : Sg) (u : Us) (h : Int) (a : Ue) (L : Fm) : Ue := L.foldl (uvS σ u h) a
def fstU (k : List Un) : Un := match k with
  | [] => u0
  | x :: _ => x
/-- a formula's unit, and whether it clashes -/
def rsU (σ : Sg) (u : Us) (h : Int) (L : Fm) : Un × Bool := (fstU (uv σ u h ([], false) L).1, (uv σ u h ([], false) L).2)
def unC (c : Cl) : Un := (Int32.ofInt c.2.1.1, Int32.ofInt c.2.1.2.1, Int32.ofInt c.2.1.2.2)
section UMS
variable {σ : Sg} {u u' : Us} {f q h : Int} {c : Bool} {l : List Int} {k : Nat} {a : Int × Bool} {s : St} {L : Fm}
theorem umS_0 (hk : kdO (atC σ q) = 0) : umS σ u a q = a := if_pos hk
theorem umS_1 (hk : kdO (atC σ q) ≠ 0) (hf : f = -1) : umS σ u (f, c) q = (q, c) := by unfold umS; rw [if_neg hk]; exact if_pos hf
theorem umS_2 (hk : kdO (atC σ q) ≠ 0) (hf : f ≠ -1) (e : unA u f = unA u q) : umS σ u (f, c) q = (f, c) := by
  unfold umS
  rw [if_neg hk, if_neg (show ¬ (f, c).1 = -1 from hf)]
  show (f, c || decide (¬ unA u f = unA u q)) = (f, c)
  rw [e]
  simp
theorem umS_3 (hk : kdO (atC σ q) ≠ 0) (hf : f ≠ -1) (e : ¬ unA u f = unA u q) : umS σ u (f, c) q = (f, true) := by
  unfold umS
  rw [if_neg hk, if_neg (show ¬ (f, c).1 = -1 from hf)]
  show (f, c || decide (¬ unA u f = unA u q)) = (f, true)
  rw [decide_eq_true e, Bool.or_true]
theorem umT {f2 : Int} {c2 : Bool} (h1 : (f, c) = (l.take k).foldl (umS σ u) a) (hk : k < l.length) (he : (f2, c2) = umS σ u (f, c) l[k]) : (f2, c2) = (l.take (k + 1)).foldl (umS σ u) a := by
  rw [List.take_succ_eq_append_getElem hk, List.foldl_append, ← h1]
  exact he
theorem umF_cg : ∀ (l : List Int) (a : Int × Bool), (∀ q ∈ l, unA u q = unA u' q) → unA u a.1 = unA u' a.1 → l.foldl (umS σ u) a = l.foldl (umS σ u') a ∧ unA u (l.foldl (umS σ u) a).1 = unA u' (l.foldl (umS σ u) a).1
  | [], _, _, h => ⟨rfl, h⟩
  | q :: l, a, hl, h => by
    have hq := hl q (List.mem_cons_self ..)
    have e : umS σ u a q = umS σ u' a q := by unfold umS; rw [h, hq]
    have h2 : unA u (umS σ u a q).1 = unA u' (umS σ u a q).1 := by
      unfold umS
      split
      · exact h
      · split
        · exact hq
        · exact h
    have r := umF_cg l (umS σ u a q) (fun q hq => hl q (List.mem_cons_of_mem _ hq)) h2
    show l.foldl (umS σ u) (umS σ u a q) = l.foldl (umS σ u') (umS σ u' a q) ∧ unA u (l.foldl (umS σ u) (umS σ u a q)).1 = unA u' (l.foldl (umS σ u) (umS σ u a q)).1
    rw [← e]
    exact r
theorem spU_cg (hs : fitS h s) (hq : ∀ q : Nat, (q : Int) ∈ plS s h → u q = u' q) : spU σ u c s h = spU σ u' c s h ∧ unA u (spU σ u c s h).1 = unA u' (spU σ u c s h).1 := by
  refine umF_cg (plS s h) (-1, c) (fun q m => ?_) ?_
  · have ho := plS_on hs m
    rw [unA_on ho, unA_on ho]
    exact hq q.toNat (by rw [show ((q.toNat : Nat) : Int) = q by omega]; exact m)
  · show unA u (-1) = unA u' (-1)
    rw [unA_off (u := u) (x := -1) (by decide), unA_off (u := u') (x := -1) (by decide)]
theorem rsU_cg (hL : fitL h L) (hq : ∀ q : Nat, (∃ s ∈ L, rdS s ∧ (q : Int) ∈ plS s h) → u q = u' q) : rsU σ u h L = rsU σ u' h L := by
  have hs : ∀ s ∈ L, ∀ a, uvS σ u h a s = uvS σ u' h a s := fun s hs a => by
    by_cases r : rdS s
    · obtain ⟨e1, e2⟩ := spU_cg (σ := σ) (c := a.2) (hL s hs r) (fun q m => hq q ⟨s, hs, r, m⟩)
      unfold uvS
      rw [← e1, e2]
    · unfold uvS
      unfold rdS at r
      rw [if_neg r, if_neg r]
  unfold rsU uv
  rw [foldl_cg L ([], false) hs]
end UMS
/-- the sheet's units -/
def UOk (σ : Sg) (u : Us) (c : Cs) : Prop := ∀ p, p < 288 → (kdO (σ p) ≠ 2 → u p = unC (σ p) ∧ c p = false) ∧ (kdO (σ p) = 2 → Rg σ p → u p = u0 ∧ c p = false) ∧ (kdO (σ p) = 2 → ¬ Rg σ p → (u p, c p) = rsU σ u (p : Int) (fmO (σ p)))
theorem UOk.det {σ : Sg} {π : Ps} {u u' : Us} {c c' : Cs} (hW : WS σ π) (h1 : UOk σ u c) (h2 : UOk σ u' c') : ∀ p, p < 288 → u p = u' p ∧ c p = c' p := by
  have key : ∀ x, ¬ (x < 288 ∧ ¬ (u x = u' x ∧ c x = c' x)) := fun x hx => by
    obtain ⟨p, hp, t⟩ := ring_ex (R := Rd σ) (S := fun x => x < 288 ∧ ¬ (u x = u' x ∧ c x = c' x)) (n := 288) (fun a ha => by
      refine ⟨ha.1, ?_⟩
      obtain ⟨a1, a2, a3⟩ := h1 a ha.1
      obtain ⟨b1, b2, b3⟩ := h2 a ha.1
      by_cases k : kdO (σ a) = 2
      · by_cases r : Rg σ a
        · exact absurd ⟨(a2 k r).1.trans (b2 k r).1.symm, (a2 k r).2.trans (b2 k r).2.symm⟩ ha.2
        · apply Classical.byContradiction
          intro hn
          have hc := rsU_cg (σ := σ) (u := u) (u' := u') (h := (a : Int)) (L := fmO (σ a)) ((hW.1 a ha.1).1 k).1 (fun q hq => by
            apply Classical.byContradiction
            intro hd
            have hq2 : q < 288 := by
              obtain ⟨s, hs, r, m⟩ := hq
              have := plS_on (((hW.1 a ha.1).1 k).1 s hs r) m
              omega
            exact hn ⟨q, ⟨hq2, fun w => hd w.1⟩, ha.1, k, hq⟩)
          have e1 := (a3 k r).trans (hc.trans (b3 k r).symm)
          injection e1 with e2 e3
          exact ha.2 ⟨e2, e3⟩
      · exact absurd ⟨(a1 k).1.trans (b1 k).1.symm, (a1 k).2.trans (b1 k).2.symm⟩ ha.2) hx
    obtain ⟨a1, a2, a3⟩ := h1 p hp.1
    obtain ⟨b1, b2, b3⟩ := h2 p hp.1
    have k : kdO (σ p) = 2 := by
      have : ∀ x y, TG (Rd σ) x y → kdO (σ x) = 2 := fun x y t => by
        induction t with
        | single r => exact r.2.1
        | tail _ _ ih => exact ih
      exact this p p t
    exact hp.2 ⟨(a2 k t).1.trans (b2 k t).1.symm, (a2 k t).2.trans (b2 k t).2.symm⟩
  exact fun p hp => Classical.byContradiction fun hn => key p ⟨hp, hn⟩
/-! the working-out as far as step i -/
def uvA (σ : Sg) (u : Us) (h : Int) (L : Fm) (i : Nat) : Ue := uv σ u h ([], false) (L.take i)
section UVA
variable {σ : Sg} {u : Us} {h z : Int} {L M : Fm} {i n m : Nat} {a : Ue} {s : St}
theorem uv_app (x y : Fm) : uv σ u h a (x ++ y) = uv σ u h (uv σ u h a x) y := List.foldl_append
theorem uv_one : uv σ u h a [s] = uvS σ u h a s := rfl
theorem uvA_s (hi : i < L.length) : uvA σ u h L (i + 1) = uvS σ u h (uvA σ u h L i) L[i] := by
  unfold uvA
  rw [List.take_succ_eq_append_getElem hi, uv_app]; rfl
theorem uvA_end : uvA σ u h L L.length = uv σ u h ([], false) L := by unfold uvA; rw [List.take_length]
theorem uvA_t (hz : (i : Int) = z) (hi : i < M.length) : uvA σ u h M (i + 1) = uvS σ u h (uvA σ u h M i) (stp M z) := by
  rw [uvA_s hi, ← hz, stp_in (by omega) (by omega)]
  simp
theorem uvS_0 (h0 : s.1 = 0) : uvS σ u h a s = (u0 :: a.1, a.2) := by unfold uvS; rw [if_pos h0]
theorem uvS_r (h0 : rdS s) : uvS σ u h a s = (unA u (spU σ u a.2 s h).1 :: a.1, (spU σ u a.2 s h).2) := by
  unfold rdS at h0
  unfold uvS; rw [if_neg (by omega), if_pos h0]
theorem uvS_3 (h0 : s.1 = 3 ∨ s.1 = 4) : uvS σ u h a s = a := by unfold uvS; rw [if_neg (by omega), if_neg (by omega), if_pos h0]
theorem uvS_5 {x y : Un} {k : List Un} (h0 : s.1 ≠ 0) (h1 : ¬ rdS s) (h3 : s.1 ≠ 3) (h4 : s.1 ≠ 4) (ha : a.1 = y :: x :: k) : uvS σ u h a s = (opU s.1 x y :: k, opC s.1 x y a.2) := by
  unfold rdS at h1
  unfold uvS; rw [if_neg h0, if_neg h1, if_neg (by omega), ha]
theorem uvS_len (ha : a.1.length = n) (hs : hgS 32 (some n) s = some m) : (uvS σ u h a s).1.length = m := by
  unfold hgS at hs
  simp only [Option.bind_some] at hs
  unfold uvS
  by_cases c0 : s.1 = 0
  · rw [if_pos c0]
    rw [if_pos (Or.inl c0)] at hs
    split at hs
    · cases hs; show (_ :: a.1).length = _; rw [List.length_cons, ha]
    · cases hs
  · rw [if_neg c0]
    by_cases c1 : s.1 = 1 ∨ s.1 = 2
    · rw [if_pos c1]
      rw [if_pos (Or.inr c1)] at hs
      split at hs
      · cases hs; show (_ :: a.1).length = _; rw [List.length_cons, ha]
      · cases hs
    · rw [if_neg c1]
      rw [if_neg (by omega)] at hs
      by_cases c3 : s.1 = 3 ∨ s.1 = 4
      · rw [if_pos c3]
        rw [if_pos c3] at hs
        split at hs
        · cases hs; exact ha
        · cases hs
      · rw [if_neg c3]
        rw [if_neg c3] at hs
        split at hs
        · cases hs
          split
          · rename_i y x k q; show (_ :: k).length = _; rw [q] at ha; simp only [List.length_cons] at ha ⊢; omega
          · rename_i q
            exfalso
            rcases hq : a.1 with _ | ⟨y, _ | ⟨x, k⟩⟩
            · rw [hq] at ha; simp at ha; omega
            · rw [hq] at ha; simp at ha; omega
            · exact q y x k hq
        · cases hs
theorem uvA_len (hL : HgL L) : ∀ i, i ≤ L.length → ∀ n, hgA L i = some n → (uvA σ u h L i).1.length = n
  | 0, _, n, hn => by cases hn; rfl
  | i + 1, hi, n, hn => by
    obtain ⟨m, hm⟩ := hL.at (i := i)
    rw [hgA_s (by omega), hm] at hn
    rw [uvA_s (by omega)]
    exact uvS_len (uvA_len hL i (by omega) m hm) hn
theorem opr_u (hg : HgL M) (hi : i < M.length) : ∃ n, (uvA σ u h M i).1.length = n ∧ n ≤ 32 ∧ ((stp M (i : Int)).1 = 0 ∨ rdS (stp M (i : Int)) → n < 32) ∧ ((stp M (i : Int)).1 ≠ 0 → ¬ rdS (stp M (i : Int)) → (stp M (i : Int)).1 ≠ 3 → (stp M (i : Int)).1 ≠ 4 → 1 < n) := by
  have es : stp M (i : Int) = M[i] := by rw [stp_in (by omega) (by omega)]; simp
  rw [es]
  obtain ⟨n, hn⟩ := hg.at (i := i)
  obtain ⟨m, hm⟩ := hg.at (i := i + 1)
  have hl := uvA_len (σ := σ) (u := u) (h := h) hg i (by omega) n hn
  rw [hgA_s hi, hn] at hm
  unfold hgS at hm
  simp only [Option.bind_some] at hm
  unfold rdS
  have n32 : n ≤ 32 := hgA_le hg i (by omega) n hn
  refine ⟨n, hl, n32, fun q => ?_, fun q0 q1 q3 q4 => ?_⟩
  · rw [if_pos (by omega)] at hm
    split at hm
    · assumption
    · cases hm
  · rw [if_neg (by omega), if_neg (by omega)] at hm
    split at hm
    · assumption
    · cases hm
theorem two_u {k : List Un} (hk : 1 < k.length) : ∃ y x r, k = y :: x :: r := by
  rcases k with _ | ⟨y, _ | ⟨x, r⟩⟩
  · simp at hk
  · simp at hk
  · exact ⟨y, x, r, rfl⟩
theorem uvA_1 (hg : HgL M) : ∃ x, (uvA σ u h M M.length).1 = [x] := by
  have q := uvA_len (σ := σ) (u := u) (h := h) hg M.length (Nat.le_refl _) 1 hg.end
  rcases e : (uvA σ u h M M.length).1 with _ | ⟨y, r⟩
  · rw [e] at q; simp at q
  · rw [e] at q
    have : r = [] := List.length_eq_zero_iff.mp (by simpa using q)
    exact ⟨y, by rw [this]⟩
end UVA
/-! the class's units: rows of three -/
def uR (B : Nat) (ig : sI) : Us := un3 (ig (B + 33))
def clR (B : Nat) (ig : sI) : Cs := fun p => czB (ig (B + 34) p)
def SkU (B : Nat) (k : List Un) (ig : sI) : Prop := (ig (B + 32) 6).toInt = (k.length : Int) ∧ ∀ i (h : i < k.length), un3 (ig (B + 36)) (k.length - 1 - i) = k[i]
/-- some parts of one more are laid -/
def PuU (B n : Nat) (a : Un) (i : Int) (ig ig' : sI) : Prop := (∀ j, j < 3 * n → ig' (B + 36) j = ig (B + 36) j) ∧ ∀ k : Nat, (k : Int) < i → ig' (B + 36) (3 * n + k) = ucp a (k : Int)
/-- some parts of two are joined -/
def JnU (B n : Nat) (a b : Un) (o i : Int) (ig ig' : sI) : Prop := (∀ j, j < 3 * n → ig' (B + 36) j = ig (B + 36) j) ∧ (∀ k : Nat, k < 3 → ig' (B + 36) (3 * n + k) = if (k : Int) < i then ucp (opU o a b) (k : Int) else ucp a (k : Int)) ∧ ∀ k : Nat, k < 3 → ig' (B + 36) (3 * (n + 1) + k) = ucp b (k : Int)
def JcU (a b : Un) (o i : Int) (c c' : Bool) : Prop := ((o = 7 ∨ o = 8) → c' = c) ∧ (¬ (o = 7 ∨ o = 8) → (c' = true ↔ c = true ∨ ∃ k : Nat, (k : Int) < i ∧ k < 3 ∧ ucp a (k : Int) ≠ ucp b (k : Int)))
section SKU
variable {B n : Nat} {k : List Un} {ig ig' : sI} {a b : Un} {v w : Int32} {i o : Int} {T : List Nat} {lg lg' : sG} {c c' : Bool}
theorem uR.fo (h : Fo B T ig lg ig' lg') (h2 : 33 ∉ T := by decide) : uR B ig' = uR B ig := by
  unfold uR
  rw [show ig' (B + 33) = ig (B + 33) from funext fun j => h.i 33 j (by decide) h2]
theorem SkU.nil (h : (ig (B + 32) 6).toInt = 0) : SkU B [] ig := ⟨h, fun i hi => absurd hi (Nat.not_lt_zero i)⟩
theorem SkU.ag (h : SkU B k ig) (e6 : (ig' (B + 32) 6).toInt = (ig (B + 32) 6).toInt) (e : ∀ j, ig' (B + 36) j = ig (B + 36) j) : SkU B k ig' := ⟨e6.trans h.1, fun i hi => by
  rw [show ig' (B + 36) = ig (B + 36) from funext e]; exact h.2 i hi⟩
theorem PuU.zero : PuU B n a 0 ig ig := ⟨fun _ _ => rfl, fun k hk => absurd hk (by omega)⟩
theorem PuU.step {j : Nat} (h : PuU B n a i ig ig') (hj : (j : Int) = 3 * (n : Int) + i) (h0 : 0 ≤ i) (hv : v = ucp a i) : PuU B n a (i + 1) ig (up2 ig' (B + 36) j v) := by
  refine ⟨fun q hq => (up2_j (by omega)).trans (h.1 q hq), fun k hk => ?_⟩
  by_cases e : 3 * n + k = j
  · rw [e, up2_eq, hv, show i = (k : Int) by omega]
  · rw [up2_j e]; exact h.2 k (by omega)
theorem PuU.fin (h : PuU B k.length a 3 ig ig') (hs : SkU B k ig) (hw : w.toInt = (k.length : Int) + 1) : SkU B (a :: k) (up2 ig' (B + 32) 6 w) := by
  have e36 : up2 ig' (B + 32) 6 w (B + 36) = ig' (B + 36) := funext fun j => up2_a (by omega)
  refine ⟨by rw [up2_eq, hw, List.length_cons]; omega, fun i hi => ?_⟩
  rw [e36]
  rw [List.length_cons] at hi
  cases i with
  | zero =>
    have e : (a :: k).length - 1 - 0 = k.length := by simp
    rw [e]
    exact un3_of (fun q hq => h.2 q (by omega))
  | succ i =>
    have e : (a :: k).length - 1 - (i + 1) = k.length - 1 - i := by simp; omega
    rw [e, List.getElem_cons_succ, ← hs.2 i (by omega)]
    exact un3_cg (fun q hq => h.1 _ (by omega))
theorem JnU.zero (hs : SkU B (b :: a :: k) ig) (e : ∀ j, ig' (B + 36) j = ig (B + 36) j) : JnU B k.length a b o 0 ig ig' := by
  have h1 := hs.2 0 (by simp)
  have h2 := hs.2 1 (by simp)
  rw [show (b :: a :: k).length - 1 - 0 = k.length + 1 by simp] at h1
  rw [show (b :: a :: k).length - 1 - 1 = k.length by simp] at h2
  refine ⟨fun j _ => e j, fun q hq => ?_, fun q hq => ?_⟩
  · rw [if_neg (by omega), e, ← show un3 (ig (B + 36)) k.length = a from h2, ucp_3 (by omega)]
    simp
  · rw [e, ← show un3 (ig (B + 36)) (k.length + 1) = b from h1, ucp_3 (by omega)]
    simp
theorem JnU.step {j : Nat} (h : JnU B n a b o i ig ig') (hj : (j : Int) = 3 * (n : Int) + i) (h0 : 0 ≤ i) (hi : i < 3) (hv : v = ucp (opU o a b) i) : JnU B n a b o (i + 1) ig (up2 ig' (B + 36) j v) := by
  refine ⟨fun q hq => (up2_j (by omega)).trans (h.1 q hq), fun k hk => ?_, fun k hk => (up2_j (by omega)).trans (h.2.2 k hk)⟩
  by_cases e : 3 * n + k = j
  · rw [e, up2_eq, hv, if_pos (by omega), show i = (k : Int) by omega]
  · rw [up2_j e, h.2.1 k hk]
    by_cases c : (k : Int) < i
    · rw [if_pos c, if_pos (by omega)]
    · rw [if_neg c, if_neg (by omega)]
theorem JnU.stay (h : JnU B n a b o i ig ig') (ho : ¬ (o = 7 ∨ o = 8)) : JnU B n a b o (i + 1) ig ig' := by
  have e : opU o a b = a := by unfold opU; rw [if_neg (by omega), if_neg (by omega)]
  refine ⟨h.1, fun k hk => ?_, h.2.2⟩
  rw [h.2.1 k hk, e]
  split <;> split <;> rfl
theorem JnU.ag {ig2 : sI} (h : JnU B n a b o i ig ig') (e : ∀ j, ig2 (B + 36) j = ig' (B + 36) j) : JnU B n a b o i ig ig2 := ⟨fun j hj => (e j).trans (h.1 j hj), fun k hk => (e _).trans (h.2.1 k hk), fun k hk => (e _).trans (h.2.2 k hk)⟩
theorem JnU.l (h : JnU B n a b o i ig ig') (h0 : 0 ≤ i) (hi : i < 3) {j : Nat} (hj : (j : Int) = 3 * (n : Int) + i) : ig' (B + 36) j = ucp a i := by
  have q := h.2.1 i.toNat (by omega)
  rw [if_neg (by omega), show ((i.toNat : Nat) : Int) = i by omega, show 3 * n + i.toNat = j by omega] at q
  exact q
theorem JnU.r (h : JnU B n a b o i ig ig') (h0 : 0 ≤ i) (hi : i < 3) {j : Nat} (hj : (j : Int) = 3 * ((n : Int) + 1) + i) : ig' (B + 36) j = ucp b i := by
  have q := h.2.2 i.toNat (by omega)
  rw [show ((i.toNat : Nat) : Int) = i by omega, show 3 * (n + 1) + i.toNat = j by omega] at q
  exact q
theorem JnU.fin (h : JnU B k.length a b o 3 ig ig') (hs : SkU B (b :: a :: k) ig) (h6 : (ig' (B + 32) 6).toInt = (k.length : Int) + 1) : SkU B (opU o a b :: k) ig' := by
  refine ⟨by rw [h6, List.length_cons]; omega, fun i hi => ?_⟩
  rw [List.length_cons] at hi
  cases i with
  | zero =>
    have e : (opU o a b :: k).length - 1 - 0 = k.length := by simp
    rw [e]
    exact un3_of (fun q hq => by rw [h.2.1 q hq, if_pos (by omega)]; rfl)
  | succ i =>
    have e : (opU o a b :: k).length - 1 - (i + 1) = k.length - 1 - i := by simp; omega
    rw [e, List.getElem_cons_succ]
    have q := hs.2 (i + 2) (by simp; omega)
    rw [show (b :: a :: k).length - 1 - (i + 2) = k.length - 1 - i by simp; omega] at q
    rw [show k[i] = (b :: a :: k)[i + 2]'(by simp; omega) from rfl, ← q]
    exact un3_cg (fun q hq => h.1 _ (by omega))
theorem JcU.zero : JcU a b o 0 c c := ⟨fun _ => rfl, fun _ => ⟨Or.inl, fun h => h.elim id fun ⟨k, hk, _⟩ => absurd hk (by omega)⟩⟩
theorem JcU.mul (h : JcU a b o i c c') (ho : o = 7 ∨ o = 8) : JcU a b o (i + 1) c c' := ⟨h.1, fun w => absurd ho w⟩
theorem JcU.same (h : JcU a b o i c c') (ho : ¬ (o = 7 ∨ o = 8)) (h0 : 0 ≤ i) (hi : i < 3) (e : ucp a i = ucp b i) : JcU a b o (i + 1) c c' := by
  refine ⟨h.1, fun _ => ?_⟩
  rw [h.2 ho]
  refine or_congr Iff.rfl ⟨fun ⟨k, h1, h2, h3⟩ => ⟨k, by omega, h2, h3⟩, fun ⟨k, h1, h2, h3⟩ => ⟨k, ?_, h2, h3⟩⟩
  by_cases w : (k : Int) = i
  · rw [w] at h3; exact absurd e h3
  · omega
theorem JcU.diff (h : JcU a b o i c c') (ho : ¬ (o = 7 ∨ o = 8)) (h0 : 0 ≤ i) (hi : i < 3) (e : ucp a i ≠ ucp b i) {d : Bool} (hd : d = true) : JcU a b o (i + 1) c d := by
  refine ⟨fun w => absurd w ho, fun _ => ⟨fun _ => Or.inr ⟨i.toNat, by omega, by omega, by rw [show ((i.toNat : Nat) : Int) = i by omega]; exact e⟩, fun _ => hd⟩⟩
theorem JcU.fin (h : JcU a b o 3 c c') : c' = opC o a b c := by
  unfold opC
  by_cases ho : o = 7 ∨ o = 8
  · rw [if_pos ho]; exact h.1 ho
  · rw [if_neg ho]
    rw [Bool.eq_iff_iff, h.2 ho, Bool.or_eq_true, decide_eq_true_eq]
    refine or_congr Iff.rfl ⟨fun ⟨k, _, _, h3⟩ e => h3 (by rw [e]), fun w => ?_⟩
    apply Classical.byContradiction
    intro hn
    refine w (un_ext (fun k h0 h3 => ?_))
    apply Classical.byContradiction
    intro w2
    exact hn ⟨k.toNat, by omega, by omega, by rw [show ((k.toNat : Nat) : Int) = k by omega]; exact w2⟩
theorem opU_7 (ho : o = 7) : ucp (opU o a b) i = ucp a i + ucp b i := by
  unfold opU
  rw [if_pos ho]
  unfold ucp
  split
  · rfl
  · split <;> rfl
theorem opU_8 (ho : o = 8) : ucp (opU o a b) i = ucp a i - ucp b i := by
  unfold opU
  rw [if_neg (by omega), if_pos ho]
  unfold ucp
  split
  · rfl
  · split <;> rfl
end SKU
/-- one formula's unit is worked out -/
def WkC (B : Nat) (σ : Sg) (x : Nat) (ig ig' : sI) : Prop := (∀ j, j ≠ x → uR B ig' j = uR B ig j ∧ clR B ig' j = clR B ig j) ∧ (uR B ig' x, clR B ig' x) = rsU σ (uR B ig) (x : Int) (fmO (σ x))
/-- the first i of the order are worked out -/
def UOI (σ : Sg) (od : Nat → Nat) (i : Nat) (u : Us) (c : Cs) : Prop := (∀ p, p < 288 → ¬ inO od i p → u p = unC (σ p) ∧ c p = false) ∧ ∀ j, j < i → (Rg σ (od j) → u (od j) = u0 ∧ c (od j) = false) ∧ (¬ Rg σ (od j) → (u (od j), c (od j)) = rsU σ u ((od j : Nat) : Int) (fmO (σ (od j))))
def UV (B : Nat) (σ : Sg) (ν : Nat) (ig : sI) : Prop := (-1 ≤ (ig (B + 32) 8).toInt ∧ (ig (B + 32) 8).toInt ≤ (ν : Int)) ∧ ((ig (B + 32) 8).toInt = (ν : Int) → UOk σ (uR B ig) (clR B ig))
section UOS
variable {b B : Nat} {σ σ' : Sg} {π : Ps} {ν ν' : Nat} {od : Nat → Nat} {i n : Nat} {kd kd' : sK} {ig ig' : sI} {rg rg' : sR} {lg lg' : sG} {u u' : Us} {c c' : Cs} {T : List Nat}
theorem unC_f (hW : WS σ π) {p : Nat} (hp : p < 288) (hk : kdO (σ p) ≠ 1) : unC (σ p) = u0 := by
  have e := ((hW.1 p hp).2 hk).1
  unfold unC
  rw [e]
  rfl
theorem UOI.step (h : UOI σ od i u c) (hO : OkO σ od n) (hW : WS σ π) (hi : i < n) (w1 : ∀ j, j ≠ od i → u' j = u j ∧ c' j = c j) (w2 : Rg σ (od i) → u' (od i) = u (od i) ∧ c' (od i) = c (od i)) (w3 : ¬ Rg σ (od i) → (u' (od i), c' (od i)) = rsU σ u ((od i : Nat) : Int) (fmO (σ (od i)))) : UOI σ od (i + 1) u' c' := by
  obtain ⟨o1, o2, o3, o4⟩ := hO
  obtain ⟨h1, h2⟩ := h
  have cg : ∀ j, j ≤ i → ¬ Rg σ (od j) → rsU σ u ((od j : Nat) : Int) (fmO (σ (od j))) = rsU σ u' ((od j : Nat) : Int) (fmO (σ (od j))) := fun j hj hr => by
    have fj := o1 j (by omega)
    refine rsU_cg (((hW.1 _ fj.1).1 fj.2).1) (fun q hq => ?_)
    have rq : Rd σ (od j) q := ⟨fj.1, fj.2, hq⟩
    have ne : q ≠ od i := by
      rintro rfl
      obtain ⟨k, hk, e⟩ := o4 j (by omega) hr _ rq (o1 i hi)
      exact o2 k i (by omega) hi e
    exact ((w1 q ne).1).symm
  refine ⟨fun p hp hn => ?_, fun j hj => ?_⟩
  · rw [inO.s] at hn
    have ne : p ≠ od i := fun e => hn (Or.inr e)
    rw [(w1 p ne).1, (w1 p ne).2]
    exact h1 p hp fun w => hn (Or.inl w)
  · by_cases e : j = i
    · subst e
      refine ⟨fun hr => ?_, fun hr => (w3 hr).trans (cg j (Nat.le_refl j) hr)⟩
      have fj := o1 j hi
      rw [(w2 hr).1, (w2 hr).2]
      have q := h1 (od j) fj.1 (fun ⟨k, hk, e⟩ => o2 k j hk hi e)
      rw [unC_f hW fj.1 (by rw [fj.2]; decide)] at q
      exact q
    · have ne : od j ≠ od i := o2 j i (by omega) hi
      rw [(w1 _ ne).1, (w1 _ ne).2]
      exact ⟨(h2 j (by omega)).1, fun hr => ((h2 j (by omega)).2 hr).trans (cg j (by omega) hr)⟩
theorem UOI.fin (h : UOI σ od n u c) (hO : OkO σ od n) : UOk σ u c := fun p hp => by
  obtain ⟨o1, o2, o3, o4⟩ := hO
  refine ⟨fun k => h.1 p hp fun ⟨j, hj, e⟩ => k (e ▸ (o1 j hj).2), fun k r => ?_, fun k r => ?_⟩
  · obtain ⟨j, hj, e⟩ := o3 p ⟨hp, k⟩
    subst e
    exact (h.2 j hj).1 r
  · obtain ⟨j, hj, e⟩ := o3 p ⟨hp, k⟩
    subst e
    exact (h.2 j hj).2 r
theorem rows_u (e3 : ∀ j, ig' (B + 33) j = ig (B + 33) j) (e4 : ∀ j, ig' (B + 34) j = ig (B + 34) j) : uR B ig' = uR B ig ∧ clR B ig' = clR B ig := by
  unfold uR clR
  rw [show ig' (B + 33) = ig (B + 33) from funext e3, show ig' (B + 34) = ig (B + 34) from funext e4]
  exact ⟨rfl, rfl⟩
theorem UV.nx (h : UV B σ ν ig) (hN : Nx b B none kd ig rg lg kd' ig' rg' lg') (hb : b.testBit 5 = true := by decide) : UV B σ ν ig' := by
  have r : ∀ c j, gO c j = 5 → ig' (B + c) j = ig (B + c) j := fun c j hc => hN.2.2.2.1 c j (by rw [hc]; exact hb)
  obtain ⟨e1, e2⟩ := rows_u (fun j => r 33 j rfl) (fun j => r 34 j rfl)
  unfold UV
  rw [r 32 8 rfl, e1, e2]
  exact h
theorem UV.step (h : UV B σ ν ig) (hN : Nx b B none kd ig rg lg kd' ig' rg' lg') (hb : b.testBit 5 = true := by decide) : UV B σ' (ν + 1) ig' := by
  obtain ⟨h1, -⟩ := h.nx hN hb
  exact ⟨by omega, fun q => by omega⟩
theorem UV.of (h1 : UOk σ (uR B ig) (clR B ig)) (h3 : (ig (B + 32) 8).toInt = (ν : Int)) : UV B σ ν ig := ⟨by omega, fun _ => h1⟩
theorem UV.post (h : UV B σ ν ig) (hN : Nx b B none kd ig rg lg kd' ig' rg' lg') (hv : ν' = ν + 1 ∨ (ν' = ν ∧ σ' = σ)) (hb : b.testBit 5 = true := by decide) : UV B σ' ν' ig' := by
  rcases hv with rfl | ⟨rfl, rfl⟩
  · exact h.step hN hb
  · exact h.nx hN hb
end UOS
theorem WkC.mk {B x : Nat} {σ : Sg} {ig g : sI} {x0 : Un} {cz : Bool} {v : Int32} {h : Int} {M : Fm} (e1 : ∀ j, ¬ (3 * x ≤ j ∧ j < 3 * x + 3) → g (B + 33) j = ig (B + 33) j) (e2 : ∀ k : Nat, k < 3 → g (B + 33) (3 * x + k) = ucp x0 (k : Int)) (e3 : ∀ j, g (B + 34) j = ig (B + 34) j) (hv : czB v = cz) (hM : M = fmO (σ x)) (hh : h = (x : Int)) (hu : (uvA σ (uR B ig) h M M.length).1 = [x0]) (hc : (uvA σ (uR B ig) h M M.length).2 = cz) : WkC B σ x ig (up2 g (B + 34) x v) := by
  subst hM hh
  have e33 : up2 g (B + 34) x v (B + 33) = g (B + 33) := funext fun j => up2_a (by omega)
  have hw : uR B (up2 g (B + 34) x v) = un3 (g (B + 33)) := by unfold uR; rw [e33]
  refine ⟨fun j hj => ⟨?_, ?_⟩, ?_⟩
  · rw [hw]
    exact un3_cg (fun k hk => e1 _ (by omega))
  · show czB (up2 g (B + 34) x v (B + 34) j) = czB (ig (B + 34) j)
    rw [up2_j hj, e3]
  · rw [hw]
    rw [uvA_end] at hu hc
    unfold rsU
    rw [hu, hc]
    refine Prod.ext (un3_of e2) ?_
    show czB (up2 g (B + 34) x v (B + 34) x) = cz
    rw [up2_eq]; exact hv
/-- before the working-out -/
def InU (B : Nat) (σ : Sg) (n : Nat) (ig : sI) : Prop := ∀ p, p < n → uR B ig p = unC (σ p) ∧ clR B ig p = false
theorem InU.step {B n i1 i2 i3 : Nat} {σ : Sg} {g : sI} {a b c v : Int32} (h : InU B σ n g) (h1 : i1 = 3 * n) (h2 : i2 = 3 * n + 1) (h3 : i3 = 3 * n + 2) (ha : a.toInt = (σ n).2.1.1) (hb : b.toInt = (σ n).2.1.2.1) (hc : c.toInt = (σ n).2.1.2.2) (hv : v.toInt = 0) : InU B σ (n + 1) (up2 (up2 (up2 (up2 g (B + 33) i1 a) (B + 33) i2 b) (B + 33) i3 c) (B + 34) n v) := fun p hp => by
  subst h1 h2 h3
  have e33 : ∀ j, up2 (up2 (up2 (up2 g (B + 33) (3 * n) a) (B + 33) (3 * n + 1) b) (B + 33) (3 * n + 2) c) (B + 34) n v (B + 33) j = up2 (up2 (up2 g (B + 33) (3 * n) a) (B + 33) (3 * n + 1) b) (B + 33) (3 * n + 2) c (B + 33) j := fun j => up2_a (by omega)
  have e34 : ∀ j, up2 (up2 (up2 (up2 g (B + 33) (3 * n) a) (B + 33) (3 * n + 1) b) (B + 33) (3 * n + 2) c) (B + 34) n v (B + 34) j = if j = n then v else g (B + 34) j := fun j => by
    by_cases e : j = n
    · rw [e, up2_eq, if_pos rfl]
    · rw [up2_j e, up2_a (by omega), up2_a (by omega), up2_a (by omega), if_neg e]
  unfold uR clR un3
  simp only [e33, e34]
  by_cases e : p = n
  · subst e
    rw [if_pos rfl]
    refine ⟨?_, czB_0 hv⟩
    unfold unC
    rw [← ha, ← hb, ← hc, up2_eq, up2_j (show 3 * p + 1 ≠ 3 * p + 2 by omega), up2_eq, up2_j (show 3 * p ≠ 3 * p + 2 by omega), up2_j (show 3 * p ≠ 3 * p + 1 by omega), up2_eq]
    simp
  · rw [if_neg e, up2_j (by omega), up2_j (by omega), up2_j (by omega), up2_j (by omega), up2_j (by omega), up2_j (by omega), up2_j (by omega), up2_j (by omega), up2_j (by omega)]
    exact h p (by omega)
set_option maxHeartbeats 4000000 in
set_option maxRecDepth 100000 in
theorem t_X9_exponentAtE {τ : Tp} (l : Launch) (B : Nat) (D : va_G) (cA : Nat → ClassId) (kd : sK) (ig : sI) (rg : sR) (lg : sG) (sz : Nat) (x : Int32) (y : Int32) (hy0 : 0 ≤ y.toInt ∧ y.toInt ≤ 2) (hI : IC τ B kd ig rg) : MC l B D cA yX9_exponentAt cX9_exponentAt 3 (some .int) (rL 1 0 0) [.ref (B + 32), .int x, .int y] kd ig rg lg sz (Pu kd ig rg lg sz (fun r => ∃ z : Int32, r = some (.int z) ∧ z = ucp (unA (uR B ig) x.toInt) y.toInt)) := by
  refine MC.of (own := RX9) (by decide +kernel) rfl (Nat.le_of_ble_eq_true rfl) ?_
  intro p e s m args below meth c ls C hr hlk hnm hw hsz hl
  have hx := C.1.1
  have hb := C.1.2.1
  have hown := C.1.2.2.2.1
  have hts := C.1.2.2.2.2
  have hl : lv_has ls 3 [(0, .ref (B + 32)), (1, .int x), (2, .int y)] := hl
  have hsh := hI.sh
  have hrs := hI.rs
  refine lv_iload_n hx hb dX9_exponentAt_0 rfl (lv_at hl 1 rfl) ?_
  refine r_callN (As := [.int x]) (rest := []) C hw (t_X11_onSheet l B D cA kd ig rg lg _ x  hI) sn_X9_72 rfl hl.1 rfl (Nat.le_of_ble_eq_true rfl) ⟨Nat.le_of_ble_eq_true rfl, Nat.le_of_ble_eq_true rfl⟩ ⟨Nat.le_of_ble_eq_true rfl, Nat.le_of_ble_eq_true rfl⟩ dX9_exponentAt_1 (fun r5 kd1 ig2 rg3 lg4 H locs hw hH hp6 => ?_)
  obtain ⟨rfl, rfl, rfl, rfl, hzhp6, hrhp6⟩ := hp6
  have hsz := hzhp6.trans hsz
  obtain ⟨z7, rfl, hz7⟩ := hrhp6
  refine z_eq (tgt := 29) hx hb dX9_exponentAt_4 (by decide) (fun c4 => ?_) (fun c4 => ?_)
  · refine lv_iconst (v := 0) hx hb dX9_exponentAt_29 (by decide) (ti_c 0 (by decide) fun z8 hz8 => ?_)
    exact r_iret C hw hr hlk rfl (Nat.le_of_ble_eq_true rfl) (Nat.le_of_ble_eq_true rfl) dX9_exponentAt_30 ⟨rfl, rfl, rfl, rfl, hsz, ⟨_, rfl, (by rw [unA_off (by omega), ucp_0]; exact i32_z (by omega))⟩⟩
  · refine lv_iload_n hx hb dX9_exponentAt_7 rfl (lv_at hl 2 rfl) ?_
    refine z_lt (tgt := 29) hx hb dX9_exponentAt_8 (by decide) (fun c8 => ?_) (fun c8 => ?_)
    · exact absurd c8 (by omega)
    · refine lv_iload_n hx hb dX9_exponentAt_11 rfl (lv_at hl 2 rfl) ?_
      refine lv_iconst (v := 3) hx hb dX9_exponentAt_12 (by decide) (ti_c 3 (by decide) fun z9 hz9 => ?_)
      refine b_ge (tgt := 29) hx hb dX9_exponentAt_13 (by decide) (fun c13 => ?_) (fun c13 => ?_)
      · exact absurd c13 (by omega)
      · refine lv_aload_n hx hb dX9_exponentAt_16 rfl (lv_at hl 0 rfl) ?_
        refine r_get C hw (hsh 32 _ rfl) fl_X9_19 (oV_r rfl (hrs (32, 2, 33) (by decide))) dX9_exponentAt_17 ?_
        refine lv_iload_n hx hb dX9_exponentAt_20 rfl (lv_at hl 1 rfl) ?_
        refine lv_iconst (v := 3) hx hb dX9_exponentAt_21 (by decide) (ti_c 3 (by decide) fun z10 hz10 => ?_)
        refine lv_imul hx hb dX9_exponentAt_22 (tc_mulR 3 hz10 fun z11 hz11 => ?_)
        first | replace hz11 := hz11 (by omega) | clear hz11
        refine lv_iload_n hx hb dX9_exponentAt_23 rfl (lv_at hl 2 rfl) ?_
        refine lv_iadd hx hb dX9_exponentAt_24 (tc_add fun z12 hz12 => ?_)
        first | replace hz12 := hz12 (by omega) | clear hz12
        refine r_iald C hw (hsh 33 _ rfl) (by omega) (by omega) dX9_exponentAt_25 (ti_c (ig (B + 33) z12.toInt.toNat).toInt rfl fun z13 hz13 => ?_)
        refine lv_goto (tgt := 30) hx hb dX9_exponentAt_26 (by decide) ?_
        exact r_iret C hw hr hlk rfl (Nat.le_of_ble_eq_true rfl) (Nat.le_of_ble_eq_true rfl) dX9_exponentAt_30 ⟨rfl, rfl, rfl, rfl, hsz, ⟨_, rfl, (by rw [unA_on (by omega)]; unfold uR; rw [ucp_3 (by omega)]; exact i32_inj (by rw [hz13, show z12.toInt.toNat = 3 * x.toInt.toNat + y.toInt.toNat by omega]))⟩⟩

set_option maxHeartbeats 4000000 in
set_option maxRecDepth 100000 in
theorem t_X9_areSameE {τ : Tp} (l : Launch) (B : Nat) (D : va_G) (cA : Nat → ClassId) (kd : sK) (ig : sI) (rg : sR) (lg : sG) (sz : Nat) (x : Int32) (y : Int32) (hI : IC τ B kd ig rg) : MC l B D cA yX9_areSame cX9_areSame 4 (some .boolean) (rL 2 0 0) [.ref (B + 32), .int x, .int y] kd ig rg lg sz (Pu kd ig rg lg sz (fun r => ∃ z : Int32, r = some (.int z) ∧ ((z.toInt = 1 ∧ (unA (uR B ig) x.toInt) = (unA (uR B ig) y.toInt)) ∨ (z.toInt = 0 ∧ ¬ (unA (uR B ig) x.toInt) = (unA (uR B ig) y.toInt))))) := by
  refine MC.of (own := RX9) (by decide +kernel) rfl (Nat.le_of_ble_eq_true rfl) ?_
  intro p e s m args below meth c ls C hr hlk hnm hw hsz hl
  have hx := C.1.1
  have hb := C.1.2.1
  have hown := C.1.2.2.2.1
  have hts := C.1.2.2.2.2
  have hl : lv_has ls 4 [(0, .ref (B + 32)), (1, .int x), (2, .int y)] := hl
  have hsh := hI.sh
  have hrs := hI.rs
  refine lv_iconst (v := 0) hx hb dX9_areSame_0 (by decide) (ti_c 0 (by decide) fun z1 hz1 => ?_)
  refine lv_istore_n (lv' := [(3, .int z1), (0, .ref (B + 32)), (1, .int x), (2, .int y)]) hx hb dX9_areSame_1 rfl hl (by decide) rfl (fun ls hl => ?_)
  have L2 : ∀ (n : Nat) (ls : Array Slot) (H : Heap) (locs : List Loc) (v2 : Int32), lv_has ls 4 [(3, .int v2), (0, .ref (B + 32)), (1, .int x), (2, .int y)] → WD B D cA s.heap kd ig rg lg H locs → H.size = sz → (0 ≤ v2.toInt) → (v2.toInt ≤ 3) → (∀ k : Int, 0 ≤ k → k < v2.toInt → ucp (unA (uR B ig) x.toInt) k = ucp (unA (uR B ig) y.toInt) k) → 3 - v2.toInt < (n : Int) → W p l e (rL 2 0 0) s m args below meth c H locs 0 0 (MQ below (QcW B D cA (Pu kd ig rg lg sz (fun r => ∃ z : Int32, r = some (.int z) ∧ ((z.toInt = 1 ∧ (unA (uR B ig) x.toInt) = (unA (uR B ig) y.toInt)) ∨ (z.toInt = 0 ∧ ¬ (unA (uR B ig) x.toInt) = (unA (uR B ig) y.toInt)))))) args s 0 0 (fun q => B ≤ q)) (F0 m 2 ls []) := by
    intro n2
    induction n2 with
    | zero => intro ls H locs v2 hl hw hsz g2_0 g2_1 g2_2 hmu; exact absurd hmu (by omega)
    | succ n2 ih2 =>
      intro ls H locs v2 hl hw hsz g2_0 g2_1 g2_2 hmu
      refine lv_iload_n hx hb dX9_areSame_2 rfl (lv_at hl 0 rfl) ?_
      refine lv_iconst (v := 3) hx hb dX9_areSame_3 (by decide) (ti_c 3 (by decide) fun z3 hz3 => ?_)
      refine b_ge (tgt := 30) hx hb dX9_areSame_4 (by decide) (fun c4 => ?_) (fun c4 => ?_)
      · refine lv_iconst (v := 1) hx hb dX9_areSame_30 (by decide) (ti_c 1 (by decide) fun z4 hz4 => ?_)
        exact r_iret C hw hr hlk (nar_b (by omega)) (Nat.le_of_ble_eq_true rfl) (Nat.le_of_ble_eq_true rfl) dX9_areSame_31 ⟨rfl, rfl, rfl, rfl, hsz, ⟨_, rfl, Or.inl ⟨by omega, un_ext (fun k k0 k1 => g2_2 k k0 (by omega))⟩⟩⟩
      · refine lv_aload_n hx hb dX9_areSame_7 rfl (lv_at hl 1 rfl) ?_
        refine lv_iload_n hx hb dX9_areSame_8 rfl (lv_at hl 2 rfl) ?_
        refine lv_iload_n hx hb dX9_areSame_9 rfl (lv_at hl 0 rfl) ?_
        refine r_callV (As := [.int x, .int v2]) (rest := []) C hw (t_X9_exponentAtE l B D cA kd ig rg lg _ x v2 (by omega) hI) sv_X9_123 (hsh 32 _ rfl) rfl hl.1 rfl (Nat.le_of_ble_eq_true rfl) ⟨Nat.le_of_ble_eq_true rfl, Nat.le_of_ble_eq_true rfl⟩ ⟨Nat.le_of_ble_eq_true rfl, Nat.le_of_ble_eq_true rfl⟩ dX9_areSame_10 (fun r9 kd5 ig6 rg7 lg8 H locs hw hH hp10 => ?_)
        obtain ⟨rfl, rfl, rfl, rfl, hzhp10, hrhp10⟩ := hp10
        have hsz := hzhp10.trans hsz
        obtain ⟨z11, rfl, hz11⟩ := hrhp10
        refine lv_aload_n hx hb dX9_areSame_13 rfl (lv_at hl 1 rfl) ?_
        refine lv_iload_n hx hb dX9_areSame_14 rfl (lv_at hl 3 rfl) ?_
        refine lv_iload_n hx hb dX9_areSame_15 rfl (lv_at hl 0 rfl) ?_
        refine r_callV (As := [.int y, .int v2]) (rest := [.int z11]) C hw (t_X9_exponentAtE l B D cA kd ig rg lg _ y v2 (by omega) hI) sv_X9_123 (hsh 32 _ rfl) rfl hl.1 rfl (Nat.le_of_ble_eq_true rfl) ⟨Nat.le_of_ble_eq_true rfl, Nat.le_of_ble_eq_true rfl⟩ ⟨Nat.le_of_ble_eq_true rfl, Nat.le_of_ble_eq_true rfl⟩ dX9_areSame_16 (fun r16 kd12 ig13 rg14 lg15 H locs hw hH hp17 => ?_)
        obtain ⟨rfl, rfl, rfl, rfl, hzhp17, hrhp17⟩ := hp17
        have hsz := hzhp17.trans hsz
        obtain ⟨z18, rfl, hz18⟩ := hrhp17
        refine b_eq (tgt := 24) hx hb dX9_areSame_19 (by decide) (fun c19 => ?_) (fun c19 => ?_)
        · refine tc_inc hx hb dX9_areSame_24 hl (k := 0) rfl (by decide) (by decide) (fun z19 hz19 ls hl => ?_)
          first | replace hz19 := hz19 (by omega) | clear hz19
          have hl : lv_has ls 4 [(3, .int z19), (0, .ref (B + 32)), (1, .int x), (2, .int y)] := hl
          refine lv_goto (tgt := 2) hx hb dX9_areSame_27 (by decide) ?_
          exact ih2 ls H locs z19 (lv_sub hl [0, 1, 2, 3] rfl) hw hsz (by omega) (by omega) (fun k k0 k1 => by by_cases e9 : k = v2.toInt; (rw [e9, ← hz11, ← hz18]; exact i32_inj (by omega)); exact g2_2 k k0 (by omega)) (by omega)
        · refine lv_iconst (v := 0) hx hb dX9_areSame_22 (by decide) (ti_c 0 (by decide) fun z20 hz20 => ?_)
          exact r_iret C hw hr hlk (nar_b (by omega)) (Nat.le_of_ble_eq_true rfl) (Nat.le_of_ble_eq_true rfl) dX9_areSame_23 ⟨rfl, rfl, rfl, rfl, hsz, ⟨_, rfl, Or.inr ⟨by omega, fun w9 => c19 (by rw [hz11, hz18, w9])⟩⟩⟩
  exact L2 ((3 - z1.toInt) + 1).toNat ls s.heap [] z1 (lv_sub hl [0, 1, 2, 3] rfl) hw hsz (by omega) (by omega) (fun k k0 k1 => absurd k1 (by omega)) (by omega)

set_option maxHeartbeats 4000000 in
set_option maxRecDepth 100000 in
theorem t_X9_clashesAtE {τ : Tp} (l : Launch) (B : Nat) (D : va_G) (cA : Nat → ClassId) (kd : sK) (ig : sI) (rg : sR) (lg : sG) (sz : Nat) (x : Int32) (hx0 : 0 ≤ x.toInt ∧ x.toInt < 288) (hI : IC τ B kd ig rg) : MC l B D cA yX9_clashesAt cX9_clashesAt 2 (some .boolean) (rL 1 0 0) [.ref (B + 32), .int x] kd ig rg lg sz (Pu kd ig rg lg sz (fun r => ∃ z : Int32, r = some (.int z) ∧ ((z.toInt = 1 ∧ clR B ig x.toInt.toNat = true) ∨ (z.toInt = 0 ∧ ¬ clR B ig x.toInt.toNat = true)))) := by
  refine MC.of (own := RX9) (by decide +kernel) rfl (Nat.le_of_ble_eq_true rfl) ?_
  intro p e s m args below meth c ls C hr hlk hnm hw hsz hl
  have hx := C.1.1
  have hb := C.1.2.1
  have hown := C.1.2.2.2.1
  have hts := C.1.2.2.2.2
  have hl : lv_has ls 2 [(0, .ref (B + 32)), (1, .int x)] := hl
  have hsh := hI.sh
  have hrs := hI.rs
  refine lv_iload_n hx hb dX9_clashesAt_0 rfl (lv_at hl 1 rfl) ?_
  refine r_callN (As := [.int x]) (rest := []) C hw (t_X11_onSheet l B D cA kd ig rg lg _ x  hI) sn_X9_72 rfl hl.1 rfl (Nat.le_of_ble_eq_true rfl) ⟨Nat.le_of_ble_eq_true rfl, Nat.le_of_ble_eq_true rfl⟩ ⟨Nat.le_of_ble_eq_true rfl, Nat.le_of_ble_eq_true rfl⟩ dX9_clashesAt_1 (fun r5 kd1 ig2 rg3 lg4 H locs hw hH hp6 => ?_)
  obtain ⟨rfl, rfl, rfl, rfl, hzhp6, hrhp6⟩ := hp6
  have hsz := hzhp6.trans hsz
  obtain ⟨z7, rfl, hz7⟩ := hrhp6
  refine z_eq (tgt := 20) hx hb dX9_clashesAt_4 (by decide) (fun c4 => ?_) (fun c4 => ?_)
  · exact absurd c4 (by omega)
  · refine lv_aload_n hx hb dX9_clashesAt_7 rfl (lv_at hl 0 rfl) ?_
    refine r_get C hw (hsh 32 _ rfl) fl_X9_23 (oV_r rfl (hrs (32, 3, 34) (by decide))) dX9_clashesAt_8 ?_
    refine lv_iload_n hx hb dX9_clashesAt_11 rfl (lv_at hl 1 rfl) ?_
    refine r_zald C hw (hsh 34 _ rfl) (by omega) (by omega) dX9_clashesAt_12 (ti_c (ig (B + 34) x.toInt.toNat).toInt rfl fun z8 hz8 => ?_)
    refine z_eq (tgt := 20) hx hb dX9_clashesAt_13 (by decide) (fun c13 => ?_) (fun c13 => ?_)
    · refine lv_iconst (v := 0) hx hb dX9_clashesAt_20 (by decide) (ti_c 0 (by decide) fun z9 hz9 => ?_)
      exact r_iret C hw hr hlk (nar_b (by omega)) (Nat.le_of_ble_eq_true rfl) (Nat.le_of_ble_eq_true rfl) dX9_clashesAt_21 ⟨rfl, rfl, rfl, rfl, hsz, ⟨_, rfl, Or.inr ⟨by omega, fun w9 => czB_t.mp w9 (by rw [← hz8]; omega)⟩⟩⟩
    · refine lv_iconst (v := 1) hx hb dX9_clashesAt_16 (by decide) (ti_c 1 (by decide) fun z10 hz10 => ?_)
      refine lv_goto (tgt := 21) hx hb dX9_clashesAt_17 (by decide) ?_
      exact r_iret C hw hr hlk (nar_b (by omega)) (Nat.le_of_ble_eq_true rfl) (Nat.le_of_ble_eq_true rfl) dX9_clashesAt_21 ⟨rfl, rfl, rfl, rfl, hsz, ⟨_, rfl, Or.inl ⟨by omega, czB_1 (by rw [← hz8]; omega)⟩⟩⟩

set_option maxHeartbeats 4000000 in
set_option maxRecDepth 100000 in
theorem t_X9_pushUnitOfE {τ : Tp} (l : Launch) (B : Nat) (D : va_G) (cA : Nat → ClassId) (kd : sK) (ig : sI) (rg : sR) (lg : sG) (sz : Nat) (x : Int32) (k : List Un) (hk : SkU B k ig) (h32 : k.length < 32) (hI : IC τ B kd ig rg) : MC l B D cA yX9_pushUnitOf cX9_pushUnitOf 3 none (rL 2 0 0) [.ref (B + 32), .int x] kd ig rg lg sz (PI 990 τ B none kd ig rg lg (fun r kd' ig' rg' lg' => (r = none ∧ (SkU B ((unA (uR B ig) x.toInt) :: k) ig' ∧ Fo B [32, 36] ig lg ig' lg' ∧ (ig' (B + 32) 7).toInt = (ig (B + 32) 7).toInt ∧ (ig' (B + 32) 8).toInt = (ig (B + 32) 8).toInt)))) := by
  refine MC.of (own := RX9) (by decide +kernel) rfl (Nat.le_of_ble_eq_true rfl) ?_
  intro p e s m args below meth c ls C hr hlk hnm hw hsz hl
  have hx := C.1.1
  have hb := C.1.2.1
  have hown := C.1.2.2.2.1
  have hts := C.1.2.2.2.2
  have hl : lv_has ls 3 [(0, .ref (B + 32)), (1, .int x)] := hl
  have hN : Nx 990 B none kd ig rg lg kd ig rg lg := Nx.rf
  have hsh := hI.sh
  have hrs := hI.rs
  have hO : Fo B [32, 36] ig lg ig lg := Fo.rf
  have hk1 := hk.1
  refine lv_aload_n hx hb dX9_pushUnitOf_0 rfl (lv_at hl 0 rfl) ?_
  refine r_get C hw (hsh 32 _ rfl) fl_X9_87 (oV_i rfl) dX9_pushUnitOf_1 (ti_c (ig (B + 32) 6).toInt rfl fun z1 hz1 => ?_)
  have k2 : 0 ≤ (ig (B + 32) 6).toInt ∧ (ig (B + 32) 6).toInt ≤ 32 := hI.i 32 6 (by decide)
  refine lv_bipush (v := 32) hx hb dX9_pushUnitOf_4 (by decide) (ti_c 32 (by decide) fun z3 hz3 => ?_)
  refine b_ge (tgt := 51) hx hb dX9_pushUnitOf_6 (by decide) (fun c6 => ?_) (fun c6 => ?_)
  · exact absurd c6 (by omega)
  · refine lv_iconst (v := 0) hx hb dX9_pushUnitOf_9 (by decide) (ti_c 0 (by decide) fun z4 hz4 => ?_)
    refine lv_istore_n (lv' := [(2, .int z4), (0, .ref (B + 32)), (1, .int x)]) hx hb dX9_pushUnitOf_10 rfl hl (by decide) rfl (fun ls hl => ?_)
    have L11 : ∀ (n : Nat) (ls : Array Slot) (H : Heap) (locs : List Loc) (kd6 : sK) (ig7 : sI) (rg8 : sR) (lg9 : sG) (v5 : Int32), lv_has ls 3 [(2, .int v5), (0, .ref (B + 32)), (1, .int x)] → WD B D cA s.heap kd6 ig7 rg8 lg9 H locs → IC τ B kd6 ig7 rg8 → Nx 990 B none kd ig rg lg kd6 ig7 rg8 lg9 → (0 ≤ v5.toInt) → (v5.toInt ≤ 3) → ((ig7 (B + 32) 6).toInt = (k.length : Int)) → (PuU B k.length (unA (uR B ig) x.toInt) v5.toInt ig ig7) → (Fo B [32, 36] ig lg ig7 lg9) → ((ig7 (B + 32) 7).toInt = (ig (B + 32) 7).toInt) → ((ig7 (B + 32) 8).toInt = (ig (B + 32) 8).toInt) → 3 - v5.toInt < (n : Int) → W p l e (rL 2 0 0) s m args below meth c H locs 0 0 (MQ below (QcW B D cA (PI 990 τ B none kd ig rg lg (fun r kd' ig' rg' lg' => (r = none ∧ (SkU B ((unA (uR B ig) x.toInt) :: k) ig' ∧ Fo B [32, 36] ig lg ig' lg' ∧ (ig' (B + 32) 7).toInt = (ig (B + 32) 7).toInt ∧ (ig' (B + 32) 8).toInt = (ig (B + 32) 8).toInt))))) args s 0 0 (fun q => B ≤ q)) (F0 m 11 ls []) := by
      intro n11
      induction n11 with
      | zero => intro ls H locs kd6 ig7 rg8 lg9 v5 hl hw hI hN g11_0 g11_1 g11_2 g11_3 g11_4 g11_5 g11_6 hmu; exact absurd hmu (by omega)
      | succ n11 ih11 =>
        intro ls H locs kd6 ig7 rg8 lg9 v5 hl hw hI hN g11_0 g11_1 g11_2 g11_3 g11_4 g11_5 g11_6 hmu
        have hsh := hI.sh
        have hrs := hI.rs
        have hO := g11_4
        refine lv_iload_n hx hb dX9_pushUnitOf_11 rfl (lv_at hl 0 rfl) ?_
        refine lv_iconst (v := 3) hx hb dX9_pushUnitOf_12 (by decide) (ti_c 3 (by decide) fun z10 hz10 => ?_)
        refine b_ge (tgt := 41) hx hb dX9_pushUnitOf_13 (by decide) (fun c13 => ?_) (fun c13 => ?_)
        · refine lv_aload_n hx hb dX9_pushUnitOf_41 rfl (lv_at hl 1 rfl) ?_
          refine lv_dup hx hb dX9_pushUnitOf_42 rfl ?_
          refine r_get C hw (hsh 32 _ rfl) fl_X9_87 (oV_i rfl) dX9_pushUnitOf_43 (ti_c (ig7 (B + 32) 6).toInt rfl fun z11 hz11 => ?_)
          have k12 : 0 ≤ (ig7 (B + 32) 6).toInt ∧ (ig7 (B + 32) 6).toInt ≤ 32 := hI.i 32 6 (by decide)
          refine lv_iconst (v := 1) hx hb dX9_pushUnitOf_46 (by decide) (ti_c 1 (by decide) fun z13 hz13 => ?_)
          refine lv_iadd hx hb dX9_pushUnitOf_47 (tc_add fun z14 hz14 => ?_)
          first | replace hz14 := hz14 (by omega) | clear hz14
          refine r_puti C hw (hsh 32 _ rfl) fl_X9_87 rfl rfl rfl dX9_pushUnitOf_48 (fun H locs hH hw => ?_)
          have hO0 := hO
          obtain ⟨ig15, eig15⟩ : ∃ f, f = up2 ig7 (B + 32) 6 z14 := ⟨_, rfl⟩
          rw [← eig15] at hw
          have hN : Nx 990 B none kd ig rg lg kd6 ig15 rg8 lg9 := by rw [eig15]; exact hN.pi (by omega)
          have hI : IC τ B kd6 ig15 rg8 := by rw [eig15]; exact hI.pi (show okR (some (0, 32)) _ from ⟨by show (0 : Int) ≤ _; omega, by show _ ≤ (32 : Int); omega⟩)
          have wig15 : (ig15 (B + 32) 6).toInt = z14.toInt := by rw [eig15, up2_eq]
          have wig15_32_7 : (ig15 (B + 32) 7).toInt = (ig7 (B + 32) 7).toInt := by rw [eig15, up2_j (by decide)]
          have wig15_32_8 : (ig15 (B + 32) 8).toInt = (ig7 (B + 32) 8).toInt := by rw [eig15, up2_j (by decide)]
          have hO : Fo B [32, 36] ig lg ig15 lg9 := by rw [eig15]; exact hO0.pi (by decide)
          clear hO0
          exact r_vret C hw hr hlk (Nat.le_of_ble_eq_true rfl) (Nat.le_of_ble_eq_true rfl) dX9_pushUnitOf_51 ⟨hI, hN, ⟨rfl, ⟨(by rw [eig15]; exact PuU.fin (by have q9 := g11_3; rw [show v5.toInt = 3 by omega] at q9; exact q9) hk (by omega)), hO, by omega, by omega⟩⟩⟩
        · refine lv_aload_n hx hb dX9_pushUnitOf_16 rfl (lv_at hl 1 rfl) ?_
          refine r_get C hw (hsh 32 _ rfl) fl_X9_30 (oV_r rfl (hrs (32, 5, 36) (by decide))) dX9_pushUnitOf_17 ?_
          refine lv_aload_n hx hb dX9_pushUnitOf_20 rfl (lv_at hl 1 rfl) ?_
          refine r_get C hw (hsh 32 _ rfl) fl_X9_87 (oV_i rfl) dX9_pushUnitOf_21 (ti_c (ig7 (B + 32) 6).toInt rfl fun z16 hz16 => ?_)
          have k17 : 0 ≤ (ig7 (B + 32) 6).toInt ∧ (ig7 (B + 32) 6).toInt ≤ 32 := hI.i 32 6 (by decide)
          refine lv_iconst (v := 3) hx hb dX9_pushUnitOf_24 (by decide) (ti_c 3 (by decide) fun z18 hz18 => ?_)
          refine lv_imul hx hb dX9_pushUnitOf_25 (tc_mulR 3 hz18 fun z19 hz19 => ?_)
          first | replace hz19 := hz19 (by omega) | clear hz19
          refine lv_iload_n hx hb dX9_pushUnitOf_26 rfl (lv_at hl 0 rfl) ?_
          refine lv_iadd hx hb dX9_pushUnitOf_27 (tc_add fun z20 hz20 => ?_)
          first | replace hz20 := hz20 (by omega) | clear hz20
          refine lv_aload_n hx hb dX9_pushUnitOf_28 rfl (lv_at hl 1 rfl) ?_
          refine lv_iload_n hx hb dX9_pushUnitOf_29 rfl (lv_at hl 2 rfl) ?_
          refine lv_iload_n hx hb dX9_pushUnitOf_30 rfl (lv_at hl 0 rfl) ?_
          refine r_callV (As := [.int x, .int v5]) (rest := [.int z20, .ref (B + 36)]) C hw (t_X9_exponentAtE l B D cA kd6 ig7 rg8 lg9 _ x v5 (by omega) hI) sv_X9_123 (hsh 32 _ rfl) rfl hl.1 rfl (Nat.le_of_ble_eq_true rfl) ⟨Nat.le_of_ble_eq_true rfl, Nat.le_of_ble_eq_true rfl⟩ ⟨Nat.le_of_ble_eq_true rfl, Nat.le_of_ble_eq_true rfl⟩ dX9_pushUnitOf_31 (fun r25 kd21 ig22 rg23 lg24 H locs hw hH hp26 => ?_)
          obtain ⟨rfl, rfl, rfl, rfl, hzhp26, hrhp26⟩ := hp26
          obtain ⟨z27, rfl, hz27⟩ := hrhp26
          have hO8 := hO
          refine r_iast C hw (hsh 36 _ rfl) (by omega) (by omega) dX9_pushUnitOf_34 (fun H locs hH hw => ?_)
          have hO0 := hO
          obtain ⟨ig28, eig28⟩ : ∃ f, f = up2 ig7 (B + 36) z20.toInt.toNat z27 := ⟨_, rfl⟩
          rw [← eig28] at hw
          have hN : Nx 990 B none kd ig rg lg kd6 ig28 rg8 lg9 := by rw [eig28]; exact hN.pi (by omega)
          have hI : IC τ B kd6 ig28 rg8 := by rw [eig28]; exact hI.pi (show okR none _ from trivial)
          have wig28_32_6 : (ig28 (B + 32) 6).toInt = (ig7 (B + 32) 6).toInt := by rw [eig28, up2_a (by omega)]
          have wig28_32_7 : (ig28 (B + 32) 7).toInt = (ig7 (B + 32) 7).toInt := by rw [eig28, up2_a (by omega)]
          have wig28_32_8 : (ig28 (B + 32) 8).toInt = (ig7 (B + 32) 8).toInt := by rw [eig28, up2_a (by omega)]
          have hO : Fo B [32, 36] ig lg ig28 lg9 := by rw [eig28]; exact hO0.pi (by decide)
          clear hO0
          have pu9 : PuU B k.length (unA (uR B ig) x.toInt) (v5.toInt + 1) ig ig28 := by rw [eig28]; exact PuU.step g11_3 (by omega) (by omega) (by rw [hz27, uR.fo hO8])
          refine tc_inc hx hb dX9_pushUnitOf_35 hl (k := 0) rfl (by decide) (by decide) (fun z29 hz29 ls hl => ?_)
          first | replace hz29 := hz29 (by omega) | clear hz29
          have hl : lv_has ls 3 [(2, .int z29), (0, .ref (B + 32)), (1, .int x)] := hl
          refine lv_goto (tgt := 11) hx hb dX9_pushUnitOf_38 (by decide) ?_
          exact ih11 ls H locs kd6 ig28 rg8 lg9 z29 (lv_sub hl [0, 1, 2] rfl) hw hI hN (by omega) (by omega) (by omega) (by rw [show z29.toInt = v5.toInt + 1 by omega]; exact pu9) (hO) (by omega) (by omega) (by omega)
    exact L11 ((3 - z4.toInt) + 1).toNat ls s.heap [] kd ig rg lg z4 (lv_sub hl [0, 1, 2] rfl) hw hI hN (by omega) (by omega) (by omega) (by rw [show z4.toInt = 0 by omega]; exact PuU.zero) (hO) (by omega) (by omega) (by omega)

set_option maxHeartbeats 4000000 in
set_option maxRecDepth 100000 in
theorem t_X9_joinE {τ : Tp} (l : Launch) (B : Nat) (D : va_G) (cA : Nat → ClassId) (kd : sK) (ig : sI) (rg : sR) (lg : sG) (sz : Nat) (x : Int32) (k : List Un) (a b : Un) (hk : SkU B (b :: a :: k) ig) (h32 : k.length + 2 ≤ 32) (hI : IC τ B kd ig rg) : MC l B D cA yX9_join cX9_join 5 none (rL 0 0 0) [.ref (B + 32), .int x] kd ig rg lg sz (PI 990 τ B none kd ig rg lg (fun r kd' ig' rg' lg' => (r = none ∧ ((SkU B (opU x.toInt a b :: k) ig' ∧ czB (ig' (B + 32) 7) = opC x.toInt a b (czB (ig (B + 32) 7))) ∧ Fo B [32, 36] ig lg ig' lg' ∧ (ig' (B + 32) 8).toInt = (ig (B + 32) 8).toInt)))) := by
  refine MC.of (own := RX9) (by decide +kernel) rfl (Nat.le_of_ble_eq_true rfl) ?_
  intro p e s m args below meth c ls C hr hlk hnm hw hsz hl
  have hx := C.1.1
  have hb := C.1.2.1
  have hown := C.1.2.2.2.1
  have hts := C.1.2.2.2.2
  have hl : lv_has ls 5 [(0, .ref (B + 32)), (1, .int x)] := hl
  have hN : Nx 990 B none kd ig rg lg kd ig rg lg := Nx.rf
  have hsh := hI.sh
  have hrs := hI.rs
  have hO : Fo B [32, 36] ig lg ig lg := Fo.rf
  have hk1 := hk.1
  rw [List.length_cons, List.length_cons] at hk1
  refine lv_aload_n hx hb dX9_join_0 rfl (lv_at hl 0 rfl) ?_
  refine r_get C hw (hsh 32 _ rfl) fl_X9_87 (oV_i rfl) dX9_join_1 (ti_c (ig (B + 32) 6).toInt rfl fun z1 hz1 => ?_)
  have k2 : 0 ≤ (ig (B + 32) 6).toInt ∧ (ig (B + 32) 6).toInt ≤ 32 := hI.i 32 6 (by decide)
  refine lv_iconst (v := 2) hx hb dX9_join_4 (by decide) (ti_c 2 (by decide) fun z3 hz3 => ?_)
  refine b_ge (tgt := 9) hx hb dX9_join_5 (by decide) (fun c5 => ?_) (fun c5 => ?_)
  · refine lv_aload_n hx hb dX9_join_9 rfl (lv_at hl 0 rfl) ?_
    refine lv_dup hx hb dX9_join_10 rfl ?_
    refine r_get C hw (hsh 32 _ rfl) fl_X9_87 (oV_i rfl) dX9_join_11 (ti_c (ig (B + 32) 6).toInt rfl fun z4 hz4 => ?_)
    have k5 : 0 ≤ (ig (B + 32) 6).toInt ∧ (ig (B + 32) 6).toInt ≤ 32 := hI.i 32 6 (by decide)
    refine lv_iconst (v := 1) hx hb dX9_join_14 (by decide) (ti_c 1 (by decide) fun z6 hz6 => ?_)
    refine lv_isub hx hb dX9_join_15 (tc_sub fun z7 hz7 => ?_)
    first | replace hz7 := hz7 (by omega) | clear hz7
    refine r_puti C hw (hsh 32 _ rfl) fl_X9_87 rfl rfl rfl dX9_join_16 (fun H locs hH hw => ?_)
    have hO0 := hO
    obtain ⟨ig8, eig8⟩ : ∃ f, f = up2 ig (B + 32) 6 z7 := ⟨_, rfl⟩
    rw [← eig8] at hw
    have hN : Nx 990 B none kd ig rg lg kd ig8 rg lg := by rw [eig8]; exact hN.pi (by omega)
    have hI : IC τ B kd ig8 rg := by rw [eig8]; exact hI.pi (show okR (some (0, 32)) _ from ⟨by show (0 : Int) ≤ _; omega, by show _ ≤ (32 : Int); omega⟩)
    have wig8 : (ig8 (B + 32) 6).toInt = z7.toInt := by rw [eig8, up2_eq]
    have wig8_32_7 : (ig8 (B + 32) 7).toInt = (ig (B + 32) 7).toInt := by rw [eig8, up2_j (by decide)]
    have wig8_32_8 : (ig8 (B + 32) 8).toInt = (ig (B + 32) 8).toInt := by rw [eig8, up2_j (by decide)]
    have hO : Fo B [32, 36] ig lg ig8 lg := by rw [eig8]; exact hO0.pi (by decide)
    clear hO0
    refine lv_iconst (v := 0) hx hb dX9_join_19 (by decide) (ti_c 0 (by decide) fun z9 hz9 => ?_)
    refine lv_istore_n (lv' := [(2, .int z9), (0, .ref (B + 32)), (1, .int x)]) hx hb dX9_join_20 rfl hl (by decide) rfl (fun ls hl => ?_)
    have L21 : ∀ (n : Nat) (ls : Array Slot) (H : Heap) (locs : List Loc) (kd11 : sK) (ig12 : sI) (rg13 : sR) (lg14 : sG) (v10 : Int32), lv_has ls 5 [(2, .int v10), (0, .ref (B + 32)), (1, .int x)] → WD B D cA s.heap kd11 ig12 rg13 lg14 H locs → IC τ B kd11 ig12 rg13 → Nx 990 B none kd ig rg lg kd11 ig12 rg13 lg14 → (0 ≤ v10.toInt) → (v10.toInt ≤ 3) → ((ig12 (B + 32) 6).toInt = (k.length : Int) + 1) → (JnU B k.length a b x.toInt v10.toInt ig ig12) → (JcU a b x.toInt v10.toInt (czB (ig (B + 32) 7)) (czB (ig12 (B + 32) 7))) → (Fo B [32, 36] ig lg ig12 lg14) → ((ig12 (B + 32) 8).toInt = (ig (B + 32) 8).toInt) → 3 - v10.toInt < (n : Int) → W p l e (rL 0 0 0) s m args below meth c H locs 0 0 (MQ below (QcW B D cA (PI 990 τ B none kd ig rg lg (fun r kd' ig' rg' lg' => (r = none ∧ ((SkU B (opU x.toInt a b :: k) ig' ∧ czB (ig' (B + 32) 7) = opC x.toInt a b (czB (ig (B + 32) 7))) ∧ Fo B [32, 36] ig lg ig' lg' ∧ (ig' (B + 32) 8).toInt = (ig (B + 32) 8).toInt))))) args s 0 0 (fun q => B ≤ q)) (F0 m 21 ls []) := by
      intro n21
      induction n21 with
      | zero => intro ls H locs kd11 ig12 rg13 lg14 v10 hl hw hI hN g21_0 g21_1 g21_2 g21_3 g21_4 g21_5 g21_6 hmu; exact absurd hmu (by omega)
      | succ n21 ih21 =>
        intro ls H locs kd11 ig12 rg13 lg14 v10 hl hw hI hN g21_0 g21_1 g21_2 g21_3 g21_4 g21_5 g21_6 hmu
        have hsh := hI.sh
        have hrs := hI.rs
        have hO := g21_5
        have jn9 := g21_3
        have jc9 := g21_4
        refine lv_iload_n hx hb dX9_join_21 rfl (lv_at hl 0 rfl) ?_
        refine lv_iconst (v := 3) hx hb dX9_join_22 (by decide) (ti_c 3 (by decide) fun z15 hz15 => ?_)
        refine b_ge (tgt := 124) hx hb dX9_join_23 (by decide) (fun c23 => ?_) (fun c23 => ?_)
        · exact r_vret C hw hr hlk (Nat.le_of_ble_eq_true rfl) (Nat.le_of_ble_eq_true rfl) dX9_join_124 ⟨hI, hN, ⟨rfl, ⟨⟨JnU.fin (by have q9 := g21_3; rw [show v10.toInt = 3 by omega] at q9; exact q9) hk (by omega), JcU.fin (by have q9 := g21_4; rw [show v10.toInt = 3 by omega] at q9; exact q9)⟩, hO, by omega⟩⟩⟩
        · refine lv_aload_n hx hb dX9_join_26 rfl (lv_at hl 1 rfl) ?_
          refine r_get C hw (hsh 32 _ rfl) fl_X9_87 (oV_i rfl) dX9_join_27 (ti_c (ig12 (B + 32) 6).toInt rfl fun z16 hz16 => ?_)
          have k17 : 0 ≤ (ig12 (B + 32) 6).toInt ∧ (ig12 (B + 32) 6).toInt ≤ 32 := hI.i 32 6 (by decide)
          refine lv_iconst (v := 1) hx hb dX9_join_30 (by decide) (ti_c 1 (by decide) fun z18 hz18 => ?_)
          refine lv_isub hx hb dX9_join_31 (tc_sub fun z19 hz19 => ?_)
          first | replace hz19 := hz19 (by omega) | clear hz19
          refine lv_iconst (v := 3) hx hb dX9_join_32 (by decide) (ti_c 3 (by decide) fun z20 hz20 => ?_)
          refine lv_imul hx hb dX9_join_33 (tc_mulR 3 hz20 fun z21 hz21 => ?_)
          first | replace hz21 := hz21 (by omega) | clear hz21
          refine lv_iload_n hx hb dX9_join_34 rfl (lv_at hl 0 rfl) ?_
          refine lv_iadd hx hb dX9_join_35 (tc_add fun z22 hz22 => ?_)
          first | replace hz22 := hz22 (by omega) | clear hz22
          refine lv_istore_n (lv' := [(3, .int z22), (2, .int v10), (0, .ref (B + 32)), (1, .int x)]) hx hb dX9_join_36 rfl hl (by decide) rfl (fun ls hl => ?_)
          refine lv_aload_n hx hb dX9_join_37 rfl (lv_at hl 2 rfl) ?_
          refine r_get C hw (hsh 32 _ rfl) fl_X9_87 (oV_i rfl) dX9_join_38 (ti_c (ig12 (B + 32) 6).toInt rfl fun z23 hz23 => ?_)
          have k24 : 0 ≤ (ig12 (B + 32) 6).toInt ∧ (ig12 (B + 32) 6).toInt ≤ 32 := hI.i 32 6 (by decide)
          refine lv_iconst (v := 3) hx hb dX9_join_41 (by decide) (ti_c 3 (by decide) fun z25 hz25 => ?_)
          refine lv_imul hx hb dX9_join_42 (tc_mulR 3 hz25 fun z26 hz26 => ?_)
          first | replace hz26 := hz26 (by omega) | clear hz26
          refine lv_iload_n hx hb dX9_join_43 rfl (lv_at hl 1 rfl) ?_
          refine lv_iadd hx hb dX9_join_44 (tc_add fun z27 hz27 => ?_)
          first | replace hz27 := hz27 (by omega) | clear hz27
          refine lv_istore (lv' := [(4, .int z27), (3, .int z22), (2, .int v10), (0, .ref (B + 32)), (1, .int x)]) hx hb dX9_join_45 hl (by decide) rfl (fun ls hl => ?_)
          refine lv_iload_n hx hb dX9_join_47 rfl (lv_at hl 4 rfl) ?_
          refine lv_bipush (v := 7) hx hb dX9_join_48 (by decide) (ti_c 7 (by decide) fun z28 hz28 => ?_)
          refine b_ne (tgt := 72) hx hb dX9_join_50 (by decide) (fun c50 => ?_) (fun c50 => ?_)
          · refine lv_iload_n hx hb dX9_join_72 rfl (lv_at hl 4 rfl) ?_
            refine lv_bipush (v := 8) hx hb dX9_join_73 (by decide) (ti_c 8 (by decide) fun z29 hz29 => ?_)
            refine b_ne (tgt := 97) hx hb dX9_join_75 (by decide) (fun c75 => ?_) (fun c75 => ?_)
            · refine lv_aload_n hx hb dX9_join_97 rfl (lv_at hl 3 rfl) ?_
              refine r_get C hw (hsh 32 _ rfl) fl_X9_30 (oV_r rfl (hrs (32, 5, 36) (by decide))) dX9_join_98 ?_
              refine lv_iload_n hx hb dX9_join_101 rfl (lv_at hl 1 rfl) ?_
              refine r_iald C hw (hsh 36 _ rfl) (by omega) (by omega) dX9_join_102 (ti_c (ig12 (B + 36) z22.toInt.toNat).toInt rfl fun z30 hz30 => ?_)
              have l9 : z30 = ucp a v10.toInt := i32_inj (by rw [hz30]; exact congrArg Int32.toInt (JnU.l jn9 (by omega) (by omega) (by omega)))
              refine lv_aload_n hx hb dX9_join_103 rfl (lv_at hl 3 rfl) ?_
              refine r_get C hw (hsh 32 _ rfl) fl_X9_30 (oV_r rfl (hrs (32, 5, 36) (by decide))) dX9_join_104 ?_
              refine lv_iload hx hb dX9_join_107 (lv_at hl 0 rfl) ?_
              refine r_iald C hw (hsh 36 _ rfl) (by omega) (by omega) dX9_join_109 (ti_c (ig12 (B + 36) z27.toInt.toNat).toInt rfl fun z31 hz31 => ?_)
              have r9 : z31 = ucp b v10.toInt := i32_inj (by rw [hz31]; exact congrArg Int32.toInt (JnU.r jn9 (by omega) (by omega) (by omega)))
              refine b_eq (tgt := 118) hx hb dX9_join_110 (by decide) (fun c110 => ?_) (fun c110 => ?_)
              · refine tc_inc hx hb dX9_join_118 hl (k := 2) rfl (by decide) (by decide) (fun z32 hz32 ls hl => ?_)
                first | replace hz32 := hz32 (by omega) | clear hz32
                have hl : lv_has ls 5 [(2, .int z32), (4, .int z27), (3, .int z22), (0, .ref (B + 32)), (1, .int x)] := hl
                refine lv_goto (tgt := 21) hx hb dX9_join_121 (by decide) ?_
                exact ih21 ls H locs kd11 ig12 rg13 lg14 z32 (lv_sub hl [0, 3, 4] rfl) hw hI hN (by omega) (by omega) (by omega) (by rw [show z32.toInt = v10.toInt + 1 by omega]; exact (JnU.stay jn9 (by omega))) (by rw [show z32.toInt = v10.toInt + 1 by omega]; exact (JcU.same jc9 (by omega) (by omega) (by omega) (by rw [← l9, ← r9]; exact i32_inj (by omega)))) (hO) (by omega) (by omega)
              · refine lv_aload_n hx hb dX9_join_113 rfl (lv_at hl 3 rfl) ?_
                refine lv_iconst (v := 1) hx hb dX9_join_114 (by decide) (ti_c 1 (by decide) fun z33 hz33 => ?_)
                refine r_puti C hw (hsh 32 _ rfl) fl_X9_83 rfl (nar_b (by omega)) (fit_b (by omega)) dX9_join_115 (fun H locs hH hw => ?_)
                have hO0 := hO
                obtain ⟨ig34, eig34⟩ : ∃ f, f = up2 ig12 (B + 32) 7 z33 := ⟨_, rfl⟩
                rw [← eig34] at hw
                have hN : Nx 990 B none kd ig rg lg kd11 ig34 rg13 lg14 := by rw [eig34]; exact hN.pi (by omega)
                have hI : IC τ B kd11 ig34 rg13 := by rw [eig34]; exact hI.pi (show okR (some (0, 1)) _ from ⟨by show (0 : Int) ≤ _; omega, by show _ ≤ (1 : Int); omega⟩)
                have wig34_32_6 : (ig34 (B + 32) 6).toInt = (ig12 (B + 32) 6).toInt := by rw [eig34, up2_j (by decide)]
                have wig34 : (ig34 (B + 32) 7).toInt = z33.toInt := by rw [eig34, up2_eq]
                have wig34_32_8 : (ig34 (B + 32) 8).toInt = (ig12 (B + 32) 8).toInt := by rw [eig34, up2_j (by decide)]
                have hO : Fo B [32, 36] ig lg ig34 lg14 := by rw [eig34]; exact hO0.pi (by decide)
                clear hO0
                have jn8 : JnU B k.length a b x.toInt (v10.toInt + 1) ig ig34 := JnU.ag (JnU.stay jn9 (by omega)) (fun j => by rw [eig34, up2_a (by omega)])
                have jc8 : JcU a b x.toInt (v10.toInt + 1) (czB (ig (B + 32) 7)) (czB (ig34 (B + 32) 7)) := JcU.diff jc9 (by omega) (by omega) (by omega) (fun w9 => c110 (by rw [l9, r9, w9])) (czB_1 (by rw [eig34, up2_eq]; omega))
                refine tc_inc hx hb dX9_join_118 hl (k := 2) rfl (by decide) (by decide) (fun z35 hz35 ls hl => ?_)
                first | replace hz35 := hz35 (by omega) | clear hz35
                have hl : lv_has ls 5 [(2, .int z35), (4, .int z27), (3, .int z22), (0, .ref (B + 32)), (1, .int x)] := hl
                refine lv_goto (tgt := 21) hx hb dX9_join_121 (by decide) ?_
                exact ih21 ls H locs kd11 ig34 rg13 lg14 z35 (lv_sub hl [0, 3, 4] rfl) hw hI hN (by omega) (by omega) (by omega) (by rw [show z35.toInt = v10.toInt + 1 by omega]; exact jn8) (by rw [show z35.toInt = v10.toInt + 1 by omega]; exact jc8) (hO) (by omega) (by omega)
            · refine lv_aload_n hx hb dX9_join_78 rfl (lv_at hl 3 rfl) ?_
              refine r_get C hw (hsh 32 _ rfl) fl_X9_30 (oV_r rfl (hrs (32, 5, 36) (by decide))) dX9_join_79 ?_
              refine lv_iload_n hx hb dX9_join_82 rfl (lv_at hl 1 rfl) ?_
              refine lv_dup2_11 hx hb dX9_join_83 rfl rfl ?_
              refine r_iald C hw (hsh 36 _ rfl) (by omega) (by omega) dX9_join_84 (ti_c (ig12 (B + 36) z22.toInt.toNat).toInt rfl fun z36 hz36 => ?_)
              have l9 : z36 = ucp a v10.toInt := i32_inj (by rw [hz36]; exact congrArg Int32.toInt (JnU.l jn9 (by omega) (by omega) (by omega)))
              refine lv_aload_n hx hb dX9_join_85 rfl (lv_at hl 3 rfl) ?_
              refine r_get C hw (hsh 32 _ rfl) fl_X9_30 (oV_r rfl (hrs (32, 5, 36) (by decide))) dX9_join_86 ?_
              refine lv_iload hx hb dX9_join_89 (lv_at hl 0 rfl) ?_
              refine r_iald C hw (hsh 36 _ rfl) (by omega) (by omega) dX9_join_91 (ti_c (ig12 (B + 36) z27.toInt.toNat).toInt rfl fun z37 hz37 => ?_)
              have r9 : z37 = ucp b v10.toInt := i32_inj (by rw [hz37]; exact congrArg Int32.toInt (JnU.r jn9 (by omega) (by omega) (by omega)))
              refine lv_isub hx hb dX9_join_92 (lv_topi fun z38 hz38 => ?_)
              refine r_iast C hw (hsh 36 _ rfl) (by omega) (by omega) dX9_join_93 (fun H locs hH hw => ?_)
              have hO0 := hO
              obtain ⟨ig39, eig39⟩ : ∃ f, f = up2 ig12 (B + 36) z22.toInt.toNat z38 := ⟨_, rfl⟩
              rw [← eig39] at hw
              have hN : Nx 990 B none kd ig rg lg kd11 ig39 rg13 lg14 := by rw [eig39]; exact hN.pi (by omega)
              have hI : IC τ B kd11 ig39 rg13 := by rw [eig39]; exact hI.pi (show okR none _ from trivial)
              have wig39_32_6 : (ig39 (B + 32) 6).toInt = (ig12 (B + 32) 6).toInt := by rw [eig39, up2_a (by omega)]
              have wig39_32_7 : (ig39 (B + 32) 7).toInt = (ig12 (B + 32) 7).toInt := by rw [eig39, up2_a (by omega)]
              have wig39_32_8 : (ig39 (B + 32) 8).toInt = (ig12 (B + 32) 8).toInt := by rw [eig39, up2_a (by omega)]
              have hO : Fo B [32, 36] ig lg ig39 lg14 := by rw [eig39]; exact hO0.pi (by decide)
              clear hO0
              have jn8 : JnU B k.length a b x.toInt (v10.toInt + 1) ig ig39 := by rw [eig39]; exact JnU.step jn9 (by omega) (by omega) (by omega) (by rw [hz38, l9, r9, opU_8 (by omega)])
              have jc8 : JcU a b x.toInt (v10.toInt + 1) (czB (ig (B + 32) 7)) (czB (ig39 (B + 32) 7)) := by rw [show czB (ig39 (B + 32) 7) = czB (ig12 (B + 32) 7) by rw [eig39, up2_a (by omega)]]; exact JcU.mul jc9 (by omega)
              refine lv_goto (tgt := 118) hx hb dX9_join_94 (by decide) ?_
              refine tc_inc hx hb dX9_join_118 hl (k := 2) rfl (by decide) (by decide) (fun z40 hz40 ls hl => ?_)
              first | replace hz40 := hz40 (by omega) | clear hz40
              have hl : lv_has ls 5 [(2, .int z40), (4, .int z27), (3, .int z22), (0, .ref (B + 32)), (1, .int x)] := hl
              refine lv_goto (tgt := 21) hx hb dX9_join_121 (by decide) ?_
              exact ih21 ls H locs kd11 ig39 rg13 lg14 z40 (lv_sub hl [0, 3, 4] rfl) hw hI hN (by omega) (by omega) (by omega) (by rw [show z40.toInt = v10.toInt + 1 by omega]; exact jn8) (by rw [show z40.toInt = v10.toInt + 1 by omega]; exact jc8) (hO) (by omega) (by omega)
          · refine lv_aload_n hx hb dX9_join_53 rfl (lv_at hl 3 rfl) ?_
            refine r_get C hw (hsh 32 _ rfl) fl_X9_30 (oV_r rfl (hrs (32, 5, 36) (by decide))) dX9_join_54 ?_
            refine lv_iload_n hx hb dX9_join_57 rfl (lv_at hl 1 rfl) ?_
            refine lv_dup2_11 hx hb dX9_join_58 rfl rfl ?_
            refine r_iald C hw (hsh 36 _ rfl) (by omega) (by omega) dX9_join_59 (ti_c (ig12 (B + 36) z22.toInt.toNat).toInt rfl fun z41 hz41 => ?_)
            have l9 : z41 = ucp a v10.toInt := i32_inj (by rw [hz41]; exact congrArg Int32.toInt (JnU.l jn9 (by omega) (by omega) (by omega)))
            refine lv_aload_n hx hb dX9_join_60 rfl (lv_at hl 3 rfl) ?_
            refine r_get C hw (hsh 32 _ rfl) fl_X9_30 (oV_r rfl (hrs (32, 5, 36) (by decide))) dX9_join_61 ?_
            refine lv_iload hx hb dX9_join_64 (lv_at hl 0 rfl) ?_
            refine r_iald C hw (hsh 36 _ rfl) (by omega) (by omega) dX9_join_66 (ti_c (ig12 (B + 36) z27.toInt.toNat).toInt rfl fun z42 hz42 => ?_)
            have r9 : z42 = ucp b v10.toInt := i32_inj (by rw [hz42]; exact congrArg Int32.toInt (JnU.r jn9 (by omega) (by omega) (by omega)))
            refine lv_iadd hx hb dX9_join_67 (lv_topi fun z43 hz43 => ?_)
            refine r_iast C hw (hsh 36 _ rfl) (by omega) (by omega) dX9_join_68 (fun H locs hH hw => ?_)
            have hO0 := hO
            obtain ⟨ig44, eig44⟩ : ∃ f, f = up2 ig12 (B + 36) z22.toInt.toNat z43 := ⟨_, rfl⟩
            rw [← eig44] at hw
            have hN : Nx 990 B none kd ig rg lg kd11 ig44 rg13 lg14 := by rw [eig44]; exact hN.pi (by omega)
            have hI : IC τ B kd11 ig44 rg13 := by rw [eig44]; exact hI.pi (show okR none _ from trivial)
            have wig44_32_6 : (ig44 (B + 32) 6).toInt = (ig12 (B + 32) 6).toInt := by rw [eig44, up2_a (by omega)]
            have wig44_32_7 : (ig44 (B + 32) 7).toInt = (ig12 (B + 32) 7).toInt := by rw [eig44, up2_a (by omega)]
            have wig44_32_8 : (ig44 (B + 32) 8).toInt = (ig12 (B + 32) 8).toInt := by rw [eig44, up2_a (by omega)]
            have hO : Fo B [32, 36] ig lg ig44 lg14 := by rw [eig44]; exact hO0.pi (by decide)
            clear hO0
            have jn8 : JnU B k.length a b x.toInt (v10.toInt + 1) ig ig44 := by rw [eig44]; exact JnU.step jn9 (by omega) (by omega) (by omega) (by rw [hz43, l9, r9, opU_7 (by omega)])
            have jc8 : JcU a b x.toInt (v10.toInt + 1) (czB (ig (B + 32) 7)) (czB (ig44 (B + 32) 7)) := by rw [show czB (ig44 (B + 32) 7) = czB (ig12 (B + 32) 7) by rw [eig44, up2_a (by omega)]]; exact JcU.mul jc9 (by omega)
            refine lv_goto (tgt := 118) hx hb dX9_join_69 (by decide) ?_
            refine tc_inc hx hb dX9_join_118 hl (k := 2) rfl (by decide) (by decide) (fun z45 hz45 ls hl => ?_)
            first | replace hz45 := hz45 (by omega) | clear hz45
            have hl : lv_has ls 5 [(2, .int z45), (4, .int z27), (3, .int z22), (0, .ref (B + 32)), (1, .int x)] := hl
            refine lv_goto (tgt := 21) hx hb dX9_join_121 (by decide) ?_
            exact ih21 ls H locs kd11 ig44 rg13 lg14 z45 (lv_sub hl [0, 3, 4] rfl) hw hI hN (by omega) (by omega) (by omega) (by rw [show z45.toInt = v10.toInt + 1 by omega]; exact jn8) (by rw [show z45.toInt = v10.toInt + 1 by omega]; exact jc8) (hO) (by omega) (by omega)
    exact L21 ((3 - z9.toInt) + 1).toNat ls H locs kd ig8 rg lg z9 (lv_sub hl [0, 1, 2] rfl) hw hI hN (by omega) (by omega) (by omega) (by rw [show z9.toInt = 0 by omega]; exact JnU.zero hk (fun j => by rw [eig8, up2_a (by omega)])) (by rw [show z9.toInt = 0 by omega, show czB (ig8 (B + 32) 7) = czB (ig (B + 32) 7) by rw [eig8, up2_j (by decide)]]; exact JcU.zero) (hO) (by omega) (by omega)
  · exact absurd c5 (by omega)

set_option maxHeartbeats 4000000 in
set_option maxRecDepth 100000 in
theorem t_X9_firstFilledE {τ : Tp} (l : Launch) (B : Nat) (D : va_G) (cA : Nat → ClassId) (kd : sK) (ig : sI) (rg : sR) (lg : sG) (sz : Nat) (x : Int32) (g : Nat) (M : Fm) (hM : FnL B kd ig rg g M) (y : Int32) (σ : Sg) (π : Ps) (ν : Nat) (hS : SCh B σ π ν kd ig rg) (hx0 : 0 ≤ x.toInt ∧ x.toInt < 288) (hin : 0 ≤ y.toInt ∧ y.toInt < (M.length : Int)) (hpk : pkR (stp M y.toInt).2.1 ∧ pkR (stp M y.toInt).2.2) (hft : fitS x.toInt (stp M y.toInt)) (hI : IC τ B kd ig rg) : MC l B D cA yX9_firstFilled cX9_firstFilled 7 (some .int) (rL 3 0 0) [.ref (B + 32), .int x, .ref g, .int y] kd ig rg lg sz (PI 990 τ B none kd ig rg lg (fun r kd' ig' rg' lg' => ∃ z : Int32, r = some (.int z) ∧ ((z.toInt, (czB (ig' (B + 32) 7))) = spU σ (uR B ig) (czB (ig (B + 32) 7)) (stp M y.toInt) x.toInt ∧ Fo B [32, 35] ig lg ig' lg' ∧ (ig' (B + 32) 6).toInt = (ig (B + 32) 6).toInt ∧ (ig' (B + 32) 8).toInt = (ig (B + 32) 8).toInt))) := by
  refine MC.of (own := RX9) (by decide +kernel) rfl (Nat.le_of_ble_eq_true rfl) ?_
  intro p e s m args below meth c ls C hr hlk hnm hw hsz hl
  have hx := C.1.1
  have hb := C.1.2.1
  have hown := C.1.2.2.2.1
  have hts := C.1.2.2.2.2
  have hl : lv_has ls 7 [(0, .ref (B + 32)), (1, .int x), (2, .ref g), (3, .int y)] := hl
  have hN : Nx 990 B none kd ig rg lg kd ig rg lg := Nx.rf
  have hsh := hI.sh
  have hrs := hI.rs
  have hO : Fo B [32, 35] ig lg ig lg := Fo.rf
  have lng := hM.le
  have hlen := plS_len hft
  refine lv_iconst (v := (-1)) hx hb dX9_firstFilled_0 (by decide) (ti_c (-1) (by decide) fun z1 hz1 => ?_)
  refine lv_istore (lv' := [(4, .int z1), (0, .ref (B + 32)), (1, .int x), (2, .ref g), (3, .int y)]) hx hb dX9_firstFilled_1 hl (by decide) rfl (fun ls hl => ?_)
  refine lv_aload_n hx hb dX9_firstFilled_3 rfl (lv_at hl 3 rfl) ?_
  refine lv_iload_n hx hb dX9_firstFilled_4 rfl (lv_at hl 4 rfl) ?_
  refine lv_iload_n hx hb dX9_firstFilled_5 rfl (lv_at hl 2 rfl) ?_
  refine lv_aload_n hx hb dX9_firstFilled_6 rfl (lv_at hl 1 rfl) ?_
  refine r_get C hw (hsh 32 _ rfl) fl_X9_27 (oV_r rfl (hrs (32, 4, 35) (by decide))) dX9_firstFilled_7 ?_
  refine r_callV (As := [.int y, .int x, .ref (B + 35)]) (rest := []) C hw (t_X4_listPlacesE l B D cA kd ig rg lg _ g M (hM.nx hN) y x 35 (Or.inr (Or.inr (Or.inl rfl))) (by omega) (by omega) hpk hft hI) sv_X9_112 (isFn.k (FnL.F (hM.nx hN))) rfl hl.1 rfl (Nat.le_of_ble_eq_true rfl) ⟨Nat.le_of_ble_eq_true rfl, Nat.le_of_ble_eq_true rfl⟩ ⟨Nat.le_of_ble_eq_true rfl, Nat.le_of_ble_eq_true rfl⟩ dX9_firstFilled_10 (fun r6 kd2 ig3 rg4 lg5 H locs hw hH hp7 => ?_)
  obtain ⟨hI, hchp7, hrhp7⟩ := hp7
  have hN := hN.tr hchp7
  have hsh := hI.sh
  have hrs := hI.rs
  obtain ⟨z8, rfl, hz8⟩ := hrhp7
  obtain ⟨phz8, ohz8, khz8_0⟩ := hz8
  have hO := hO.tr ohz8
  have kwhz8_32_7 : (ig3 (B + 32) 7).toInt = (ig (B + 32) 7).toInt := by rw [ohz8.i 32 7]
  have kwhz8_32_6 : (ig3 (B + 32) 6).toInt = (ig (B + 32) 6).toInt := by rw [ohz8.i 32 6]
  have kwhz8_32_8 : (ig3 (B + 32) 8).toInt = (ig (B + 32) 8).toInt := by rw [ohz8.i 32 8]
  have hz13 := phz8.1
  refine lv_istore (lv' := [(5, .int z8), (4, .int z1), (0, .ref (B + 32)), (1, .int x), (2, .ref g), (3, .int y)]) hx hb dX9_firstFilled_13 hl (by decide) rfl (fun ls hl => ?_)
  refine lv_iconst (v := 0) hx hb dX9_firstFilled_15 (by decide) (ti_c 0 (by decide) fun z9 hz9 => ?_)
  refine lv_istore (lv' := [(6, .int z9), (5, .int z8), (4, .int z1), (0, .ref (B + 32)), (1, .int x), (2, .ref g), (3, .int y)]) hx hb dX9_firstFilled_16 hl (by decide) rfl (fun ls hl => ?_)
  have L18 : ∀ (n : Nat) (ls : Array Slot) (H : Heap) (locs : List Loc) (kd12 : sK) (ig13 : sI) (rg14 : sR) (lg15 : sG) (v10 : Int32) (v11 : Int32), lv_has ls 7 [(6, .int v10), (5, .int z8), (4, .int v11), (0, .ref (B + 32))] → WD B D cA s.heap kd12 ig13 rg14 lg15 H locs → IC τ B kd12 ig13 rg14 → Nx 990 B none kd ig rg lg kd12 ig13 rg14 lg15 → (0 ≤ v10.toInt) → (v10.toInt ≤ z8.toInt) → (SpL B 35 (plS (stp M y.toInt) x.toInt) ig13 z8.toInt) → ((v11.toInt, (czB (ig13 (B + 32) 7))) = ((plS (stp M y.toInt) x.toInt).take v10.toInt.toNat).foldl (umS σ (uR B ig)) (-1, (czB (ig (B + 32) 7)))) → (Fo B [32, 35] ig lg ig13 lg15) → ((ig13 (B + 32) 6).toInt = (ig (B + 32) 6).toInt) → ((ig13 (B + 32) 8).toInt = (ig (B + 32) 8).toInt) → z8.toInt - v10.toInt < (n : Int) → W p l e (rL 3 0 0) s m args below meth c H locs 0 0 (MQ below (QcW B D cA (PI 990 τ B none kd ig rg lg (fun r kd' ig' rg' lg' => ∃ z : Int32, r = some (.int z) ∧ ((z.toInt, (czB (ig' (B + 32) 7))) = spU σ (uR B ig) (czB (ig (B + 32) 7)) (stp M y.toInt) x.toInt ∧ Fo B [32, 35] ig lg ig' lg' ∧ (ig' (B + 32) 6).toInt = (ig (B + 32) 6).toInt ∧ (ig' (B + 32) 8).toInt = (ig (B + 32) 8).toInt)))) args s 0 0 (fun q => B ≤ q)) (F0 m 18 ls []) := by
    intro n18
    induction n18 with
    | zero => intro ls H locs kd12 ig13 rg14 lg15 v10 v11 hl hw hI hN g18_0 g18_1 g18_2 g18_3 g18_4 g18_5 g18_6 hmu; exact absurd hmu (by omega)
    | succ n18 ih18 =>
      intro ls H locs kd12 ig13 rg14 lg15 v10 v11 hl hw hI hN g18_0 g18_1 g18_2 g18_3 g18_4 g18_5 g18_6 hmu
      have hsh := hI.sh
      have hrs := hI.rs
      have hO := g18_4
      have hsn := g18_2.1
      have hO8 := hO
      refine lv_iload hx hb dX9_firstFilled_18 (lv_at hl 0 rfl) ?_
      refine lv_iload hx hb dX9_firstFilled_20 (lv_at hl 1 rfl) ?_
      refine b_ge (tgt := 95) hx hb dX9_firstFilled_22 (by decide) (fun c22 => ?_) (fun c22 => ?_)
      · refine lv_iload hx hb dX9_firstFilled_95 (lv_at hl 2 rfl) ?_
        exact r_iret C hw hr hlk rfl (Nat.le_of_ble_eq_true rfl) (Nat.le_of_ble_eq_true rfl) dX9_firstFilled_97 ⟨hI, hN, ⟨_, rfl, ⟨(by have q9 := g18_3; rw [show v10.toInt.toNat = (plS (stp M y.toInt) x.toInt).length by omega, List.take_length] at q9; exact q9), hO, by omega, by omega⟩⟩⟩
      · refine lv_iload hx hb dX9_firstFilled_25 (lv_at hl 0 rfl) ?_
        refine lv_sipush (v := 288) hx hb dX9_firstFilled_27 (by decide) (ti_c 288 (by decide) fun z16 hz16 => ?_)
        refine b_ge (tgt := 95) hx hb dX9_firstFilled_30 (by decide) (fun c30 => ?_) (fun c30 => ?_)
        · exact absurd c30 (by omega)
        · refine lv_aload_n hx hb dX9_firstFilled_33 rfl (lv_at hl 3 rfl) ?_
          refine r_get C hw (hsh 32 _ rfl) fl_X9_9 (oV_r rfl (hrs (32, 0, 9) (by decide))) dX9_firstFilled_34 ?_
          refine lv_aload_n hx hb dX9_firstFilled_37 rfl (lv_at hl 3 rfl) ?_
          refine r_get C hw (hsh 32 _ rfl) fl_X9_27 (oV_r rfl (hrs (32, 4, 35) (by decide))) dX9_firstFilled_38 ?_
          refine lv_iload hx hb dX9_firstFilled_41 (lv_at hl 0 rfl) ?_
          refine r_iald C hw (hsh 35 _ rfl) (by omega) (by omega) dX9_firstFilled_43 (ti_c (ig13 (B + 35) v10.toInt.toNat).toInt rfl fun z17 hz17 => ?_)
          obtain ⟨hkl, hsk⟩ := g18_2.at (k := v10.toInt.toNat) (by omega)
          have hzq : z17.toInt = (plS (stp M y.toInt) x.toInt)[v10.toInt.toNat] := by rw [hz17]; exact hsk
          refine r_callV (As := [.int z17]) (rest := []) C hw (t_X6_kindAtE l B D cA kd12 ig13 rg14 lg15 _ z17 σ π ν (hS.nx hN) hI) sv_X9_116 (hsh 9 _ rfl) rfl hl.1 rfl (Nat.le_of_ble_eq_true rfl) ⟨Nat.le_of_ble_eq_true rfl, Nat.le_of_ble_eq_true rfl⟩ ⟨Nat.le_of_ble_eq_true rfl, Nat.le_of_ble_eq_true rfl⟩ dX9_firstFilled_44 (fun r22 kd18 ig19 rg20 lg21 H locs hw hH hp23 => ?_)
          obtain ⟨rfl, rfl, rfl, rfl, hzhp23, hrhp23⟩ := hp23
          obtain ⟨z24, rfl, hz24⟩ := hrhp23
          have kd9 : kdO (atC σ (plS (stp M y.toInt) x.toInt)[v10.toInt.toNat]) = z24.toInt := by rw [← hzq]; exact hz24.symm
          refine z_eq (tgt := 89) hx hb dX9_firstFilled_47 (by decide) (fun c47 => ?_) (fun c47 => ?_)
          · refine tc_inc hx hb dX9_firstFilled_89 hl (k := 0) rfl (by decide) (by decide) (fun z25 hz25 ls hl => ?_)
            first | replace hz25 := hz25 (by omega) | clear hz25
            have hl : lv_has ls 7 [(6, .int z25), (5, .int z8), (4, .int v11), (0, .ref (B + 32))] := hl
            refine lv_goto (tgt := 18) hx hb dX9_firstFilled_92 (by decide) ?_
            exact ih18 ls H locs kd12 ig13 rg14 lg15 z25 v11 (lv_sub hl [0, 1, 2, 3] rfl) hw hI hN (by omega) (by omega) (g18_2) (by rw [show z25.toInt.toNat = v10.toInt.toNat + 1 by omega]; exact umT g18_3 hkl (umS_0 (by rw [kd9]; omega)).symm) (hO) (by omega) (by omega) (by omega)
          · refine lv_iload hx hb dX9_firstFilled_50 (lv_at hl 2 rfl) ?_
            refine lv_iconst (v := (-1)) hx hb dX9_firstFilled_52 (by decide) (ti_c (-1) (by decide) fun z26 hz26 => ?_)
            refine b_ne (tgt := 68) hx hb dX9_firstFilled_53 (by decide) (fun c53 => ?_) (fun c53 => ?_)
            · refine lv_aload_n hx hb dX9_firstFilled_68 rfl (lv_at hl 3 rfl) ?_
              refine lv_iload hx hb dX9_firstFilled_69 (lv_at hl 2 rfl) ?_
              refine lv_aload_n hx hb dX9_firstFilled_71 rfl (lv_at hl 3 rfl) ?_
              refine r_get C hw (hsh 32 _ rfl) fl_X9_27 (oV_r rfl (hrs (32, 4, 35) (by decide))) dX9_firstFilled_72 ?_
              refine lv_iload hx hb dX9_firstFilled_75 (lv_at hl 0 rfl) ?_
              refine r_iald C hw (hsh 35 _ rfl) (by omega) (by omega) dX9_firstFilled_77 (ti_c (ig13 (B + 35) v10.toInt.toNat).toInt rfl fun z27 hz27 => ?_)
              have hz4 : z27.toInt = (plS (stp M y.toInt) x.toInt)[v10.toInt.toNat] := by rw [hz27]; exact hsk
              refine r_callV (As := [.int v11, .int z27]) (rest := []) C hw (t_X9_areSameE l B D cA kd12 ig13 rg14 lg15 _ v11 z27  hI) sv_X9_119 (hsh 32 _ rfl) rfl hl.1 rfl (Nat.le_of_ble_eq_true rfl) ⟨Nat.le_of_ble_eq_true rfl, Nat.le_of_ble_eq_true rfl⟩ ⟨Nat.le_of_ble_eq_true rfl, Nat.le_of_ble_eq_true rfl⟩ dX9_firstFilled_78 (fun r32 kd28 ig29 rg30 lg31 H locs hw hH hp33 => ?_)
              obtain ⟨rfl, rfl, rfl, rfl, hzhp33, hrhp33⟩ := hp33
              obtain ⟨z34, rfl, hz34⟩ := hrhp33
              have sm9 := hz34
              rw [uR.fo hO8, hz4] at sm9
              refine z_ne (tgt := 89) hx hb dX9_firstFilled_81 (by decide) (fun c81 => ?_) (fun c81 => ?_)
              · refine tc_inc hx hb dX9_firstFilled_89 hl (k := 0) rfl (by decide) (by decide) (fun z35 hz35 ls hl => ?_)
                first | replace hz35 := hz35 (by omega) | clear hz35
                have hl : lv_has ls 7 [(6, .int z35), (5, .int z8), (4, .int v11), (0, .ref (B + 32))] := hl
                refine lv_goto (tgt := 18) hx hb dX9_firstFilled_92 (by decide) ?_
                exact ih18 ls H locs kd12 ig13 rg14 lg15 z35 v11 (lv_sub hl [0, 1, 2, 3] rfl) hw hI hN (by omega) (by omega) (g18_2) (by rw [show z35.toInt.toNat = v10.toInt.toNat + 1 by omega]; exact umT g18_3 hkl (umS_2 (by rw [kd9]; omega) (by omega) (by1 sm9 (by omega))).symm) (hO) (by omega) (by omega) (by omega)
              · refine lv_aload_n hx hb dX9_firstFilled_84 rfl (lv_at hl 3 rfl) ?_
                refine lv_iconst (v := 1) hx hb dX9_firstFilled_85 (by decide) (ti_c 1 (by decide) fun z36 hz36 => ?_)
                refine r_puti C hw (hsh 32 _ rfl) fl_X9_83 rfl (nar_b (by omega)) (fit_b (by omega)) dX9_firstFilled_86 (fun H locs hH hw => ?_)
                have hO0 := hO
                obtain ⟨ig37, eig37⟩ : ∃ f, f = up2 ig13 (B + 32) 7 z36 := ⟨_, rfl⟩
                rw [← eig37] at hw
                have hN : Nx 990 B none kd ig rg lg kd12 ig37 rg14 lg15 := by rw [eig37]; exact hN.pi (by omega)
                have hI : IC τ B kd12 ig37 rg14 := by rw [eig37]; exact hI.pi (show okR (some (0, 1)) _ from ⟨by show (0 : Int) ≤ _; omega, by show _ ≤ (1 : Int); omega⟩)
                have wig37 : (ig37 (B + 32) 7).toInt = z36.toInt := by rw [eig37, up2_eq]
                have wig37_32_6 : (ig37 (B + 32) 6).toInt = (ig13 (B + 32) 6).toInt := by rw [eig37, up2_j (by decide)]
                have wig37_32_8 : (ig37 (B + 32) 8).toInt = (ig13 (B + 32) 8).toInt := by rw [eig37, up2_j (by decide)]
                have hO : Fo B [32, 35] ig lg ig37 lg15 := by rw [eig37]; exact hO0.pi (by decide)
                clear hO0
                have cl9 : czB (ig37 (B + 32) 7) = true := czB_1 (by rw [eig37, up2_eq]; omega)
                refine tc_inc hx hb dX9_firstFilled_89 hl (k := 0) rfl (by decide) (by decide) (fun z38 hz38 ls hl => ?_)
                first | replace hz38 := hz38 (by omega) | clear hz38
                have hl : lv_has ls 7 [(6, .int z38), (5, .int z8), (4, .int v11), (0, .ref (B + 32))] := hl
                refine lv_goto (tgt := 18) hx hb dX9_firstFilled_92 (by decide) ?_
                exact ih18 ls H locs kd12 ig37 rg14 lg15 z38 v11 (lv_sub hl [0, 1, 2, 3] rfl) hw hI hN (by omega) (by omega) (g18_2.ag (fun j => by rw [eig37, up2_a (by omega)])) (by rw [show z38.toInt.toNat = v10.toInt.toNat + 1 by omega]; exact umT g18_3 hkl (by rw [umS_3 (by rw [kd9]; omega) (by omega) (by0 sm9 (by omega)), cl9])) (hO) (by omega) (by omega) (by omega)
            · refine lv_aload_n hx hb dX9_firstFilled_56 rfl (lv_at hl 3 rfl) ?_
              refine r_get C hw (hsh 32 _ rfl) fl_X9_27 (oV_r rfl (hrs (32, 4, 35) (by decide))) dX9_firstFilled_57 ?_
              refine lv_iload hx hb dX9_firstFilled_60 (lv_at hl 0 rfl) ?_
              refine r_iald C hw (hsh 35 _ rfl) (by omega) (by omega) dX9_firstFilled_62 (ti_c (ig13 (B + 35) v10.toInt.toNat).toInt rfl fun z39 hz39 => ?_)
              have hz3 : z39.toInt = (plS (stp M y.toInt) x.toInt)[v10.toInt.toNat] := by rw [hz39]; exact hsk
              refine lv_istore (lv' := [(4, .int z39), (6, .int v10), (5, .int z8), (0, .ref (B + 32))]) hx hb dX9_firstFilled_63 hl (by decide) rfl (fun ls hl => ?_)
              refine lv_goto (tgt := 89) hx hb dX9_firstFilled_65 (by decide) ?_
              refine tc_inc hx hb dX9_firstFilled_89 hl (k := 1) rfl (by decide) (by decide) (fun z40 hz40 ls hl => ?_)
              first | replace hz40 := hz40 (by omega) | clear hz40
              have hl : lv_has ls 7 [(6, .int z40), (4, .int z39), (5, .int z8), (0, .ref (B + 32))] := hl
              refine lv_goto (tgt := 18) hx hb dX9_firstFilled_92 (by decide) ?_
              exact ih18 ls H locs kd12 ig13 rg14 lg15 z40 z39 (lv_sub hl [0, 2, 1, 3] rfl) hw hI hN (by omega) (by omega) (g18_2) (by rw [show z40.toInt.toNat = v10.toInt.toNat + 1 by omega]; exact umT g18_3 hkl (by rw [umS_1 (by rw [kd9]; omega) (by omega), hz3])) (hO) (by omega) (by omega) (by omega)
  exact L18 ((z8.toInt - z9.toInt) + 1).toNat ls H locs kd2 ig3 rg4 lg5 z9 z1 (lv_sub hl [0, 1, 2, 3] rfl) hw hI hN (by omega) (by omega) (phz8) (by rw [show z9.toInt.toNat = 0 by omega, ohz8.i 32 _, show z1.toInt = -1 by omega]; rfl) (hO) (by omega) (by omega) (by omega)

set_option maxHeartbeats 4000000 in
set_option maxRecDepth 100000 in
theorem t_X9_workOutE {τ : Tp} (l : Launch) (B : Nat) (D : va_G) (cA : Nat → ClassId) (kd : sK) (ig : sI) (rg : sR) (lg : sG) (sz : Nat) (x : Int32) (g : Nat) (M : Fm) (hM : FnL B kd ig rg g M) (σ : Sg) (π : Ps) (ν : Nat) (hS : SCh B σ π ν kd ig rg) (hx0 : 0 ≤ x.toInt ∧ x.toInt < 288) (hM9 : M = fmO (σ x.toInt.toNat)) (hft : fitL x.toInt M) (hwf : WfL M) (hg : HgL M) (hI : IC τ B kd ig rg) : MC l B D cA yX9_workOut cX9_workOut 5 none (rL 4 0 0) [.ref (B + 32), .int x, .ref g] kd ig rg lg sz (PI 990 τ B none kd ig rg lg (fun r kd' ig' rg' lg' => (r = none ∧ (WkC B σ x.toInt.toNat ig ig' ∧ Fo B [32, 33, 34, 35, 36] ig lg ig' lg' ∧ (ig' (B + 32) 8).toInt = (ig (B + 32) 8).toInt)))) := by
  refine MC.of (own := RX9) (by decide +kernel) rfl (Nat.le_of_ble_eq_true rfl) ?_
  intro p e s m args below meth c ls C hr hlk hnm hw hsz hl
  have hx := C.1.1
  have hb := C.1.2.1
  have hown := C.1.2.2.2.1
  have hts := C.1.2.2.2.2
  have hl : lv_has ls 5 [(0, .ref (B + 32)), (1, .int x), (2, .ref g)] := hl
  have hN : Nx 990 B none kd ig rg lg kd ig rg lg := Nx.rf
  have hsh := hI.sh
  have hrs := hI.rs
  have hO : Fo B [32, 33, 34, 35, 36] ig lg ig lg := Fo.rf
  have lng := hM.le
  refine lv_aload_n hx hb dX9_workOut_0 rfl (lv_at hl 0 rfl) ?_
  refine lv_iconst (v := 0) hx hb dX9_workOut_1 (by decide) (ti_c 0 (by decide) fun z1 hz1 => ?_)
  refine r_puti C hw (hsh 32 _ rfl) fl_X9_83 rfl (nar_b (by omega)) (fit_b (by omega)) dX9_workOut_2 (fun H locs hH hw => ?_)
  have hO0 := hO
  obtain ⟨ig2, eig2⟩ : ∃ f, f = up2 ig (B + 32) 7 z1 := ⟨_, rfl⟩
  rw [← eig2] at hw
  have hN : Nx 990 B none kd ig rg lg kd ig2 rg lg := by rw [eig2]; exact hN.pi (by omega)
  have hI : IC τ B kd ig2 rg := by rw [eig2]; exact hI.pi (show okR (some (0, 1)) _ from ⟨by show (0 : Int) ≤ _; omega, by show _ ≤ (1 : Int); omega⟩)
  have wig2_32_6 : (ig2 (B + 32) 6).toInt = (ig (B + 32) 6).toInt := by rw [eig2, up2_j (by decide)]
  have wig2 : (ig2 (B + 32) 7).toInt = z1.toInt := by rw [eig2, up2_eq]
  have wig2_32_8 : (ig2 (B + 32) 8).toInt = (ig (B + 32) 8).toInt := by rw [eig2, up2_j (by decide)]
  have hO : Fo B [32, 33, 34, 35, 36] ig lg ig2 lg := by rw [eig2]; exact hO0.pi (by decide)
  clear hO0
  refine lv_aload_n hx hb dX9_workOut_5 rfl (lv_at hl 0 rfl) ?_
  refine lv_iconst (v := 0) hx hb dX9_workOut_6 (by decide) (ti_c 0 (by decide) fun z3 hz3 => ?_)
  refine r_puti C hw (hsh 32 _ rfl) fl_X9_87 rfl rfl rfl dX9_workOut_7 (fun H locs hH hw => ?_)
  have hO0 := hO
  obtain ⟨ig4, eig4⟩ : ∃ f, f = up2 ig2 (B + 32) 6 z3 := ⟨_, rfl⟩
  rw [← eig4] at hw
  have hN : Nx 990 B none kd ig rg lg kd ig4 rg lg := by rw [eig4]; exact hN.pi (by omega)
  have hI : IC τ B kd ig4 rg := by rw [eig4]; exact hI.pi (show okR (some (0, 32)) _ from ⟨by show (0 : Int) ≤ _; omega, by show _ ≤ (32 : Int); omega⟩)
  have wig4 : (ig4 (B + 32) 6).toInt = z3.toInt := by rw [eig4, up2_eq]
  have wig4_32_7 : (ig4 (B + 32) 7).toInt = (ig2 (B + 32) 7).toInt := by rw [eig4, up2_j (by decide)]
  have wig4_32_8 : (ig4 (B + 32) 8).toInt = (ig2 (B + 32) 8).toInt := by rw [eig4, up2_j (by decide)]
  have hO : Fo B [32, 33, 34, 35, 36] ig lg ig4 lg := by rw [eig4]; exact hO0.pi (by decide)
  clear hO0
  refine lv_iconst (v := 0) hx hb dX9_workOut_10 (by decide) (ti_c 0 (by decide) fun z5 hz5 => ?_)
  refine lv_istore_n (lv' := [(3, .int z5), (0, .ref (B + 32)), (1, .int x), (2, .ref g)]) hx hb dX9_workOut_11 rfl hl (by decide) rfl (fun ls hl => ?_)
  have L12 : ∀ (n : Nat) (ls : Array Slot) (H : Heap) (locs : List Loc) (kd7 : sK) (ig8 : sI) (rg9 : sR) (lg10 : sG) (v6 : Int32), lv_has ls 5 [(3, .int v6), (0, .ref (B + 32)), (1, .int x), (2, .ref g)] → WD B D cA s.heap kd7 ig8 rg9 lg10 H locs → IC τ B kd7 ig8 rg9 → Nx 990 B none kd ig rg lg kd7 ig8 rg9 lg10 → (0 ≤ v6.toInt) → (v6.toInt ≤ (M.length : Int)) → (SkU B (uvA σ (uR B ig) x.toInt M v6.toInt.toNat).1 ig8) → ((czB (ig8 (B + 32) 7)) = (uvA σ (uR B ig) x.toInt M v6.toInt.toNat).2) → (Fo B [32, 35, 36] ig lg ig8 lg10) → (Fo B [32, 33, 34, 35, 36] ig lg ig8 lg10) → ((ig8 (B + 32) 8).toInt = (ig (B + 32) 8).toInt) → (M.length : Int) - v6.toInt < (n : Int) → W p l e (rL 4 0 0) s m args below meth c H locs 0 0 (MQ below (QcW B D cA (PI 990 τ B none kd ig rg lg (fun r kd' ig' rg' lg' => (r = none ∧ (WkC B σ x.toInt.toNat ig ig' ∧ Fo B [32, 33, 34, 35, 36] ig lg ig' lg' ∧ (ig' (B + 32) 8).toInt = (ig (B + 32) 8).toInt))))) args s 0 0 (fun q => B ≤ q)) (F0 m 12 ls []) := by
    intro n12
    induction n12 with
    | zero => intro ls H locs kd7 ig8 rg9 lg10 v6 hl hw hI hN g12_0 g12_1 g12_2 g12_3 g12_4 g12_5 g12_6 hmu; exact absurd hmu (by omega)
    | succ n12 ih12 =>
      intro ls H locs kd7 ig8 rg9 lg10 v6 hl hw hI hN g12_0 g12_1 g12_2 g12_3 g12_4 g12_5 g12_6 hmu
      have hsh := hI.sh
      have hrs := hI.rs
      have hO := g12_5
      have hO8 := g12_4
      refine lv_iload_n hx hb dX9_workOut_12 rfl (lv_at hl 0 rfl) ?_
      refine lv_aload_n hx hb dX9_workOut_13 rfl (lv_at hl 3 rfl) ?_
      refine r_callV (As := []) (rest := [.int v6]) C hw (t_X4_size l B D cA kd7 ig8 rg9 lg10 _ g M.length (FnL.F (hM.nx hN))  hI) sv_X9_90 (isFn.k (FnL.F (hM.nx hN))) rfl hl.1 rfl (Nat.le_of_ble_eq_true rfl) ⟨Nat.le_of_ble_eq_true rfl, Nat.le_of_ble_eq_true rfl⟩ ⟨Nat.le_of_ble_eq_true rfl, Nat.le_of_ble_eq_true rfl⟩ dX9_workOut_14 (fun r15 kd11 ig12 rg13 lg14 H locs hw hH hp16 => ?_)
      obtain ⟨rfl, rfl, rfl, rfl, hzhp16, hrhp16⟩ := hp16
      obtain ⟨z17, rfl, hz17⟩ := hrhp16
      refine b_ge (tgt := 86) hx hb dX9_workOut_17 (by decide) (fun c17 => ?_) (fun c17 => ?_)
      · obtain ⟨x0, ek0⟩ := uvA_1 (σ := σ) (u := uR B ig) (h := x.toInt) hg
        have sk8 : SkU B [x0] ig8 := by have q9 := g12_2; rw [show v6.toInt.toNat = M.length by omega, ek0] at q9; exact q9
        have cl8 : (czB (ig8 (B + 32) 7)) = (uvA σ (uR B ig) x.toInt M M.length).2 := by have q9 := g12_3; rw [show v6.toInt.toNat = M.length by omega] at q9; exact q9
        refine lv_iconst (v := 0) hx hb dX9_workOut_86 (by decide) (ti_c 0 (by decide) fun z18 hz18 => ?_)
        refine lv_istore_n (lv' := [(3, .int z18), (0, .ref (B + 32)), (1, .int x), (2, .ref g)]) hx hb dX9_workOut_87 rfl hl (by decide) rfl (fun ls hl => ?_)
        have L88 : ∀ (n : Nat) (ls : Array Slot) (H : Heap) (locs : List Loc) (kd20 : sK) (ig21 : sI) (rg22 : sR) (lg23 : sG) (v19 : Int32), lv_has ls 5 [(3, .int v19), (0, .ref (B + 32)), (1, .int x)] → WD B D cA s.heap kd20 ig21 rg22 lg23 H locs → IC τ B kd20 ig21 rg22 → Nx 990 B none kd ig rg lg kd20 ig21 rg22 lg23 → (0 ≤ v19.toInt) → (v19.toInt ≤ 3) → ((∀ j : Nat, ¬ (3 * x.toInt ≤ (j : Int) ∧ (j : Int) < 3 * x.toInt + v19.toInt) → ig21 (B + 33) j = ig (B + 33) j) ∧ ∀ k : Nat, (k : Int) < v19.toInt → ig21 (B + 33) (3 * x.toInt.toNat + k) = ucp x0 (k : Int)) → (SkU B [x0] ig21) → ((czB (ig21 (B + 32) 7)) = (uvA σ (uR B ig) x.toInt M M.length).2) → (∀ j, ig21 (B + 34) j = ig (B + 34) j) → (Fo B [32, 33, 34, 35, 36] ig lg ig21 lg23) → ((ig21 (B + 32) 8).toInt = (ig (B + 32) 8).toInt) → 3 - v19.toInt < (n : Int) → W p l e (rL 4 0 0) s m args below meth c H locs 0 0 (MQ below (QcW B D cA (PI 990 τ B none kd ig rg lg (fun r kd' ig' rg' lg' => (r = none ∧ (WkC B σ x.toInt.toNat ig ig' ∧ Fo B [32, 33, 34, 35, 36] ig lg ig' lg' ∧ (ig' (B + 32) 8).toInt = (ig (B + 32) 8).toInt))))) args s 0 0 (fun q => B ≤ q)) (F0 m 88 ls []) := by
          intro n88
          induction n88 with
          | zero => intro ls H locs kd20 ig21 rg22 lg23 v19 hl hw hI hN g88_0 g88_1 g88_2 g88_3 g88_4 g88_5 g88_6 g88_7 hmu; exact absurd hmu (by omega)
          | succ n88 ih88 =>
            intro ls H locs kd20 ig21 rg22 lg23 v19 hl hw hI hN g88_0 g88_1 g88_2 g88_3 g88_4 g88_5 g88_6 g88_7 hmu
            have hsh := hI.sh
            have hrs := hI.rs
            have hO := g88_6
            have ks1 := g88_3.1
            rw [List.length_singleton] at ks1
            refine lv_iload_n hx hb dX9_workOut_88 rfl (lv_at hl 0 rfl) ?_
            refine lv_iconst (v := 3) hx hb dX9_workOut_89 (by decide) (ti_c 3 (by decide) fun z24 hz24 => ?_)
            refine b_ge (tgt := 127) hx hb dX9_workOut_90 (by decide) (fun c90 => ?_) (fun c90 => ?_)
            · refine lv_aload_n hx hb dX9_workOut_127 rfl (lv_at hl 1 rfl) ?_
              refine r_get C hw (hsh 32 _ rfl) fl_X9_23 (oV_r rfl (hrs (32, 3, 34) (by decide))) dX9_workOut_128 ?_
              refine lv_iload_n hx hb dX9_workOut_131 rfl (lv_at hl 2 rfl) ?_
              refine lv_aload_n hx hb dX9_workOut_132 rfl (lv_at hl 1 rfl) ?_
              refine r_get C hw (hsh 32 _ rfl) fl_X9_83 (oV_i rfl) dX9_workOut_133 (ti_c (ig21 (B + 32) 7).toInt rfl fun z25 hz25 => ?_)
              have k26 : 0 ≤ (ig21 (B + 32) 7).toInt ∧ (ig21 (B + 32) 7).toInt ≤ 1 := hI.i 32 7 (by decide)
              refine r_zast C hw (hsh 34 _ rfl) (by omega) (by omega) (nar_b (by omega)) dX9_workOut_136 (fun H locs hH hw => ?_)
              have hO0 := hO
              obtain ⟨ig27, eig27⟩ : ∃ f, f = up2 ig21 (B + 34) x.toInt.toNat z25 := ⟨_, rfl⟩
              rw [← eig27] at hw
              have hN : Nx 990 B none kd ig rg lg kd20 ig27 rg22 lg23 := by rw [eig27]; exact hN.pi (by omega)
              have hI : IC τ B kd20 ig27 rg22 := by rw [eig27]; exact hI.pi (show okR none _ from trivial)
              have wig27_32_6 : (ig27 (B + 32) 6).toInt = (ig21 (B + 32) 6).toInt := by rw [eig27, up2_a (by omega)]
              have wig27_32_7 : (ig27 (B + 32) 7).toInt = (ig21 (B + 32) 7).toInt := by rw [eig27, up2_a (by omega)]
              have wig27_32_8 : (ig27 (B + 32) 8).toInt = (ig21 (B + 32) 8).toInt := by rw [eig27, up2_a (by omega)]
              have hO : Fo B [32, 33, 34, 35, 36] ig lg ig27 lg23 := by rw [eig27]; exact hO0.pi (by decide)
              clear hO0
              exact r_vret C hw hr hlk (Nat.le_of_ble_eq_true rfl) (Nat.le_of_ble_eq_true rfl) dX9_workOut_137 ⟨hI, hN, ⟨rfl, ⟨(by rw [eig27]; exact WkC.mk (fun j hj => g88_2.1 j (by omega)) (fun k hk => g88_2.2 k (by omega)) g88_5 (by rw [show czB z25 = czB (ig21 (B + 32) 7) from congrArg czB (i32_inj (by omega))]; exact g88_4) hM9 (by omega) ek0 rfl), hO, by omega⟩⟩⟩
            · refine lv_aload_n hx hb dX9_workOut_93 rfl (lv_at hl 1 rfl) ?_
              refine r_get C hw (hsh 32 _ rfl) fl_X9_19 (oV_r rfl (hrs (32, 2, 33) (by decide))) dX9_workOut_94 ?_
              refine lv_iload_n hx hb dX9_workOut_97 rfl (lv_at hl 2 rfl) ?_
              refine lv_iconst (v := 3) hx hb dX9_workOut_98 (by decide) (ti_c 3 (by decide) fun z28 hz28 => ?_)
              refine lv_imul hx hb dX9_workOut_99 (tc_mulR 3 hz28 fun z29 hz29 => ?_)
              first | replace hz29 := hz29 (by omega) | clear hz29
              refine lv_iload_n hx hb dX9_workOut_100 rfl (lv_at hl 0 rfl) ?_
              refine lv_iadd hx hb dX9_workOut_101 (tc_add fun z30 hz30 => ?_)
              first | replace hz30 := hz30 (by omega) | clear hz30
              refine lv_aload_n hx hb dX9_workOut_102 rfl (lv_at hl 1 rfl) ?_
              refine r_get C hw (hsh 32 _ rfl) fl_X9_87 (oV_i rfl) dX9_workOut_103 (ti_c (ig21 (B + 32) 6).toInt rfl fun z31 hz31 => ?_)
              have k32 : 0 ≤ (ig21 (B + 32) 6).toInt ∧ (ig21 (B + 32) 6).toInt ≤ 32 := hI.i 32 6 (by decide)
              refine lv_iconst (v := 1) hx hb dX9_workOut_106 (by decide) (ti_c 1 (by decide) fun z33 hz33 => ?_)
              refine b_ne (tgt := 119) hx hb dX9_workOut_107 (by decide) (fun c107 => ?_) (fun c107 => ?_)
              · exact absurd c107 (by omega)
              · refine lv_aload_n hx hb dX9_workOut_110 rfl (lv_at hl 1 rfl) ?_
                refine r_get C hw (hsh 32 _ rfl) fl_X9_30 (oV_r rfl (hrs (32, 5, 36) (by decide))) dX9_workOut_111 ?_
                refine lv_iload_n hx hb dX9_workOut_114 rfl (lv_at hl 0 rfl) ?_
                refine r_iald C hw (hsh 36 _ rfl) (by omega) (by omega) dX9_workOut_115 (ti_c (ig21 (B + 36) v19.toInt.toNat).toInt rfl fun z34 hz34 => ?_)
                have us9 : un3 (ig21 (B + 36)) 0 = x0 := g88_3.2 0 (by simp)
                have op9 : z34 = ucp x0 v19.toInt := by rw [← us9, ucp_3 (by omega)]; exact i32_inj (by rw [hz34, show 3 * 0 + v19.toInt.toNat = v19.toInt.toNat by omega])
                refine lv_goto (tgt := 120) hx hb dX9_workOut_116 (by decide) ?_
                refine r_iast C hw (hsh 33 _ rfl) (by omega) (by omega) dX9_workOut_120 (fun H locs hH hw => ?_)
                have hO0 := hO
                obtain ⟨ig35, eig35⟩ : ∃ f, f = up2 ig21 (B + 33) z30.toInt.toNat z34 := ⟨_, rfl⟩
                rw [← eig35] at hw
                have hN : Nx 990 B none kd ig rg lg kd20 ig35 rg22 lg23 := by rw [eig35]; exact hN.pi (by omega)
                have hI : IC τ B kd20 ig35 rg22 := by rw [eig35]; exact hI.pi (show okR none _ from trivial)
                have wig35_32_6 : (ig35 (B + 32) 6).toInt = (ig21 (B + 32) 6).toInt := by rw [eig35, up2_a (by omega)]
                have wig35_32_7 : (ig35 (B + 32) 7).toInt = (ig21 (B + 32) 7).toInt := by rw [eig35, up2_a (by omega)]
                have wig35_32_8 : (ig35 (B + 32) 8).toInt = (ig21 (B + 32) 8).toInt := by rw [eig35, up2_a (by omega)]
                have hO : Fo B [32, 33, 34, 35, 36] ig lg ig35 lg23 := by rw [eig35]; exact hO0.pi (by decide)
                clear hO0
                have ex9 : (∀ j : Nat, ¬ (3 * x.toInt ≤ (j : Int) ∧ (j : Int) < 3 * x.toInt + (v19.toInt + 1)) → ig35 (B + 33) j = ig (B + 33) j) ∧ ∀ k : Nat, (k : Int) < (v19.toInt + 1) → ig35 (B + 33) (3 * x.toInt.toNat + k) = ucp x0 (k : Int) := ⟨fun j hj => by rw [eig35, up2_j (by omega)]; exact g88_2.1 j (by omega), fun k hk => by rw [eig35]; by_cases e9 : (k : Int) = v19.toInt; (rw [show z30.toInt.toNat = 3 * x.toInt.toNat + k by omega, up2_eq, e9]; exact op9); (rw [up2_j (by omega)]; exact g88_2.2 k (by omega))⟩
                have sk7 : SkU B [x0] ig35 := g88_3.ag (by omega) (fun j => by rw [eig35, up2_a (by omega)])
                have cl7 : (czB (ig35 (B + 32) 7)) = (uvA σ (uR B ig) x.toInt M M.length).2 := by rw [show ig35 (B + 32) 7 = ig21 (B + 32) 7 by rw [eig35, up2_a (by omega)]]; exact g88_4
                have e47 : ∀ j, ig35 (B + 34) j = ig (B + 34) j := fun j => by rw [eig35, up2_a (by omega)]; exact g88_5 j
                refine tc_inc hx hb dX9_workOut_121 hl (k := 0) rfl (by decide) (by decide) (fun z36 hz36 ls hl => ?_)
                first | replace hz36 := hz36 (by omega) | clear hz36
                have hl : lv_has ls 5 [(3, .int z36), (0, .ref (B + 32)), (1, .int x)] := hl
                refine lv_goto (tgt := 88) hx hb dX9_workOut_124 (by decide) ?_
                exact ih88 ls H locs kd20 ig35 rg22 lg23 z36 (lv_sub hl [0, 1, 2] rfl) hw hI hN (by omega) (by omega) (by rw [show z36.toInt = v19.toInt + 1 by omega]; exact ex9) (sk7) (cl7) (e47) (hO) (by omega) (by omega)
        exact L88 ((3 - z18.toInt) + 1).toNat ls H locs kd7 ig8 rg9 lg10 z18 (lv_sub hl [0, 1, 2] rfl) hw hI hN (by omega) (by omega) (⟨fun j _ => g12_4.i 33 j, fun k hk => absurd hk (by omega)⟩) (sk8) (cl8) (fun j => g12_4.i 34 j) (hO) (by omega) (by omega)
      · refine lv_aload_n hx hb dX9_workOut_20 rfl (lv_at hl 3 rfl) ?_
        refine lv_iload_n hx hb dX9_workOut_21 rfl (lv_at hl 0 rfl) ?_
        obtain ⟨n9, ln9, n32, np9, n59⟩ := opr_u (σ := σ) (u := uR B ig) (h := x.toInt) hg (i := v6.toInt.toNat) (by omega)
        rw [show ((v6.toInt.toNat : Nat) : Int) = v6.toInt by omega] at np9 n59
        have es9 := uvA_t (σ := σ) (u := uR B ig) (h := x.toInt) (M := M) (i := v6.toInt.toNat) (z := v6.toInt) (by omega) (by omega)
        have sk9 := g12_2
        have cl9 := g12_3
        refine r_callV (As := [.int v6]) (rest := []) C hw (t_X4_stepAtE l B D cA kd7 ig8 rg9 lg10 _ g M (hM.nx hN) v6  hI) sv_X9_95 (isFn.k (FnL.F (hM.nx hN))) rfl hl.1 rfl (Nat.le_of_ble_eq_true rfl) ⟨Nat.le_of_ble_eq_true rfl, Nat.le_of_ble_eq_true rfl⟩ ⟨Nat.le_of_ble_eq_true rfl, Nat.le_of_ble_eq_true rfl⟩ dX9_workOut_22 (fun r41 kd37 ig38 rg39 lg40 H locs hw hH hp42 => ?_)
        obtain ⟨rfl, rfl, rfl, rfl, hzhp42, hrhp42⟩ := hp42
        obtain ⟨z43, rfl, hz43⟩ := hrhp42
        refine lv_istore (lv' := [(4, .int z43), (3, .int v6), (0, .ref (B + 32)), (1, .int x), (2, .ref g)]) hx hb dX9_workOut_25 hl (by decide) rfl (fun ls hl => ?_)
        refine lv_iload hx hb dX9_workOut_27 (lv_at hl 0 rfl) ?_
        have J80 : ∀ (ls : Array Slot) (H : Heap) (locs : List Loc) (kd44 : sK) (ig45 : sI) (rg46 : sR) (lg47 : sG) , lv_has ls 5 [(3, .int v6), (0, .ref (B + 32)), (1, .int x), (2, .ref g)] → WD B D cA s.heap kd44 ig45 rg46 lg47 H locs → IC τ B kd44 ig45 rg46 → Nx 990 B none kd ig rg lg kd44 ig45 rg46 lg47 → (SkU B (uvA σ (uR B ig) x.toInt M (v6.toInt.toNat + 1)).1 ig45) → ((czB (ig45 (B + 32) 7)) = (uvA σ (uR B ig) x.toInt M (v6.toInt.toNat + 1)).2) → (Fo B [32, 35, 36] ig lg ig45 lg47) → (Fo B [32, 33, 34, 35, 36] ig lg ig45 lg47) → ((ig45 (B + 32) 8).toInt = (ig (B + 32) 8).toInt) → W p l e (rL 4 0 0) s m args below meth c H locs 0 0 (MQ below (QcW B D cA (PI 990 τ B none kd ig rg lg (fun r kd' ig' rg' lg' => (r = none ∧ (WkC B σ x.toInt.toNat ig ig' ∧ Fo B [32, 33, 34, 35, 36] ig lg ig' lg' ∧ (ig' (B + 32) 8).toInt = (ig (B + 32) 8).toInt))))) args s 0 0 (fun q => B ≤ q)) (F0 m 80 ls []) := by
          intro ls H locs kd44 ig45 rg46 lg47 hl hw hI hN g80_0 g80_1 g80_2 g80_3 g80_4
          have hsh := hI.sh
          have hrs := hI.rs
          have hO := g80_3
          refine tc_inc hx hb dX9_workOut_80 hl (k := 0) rfl (by decide) (by decide) (fun z48 hz48 ls hl => ?_)
          first | replace hz48 := hz48 (by omega) | clear hz48
          have hl : lv_has ls 5 [(3, .int z48), (0, .ref (B + 32)), (1, .int x), (2, .ref g)] := hl
          refine lv_goto (tgt := 12) hx hb dX9_workOut_83 (by decide) ?_
          exact ih12 ls H locs kd44 ig45 rg46 lg47 z48 (lv_sub hl [0, 1, 2, 3] rfl) hw hI hN (by omega) (by omega) (by rw [show z48.toInt.toNat = v6.toInt.toNat + 1 by omega]; exact g80_0) (by rw [show z48.toInt.toNat = v6.toInt.toNat + 1 by omega]; exact g80_1) (g80_2) (hO) (by omega) (by omega)
        refine z_ne (tgt := 40) hx hb dX9_workOut_29 (by decide) (fun c29 => ?_) (fun c29 => ?_)
        · refine lv_aload_n hx hb dX9_workOut_40 rfl (lv_at hl 4 rfl) ?_
          refine lv_iload_n hx hb dX9_workOut_41 rfl (lv_at hl 1 rfl) ?_
          refine r_callV (As := [.int v6]) (rest := []) C hw (t_X4_readsAtE l B D cA kd7 ig8 rg9 lg10 _ g M (hM.nx hN) v6  hI) sv_X9_102 (isFn.k (FnL.F (hM.nx hN))) rfl hl.1 rfl (Nat.le_of_ble_eq_true rfl) ⟨Nat.le_of_ble_eq_true rfl, Nat.le_of_ble_eq_true rfl⟩ ⟨Nat.le_of_ble_eq_true rfl, Nat.le_of_ble_eq_true rfl⟩ dX9_workOut_42 (fun r53 kd49 ig50 rg51 lg52 H locs hw hH hp54 => ?_)
          obtain ⟨rfl, rfl, rfl, rfl, hzhp54, hrhp54⟩ := hp54
          obtain ⟨z55, rfl, hz55⟩ := hrhp54
          have rdh := hz55
          refine z_eq (tgt := 62) hx hb dX9_workOut_45 (by decide) (fun c45 => ?_) (fun c45 => ?_)
          · have nr9 := by0 rdh (by omega)
            refine lv_iload hx hb dX9_workOut_62 (lv_at hl 0 rfl) ?_
            refine lv_iconst (v := 4) hx hb dX9_workOut_64 (by decide) (ti_c 4 (by decide) fun z56 hz56 => ?_)
            refine b_eq (tgt := 80) hx hb dX9_workOut_65 (by decide) (fun c65 => ?_) (fun c65 => ?_)
            · exact J80 ls H locs kd7 ig8 rg9 lg10 (lv_sub hl [1, 2, 3, 4] rfl) hw hI hN ((by rw [es9, uvS_3 (by omega)]; exact sk9)) ((by rw [es9, uvS_3 (by omega)]; exact cl9)) (hO8) (hO) (by omega)
            · refine lv_iload hx hb dX9_workOut_68 (lv_at hl 0 rfl) ?_
              refine lv_iconst (v := 3) hx hb dX9_workOut_70 (by decide) (ti_c 3 (by decide) fun z57 hz57 => ?_)
              refine b_eq (tgt := 80) hx hb dX9_workOut_71 (by decide) (fun c71 => ?_) (fun c71 => ?_)
              · exact J80 ls H locs kd7 ig8 rg9 lg10 (lv_sub hl [1, 2, 3, 4] rfl) hw hI hN ((by rw [es9, uvS_3 (by omega)]; exact sk9)) ((by rw [es9, uvS_3 (by omega)]; exact cl9)) (hO8) (hO) (by omega)
              · have n5 := n59 (by omega) nr9 (by omega) (by omega)
                obtain ⟨y0, x1, k1, ek1⟩ := two_u (k := (uvA σ (uR B ig) x.toInt M v6.toInt.toNat).1) (by rw [ln9]; exact n5)
                have lk1 := congrArg List.length ek1
                rw [List.length_cons, List.length_cons, ln9] at lk1
                refine lv_aload_n hx hb dX9_workOut_74 rfl (lv_at hl 2 rfl) ?_
                refine lv_iload hx hb dX9_workOut_75 (lv_at hl 0 rfl) ?_
                refine r_callV (As := [.int z43]) (rest := []) C hw (t_X9_joinE l B D cA kd7 ig8 rg9 lg10 _ z43 k1 x1 y0 (by rw [← ek1]; exact sk9) (by omega) hI) sv_X9_109 (hsh 32 _ rfl) rfl hl.1 rfl (Nat.le_of_ble_eq_true rfl) ⟨Nat.le_of_ble_eq_true rfl, Nat.le_of_ble_eq_true rfl⟩ ⟨Nat.le_of_ble_eq_true rfl, Nat.le_of_ble_eq_true rfl⟩ dX9_workOut_77 (fun r62 kd58 ig59 rg60 lg61 H locs hw hH hp63 => ?_)
                obtain ⟨hI, hchp63, hrhp63⟩ := hp63
                have hN := hN.tr hchp63
                have hsh := hI.sh
                have hrs := hI.rs
                obtain ⟨rfl, hvhp63⟩ := hrhp63
                obtain ⟨phvhp63, ohvhp63, khvhp63_0⟩ := hvhp63
                have hO := hO.tr ohvhp63
                exact J80 ls H locs kd58 ig59 rg60 lg61 (lv_sub hl [1, 2, 3, 4] rfl) hw hI hN ((by rw [es9, uvS_5 (by omega) nr9 (by omega) (by omega) ek1, ← hz43]; exact phvhp63.1)) ((by rw [es9, uvS_5 (by omega) nr9 (by omega) (by omega) ek1, ← hz43]; have q9 := phvhp63.2; rw [cl9] at q9; exact q9)) (hO8.tr ohvhp63) (hO) (by omega)
          · have rd9 := by1 rdh (by omega)
            refine lv_aload_n hx hb dX9_workOut_48 rfl (lv_at hl 2 rfl) ?_
            refine lv_aload_n hx hb dX9_workOut_49 rfl (lv_at hl 2 rfl) ?_
            refine lv_iload_n hx hb dX9_workOut_50 rfl (lv_at hl 3 rfl) ?_
            refine lv_aload_n hx hb dX9_workOut_51 rfl (lv_at hl 4 rfl) ?_
            refine lv_iload_n hx hb dX9_workOut_52 rfl (lv_at hl 1 rfl) ?_
            refine r_callV (As := [.int x, .ref g, .int v6]) (rest := [.ref (B + 32)]) C hw (t_X9_firstFilledE l B D cA kd7 ig8 rg9 lg10 _ x g M (hM.nx hN) v6 σ π ν (hS.nx hN) (by omega) (by omega) (hwf.at (by omega) (by omega) rd9) (hft _ (stp_mem (L := M) (x := v6.toInt) (by omega) (by omega)) rd9) hI) sv_X9_105 (hsh 32 _ rfl) rfl hl.1 rfl (Nat.le_of_ble_eq_true rfl) ⟨Nat.le_of_ble_eq_true rfl, Nat.le_of_ble_eq_true rfl⟩ ⟨Nat.le_of_ble_eq_true rfl, Nat.le_of_ble_eq_true rfl⟩ dX9_workOut_53 (fun r68 kd64 ig65 rg66 lg67 H locs hw hH hp69 => ?_)
            obtain ⟨hI, hchp69, hrhp69⟩ := hp69
            have hN := hN.tr hchp69
            have hsh := hI.sh
            have hrs := hI.rs
            obtain ⟨z70, rfl, hz70⟩ := hrhp69
            obtain ⟨phz70, ohz70, khz70_0, khz70_1⟩ := hz70
            have hO := hO.tr ohz70
            have ff9 := phz70
            rw [uR.fo hO8, cl9] at ff9
            refine r_callV (As := [.int z70]) (rest := []) C hw (t_X9_pushUnitOfE l B D cA kd64 ig65 rg66 lg67 _ z70 _ (sk9.ag (by omega) (fun j => ohz70.i 36 j)) (by have q9 := np9 (Or.inr rd9); rw [ln9]; exact q9) hI) sv_X9_98 (hsh 32 _ rfl) rfl hl.1 rfl (Nat.le_of_ble_eq_true rfl) ⟨Nat.le_of_ble_eq_true rfl, Nat.le_of_ble_eq_true rfl⟩ ⟨Nat.le_of_ble_eq_true rfl, Nat.le_of_ble_eq_true rfl⟩ dX9_workOut_56 (fun r75 kd71 ig72 rg73 lg74 H locs hw hH hp76 => ?_)
            obtain ⟨hI, hchp76, hrhp76⟩ := hp76
            have hN := hN.tr hchp76
            have hsh := hI.sh
            have hrs := hI.rs
            obtain ⟨rfl, hvhp76⟩ := hrhp76
            obtain ⟨phvhp76, ohvhp76, khvhp76_0, khvhp76_1⟩ := hvhp76
            have hO := hO.tr ohvhp76
            refine lv_goto (tgt := 80) hx hb dX9_workOut_59 (by decide) ?_
            exact J80 ls H locs kd71 ig72 rg73 lg74 (lv_sub hl [1, 2, 3, 4] rfl) hw hI hN ((by rw [es9, uvS_r rd9]; have q9 := phvhp76; rw [uR.fo (hO8.tr ohz70), show unA (uR B ig) z70.toInt = unA (uR B ig) (spU σ (uR B ig) (uvA σ (uR B ig) x.toInt M v6.toInt.toNat).2 (stp M v6.toInt) x.toInt).1 from congrArg (unA (uR B ig)) (congrArg Prod.fst ff9)] at q9; exact q9)) ((by rw [es9, uvS_r rd9, show (ig72 (B + 32) 7) = ig65 (B + 32) 7 from i32_inj (by omega)]; exact congrArg Prod.snd ff9)) ((hO8.tr ohz70).tr ohvhp76) (hO) (by omega)
        · refine lv_aload_n hx hb dX9_workOut_32 rfl (lv_at hl 2 rfl) ?_
          refine lv_iconst (v := (-1)) hx hb dX9_workOut_33 (by decide) (ti_c (-1) (by decide) fun z77 hz77 => ?_)
          refine r_callV (As := [.int z77]) (rest := []) C hw (t_X9_pushUnitOfE l B D cA kd7 ig8 rg9 lg10 _ z77 _ sk9 (by have q9 := np9 (Or.inl (by omega)); rw [ln9]; exact q9) hI) sv_X9_98 (hsh 32 _ rfl) rfl hl.1 rfl (Nat.le_of_ble_eq_true rfl) ⟨Nat.le_of_ble_eq_true rfl, Nat.le_of_ble_eq_true rfl⟩ ⟨Nat.le_of_ble_eq_true rfl, Nat.le_of_ble_eq_true rfl⟩ dX9_workOut_34 (fun r82 kd78 ig79 rg80 lg81 H locs hw hH hp83 => ?_)
          obtain ⟨hI, hchp83, hrhp83⟩ := hp83
          have hN := hN.tr hchp83
          have hsh := hI.sh
          have hrs := hI.rs
          obtain ⟨rfl, hvhp83⟩ := hrhp83
          obtain ⟨phvhp83, ohvhp83, khvhp83_0, khvhp83_1⟩ := hvhp83
          have hO := hO.tr ohvhp83
          refine lv_goto (tgt := 80) hx hb dX9_workOut_37 (by decide) ?_
          exact J80 ls H locs kd78 ig79 rg80 lg81 (lv_sub hl [1, 2, 3, 4] rfl) hw hI hN ((by rw [es9, uvS_0 (by omega)]; have q9 := phvhp83; rw [unA_off (by omega)] at q9; exact q9)) ((by rw [es9, uvS_0 (by omega), show (ig79 (B + 32) 7) = ig8 (B + 32) 7 from i32_inj (by omega)]; exact cl9)) (hO8.tr ohvhp83) (hO) (by omega)
  exact L12 (((M.length : Int) - z5.toInt) + 1).toNat ls H locs kd ig4 rg lg z5 (lv_sub hl [0, 1, 2, 3] rfl) hw hI hN (by omega) (by omega) (by rw [show z5.toInt.toNat = 0 by omega]; exact SkU.nil (by omega)) (by rw [show z5.toInt.toNat = 0 by omega]; exact czB_0 (by omega)) ((by rw [eig4, eig2]; exact (Fo.rf.pi (by decide)).pi (by decide))) (hO) (by omega) (by omega)

set_option maxHeartbeats 4000000 in
set_option maxRecDepth 100000 in
theorem t_X9_settleU {κ : Int} {τ : Tp} (l : Launch) (B : Nat) (D : va_G) (cA : Nat → ClassId) (kd : sK) (ig : sI) (rg : sR) (lg : sG) (sz : Nat) (σ : Sg) (π : Ps) (ν : Nat) (hS : SCh B σ π ν kd ig rg) (hLv : LV κ B σ ν ig lg) (hUv : UV B σ ν ig) (hW : WS σ π) (hHt : HtS σ) (hI : IC τ B kd ig rg) : MC l B D cA yX9_settle cX9_settle 4 none (rL 6 0 0) [.ref (B + 32)] kd ig rg lg sz (PI 982 τ B none kd ig rg lg (fun r kd' ig' rg' lg' => (r = none ∧ ((UOk σ (uR B ig') (clR B ig') ∧ (ig' (B + 32) 8).toInt = (ν : Int) ∧ LV κ B σ ν ig' lg') ∧ Fo B [15, 16, 17, 18, 19, 20, 21, 22, 23, 32, 33, 34, 35, 36] ig lg ig' lg')))) := by
  refine MC.of (own := RX9) (by decide +kernel) rfl (Nat.le_of_ble_eq_true rfl) ?_
  intro p e s m args below meth c ls C hr hlk hnm hw hsz hl
  have hx := C.1.1
  have hb := C.1.2.1
  have hown := C.1.2.2.2.1
  have hts := C.1.2.2.2.2
  have hl : lv_has ls 4 [(0, .ref (B + 32))] := hl
  have hN : Nx 982 B none kd ig rg lg kd ig rg lg := Nx.rf
  have hsh := hI.sh
  have hrs := hI.rs
  have hO : Fo B [15, 16, 17, 18, 19, 20, 21, 22, 23, 32, 33, 34, 35, 36] ig lg ig lg := Fo.rf
  have hv9 := hS.v
  refine lv_aload_n hx hb dX9_settle_0 rfl (lv_at hl 0 rfl) ?_
  refine r_get C hw (hsh 32 _ rfl) fl_X9_33 (oV_i rfl) dX9_settle_1 (ti_c (ig (B + 32) 8).toInt rfl fun z1 hz1 => ?_)
  refine lv_aload_n hx hb dX9_settle_4 rfl (lv_at hl 0 rfl) ?_
  refine r_get C hw (hsh 32 _ rfl) fl_X9_9 (oV_r rfl (hrs (32, 0, 9) (by decide))) dX9_settle_5 ?_
  refine r_get C hw (hsh 9 _ rfl) fl_X9_37 (oV_i rfl) dX9_settle_8 (ti_c (ig (B + 9) 6).toInt rfl fun z2 hz2 => ?_)
  refine b_ne (tgt := 15) hx hb dX9_settle_11 (by decide) (fun c11 => ?_) (fun c11 => ?_)
  · refine lv_aload_n hx hb dX9_settle_15 rfl (lv_at hl 0 rfl) ?_
    refine lv_aload_n hx hb dX9_settle_16 rfl (lv_at hl 0 rfl) ?_
    refine r_get C hw (hsh 32 _ rfl) fl_X9_9 (oV_r rfl (hrs (32, 0, 9) (by decide))) dX9_settle_17 ?_
    refine r_get C hw (hsh 9 _ rfl) fl_X9_37 (oV_i rfl) dX9_settle_20 (ti_c (ig (B + 9) 6).toInt rfl fun z3 hz3 => ?_)
    refine r_puti C hw (hsh 32 _ rfl) fl_X9_33 rfl rfl rfl dX9_settle_23 (fun H locs hH hw => ?_)
    have hO0 := hO
    obtain ⟨ig4, eig4⟩ : ∃ f, f = up2 ig (B + 32) 8 z3 := ⟨_, rfl⟩
    rw [← eig4] at hw
    have hN : Nx 982 B none kd ig rg lg kd ig4 rg lg := by rw [eig4]; exact hN.pi (by omega)
    have hI : IC τ B kd ig4 rg := by rw [eig4]; exact hI.pi (show okR none _ from trivial)
    have wig4 : (ig4 (B + 32) 8).toInt = z3.toInt := by rw [eig4, up2_eq]
    have wig4_9_6 : (ig4 (B + 9) 6).toInt = (ig (B + 9) 6).toInt := by rw [eig4, up2_a (by omega)]
    have hO : Fo B [15, 16, 17, 18, 19, 20, 21, 22, 23, 32, 33, 34, 35, 36] ig lg ig4 lg := by rw [eig4]; exact hO0.pi (by decide)
    clear hO0
    refine lv_aload_n hx hb dX9_settle_26 rfl (lv_at hl 0 rfl) ?_
    refine r_get C hw (hsh 32 _ rfl) fl_X9_15 (oV_r rfl (hrs (32, 1, 15) (by decide))) dX9_settle_27 ?_
    refine r_callV (As := []) (rest := []) C hw (t_X5_settleE l B D cA kd ig4 rg lg _  σ π ν (hS.nx hN) (by rw [eig4]; exact hLv.w (by decide)) hW hI) sv_X9_40 (hsh 15 _ rfl) rfl hl.1 rfl (Nat.le_of_ble_eq_true rfl) ⟨Nat.le_of_ble_eq_true rfl, Nat.le_of_ble_eq_true rfl⟩ ⟨Nat.le_of_ble_eq_true rfl, Nat.le_of_ble_eq_true rfl⟩ dX9_settle_30 (fun r9 kd5 ig6 rg7 lg8 H locs hw hH hp10 => ?_)
    obtain ⟨hI, hchp10, hrhp10⟩ := hp10
    have hN := hN.tr hchp10
    have hsh := hI.sh
    have hrs := hI.rs
    obtain ⟨rfl, hvhp10⟩ := hrhp10
    obtain ⟨phvhp10, ohvhp10⟩ := hvhp10
    have hO := hO.tr ohvhp10
    have kwhvhp10_32_8 : (ig6 (B + 32) 8).toInt = (ig4 (B + 32) 8).toInt := by rw [ohvhp10.i 32 8]
    have kwhvhp10_9_6 : (ig6 (B + 9) 6).toInt = (ig4 (B + 9) 6).toInt := by rw [ohvhp10.i 9 6]
    refine lv_iconst (v := 0) hx hb dX9_settle_33 (by decide) (ti_c 0 (by decide) fun z11 hz11 => ?_)
    refine lv_istore_n (lv' := [(1, .int z11), (0, .ref (B + 32))]) hx hb dX9_settle_34 rfl hl (by decide) rfl (fun ls hl => ?_)
    have L35 : ∀ (n : Nat) (ls : Array Slot) (H : Heap) (locs : List Loc) (kd13 : sK) (ig14 : sI) (rg15 : sR) (lg16 : sG) (v12 : Int32), lv_has ls 4 [(1, .int v12), (0, .ref (B + 32))] → WD B D cA s.heap kd13 ig14 rg15 lg16 H locs → IC τ B kd13 ig14 rg15 → Nx 982 B none kd ig rg lg kd13 ig14 rg15 lg16 → (0 ≤ v12.toInt) → (v12.toInt ≤ 288) → (LkQ B σ ν ig14 lg16) → ((ig14 (B + 32) 8).toInt = (ν : Int)) → (InU B σ v12.toInt.toNat ig14) → (Fo B [15, 16, 17, 18, 19, 20, 21, 22, 23, 32, 33, 34, 35, 36] ig lg ig14 lg16) → 288 - v12.toInt < (n : Int) → W p l e (rL 6 0 0) s m args below meth c H locs 0 0 (MQ below (QcW B D cA (PI 982 τ B none kd ig rg lg (fun r kd' ig' rg' lg' => (r = none ∧ ((UOk σ (uR B ig') (clR B ig') ∧ (ig' (B + 32) 8).toInt = (ν : Int) ∧ LV κ B σ ν ig' lg') ∧ Fo B [15, 16, 17, 18, 19, 20, 21, 22, 23, 32, 33, 34, 35, 36] ig lg ig' lg'))))) args s 0 0 (fun q => B ≤ q)) (F0 m 35 ls []) := by
      intro n35
      induction n35 with
      | zero => intro ls H locs kd13 ig14 rg15 lg16 v12 hl hw hI hN g35_0 g35_1 g35_2 g35_3 g35_4 g35_5 hmu; exact absurd hmu (by omega)
      | succ n35 ih35 =>
        intro ls H locs kd13 ig14 rg15 lg16 v12 hl hw hI hN g35_0 g35_1 g35_2 g35_3 g35_4 g35_5 hmu
        have hsh := hI.sh
        have hrs := hI.rs
        have hO := g35_5
        refine lv_iload_n hx hb dX9_settle_35 rfl (lv_at hl 0 rfl) ?_
        refine lv_sipush (v := 288) hx hb dX9_settle_36 (by decide) (ti_c 288 (by decide) fun z17 hz17 => ?_)
        refine b_ge (tgt := 104) hx hb dX9_settle_39 (by decide) (fun c39 => ?_) (fun c39 => ?_)
        · refine lv_iconst (v := 0) hx hb dX9_settle_104 (by decide) (ti_c 0 (by decide) fun z18 hz18 => ?_)
          refine lv_istore_n (lv' := [(1, .int z18), (0, .ref (B + 32))]) hx hb dX9_settle_105 rfl hl (by decide) rfl (fun ls hl => ?_)
          have L106 : ∀ (n : Nat) (ls : Array Slot) (H : Heap) (locs : List Loc) (kd20 : sK) (ig21 : sI) (rg22 : sR) (lg23 : sG) (v19 : Int32), lv_has ls 4 [(1, .int v19), (0, .ref (B + 32))] → WD B D cA s.heap kd20 ig21 rg22 lg23 H locs → IC τ B kd20 ig21 rg22 → Nx 982 B none kd ig rg lg kd20 ig21 rg22 lg23 → (0 ≤ v19.toInt) → (v19.toInt ≤ 288) → (LkQ B σ ν ig21 lg23) → ((ig21 (B + 32) 8).toInt = (ν : Int)) → (UOI σ (oD B ig21) v19.toInt.toNat (uR B ig21) (clR B ig21)) → (v19.toInt ≤ (ig21 (B + 15) 9).toInt) → (Fo B [15, 16, 17, 18, 19, 20, 21, 22, 23, 32, 33, 34, 35, 36] ig lg ig21 lg23) → 288 - v19.toInt < (n : Int) → W p l e (rL 6 0 0) s m args below meth c H locs 0 0 (MQ below (QcW B D cA (PI 982 τ B none kd ig rg lg (fun r kd' ig' rg' lg' => (r = none ∧ ((UOk σ (uR B ig') (clR B ig') ∧ (ig' (B + 32) 8).toInt = (ν : Int) ∧ LV κ B σ ν ig' lg') ∧ Fo B [15, 16, 17, 18, 19, 20, 21, 22, 23, 32, 33, 34, 35, 36] ig lg ig' lg'))))) args s 0 0 (fun q => B ≤ q)) (F0 m 106 ls []) := by
            intro n106
            induction n106 with
            | zero => intro ls H locs kd20 ig21 rg22 lg23 v19 hl hw hI hN g106_0 g106_1 g106_2 g106_3 g106_4 g106_5 g106_6 hmu; exact absurd hmu (by omega)
            | succ n106 ih106 =>
              intro ls H locs kd20 ig21 rg22 lg23 v19 hl hw hI hN g106_0 g106_1 g106_2 g106_3 g106_4 g106_5 g106_6 hmu
              have hsh := hI.sh
              have hrs := hI.rs
              have hO := g106_6
              have k915 : 0 ≤ (ig21 (B + 15) 9).toInt ∧ (ig21 (B + 15) 9).toInt ≤ 288 := hI.i 15 9 (by decide)
              refine lv_iload_n hx hb dX9_settle_106 rfl (lv_at hl 0 rfl) ?_
              refine lv_aload_n hx hb dX9_settle_107 rfl (lv_at hl 1 rfl) ?_
              refine r_get C hw (hsh 32 _ rfl) fl_X9_15 (oV_r rfl (hrs (32, 1, 15) (by decide))) dX9_settle_108 ?_
              refine r_callV (As := []) (rest := [.int v19]) C hw (t_X5_orderSizeE l B D cA kd20 ig21 rg22 lg23 _   hI) sv_X9_60 (hsh 15 _ rfl) rfl hl.1 rfl (Nat.le_of_ble_eq_true rfl) ⟨Nat.le_of_ble_eq_true rfl, Nat.le_of_ble_eq_true rfl⟩ ⟨Nat.le_of_ble_eq_true rfl, Nat.le_of_ble_eq_true rfl⟩ dX9_settle_111 (fun r28 kd24 ig25 rg26 lg27 H locs hw hH hp29 => ?_)
              obtain ⟨rfl, rfl, rfl, rfl, hzhp29, hrhp29⟩ := hp29
              obtain ⟨z30, rfl, hz30⟩ := hrhp29
              refine b_ge (tgt := 169) hx hb dX9_settle_114 (by decide) (fun c114 => ?_) (fun c114 => ?_)
              · exact r_vret C hw hr hlk (Nat.le_of_ble_eq_true rfl) (Nat.le_of_ble_eq_true rfl) dX9_settle_169 ⟨hI, hN, ⟨rfl, ⟨⟨UOI.fin (n := oN B ig21) (by rw [← show v19.toInt.toNat = oN B ig21 by unfold oN; omega]; exact g106_4) g106_2.1.2.2, by omega, (g106_2.lv hLv.le)⟩, hO⟩⟩⟩
              · refine lv_aload_n hx hb dX9_settle_117 rfl (lv_at hl 1 rfl) ?_
                refine r_get C hw (hsh 32 _ rfl) fl_X9_15 (oV_r rfl (hrs (32, 1, 15) (by decide))) dX9_settle_118 ?_
                refine lv_iload_n hx hb dX9_settle_121 rfl (lv_at hl 0 rfl) ?_
                refine r_callV (As := [.int v19]) (rest := []) C hw (t_X5_inOrderE l B D cA kd20 ig21 rg22 lg23 _ v19 (by omega) hI) sv_X9_64 (hsh 15 _ rfl) rfl hl.1 rfl (Nat.le_of_ble_eq_true rfl) ⟨Nat.le_of_ble_eq_true rfl, Nat.le_of_ble_eq_true rfl⟩ ⟨Nat.le_of_ble_eq_true rfl, Nat.le_of_ble_eq_true rfl⟩ dX9_settle_122 (fun r35 kd31 ig32 rg33 lg34 H locs hw hH hp36 => ?_)
                obtain ⟨rfl, rfl, rfl, rfl, hzhp36, hrhp36⟩ := hp36
                obtain ⟨z37, rfl, hz37⟩ := hrhp36
                have hfo9 := g106_2.1.2.2.1 v19.toInt.toNat (by unfold oN; omega)
                have hov := oD_v hfo9.1
                have ho9 := hfo9.1
                have hod : oD B ig21 v19.toInt.toNat = z37.toInt.toNat := by omega
                have hon9 : 0 ≤ z37.toInt ∧ z37.toInt < 288 := by omega
                have hk2 : kdO (atC σ z37.toInt) = 2 := by rw [atC_on hon9, ← hod]; exact hfo9.2
                refine lv_istore_n (lv' := [(2, .int z37), (1, .int v19), (0, .ref (B + 32))]) hx hb dX9_settle_125 rfl hl (by decide) rfl (fun ls hl => ?_)
                refine lv_aload_n hx hb dX9_settle_126 rfl (lv_at hl 2 rfl) ?_
                refine r_get C hw (hsh 32 _ rfl) fl_X9_9 (oV_r rfl (hrs (32, 0, 9) (by decide))) dX9_settle_127 ?_
                refine lv_iload_n hx hb dX9_settle_130 rfl (lv_at hl 0 rfl) ?_
                refine r_callV (As := [.int z37]) (rest := []) C hw (t_X6_formulaAtE l B D cA kd20 ig21 rg22 lg23 _ z37 σ π ν (hS.nx hN) hI) sv_X9_68 (hsh 9 _ rfl) rfl hl.1 rfl (Nat.le_of_ble_eq_true rfl) ⟨Nat.le_of_ble_eq_true rfl, Nat.le_of_ble_eq_true rfl⟩ ⟨Nat.le_of_ble_eq_true rfl, Nat.le_of_ble_eq_true rfl⟩ dX9_settle_131 (fun r42 kd38 ig39 rg40 lg41 H locs hw hH hp43 => ?_)
                obtain ⟨rfl, rfl, rfl, rfl, hzhp43, hrhp43⟩ := hp43
                rcases hrhp43 with ⟨rfl, nkf44⟩ | ⟨f44, rfl, nkf44, hLf44⟩
                · refine lv_astore_nN (lv' := [(3, .null), (2, .int z37), (1, .int v19), (0, .ref (B + 32))]) hx hb dX9_settle_134 rfl hl (by decide) rfl (fun ls hl => ?_)
                  refine lv_iload_n hx hb dX9_settle_135 rfl (lv_at hl 1 rfl) ?_
                  refine r_callN (As := [.int z37]) (rest := []) C hw (t_X11_onSheet l B D cA kd20 ig21 rg22 lg23 _ z37  hI) sn_X9_72 rfl hl.1 rfl (Nat.le_of_ble_eq_true rfl) ⟨Nat.le_of_ble_eq_true rfl, Nat.le_of_ble_eq_true rfl⟩ ⟨Nat.le_of_ble_eq_true rfl, Nat.le_of_ble_eq_true rfl⟩ dX9_settle_136 (fun r49 kd45 ig46 rg47 lg48 H locs hw hH hp50 => ?_)
                  obtain ⟨rfl, rfl, rfl, rfl, hzhp50, hrhp50⟩ := hp50
                  obtain ⟨z51, rfl, hz51⟩ := hrhp50
                  refine z_eq (tgt := 163) hx hb dX9_settle_139 (by decide) (fun c139 => ?_) (fun c139 => ?_)
                  · exact absurd c139 (by omega)
                  · refine lv_aload_nN hx hb dX9_settle_142 rfl (lv_at hl 0 rfl) ?_
                    have J163 : ∀ (ls : Array Slot) (H : Heap) (locs : List Loc) (kd52 : sK) (ig53 : sI) (rg54 : sR) (lg55 : sG) , lv_has ls 4 [(1, .int v19), (0, .ref (B + 32))] → WD B D cA s.heap kd52 ig53 rg54 lg55 H locs → IC τ B kd52 ig53 rg54 → Nx 982 B none kd ig rg lg kd52 ig53 rg54 lg55 → (LkQ B σ ν ig53 lg55) → (UOI σ (oD B ig53) (v19.toInt.toNat + 1) (uR B ig53) (clR B ig53)) → ((ig53 (B + 32) 8).toInt = (ν : Int)) → (v19.toInt + 1 ≤ (ig53 (B + 15) 9).toInt) → (Fo B [15, 16, 17, 18, 19, 20, 21, 22, 23, 32, 33, 34, 35, 36] ig lg ig53 lg55) → W p l e (rL 6 0 0) s m args below meth c H locs 0 0 (MQ below (QcW B D cA (PI 982 τ B none kd ig rg lg (fun r kd' ig' rg' lg' => (r = none ∧ ((UOk σ (uR B ig') (clR B ig') ∧ (ig' (B + 32) 8).toInt = (ν : Int) ∧ LV κ B σ ν ig' lg') ∧ Fo B [15, 16, 17, 18, 19, 20, 21, 22, 23, 32, 33, 34, 35, 36] ig lg ig' lg'))))) args s 0 0 (fun q => B ≤ q)) (F0 m 163 ls []) := by
                      intro ls H locs kd52 ig53 rg54 lg55 hl hw hI hN g163_0 g163_1 g163_2 g163_3 g163_4
                      have hsh := hI.sh
                      have hrs := hI.rs
                      have hO := g163_4
                      refine tc_inc hx hb dX9_settle_163 hl (k := 0) rfl (by decide) (by decide) (fun z56 hz56 ls hl => ?_)
                      first | replace hz56 := hz56 (by omega) | clear hz56
                      have hl : lv_has ls 4 [(1, .int z56), (0, .ref (B + 32))] := hl
                      refine lv_goto (tgt := 106) hx hb dX9_settle_166 (by decide) ?_
                      exact ih106 ls H locs kd52 ig53 rg54 lg55 z56 (lv_sub hl [0, 1] rfl) hw hI hN (by omega) (by omega) (g163_0) (by omega) (by rw [show z56.toInt.toNat = v19.toInt.toNat + 1 by omega]; exact g163_1) (by omega) (hO) (by omega)
                    refine lv_ifnullN (tgt := 163) hx hb dX9_settle_143 (by decide) ?_
                    exact J163 ls H locs kd20 ig21 rg22 lg23 (lv_sub hl [2, 3] rfl) hw hI hN ((nkf44 hk2).elim) ((nkf44 hk2).elim) ((nkf44 hk2).elim) ((nkf44 hk2).elim) (hO)
                · have lf44 := hLf44.le
                  refine lv_astore_n (lv' := [(3, .ref f44), (2, .int z37), (1, .int v19), (0, .ref (B + 32))]) hx hb dX9_settle_134 rfl hl (by decide) rfl (fun ls hl => ?_)
                  refine lv_iload_n hx hb dX9_settle_135 rfl (lv_at hl 1 rfl) ?_
                  refine r_callN (As := [.int z37]) (rest := []) C hw (t_X11_onSheet l B D cA kd20 ig21 rg22 lg23 _ z37  hI) sn_X9_72 rfl hl.1 rfl (Nat.le_of_ble_eq_true rfl) ⟨Nat.le_of_ble_eq_true rfl, Nat.le_of_ble_eq_true rfl⟩ ⟨Nat.le_of_ble_eq_true rfl, Nat.le_of_ble_eq_true rfl⟩ dX9_settle_136 (fun r61 kd57 ig58 rg59 lg60 H locs hw hH hp62 => ?_)
                  obtain ⟨rfl, rfl, rfl, rfl, hzhp62, hrhp62⟩ := hp62
                  obtain ⟨z63, rfl, hz63⟩ := hrhp62
                  refine z_eq (tgt := 163) hx hb dX9_settle_139 (by decide) (fun c139 => ?_) (fun c139 => ?_)
                  · exact absurd c139 (by omega)
                  · refine lv_aload_n hx hb dX9_settle_142 rfl (lv_at hl 0 rfl) ?_
                    have J163 : ∀ (ls : Array Slot) (H : Heap) (locs : List Loc) (kd64 : sK) (ig65 : sI) (rg66 : sR) (lg67 : sG) , lv_has ls 4 [(1, .int v19), (0, .ref (B + 32))] → WD B D cA s.heap kd64 ig65 rg66 lg67 H locs → IC τ B kd64 ig65 rg66 → Nx 982 B none kd ig rg lg kd64 ig65 rg66 lg67 → (LkQ B σ ν ig65 lg67) → (UOI σ (oD B ig65) (v19.toInt.toNat + 1) (uR B ig65) (clR B ig65)) → ((ig65 (B + 32) 8).toInt = (ν : Int)) → (v19.toInt + 1 ≤ (ig65 (B + 15) 9).toInt) → (Fo B [15, 16, 17, 18, 19, 20, 21, 22, 23, 32, 33, 34, 35, 36] ig lg ig65 lg67) → W p l e (rL 6 0 0) s m args below meth c H locs 0 0 (MQ below (QcW B D cA (PI 982 τ B none kd ig rg lg (fun r kd' ig' rg' lg' => (r = none ∧ ((UOk σ (uR B ig') (clR B ig') ∧ (ig' (B + 32) 8).toInt = (ν : Int) ∧ LV κ B σ ν ig' lg') ∧ Fo B [15, 16, 17, 18, 19, 20, 21, 22, 23, 32, 33, 34, 35, 36] ig lg ig' lg'))))) args s 0 0 (fun q => B ≤ q)) (F0 m 163 ls []) := by
                      intro ls H locs kd64 ig65 rg66 lg67 hl hw hI hN g163_0 g163_1 g163_2 g163_3 g163_4
                      have hsh := hI.sh
                      have hrs := hI.rs
                      have hO := g163_4
                      refine tc_inc hx hb dX9_settle_163 hl (k := 0) rfl (by decide) (by decide) (fun z68 hz68 ls hl => ?_)
                      first | replace hz68 := hz68 (by omega) | clear hz68
                      have hl : lv_has ls 4 [(1, .int z68), (0, .ref (B + 32))] := hl
                      refine lv_goto (tgt := 106) hx hb dX9_settle_166 (by decide) ?_
                      exact ih106 ls H locs kd64 ig65 rg66 lg67 z68 (lv_sub hl [0, 1] rfl) hw hI hN (by omega) (by omega) (g163_0) (by omega) (by rw [show z68.toInt.toNat = v19.toInt.toNat + 1 by omega]; exact g163_1) (by omega) (hO) (by omega)
                    refine lv_ifnull hx hb dX9_settle_143 ?_
                    refine lv_aload_n hx hb dX9_settle_146 rfl (lv_at hl 3 rfl) ?_
                    refine r_get C hw (hsh 32 _ rfl) fl_X9_15 (oV_r rfl (hrs (32, 1, 15) (by decide))) dX9_settle_147 ?_
                    refine lv_iload_n hx hb dX9_settle_150 rfl (lv_at hl 1 rfl) ?_
                    refine r_callV (As := [.int z37]) (rest := []) C hw (t_X5_inRingE l B D cA kd20 ig21 rg22 lg23 _ z37 (Rg σ) g106_2.1.2.1 (by omega) hI) sv_X9_76 (hsh 15 _ rfl) rfl hl.1 rfl (Nat.le_of_ble_eq_true rfl) ⟨Nat.le_of_ble_eq_true rfl, Nat.le_of_ble_eq_true rfl⟩ ⟨Nat.le_of_ble_eq_true rfl, Nat.le_of_ble_eq_true rfl⟩ dX9_settle_151 (fun r73 kd69 ig70 rg71 lg72 H locs hw hH hp74 => ?_)
                    obtain ⟨rfl, rfl, rfl, rfl, hzhp74, hrhp74⟩ := hp74
                    obtain ⟨z75, rfl, hz75⟩ := hrhp74
                    have rg9 := hz75
                    refine z_ne (tgt := 163) hx hb dX9_settle_154 (by decide) (fun c154 => ?_) (fun c154 => ?_)
                    · exact J163 ls H locs kd20 ig21 rg22 lg23 (lv_sub hl [2, 3] rfl) hw hI hN (g106_2) ((UOI.step g106_4 g106_2.1.2.2 hW (by unfold oN; omega) (fun _ _ => ⟨rfl, rfl⟩) (fun _ => ⟨rfl, rfl⟩) (fun w9 => absurd (by rw [hod]; exact by1 rg9 (by omega)) w9))) ((by omega)) ((by omega)) (hO)
                    · refine lv_aload_n hx hb dX9_settle_157 rfl (lv_at hl 3 rfl) ?_
                      refine lv_iload_n hx hb dX9_settle_158 rfl (lv_at hl 1 rfl) ?_
                      refine lv_aload_n hx hb dX9_settle_159 rfl (lv_at hl 0 rfl) ?_
                      refine r_callV (As := [.int z37, .ref f44]) (rest := []) C hw (t_X9_workOutE l B D cA kd20 ig21 rg22 lg23 _ z37 f44 (fmO (atC σ z37.toInt)) hLf44 σ π ν (hS.nx hN) hon9 (by rw [atC_on hon9]) (hW.wf hk2).1 (hW.wf hk2).2 (by rw [atC_on hon9]; exact hHt _ (by omega) (by rw [← atC_on (σ := σ) hon9]; exact hk2)) hI) sv_X9_79 (hsh 32 _ rfl) rfl hl.1 rfl (Nat.le_of_ble_eq_true rfl) ⟨Nat.le_of_ble_eq_true rfl, Nat.le_of_ble_eq_true rfl⟩ ⟨Nat.le_of_ble_eq_true rfl, Nat.le_of_ble_eq_true rfl⟩ dX9_settle_160 (fun r80 kd76 ig77 rg78 lg79 H locs hw hH hp81 => ?_)
                      obtain ⟨hI, hchp81, hrhp81⟩ := hp81
                      have hN := hN.tr hchp81
                      have hsh := hI.sh
                      have hrs := hI.rs
                      obtain ⟨rfl, hvhp81⟩ := hrhp81
                      obtain ⟨phvhp81, ohvhp81, khvhp81_0⟩ := hvhp81
                      have hO := hO.tr ohvhp81
                      have kwhvhp81_9_6 : (ig77 (B + 9) 6).toInt = (ig21 (B + 9) 6).toInt := by rw [ohvhp81.i 9 6]
                      exact J163 ls H locs kd76 ig77 rg78 lg79 (lv_sub hl [2, 3] rfl) hw hI hN (g106_2.fo ohvhp81) ((by have q9 := UOI.step (u' := uR B ig77) (c' := clR B ig77) g106_4 g106_2.1.2.2 hW (by unfold oN; omega) (by rw [hod]; exact phvhp81.1) (fun w9 => absurd (by rw [hod] at w9; exact w9) (by0 rg9 (by omega))) (fun _ => by rw [hod]; exact phvhp81.2); rw [LkQ.od ohvhp81]; exact q9)) ((by omega)) ((by rw [ohvhp81.i 15 _]; omega)) (hO)
          exact L106 ((288 - z18.toInt) + 1).toNat ls H locs kd13 ig14 rg15 lg16 z18 (lv_sub hl [0, 1] rfl) hw hI hN (by omega) (by omega) (g35_2) (by omega) (⟨fun p hp _ => g35_4 p (by omega), fun j hj => absurd hj (by omega)⟩) ((by have q9 : 0 ≤ (ig14 (B + 15) 9).toInt ∧ (ig14 (B + 15) 9).toInt ≤ 288 := hI.i 15 9 (by decide); omega)) (hO) (by omega)
        · refine lv_aload_n hx hb dX9_settle_42 rfl (lv_at hl 1 rfl) ?_
          refine r_get C hw (hsh 32 _ rfl) fl_X9_9 (oV_r rfl (hrs (32, 0, 9) (by decide))) dX9_settle_43 ?_
          refine lv_iload_n hx hb dX9_settle_46 rfl (lv_at hl 0 rfl) ?_
          refine r_callV (As := [.int v12]) (rest := []) C hw (t_X6_atE l B D cA kd13 ig14 rg15 lg16 _ v12 σ π ν (hS.nx hN) hI) sv_X9_45 (hsh 9 _ rfl) rfl hl.1 rfl (Nat.le_of_ble_eq_true rfl) ⟨Nat.le_of_ble_eq_true rfl, Nat.le_of_ble_eq_true rfl⟩ ⟨Nat.le_of_ble_eq_true rfl, Nat.le_of_ble_eq_true rfl⟩ dX9_settle_47 (fun r86 kd82 ig83 rg84 lg85 H locs hw hH hp87 => ?_)
          obtain ⟨rfl, rfl, rfl, rfl, hzhp87, hrhp87⟩ := hp87
          obtain ⟨q88, rfl, hcq88⟩ := hrhp87
          obtain ⟨nq88, kq88⟩ := hcq88.kq
          refine lv_astore_n (lv' := [(2, .ref q88), (1, .int v12), (0, .ref (B + 32))]) hx hb dX9_settle_50 rfl hl (by decide) rfl (fun ls hl => ?_)
          refine lv_aload_n hx hb dX9_settle_51 rfl (lv_at hl 2 rfl) ?_
          refine r_get C hw (hsh 32 _ rfl) fl_X9_19 (oV_r rfl (hrs (32, 2, 33) (by decide))) dX9_settle_52 ?_
          refine lv_iload_n hx hb dX9_settle_55 rfl (lv_at hl 1 rfl) ?_
          refine lv_iconst (v := 3) hx hb dX9_settle_56 (by decide) (ti_c 3 (by decide) fun z89 hz89 => ?_)
          refine lv_imul hx hb dX9_settle_57 (tc_mulR 3 hz89 fun z90 hz90 => ?_)
          first | replace hz90 := hz90 (by omega) | clear hz90
          refine lv_aload_n hx hb dX9_settle_58 rfl (lv_at hl 0 rfl) ?_
          refine r_get C hw kq88 fl_X9_49 (oV_i rfl) dX9_settle_59 (ti_c (ig14 q88 3).toInt rfl fun z91 hz91 => ?_)
          have hfz91 : z91.toInt = (atC σ v12.toInt).2.1.1 := hz91.trans hcq88.2.2.1.2.2.1
          refine r_iast C hw (hsh 33 _ rfl) (by omega) (by omega) dX9_settle_62 (fun H locs hH hw => ?_)
          have hO0 := hO
          obtain ⟨ig92, eig92⟩ : ∃ f, f = up2 ig14 (B + 33) z90.toInt.toNat z91 := ⟨_, rfl⟩
          rw [← eig92] at hw
          have hN : Nx 982 B none kd ig rg lg kd13 ig92 rg15 lg16 := by rw [eig92]; exact hN.pi (by omega)
          have hI : IC τ B kd13 ig92 rg15 := by rw [eig92]; exact hI.pi (show okR none _ from trivial)
          have wig92_32_8 : (ig92 (B + 32) 8).toInt = (ig14 (B + 32) 8).toInt := by rw [eig92, up2_a (by omega)]
          have wig92_9_6 : (ig92 (B + 9) 6).toInt = (ig14 (B + 9) 6).toInt := by rw [eig92, up2_a (by omega)]
          have hO : Fo B [15, 16, 17, 18, 19, 20, 21, 22, 23, 32, 33, 34, 35, 36] ig lg ig92 lg16 := by rw [eig92]; exact hO0.pi (by decide)
          clear hO0
          have lq62 : LkQ B σ ν ig92 lg16 := by rw [eig92]; exact g35_2.w (by decide)
          have hcq88 : ClQ B kd13 ig92 rg15 q88 (atC σ v12.toInt) := by rw [eig92]; exact ClQ.ag hcq88 (fun a j ha => up2_a (by omega)) (fun _ _ _ => rfl)
          refine lv_aload_n hx hb dX9_settle_63 rfl (lv_at hl 2 rfl) ?_
          refine r_get C hw (hsh 32 _ rfl) fl_X9_19 (oV_r rfl (hrs (32, 2, 33) (by decide))) dX9_settle_64 ?_
          refine lv_iload_n hx hb dX9_settle_67 rfl (lv_at hl 1 rfl) ?_
          refine lv_iconst (v := 3) hx hb dX9_settle_68 (by decide) (ti_c 3 (by decide) fun z93 hz93 => ?_)
          refine lv_imul hx hb dX9_settle_69 (tc_mulR 3 hz93 fun z94 hz94 => ?_)
          first | replace hz94 := hz94 (by omega) | clear hz94
          refine lv_iconst (v := 1) hx hb dX9_settle_70 (by decide) (ti_c 1 (by decide) fun z95 hz95 => ?_)
          refine lv_iadd hx hb dX9_settle_71 (tc_add fun z96 hz96 => ?_)
          first | replace hz96 := hz96 (by omega) | clear hz96
          refine lv_aload_n hx hb dX9_settle_72 rfl (lv_at hl 0 rfl) ?_
          refine r_get C hw kq88 fl_X9_54 (oV_i rfl) dX9_settle_73 (ti_c (ig92 q88 4).toInt rfl fun z97 hz97 => ?_)
          have hfz97 : z97.toInt = (atC σ v12.toInt).2.1.2.1 := hz97.trans hcq88.2.2.1.2.2.2.1
          refine r_iast C hw (hsh 33 _ rfl) (by omega) (by omega) dX9_settle_76 (fun H locs hH hw => ?_)
          have hO0 := hO
          obtain ⟨ig98, eig98⟩ : ∃ f, f = up2 ig92 (B + 33) z96.toInt.toNat z97 := ⟨_, rfl⟩
          rw [← eig98] at hw
          have hN : Nx 982 B none kd ig rg lg kd13 ig98 rg15 lg16 := by rw [eig98]; exact hN.pi (by omega)
          have hI : IC τ B kd13 ig98 rg15 := by rw [eig98]; exact hI.pi (show okR none _ from trivial)
          have wig98_32_8 : (ig98 (B + 32) 8).toInt = (ig92 (B + 32) 8).toInt := by rw [eig98, up2_a (by omega)]
          have wig98_9_6 : (ig98 (B + 9) 6).toInt = (ig92 (B + 9) 6).toInt := by rw [eig98, up2_a (by omega)]
          have hO : Fo B [15, 16, 17, 18, 19, 20, 21, 22, 23, 32, 33, 34, 35, 36] ig lg ig98 lg16 := by rw [eig98]; exact hO0.pi (by decide)
          clear hO0
          have lq76 : LkQ B σ ν ig98 lg16 := by rw [eig98]; exact lq62.w (by decide)
          have hcq88 : ClQ B kd13 ig98 rg15 q88 (atC σ v12.toInt) := by rw [eig98]; exact ClQ.ag hcq88 (fun a j ha => up2_a (by omega)) (fun _ _ _ => rfl)
          refine lv_aload_n hx hb dX9_settle_77 rfl (lv_at hl 2 rfl) ?_
          refine r_get C hw (hsh 32 _ rfl) fl_X9_19 (oV_r rfl (hrs (32, 2, 33) (by decide))) dX9_settle_78 ?_
          refine lv_iload_n hx hb dX9_settle_81 rfl (lv_at hl 1 rfl) ?_
          refine lv_iconst (v := 3) hx hb dX9_settle_82 (by decide) (ti_c 3 (by decide) fun z99 hz99 => ?_)
          refine lv_imul hx hb dX9_settle_83 (tc_mulR 3 hz99 fun z100 hz100 => ?_)
          first | replace hz100 := hz100 (by omega) | clear hz100
          refine lv_iconst (v := 2) hx hb dX9_settle_84 (by decide) (ti_c 2 (by decide) fun z101 hz101 => ?_)
          refine lv_iadd hx hb dX9_settle_85 (tc_add fun z102 hz102 => ?_)
          first | replace hz102 := hz102 (by omega) | clear hz102
          refine lv_aload_n hx hb dX9_settle_86 rfl (lv_at hl 0 rfl) ?_
          refine r_get C hw kq88 fl_X9_57 (oV_i rfl) dX9_settle_87 (ti_c (ig98 q88 5).toInt rfl fun z103 hz103 => ?_)
          have hfz103 : z103.toInt = (atC σ v12.toInt).2.1.2.2 := hz103.trans hcq88.2.2.1.2.2.2.2
          refine r_iast C hw (hsh 33 _ rfl) (by omega) (by omega) dX9_settle_90 (fun H locs hH hw => ?_)
          have hO0 := hO
          obtain ⟨ig104, eig104⟩ : ∃ f, f = up2 ig98 (B + 33) z102.toInt.toNat z103 := ⟨_, rfl⟩
          rw [← eig104] at hw
          have hN : Nx 982 B none kd ig rg lg kd13 ig104 rg15 lg16 := by rw [eig104]; exact hN.pi (by omega)
          have hI : IC τ B kd13 ig104 rg15 := by rw [eig104]; exact hI.pi (show okR none _ from trivial)
          have wig104_32_8 : (ig104 (B + 32) 8).toInt = (ig98 (B + 32) 8).toInt := by rw [eig104, up2_a (by omega)]
          have wig104_9_6 : (ig104 (B + 9) 6).toInt = (ig98 (B + 9) 6).toInt := by rw [eig104, up2_a (by omega)]
          have hO : Fo B [15, 16, 17, 18, 19, 20, 21, 22, 23, 32, 33, 34, 35, 36] ig lg ig104 lg16 := by rw [eig104]; exact hO0.pi (by decide)
          clear hO0
          have lq90 : LkQ B σ ν ig104 lg16 := by rw [eig104]; exact lq76.w (by decide)
          have hcq88 : ClQ B kd13 ig104 rg15 q88 (atC σ v12.toInt) := by rw [eig104]; exact ClQ.ag hcq88 (fun a j ha => up2_a (by omega)) (fun _ _ _ => rfl)
          refine lv_aload_n hx hb dX9_settle_91 rfl (lv_at hl 2 rfl) ?_
          refine r_get C hw (hsh 32 _ rfl) fl_X9_23 (oV_r rfl (hrs (32, 3, 34) (by decide))) dX9_settle_92 ?_
          refine lv_iload_n hx hb dX9_settle_95 rfl (lv_at hl 1 rfl) ?_
          refine lv_iconst (v := 0) hx hb dX9_settle_96 (by decide) (ti_c 0 (by decide) fun z105 hz105 => ?_)
          refine r_zast C hw (hsh 34 _ rfl) (by omega) (by omega) (nar_b (by omega)) dX9_settle_97 (fun H locs hH hw => ?_)
          have hO0 := hO
          obtain ⟨ig106, eig106⟩ : ∃ f, f = up2 ig104 (B + 34) v12.toInt.toNat z105 := ⟨_, rfl⟩
          rw [← eig106] at hw
          have hN : Nx 982 B none kd ig rg lg kd13 ig106 rg15 lg16 := by rw [eig106]; exact hN.pi (by omega)
          have hI : IC τ B kd13 ig106 rg15 := by rw [eig106]; exact hI.pi (show okR none _ from trivial)
          have wig106_32_8 : (ig106 (B + 32) 8).toInt = (ig104 (B + 32) 8).toInt := by rw [eig106, up2_a (by omega)]
          have wig106_9_6 : (ig106 (B + 9) 6).toInt = (ig104 (B + 9) 6).toInt := by rw [eig106, up2_a (by omega)]
          have hO : Fo B [15, 16, 17, 18, 19, 20, 21, 22, 23, 32, 33, 34, 35, 36] ig lg ig106 lg16 := by rw [eig106]; exact hO0.pi (by decide)
          clear hO0
          have lq97 : LkQ B σ ν ig106 lg16 := by rw [eig106]; exact lq90.w (by decide)
          have in97 : InU B σ (v12.toInt.toNat + 1) ig106 := by rw [eig106, eig104, eig98, eig92]; exact InU.step g35_4 (by omega) (by omega) (by omega) (hfz91.trans (by rw [atC_on (by omega)])) (hfz97.trans (by rw [atC_on (by omega)])) (hfz103.trans (by rw [atC_on (by omega)])) (by omega)
          refine tc_inc hx hb dX9_settle_98 hl (k := 1) rfl (by decide) (by decide) (fun z107 hz107 ls hl => ?_)
          first | replace hz107 := hz107 (by omega) | clear hz107
          have hl : lv_has ls 4 [(1, .int z107), (2, .ref q88), (0, .ref (B + 32))] := hl
          refine lv_goto (tgt := 35) hx hb dX9_settle_101 (by decide) ?_
          exact ih35 ls H locs kd13 ig106 rg15 lg16 z107 (lv_sub hl [0, 2] rfl) hw hI hN (by omega) (by omega) (lq97) (by omega) (by rw [show z107.toInt.toNat = v12.toInt.toNat + 1 by omega]; exact in97) (hO) (by omega)
    exact L35 ((288 - z11.toInt) + 1).toNat ls H locs kd5 ig6 rg7 lg8 z11 (lv_sub hl [0, 1] rfl) hw hI hN (by omega) (by omega) (phvhp10) (by rw [ohvhp10.i 32 _]; omega) (fun p hp => absurd hp (by omega)) (hO) (by omega)
  · exact r_vret C hw hr hlk (Nat.le_of_ble_eq_true rfl) (Nat.le_of_ble_eq_true rfl) dX9_settle_14 ⟨hI, hN, ⟨rfl, ⟨⟨hUv.2 (by omega), by omega, hLv⟩, hO⟩⟩⟩
