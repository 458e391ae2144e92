/-! the operands that wait -/
def SkV (B : Nat) (k : List Int32) (ig : sI) : Prop := (ig (B + 24) 6).toInt = (k.length : Int) ∧ ∀ i (h : i < k.length), ig (B + 28) (k.length - 1 - i) = k[i]
section SKV
variable {B : Nat} {k : List Int32} {ig ig' : sI} {x v w : Int32} {n : Nat}
theorem SkV.push (h : SkV B k ig) (hn : (n : Int) = (k.length : Int)) (hw : w.toInt = (k.length : Int) + 1) : SkV B (v :: k) (up2 (up2 ig (B + 28) n v) (B + 24) 6 w) := by
  have en : n = k.length := by omega
  subst en
  refine ⟨by rw [up2_eq, hw]; simp, fun i hi => ?_⟩
  rw [up2_a (by omega)]
  rw [List.length_cons] at hi
  cases i with
  | zero =>
    have e : (v :: k).length - 1 - 0 = k.length := by simp
    rw [e, up2_eq]; rfl
  | succ i =>
    have e : (v :: k).length - 1 - (i + 1) = k.length - 1 - i := by simp; omega
    rw [e, up2_j (by omega), List.getElem_cons_succ]
    exact h.2 i (by omega)
theorem SkV.top (h : SkV B (x :: k) ig) : ig (B + 28) k.length = x := by
  have q := h.2 0 (by simp)
  have e : (x :: k).length - 1 - 0 = k.length := by simp
  rw [e] at q
  exact q
theorem SkV.pop (h : SkV B (x :: k) ig) (hw : w.toInt = (k.length : Int)) : SkV B k (up2 ig (B + 24) 6 w) := by
  refine ⟨by rw [up2_eq, hw], fun i hi => ?_⟩
  rw [up2_a (by omega)]
  have q := h.2 (i + 1) (by simp; omega)
  have e : (x :: k).length - 1 - (i + 1) = k.length - 1 - i := by simp; omega
  rw [e, List.getElem_cons_succ] at q
  exact q
theorem SkV.ag (h : SkV B k ig) (e6 : (ig' (B + 24) 6).toInt = (ig (B + 24) 6).toInt) (e : ∀ j, ig' (B + 28) j = ig (B + 28) j) : SkV B k ig' := ⟨e6.trans h.1, fun i hi => by rw [e]; exact h.2 i hi⟩
theorem SkV.nil (h : (ig (B + 24) 6).toInt = 0) : SkV B [] ig := ⟨h, fun i hi => absurd hi (Nat.not_lt_zero i)⟩
end SKV
/-- a span's sum as far as place k -/
def SpT (v e : Vl) (l : List Int) (k : Nat) (w s : Int32) : Prop := w = ((l.take k).foldl (mtS v e) (0, 0)).2 ∧ (w = 0 → s = ((l.take k).foldl (mtS v e) (0, 0)).1)
theorem mtS_m {v e : Vl} {m : Int32} (hm : m ≠ 0) : ∀ (l : List Int) (a : Int32 × Int32), a.2 = m → (l.foldl (mtS v e) a).2 = m
  | [], _, ha => ha
  | q :: l, a, ha => mtS_m hm l _ (by unfold mtS; rw [if_neg (by rw [ha]; exact hm)]; exact ha)
section SPT
variable {v e : Vl} {l : List Int} {k : Nat} {w s w2 s2 : Int32}
theorem SpT.zero (hw : w = 0) (hs : s = 0) : SpT v e l 0 w s := ⟨by rw [hw]; rfl, fun _ => by rw [hs]; rfl⟩
theorem SpT.step (h : SpT v e l k w s) (hk : k < l.length) (hw : w = 0) (h2 : w2 = e (l[k]).toNat) (h3 : s2 = s + v (l[k]).toNat) : SpT v e l (k + 1) w2 s2 := by
  obtain ⟨h4, h5⟩ := h
  have h6 := h5 hw
  rw [hw] at h4
  unfold SpT
  rw [List.take_succ_eq_append_getElem hk, List.foldl_append]
  show w2 = (mtS v e _ l[k]).2 ∧ (w2 = 0 → s2 = (mtS v e _ l[k]).1)
  have e1 : ∀ a : Int32 × Int32, a.2 = 0 → mtS v e a l[k] = (a.1 + v (l[k]).toNat, e (l[k]).toNat) := fun a ha => by unfold mtS; rw [if_pos ha]
  rw [e1 _ h4.symm, ← h6]
  exact ⟨h2, fun _ => h3⟩
theorem SpT.fin (h : SpT v e l k w s) (hk : k = l.length ∨ w ≠ 0) : w = (l.foldl (mtS v e) (0, 0)).2 ∧ (w = 0 → s = (l.foldl (mtS v e) (0, 0)).1) := by
  rcases hk with hk | hk
  · have := h
    unfold SpT at this
    rw [hk, List.take_length] at this
    exact this
  · refine ⟨?_, fun w => (hk w).elim⟩
    have e1 : l.foldl (mtS v e) (0, 0) = (l.drop k).foldl (mtS v e) ((l.take k).foldl (mtS v e) (0, 0)) := by rw [← List.foldl_append, List.take_append_drop]
    rw [e1]
    exact (mtS_m hk _ _ h.1.symm).symm
end SPT
theorem i32_of {z : Int32} {n : Int} (h : z.toInt = n) : z = Int32.ofInt n := by rw [← h]; simp
/-- the working-out of one formula: w is the first error -/
def WkS (B : Nat) (v e : Vl) (h : Int) (M : Fm) (R : Prop) (i : Nat) (ig : sI) : Prop :=
  ((ig (B + 24) 7).toInt = 0 → ¬ R ∧ SkV B (evA v e h M i).1 ig ∧ (evA v e h M i).2 = 0) ∧ ((ig (B + 24) 7).toInt ≠ 0 → (R ∧ ig (B + 24) 7 = 2) ∨ (¬ R ∧ (ev v e h ([], 0) M).2 = ig (B + 24) 7))
section WKS
variable {B : Nat} {v e : Vl} {h : Int} {M : Fm} {R : Prop} {i n : Nat} {ig ig' : sI}
theorem evA_m (hi : i ≤ M.length) (hm : (evA v e h M i).2 ≠ 0) : (ev v e h ([], 0) M).2 = (evA v e h M i).2 := by
  have e1 : ev v e h ([], 0) M = ev v e h (evA v e h M i) (M.drop i) := by unfold evA; rw [← ev_app, List.take_append_drop]
  rw [e1]
  exact ev_m hm
theorem i32_z {z : Int32} (h : z.toInt = 0) : z = 0 := i32_inj (by rw [h]; rfl)
/-- behind a step -/
theorem WkS.next (hi : i < M.length) (hR : ¬ R) (hw : ig' (B + 24) 7 = (evA v e h M (i + 1)).2) (hs : (ig' (B + 24) 7).toInt = 0 → SkV B (evA v e h M (i + 1)).1 ig') : WkS B v e h M R (i + 1) ig' := by
  refine ⟨fun q => ⟨hR, hs q, by rw [← hw]; exact i32_z q⟩, fun q => Or.inr ⟨hR, ?_⟩⟩
  rw [hw]
  exact evA_m (by omega) (by rw [← hw]; intro c; exact q (by rw [c]; rfl))
theorem evS_0 {a : Ev} {s : St} (h0 : s.1 = 0) : evS v e h a s = (Int32.ofInt s.2.1 :: a.1, a.2) := by unfold evS; rw [if_pos h0]
theorem evS_r {a : Ev} {s : St} (h0 : rdS s) : evS v e h a s = ((spS v e a.2 s h).1 :: a.1, (spS v e a.2 s h).2) := by
  unfold rdS at h0
  unfold evS; rw [if_neg (by omega), if_pos h0]
theorem evS_3 {a : Ev} {s : St} (h0 : s.1 = 3) : evS v e h a s = a := by unfold evS; rw [if_neg (by omega), if_neg (by omega), if_pos h0]
theorem evS_4 {a : Ev} {s : St} {x : Int32} {k : List Int32} (h0 : s.1 = 4) (ha : a.1 = x :: k) : evS v e h a s = (-x :: k, a.2) := by
  unfold evS; rw [if_neg (by omega), if_neg (by omega), if_neg (by omega), if_pos h0, ha]
theorem evS_5 {a : Ev} {s : St} {x y : Int32} {k : List Int32} (h0 : s.1 ≠ 0) (h1 : ¬ rdS s) (h3 : s.1 ≠ 3) (h4 : s.1 ≠ 4) (ha : a.1 = y :: x :: k) : evS v e h a s = (opV s.1 x y :: k, opM s.1 y a.2) := by
  unfold rdS at h1
  unfold evS; rw [if_neg h0, if_neg h1, if_neg h3, if_neg h4, ha]
/-- how many operands wait -/
theorem opr_n (hg : HgL M) (hi : i < M.length) : ∃ n, (evA v e h M i).1.length = n ∧ n ≤ 32 ∧ ((stp M (i : Int)).1 = 0 ∨ rdS (stp M (i : Int)) → n < 32) ∧ ((stp M (i : Int)).1 = 4 → 0 < n) ∧ ((stp M (i : Int)).1 ≠ 0 → ¬ rdS (stp M (i : Int)) → (stp M (i : Int)).1 ≠ 3 → (stp M (i : Int)).1 ≠ 4 → 1 < n) := by
  have es : stp M (i : Int) = M[i] := by rw [stp_in (by omega) (by omega)]; simp
  rw [es]
  obtain ⟨n, hn⟩ := hg.at (i := i)
  obtain ⟨m, hm⟩ := hg.at (i := i + 1)
  have hl := evA_len (v := v) (e := e) (h := h) hg i (by omega) n hn
  rw [hgA_s hi, hn] at hm
  unfold hgS at hm
  simp only [Option.bind_some] at hm
  unfold rdS
  have n32 : n ≤ 32 := hgA_le hg i (by omega) n hn
  refine ⟨n, hl, n32, fun q => ?_, fun q => ?_, fun q0 q1 q3 q4 => ?_⟩
  · rw [if_pos (by omega)] at hm
    split at hm
    · assumption
    · cases hm
  · rw [if_neg (by omega), if_pos (by omega)] at hm
    split at hm
    · assumption
    · cases hm
  · rw [if_neg (by omega), if_neg (by omega)] at hm
    split at hm
    · assumption
    · cases hm
end WKS
/-! the class's values -/
def VV (B : Nat) (σ : Sg) (ν : Nat) (ig : sI) : Prop := (-1 ≤ (ig (B + 24) 8).toInt ∧ (ig (B + 24) 8).toInt ≤ (ν : Int)) ∧ ((ig (B + 24) 8).toInt = (ν : Int) → VOk σ (ig (B + 25)) (ig (B + 26)))
def HtS (σ : Sg) : Prop := ∀ p, p < 288 → kdO (σ p) = 2 → HgL (fmO (σ p))
/-- one formula is worked out -/
def WkO (B : Nat) (σ : Sg) (x : Nat) (ig ig' : sI) : Prop := (∀ j, j ≠ x → ig' (B + 25) j = ig (B + 25) j ∧ ig' (B + 26) j = ig (B + 26) j) ∧ (Rg σ x → ig' (B + 25) x = 0 ∧ ig' (B + 26) x = 2) ∧ (¬ Rg σ x → (ig' (B + 25) x, ig' (B + 26) x) = rsV (ig (B + 25)) (ig (B + 26)) (x : Int) (fmO (σ x)))
/-- the first i of the order are worked out -/
def VOI (σ : Sg) (od : Nat → Nat) (i : Nat) (v e : Vl) : Prop := (∀ p, p < 288 → ¬ inO od i p → v p = Int32.ofInt (σ p).1.2 ∧ e p = 0) ∧ ∀ j, j < i → (Rg σ (od j) → v (od j) = 0 ∧ e (od j) = 2) ∧ (¬ Rg σ (od j) → (v (od j), e (od j)) = rsV v e ((od j : Nat) : Int) (fmO (σ (od j))))
section VOS
variable {b B : Nat} {σ σ' : Sg} {π : Ps} {ν : Nat} {od : Nat → Nat} {i n : Nat} {kd kd' : sK} {ig ig' : sI} {rg rg' : sR} {lg lg' : sG}
theorem VOI.step (h : VOI σ od i (ig (B + 25)) (ig (B + 26))) (hO : OkO σ od n) (hW : WS σ π) (hi : i < n) (hw : WkO B σ (od i) ig ig') : VOI σ od (i + 1) (ig' (B + 25)) (ig' (B + 26)) := by
  obtain ⟨o1, o2, o3, o4⟩ := hO
  obtain ⟨w1, w2, w3⟩ := hw
  obtain ⟨h1, h2⟩ := h
  have cg : ∀ j, j ≤ i → ¬ Rg σ (od j) → rsV (ig (B + 25)) (ig (B + 26)) ((od j : Nat) : Int) (fmO (σ (od j))) = rsV (ig' (B + 25)) (ig' (B + 26)) ((od j : Nat) : Int) (fmO (σ (od j))) := fun j hj hr => by
    have fj := o1 j (by omega)
    refine rsV_cg (((hW.1 _ fj.1).1 fj.2).1) (fun q hq => ?_)
    have rq : Rd σ (od j) q := ⟨fj.1, fj.2, hq⟩
    have ne : q ≠ od i := by
      rintro rfl
      obtain ⟨k, hk, e⟩ := o4 j (by omega) hr _ rq (o1 i hi)
      exact o2 k i (by omega) hi e
    exact ⟨((w1 q ne).1).symm, ((w1 q ne).2).symm⟩
  refine ⟨fun p hp hn => ?_, fun j hj => ?_⟩
  · rw [inO.s] at hn
    have ne : p ≠ od i := fun e => hn (Or.inr e)
    rw [(w1 p ne).1, (w1 p ne).2]
    exact h1 p hp fun w => hn (Or.inl w)
  · by_cases c : j = i
    · subst c
      exact ⟨w2, fun hr => (w3 hr).trans (cg j (Nat.le_refl j) hr)⟩
    · have ne : od j ≠ od i := o2 j i (by omega) hi
      rw [(w1 _ ne).1, (w1 _ ne).2]
      exact ⟨(h2 j (by omega)).1, fun hr => ((h2 j (by omega)).2 hr).trans (cg j (by omega) hr)⟩
theorem VOI.fin (h : VOI σ od n (ig (B + 25)) (ig (B + 26))) (hO : OkO σ od n) : VOk σ (ig (B + 25)) (ig (B + 26)) := fun p hp => by
  obtain ⟨o1, o2, o3, o4⟩ := hO
  refine ⟨fun k => h.1 p hp fun ⟨j, hj, e⟩ => k (e ▸ (o1 j hj).2), fun k r => ?_, fun k r => ?_⟩
  · obtain ⟨j, hj, e⟩ := o3 p ⟨hp, k⟩
    subst e
    exact (h.2 j hj).1 r
  · obtain ⟨j, hj, e⟩ := o3 p ⟨hp, k⟩
    subst e
    exact (h.2 j hj).2 r
theorem VV.nx (h : VV B σ ν ig) (hN : Nx b B none kd ig rg lg kd' ig' rg' lg') (hb : b.testBit 4 = true := by decide) : VV B σ ν ig' := by
  have r : ∀ c j, gO c j = 4 → ig' (B + c) j = ig (B + c) j := fun c j hc => hN.2.2.2.1 c j (by rw [hc]; exact hb)
  unfold VV
  rw [r 24 8 rfl, show ig' (B + 25) = ig (B + 25) from funext fun j => r 25 j rfl, show ig' (B + 26) = ig (B + 26) from funext fun j => r 26 j rfl]
  exact h
theorem VV.step (h : VV B σ ν ig) (hN : Nx b B none kd ig rg lg kd' ig' rg' lg') (hb : b.testBit 4 = true := by decide) : VV B σ' (ν + 1) ig' := by
  obtain ⟨h1, -⟩ := h.nx hN hb
  exact ⟨by omega, fun q => by omega⟩
theorem VV.of (h1 : VOk σ (ig (B + 25)) (ig (B + 26))) (h3 : (ig (B + 24) 8).toInt = (ν : Int)) : VV B σ ν ig := ⟨by omega, fun _ => h1⟩
end VOS
section WKZ
variable {B : Nat} {v e : Vl} {h z : Int} {M : Fm} {R : Prop} {i : Nat} {ig : sI}
theorem WkS.zero (hr : ((ig (B + 24) 7).toInt = 2 ∧ R) ∨ ((ig (B + 24) 7).toInt = 0 ∧ ¬ R)) (h6 : (ig (B + 24) 6).toInt = 0) : WkS B v e h M R 0 ig := by
  refine ⟨fun q => ?_, fun q => ?_⟩
  · rcases hr with ⟨a, -⟩ | ⟨-, b⟩
    · omega
    · exact ⟨b, SkV.nil h6, rfl⟩
  · rcases hr with ⟨a, b⟩ | ⟨a, -⟩
    · exact Or.inl ⟨b, i32_inj (by rw [a]; rfl)⟩
    · omega
theorem evA_t (hz : (i : Int) = z) (hi : i < M.length) : evA v e h M (i + 1) = evS v e h (evA v e h M i) (stp M z) := by
  rw [evA_s hi, ← hz, stp_in (by omega) (by omega)]
  simp
theorem two_of {k : List Int32} (hk : 1 < k.length) : ∃ y x r, k = y :: x :: r := by
  rcases k with _ | ⟨y, _ | ⟨x, r⟩⟩
  · simp at hk
  · simp at hk
  · exact ⟨y, x, r, rfl⟩
theorem one_of {k : List Int32} (hk : 0 < k.length) : ∃ y r, k = y :: r := by
  rcases k with _ | ⟨y, r⟩
  · simp at hk
  · exact ⟨y, r, rfl⟩
theorem evA_1 (hg : HgL M) : ∃ x, (evA v e h M M.length).1 = [x] := by
  have q := evA_len (v := v) (e := e) (h := h) hg M.length (Nat.le_refl _) 1 hg.end
  obtain ⟨y, r, ek⟩ := one_of (k := (evA v e h M M.length).1) (by omega)
  rw [ek] at q
  have : r = [] := List.length_eq_zero_iff.mp (by simpa using q)
  exact ⟨y, by rw [ek, this]⟩
theorem WkO.mk {σ : Sg} {x : Nat} {ig ig' : sI} {a w : Int32} (hv : ∀ j, j ≠ x → ig' (B + 25) j = ig (B + 25) j ∧ ig' (B + 26) j = ig (B + 26) j) (h1 : ig' (B + 25) x = a) (h2 : ig' (B + 26) x = w) (hM : M = fmO (σ x)) (hh : h = (x : Int))
    (hr : (¬ Rg σ x ∧ w = 0 ∧ (evA (ig (B + 25)) (ig (B + 26)) h M M.length).1 = [a] ∧ (evA (ig (B + 25)) (ig (B + 26)) h M M.length).2 = 0) ∨ (w ≠ 0 ∧ a = 0 ∧ ((Rg σ x ∧ w = 2) ∨ (¬ Rg σ x ∧ (ev (ig (B + 25)) (ig (B + 26)) h ([], 0) M).2 = w)))) : WkO B σ x ig ig' := by
  subst hh hM
  refine ⟨hv, fun r => ?_, fun r => ?_⟩
  · rw [h1, h2]
    rcases hr with hr | ⟨-, h3, ⟨-, h4⟩ | ⟨h4, -⟩⟩
    · exact (hr.1 r).elim
    · exact ⟨h3, h4⟩
    · exact (h4 r).elim
  · rw [h1, h2]
    unfold rsV
    rcases hr with ⟨-, h3, h4, h5⟩ | ⟨h3, h4, ⟨h5, -⟩ | ⟨-, h5⟩⟩
    · rw [evA_end] at h4 h5
      rw [if_pos h5, h4, h3]; rfl
    · exact (r h5).elim
    · rw [if_neg (by rw [h5]; exact h3), h5, h4]
end WKZ
/-- the links as they are now -/
def LkQ (B : Nat) (σ : Sg) (ν : Nat) (ig : sI) (lg : sG) : Prop := LSt B σ ig lg ∧ LAz B ig lg ∧ (ig (B + 15) 11).toInt = (ν : Int)
section LKQ
variable {B : Nat} {σ : Sg} {ν : Nat} {T : List Nat} {ig ig' : sI} {lg lg' : sG} {c j : Nat} {v : Int32}
theorem LkQ.fo (h : LkQ B σ ν ig lg) (o : Fo B T ig lg ig' lg') (hT : ∀ q ∈ T, 24 ≤ q := by decide) : LkQ B σ ν ig' lg' := by
  have n : ∀ c, c < 24 → c ∉ T := fun c hc w => by have := hT c w; omega
  have e2 : ig' (B + 15) 2 = ig (B + 15) 2 := o.1 15 2 (by decide) (n 15 (by decide))
  have e9 : ig' (B + 15) 9 = ig (B + 15) 9 := o.1 15 9 (by decide) (n 15 (by decide))
  have e11 : ig' (B + 15) 11 = ig (B + 15) 11 := o.1 15 11 (by decide) (n 15 (by decide))
  have e16 : ∀ i, ig' (B + 16) i = ig (B + 16) i := fun i => o.1 16 i (by decide) (n 16 (by decide))
  have e18 : ∀ i, lg' (B + 18) i = lg (B + 18) i := fun i => o.2 18 i (by decide) (n 18 (by decide))
  refine ⟨h.1.ag (fun c j hc => ?_) (by rw [e2]) (by rw [e9]) e18, h.2.1.ag (by rw [e2]) e16 e18, by rw [e11]; exact h.2.2⟩
  rcases hc with rfl | rfl | rfl
  · exact e16 j
  · exact o.1 20 j (by decide) (n 20 (by decide))
  · exact o.1 22 j (by decide) (n 22 (by decide))
theorem LkQ.w (h : LkQ B σ ν ig lg) (hc : 24 ≤ c) : LkQ B σ ν (up2 ig (B + c) j v) lg := h.fo (T := [c]) (Fo.rf.pi (by simp)) (fun q hq => by simp at hq; omega)
theorem LV.w {κ : Int} (h : LV κ B σ ν ig lg) (hc : 24 ≤ c) : LV κ B σ ν (up2 ig (B + c) j v) lg := by
  have a : ∀ d i, d < 24 → up2 ig (B + c) j v (B + d) i = ig (B + d) i := fun d i hd => up2_a (by omega)
  refine ⟨by rw [a 15 11 (by decide)]; exact h.1, h.2.1.ag (by rw [a 15 2 (by decide)]) (fun i => a 16 i (by decide)) (fun i => rfl), fun q => ?_⟩
  rw [a 15 11 (by decide)] at q
  refine (h.2.2 q).ag (fun d i hd => a d i (by omega)) (by rw [a 15 2 (by decide)]) (by rw [a 15 9 (by decide)]) (fun i => rfl)
theorem LkQ.od (h : Fo B T ig lg ig' lg') (hT : ∀ q ∈ T, 24 ≤ q := by decide) : oD B ig' = oD B ig := funext fun j => by
  unfold oD
  rw [h.1 22 j (by decide) (fun w => by have := hT 22 w; omega)]
theorem LkQ.lv {κ : Int} (h : LkQ B σ ν ig lg) (hk : κ ≤ (ν : Int)) : LV κ B σ ν ig lg := LV.of h.1 h.2.1 h.2.2 hk
end LKQ
/-- how many cells have another value or error -/
def nCh (v e v' e' : Vl) : Nat := cnt (fun p => decide (¬ (v' p = v p ∧ e' p = e p))) 288
theorem cnt_s {f : Nat → Bool} {n : Nat} : cnt f (n + 1) = cnt f n + (if f n = true then 1 else 0) := by
  rw [cnt.add]
  congr 1
  cases h : f n <;> simp [cnt, h]
section CHG
variable {B : Nat} {ig ig' : sI}
/-- what was remembered -/
def ReM (B : Nat) (v e : Vl) (ig : sI) : Prop := ∀ p, p < 288 → ig (B + 46) p = v p ∧ ig (B + 47) p = e p
theorem nCh_cg {v e v' e' w d w' d' : Vl} (h1 : ∀ p, p < 288 → v p = w p ∧ e p = d p) (h2 : ∀ p, p < 288 → v' p = w' p ∧ e' p = d' p) : nCh v e v' e' = nCh w d w' d' := by
  unfold nCh
  refine cnt.cg fun p hp => ?_
  rw [(h1 p hp).1, (h1 p hp).2, (h2 p hp).1, (h2 p hp).2]
theorem nCh_le {v e v' e' : Vl} {n : Nat} : cnt (fun p => decide (¬ (v' p = v p ∧ e' p = e p))) n ≤ n := cnt.le _ n
/-- what the values say of a change of the sheet: how many cells have another one -/
def chR (σ σ' : Sg) (z : Int) : Prop := ∃ v e v' e', VOk σ v e ∧ VOk σ' v' e' ∧ z = (nCh v e v' e' : Int)
theorem chR.det {σ σ' : Sg} {π π' : Ps} {z y : Int} (hW : WS σ π) (hW' : WS σ' π') (h1 : chR σ σ' z) (h2 : chR σ σ' y) : z = y := by
  obtain ⟨v, e, v', e', a1, a2, a3⟩ := h1
  obtain ⟨w, d, w', d', b1, b2, b3⟩ := h2
  rw [a3, b3, nCh_cg (VOk.det hW a1 b1) (VOk.det hW' a2 b2)]
end CHG
section TOPS
variable {b B : Nat} {σ σ' : Sg} {π π' : Ps} {ν : Nat} {v e : Vl} {kd kd' : sK} {ig ig' : sI} {rg rg' : sR} {lg lg' : sG} {x z y : Int}
theorem ReM.nx (h : ReM B v e ig) (hN : Nx b B none kd ig rg lg kd' ig' rg' lg') (hb : b.testBit 8 = true := by decide) : ReM B v e ig' := by
  have r : ∀ c j, gO c j = 8 → ig' (B + c) j = ig (B + c) j := fun c j hc => hN.2.2.2.1 c j (by rw [hc]; exact hb)
  intro p hp
  rw [r 46 p rfl, r 47 p rfl]
  exact h p hp
theorem chR.of (h0 : VOk σ v e) (hR : ReM B v e ig) (h1 : VOk σ' (ig (B + 25)) (ig (B + 26))) (hz : z = (nCh (ig (B + 46)) (ig (B + 47)) (ig (B + 25)) (ig (B + 26)) : Int)) : chR σ σ' z :=
  ⟨v, e, _, _, h0, h1, by rw [hz, nCh_cg (w' := ig (B + 25)) (d' := ig (B + 26)) hR (fun p hp => ⟨rfl, rfl⟩)]⟩
/-- operands of every formula, of the sheet and of what can be taken back -/
def HtP (π : Ps) : Prop := ∀ e ∈ π, kdO e.2 = 2 → HgL (fmO e.2)
theorem HtS.up (h : HtS σ) {p : Nat} {c : Cl} (hc : kdO c = 2 → HgL (fmO c)) : HtS (upS σ p c) := fun q hq k => by
  by_cases e : q = p
  · subst e; rw [upS_eq] at k ⊢; exact hc k
  · rw [upS_ne e] at k ⊢; exact h q hq k
theorem HtS.a (h : HtS σ) (k : kdO (atC σ x) = 2) : HgL (fmO (atC σ x)) := by
  have hx := atC_k (σ := σ) (x := x) (by rw [k]; decide)
  rw [atC_on hx] at k ⊢
  exact h _ (by omega) k
theorem HgL.cg {L M : Fm} (h : HgL L) (e : M.map (fun s => s.1) = L.map (fun s => s.1)) : HgL M := by
  have one : ∀ (a : Option Nat) (s t : St), s.1 = t.1 → hgS 32 a s = hgS 32 a t := fun a s t q => by unfold hgS; rw [q]
  have key : ∀ (L M : Fm) (a : Option Nat), M.map (fun s => s.1) = L.map (fun s => s.1) → M.foldl (hgS 32) a = L.foldl (hgS 32) a := by
    intro L
    induction L with
    | nil => intro M a q; rw [List.map_nil, List.map_eq_nil_iff] at q; rw [q]
    | cons s L ih =>
      intro M a q
      cases M with
      | nil => cases q
      | cons t M =>
        rw [List.map_cons, List.map_cons, List.cons.injEq] at q
        rw [List.foldl_cons, List.foldl_cons, one a t s q.1]
        exact ih M _ q.2
  unfold HgL at h ⊢
  rw [key L M (some 0) e]; exact h
theorem stL_fst {L : Fm} {i d : Int} (h : (stp L i).1 = 2) : (stL L i d).map (fun s => s.1) = L.map (fun s => s.1) := by
  obtain ⟨h0, h1⟩ := stp_2 h
  have hn : i.toNat < L.length := by omega
  unfold stL
  rw [List.map_set, stp_in h0 hn]
  apply List.ext_getElem
  · simp
  · intro n h2 h3
    rw [List.getElem_set]
    split
    · rename_i e; subst e; simp
    · rfl
theorem HtS.q {k : Int} {L : Fm} (h : HtS σ) (q : stQ σ x k (some L)) : HgL L := by
  rcases q with ⟨_, q⟩ | ⟨q0, ζ, i, _, _, ⟨a, b⟩ | ⟨_, a, b⟩ | ⟨_, _, b⟩⟩
  · cases q
  · cases b; exact (h.a q0).cg (stL_fst a.1)
  · cases b; exact (h.a q0).cg (stL_fst a.1)
  · cases b
/-- what mend, stretch, undo do and answer -/
def stMz (σ : Sg) (π : Ps) (x : Int) (σ' : Sg) (π' : Ps) (z : Int) : Prop := ∃ ζ n, FaR σ ζ ∧ OddR σ ζ x n ∧ ((¬ meO σ x n ∧ sSame σ π σ' π' ∧ z = -1) ∨ (meO σ x n ∧ sPut σ π x.toNat (wuC (atC σ n)) σ' π' ∧ chR σ σ' z))
def stTz (σ : Sg) (π : Ps) (x : Int) (σ' : Sg) (π' : Ps) (k z : Int) : Prop := ∃ o, stQ σ x k o ∧ ((o = none ∧ sSame σ π σ' π' ∧ z = -1) ∨ ∃ L, o = some L ∧ sPut σ π x.toNat (fCl L) σ' π' ∧ chR σ σ' z)
def stBz (σ : Sg) (π : Ps) (σ' : Sg) (π' : Ps) (z : Int) : Prop := (π = [] ∧ sSame σ π σ' π' ∧ z = -1) ∨ ∃ π0 p c, π = π0 ++ [(p, c)] ∧ σ' = upS σ p c ∧ π' = π0 ∧ chR σ σ' z
theorem stBz.st (h : stBz σ π σ' π' z) : stB σ π σ' π' := h.imp (fun w => ⟨w.1, w.2.1⟩) fun ⟨π0, p, c, h1, h2, h3, _⟩ => ⟨π0, p, c, h1, h2, h3⟩
theorem stBz.det {σ1 σ2 : Sg} {π1 π2 : Ps} (hW : WS σ π) (h1 : stBz σ π σ1 π1 z) (h2 : stBz σ π σ2 π2 y) : z = y := by
  obtain ⟨e1, e2⟩ := stB.det h1.st h2.st
  subst e1 e2
  have hW' := hW.stB h1.st
  rcases h1 with ⟨a, _, b⟩ | ⟨π0, p, c, a, _, _, b⟩
  · rcases h2 with ⟨_, _, d⟩ | ⟨π0, p, c, d, _⟩
    · rw [b, d]
    · rw [a] at d; simp at d
  · rcases h2 with ⟨d, _⟩ | ⟨_, _, _, _, _, _, d⟩
    · rw [d] at a; simp at a
    · exact chR.det hW hW' b d
end TOPS
