/-! TOTALS: formulas of REFS, sums and + alone that lie in no ring -/
def TsS (s : St) : Prop := s.1 = 1 ∨ s.1 = 2 ∨ s.1 = 5
def TL (L : Fm) : Prop := ∀ s ∈ L, TsS s
def isTot (σ : Sg) (p : Nat) : Prop := p < 288 ∧ kdO (σ p) = 2 ∧ TL (fmO (σ p)) ∧ ¬ Rg σ p
theorem TL.of {L : Fm} (h : ∀ j : Nat, (j : Int) < (L.length : Int) → TsS (stp L (j : Int))) : TL L := fun s hs => by
  obtain ⟨j, hj, e⟩ := List.getElem_of_mem hs
  have q := h j (by omega)
  rw [stp_in (by omega) (by omega)] at q
  simp only [Int.toNat_natCast] at q
  rw [e] at q
  exact q
def TtP (B : Nat) (X : Nat → Prop) (n : Nat) (ig : sI) : Prop := ∀ p, p < n → ((ig (B + 38) p).toInt = 1 ∧ X p) ∨ ((ig (B + 38) p).toInt = 0 ∧ ¬ X p)
def TV (B : Nat) (σ : Sg) (ν : Nat) (ig : sI) : Prop := (-1 ≤ (ig (B + 37) 7).toInt ∧ (ig (B + 37) 7).toInt ≤ (ν : Int)) ∧ ((ig (B + 37) 7).toInt = (ν : Int) → TtP B (isTot σ) 288 ig)
section TOT
variable {b B k : Nat} {X : Nat → Prop} {σ σ' : Sg} {ν ν' : Nat} {kd kd' : sK} {ig ig' : sI} {rg rg' : sR} {lg lg' : sG} {v : Int32} {T : List Nat}
theorem TtP.up (h : TtP B X k ig) (hv : (v.toInt = 1 ∧ X k) ∨ (v.toInt = 0 ∧ ¬ X k)) : TtP B X (k + 1) (up2 ig (B + 38) k v) := fun p hp => by
  by_cases e : p = k
  · subst e; rw [up2_eq]; exact hv
  · rw [up2_j e]; exact h p (by omega)
theorem TtP.ag (h : TtP B X k ig) (e : ∀ p, ig' (B + 38) p = ig (B + 38) p) : TtP B X k ig' := fun p hp => by rw [e]; exact h p hp
theorem TV.nx (h : TV B σ ν ig) (hN : Nx b B none kd ig rg lg kd' ig' rg' lg') (hb : b.testBit 6 = true := by decide) : TV B σ ν ig' := by
  have r : ∀ c j, gO c j = 6 → ig' (B + c) j = ig (B + c) j := fun c j hc => hN.2.2.2.1 c j (by rw [hc]; exact hb)
  unfold TV
  rw [r 37 7 rfl]
  exact ⟨h.1, fun q => (h.2 q).ag (fun p => r 38 p rfl)⟩
theorem TV.step (h : TV B σ ν ig) (hN : Nx b B none kd ig rg lg kd' ig' rg' lg') (hb : b.testBit 6 = true := by decide) : TV B σ' (ν + 1) ig' := by
  obtain ⟨h1, -⟩ := h.nx hN hb
  exact ⟨by omega, fun q => by omega⟩
theorem TV.of (h1 : TtP B (isTot σ) 288 ig) (h3 : (ig (B + 37) 7).toInt = (ν : Int)) : TV B σ ν ig := ⟨by omega, fun _ => h1⟩
theorem TV.post (h : TV B σ ν ig) (hN : Nx b B none kd ig rg lg kd' ig' rg' lg') (hv : ν' = ν + 1 ∨ (ν' = ν ∧ σ' = σ)) (hb : b.testBit 6 = true := by decide) : TV B σ' ν' ig' := by
  rcases hv with rfl | ⟨rfl, rfl⟩
  · exact h.step hN hb
  · exact h.nx hN hb
end TOT
/-! WAYS into a total: sums that go no further than c -/
noncomputable def ctb (σ : Sg) (f : Nat → Int) (q : Nat) (r : Int) : Int := by classical exact if r = (q : Int) then 1 else if isTot σ r.toNat then f r.toNat else 0
def rdI (s : St) (h : Int) : List Int := if s.1 = 1 ∨ s.1 = 2 then plS s h else []
def rdL (L : Fm) (h : Int) : List Int := L.flatMap (fun s => rdI s h)
def wyS (c : Int) (w : Int → Int) (s r : Int) : Int := if c ≤ s + w r then c else s + w r
def wyF (c : Int) (w : Int → Int) (l : List Int) : Int := l.foldl (wyS c w) 0
section WAY
variable {σ : Sg} {f g : Nat → Int} {q i k : Nat} {r h c a s t z : Int} {w u : Int → Int} {L : Fm} {l : List Int}
theorem ctb_1 (e : r = (q : Int)) : ctb σ f q r = 1 := by unfold ctb; rw [if_pos e]
theorem ctb_t (e : r ≠ (q : Int)) (y : isTot σ r.toNat) : ctb σ f q r = f r.toNat := by unfold ctb; rw [if_neg e, if_pos y]
theorem ctb_0 (e : r ≠ (q : Int)) (y : ¬ isTot σ r.toNat) : ctb σ f q r = 0 := by unfold ctb; rw [if_neg e, if_neg y]
theorem rdI_y {s : St} (e : rdS s) : rdI s h = plS s h := if_pos e
theorem rdI_n {s : St} (e : ¬ rdS s) : rdI s h = [] := if_neg e
theorem rdL_s (hi : i < L.length) : rdL (L.take (i + 1)) h = rdL (L.take i) h ++ rdI L[i] h := by
  unfold rdL
  rw [List.take_succ_eq_append_getElem hi, List.flatMap_append]
  simp
theorem rdL_mem {y : Int} : y ∈ rdL L h ↔ ∃ s ∈ L, rdS s ∧ y ∈ plS s h := by
  unfold rdL
  rw [List.mem_flatMap]
  constructor
  · rintro ⟨s, hs, m⟩
    by_cases e : rdS s
    · rw [rdI_y e] at m; exact ⟨s, hs, e, m⟩
    · rw [rdI_n e] at m; exact absurd m List.not_mem_nil
  · rintro ⟨s, hs, e, m⟩
    exact ⟨s, hs, by rw [rdI_y e]; exact m⟩
theorem wyF_app {l2 : List Int} : wyF c w (l ++ l2) = l2.foldl (wyS c w) (wyF c w l) := List.foldl_append
theorem wyT (hs : s = (l.take k).foldl (wyS c w) a) (hk : k < l.length) (ht : t = s + w l[k]) (hz : z ≤ c ∧ z ≤ t ∧ (z = c ∨ z = t)) : z = (l.take (k + 1)).foldl (wyS c w) a := by
  rw [List.take_succ_eq_append_getElem hk, List.foldl_append, ← hs]
  show z = wyS c w s l[k]
  unfold wyS
  split <;> omega
theorem rdI_on {y : Int} {s : St} (hf : fitL h L) (hs : s ∈ L) (m : y ∈ rdI s h) : 0 ≤ y ∧ y < 288 := by
  by_cases e : rdS s
  · rw [rdI_y e] at m
    exact plS_on (hf s hs e) m
  · rw [rdI_n e] at m; exact absurd m List.not_mem_nil
theorem rdI_in {y : Int} {s : St} (hs : s ∈ L) (m : y ∈ rdI s h) : y ∈ rdL L h := by
  by_cases e : rdS s
  · rw [rdI_y e] at m; exact rdL_mem.mpr ⟨s, hs, e, m⟩
  · rw [rdI_n e] at m; exact absurd m List.not_mem_nil
theorem wy_next (hs : s = ((rdI (stp L t) h).take k).foldl (wyS c w) (wyF c w (rdL (L.take i) h))) (hk : k = (rdI (stp L t) h).length) (ht : t = (i : Int)) (hi : i < L.length) : s = wyF c w (rdL (L.take (i + 1)) h) := by
  subst ht
  rw [rdL_s hi, wyF_app, hs, hk, List.take_length, stp_in (by omega) (by omega)]
  simp only [Int.toNat_natCast]
theorem wyF_cg : ∀ (l : List Int) (a : Int), (∀ y ∈ l, w y = u y) → l.foldl (wyS c w) a = l.foldl (wyS c u) a := fun l a e => foldl_cg l a (fun y hy b => by unfold wyS; rw [e y hy])
theorem wyF_b (hc : 0 ≤ c) : ∀ (l : List Int) (a : Int), (∀ y ∈ l, 0 ≤ w y) → 0 ≤ a ∧ a ≤ c → 0 ≤ l.foldl (wyS c w) a ∧ l.foldl (wyS c w) a ≤ c
  | [], _, _, ha => ha
  | y :: l, a, hw, ha => wyF_b hc l _ (fun y hy => hw y (List.mem_cons_of_mem _ hy)) (by
    have := hw y (List.mem_cons_self ..)
    unfold wyS
    split <;> omega)
end WAY
/-- ways of one cell into every total -/
def WC (σ : Sg) (q : Nat) (f : Nat → Int) : Prop := ∀ p, isTot σ p → f p = wyF 9 (ctb σ f q) (rdL (fmO (σ p)) (p : Int))
theorem WC.det {σ : Sg} {π : Ps} {q : Nat} {f g : Nat → Int} (hW : WS σ π) (h1 : WC σ q f) (h2 : WC σ q g) : ∀ p, isTot σ p → f p = g p := by
  have key : ∀ x, ¬ (isTot σ x ∧ f x ≠ g x) := fun x hx => by
    obtain ⟨p, hp, t⟩ := ring_ex (R := Rd σ) (S := fun x => isTot σ x ∧ f x ≠ g x) (n := 288) (fun a ha => by
      refine ⟨ha.1.1, ?_⟩
      apply Classical.byContradiction
      intro hn
      refine ha.2 ?_
      rw [h1 a ha.1, h2 a ha.1]
      refine wyF_cg _ _ (fun y hy => ?_)
      obtain ⟨s, hs, rs, m⟩ := rdL_mem.mp hy
      have ho := plS_on (((hW.1 a ha.1.1).1 ha.1.2.1).1 s hs rs) m
      by_cases e : y = (q : Int)
      · rw [ctb_1 e, ctb_1 e]
      · by_cases tt : isTot σ y.toNat
        · rw [ctb_t e tt, ctb_t e tt]
          apply Classical.byContradiction
          intro w
          exact hn ⟨y.toNat, ⟨tt, w⟩, ha.1.1, ha.1.2.1, s, hs, rs, by rw [show ((y.toNat : Nat) : Int) = y by omega]; exact m⟩
        · rw [ctb_0 e tt, ctb_0 e tt]) hx
    exact hp.1.2.2.2 t
  exact fun p hp => Classical.byContradiction fun w => key p ⟨hp, w⟩
/-- the first i of the order are counted -/
def WcI (σ : Sg) (q : Nat) (od : Nat → Nat) (i : Nat) (f : Nat → Int) : Prop := ∀ j, j < i → isTot σ (od j) → f (od j) = wyF 9 (ctb σ f q) (rdL (fmO (σ (od j))) ((od j : Nat) : Int)) ∧ 0 ≤ f (od j) ∧ f (od j) ≤ 9
theorem WcI.step {σ : Sg} {π : Ps} {q n i : Nat} {od : Nat → Nat} {f g : Nat → Int} (h : WcI σ q od i f) (hO : OkO σ od n) (hW : WS σ π) (hi : i < n) (hg : ∀ p, p ≠ od i → g p = f p) (hv : isTot σ (od i) → g (od i) = wyF 9 (ctb σ f q) (rdL (fmO (σ (od i))) ((od i : Nat) : Int)) ∧ 0 ≤ g (od i) ∧ g (od i) ≤ 9) : WcI σ q od (i + 1) g := by
  obtain ⟨o1, o2, o3, o4⟩ := hO
  have cg : ∀ j, j ≤ i → isTot σ (od j) → wyF 9 (ctb σ f q) (rdL (fmO (σ (od j))) ((od j : Nat) : Int)) = wyF 9 (ctb σ g q) (rdL (fmO (σ (od j))) ((od j : Nat) : Int)) := fun j hj tt => by
    refine wyF_cg _ _ (fun y hy => ?_)
    obtain ⟨s, hs, rs, m⟩ := rdL_mem.mp hy
    have ho := plS_on (((hW.1 (od j) tt.1).1 tt.2.1).1 s hs rs) m
    by_cases e : y = (q : Int)
    · rw [ctb_1 e, ctb_1 e]
    · by_cases t2 : isTot σ y.toNat
      · rw [ctb_t e t2, ctb_t e t2, hg]
        intro w
        obtain ⟨k, hk, e2⟩ := o4 j (by omega) tt.2.2.2 y.toNat ⟨tt.1, tt.2.1, s, hs, rs, by rw [show ((y.toNat : Nat) : Int) = y by omega]; exact m⟩ ⟨t2.1, t2.2.1⟩
        exact o2 k i (by omega) hi (e2.trans w)
      · rw [ctb_0 e t2, ctb_0 e t2]
  intro j hj tt
  by_cases e : j = i
  · subst e
    obtain ⟨a1, a2⟩ := hv tt
    exact ⟨a1.trans (cg j (Nat.le_refl _) tt), a2⟩
  · obtain ⟨a1, a2⟩ := h j (by omega) tt
    have ne : od j ≠ od i := o2 j i (by omega) hi
    rw [hg _ ne]
    exact ⟨a1.trans (cg j (by omega) tt), a2⟩
/-- what the next one reads is small -/
theorem WcI.rd {σ : Sg} {π : Ps} {q n i : Nat} {od : Nat → Nat} {f : Nat → Int} (h : WcI σ q od i f) (hO : OkO σ od n) (hW : WS σ π) (hi : i < n) (tt : isTot σ (od i)) {y : Int} (hy : y ∈ rdL (fmO (σ (od i))) ((od i : Nat) : Int)) : 0 ≤ ctb σ f q y ∧ ctb σ f q y ≤ 9 := by
  obtain ⟨o1, o2, o3, o4⟩ := hO
  obtain ⟨s, hs, rs, m⟩ := rdL_mem.mp hy
  have ho := plS_on (((hW.1 (od i) tt.1).1 tt.2.1).1 s hs rs) m
  by_cases e : y = (q : Int)
  · rw [ctb_1 e]; exact ⟨by decide, by decide⟩
  · by_cases t2 : isTot σ y.toNat
    · rw [ctb_t e t2]
      obtain ⟨k, hk, e2⟩ := o4 i hi tt.2.2.2 y.toNat ⟨tt.1, tt.2.1, s, hs, rs, by rw [show ((y.toNat : Nat) : Int) = y by omega]; exact m⟩ ⟨t2.1, t2.2.1⟩
      have := (h k hk (by rw [e2]; exact t2)).2
      rw [e2] at this
      exact this
    · rw [ctb_0 e t2]; exact ⟨by decide, by decide⟩
theorem WcI.fin {σ : Sg} {q n : Nat} {od : Nat → Nat} {f : Nat → Int} (h : WcI σ q od n f) (hO : OkO σ od n) : WC σ q f := fun p hp => by
  obtain ⟨j, hj, e⟩ := hO.2.2.1 p ⟨hp.1, hp.2.1⟩
  subst e
  exact (h j hj hp).1
/-- what ways() tells -/
def WyR (σ : Sg) (x y z : Int) : Prop := (¬ (onS x ∧ onS y) → z = -1) ∧ (onS x ∧ onS y → (¬ isTot σ y.toNat → z = -1) ∧ (isTot σ y.toNat → ((isTot σ x.toNat ∨ kdO (atC σ x) = 0) → z = 0) ∧ (¬ (isTot σ x.toNat ∨ kdO (atC σ x) = 0) → ∃ f, WC σ x.toNat f ∧ z = f y.toNat)))
theorem WyR.det {σ : Sg} {π : Ps} {x y z u : Int} (hW : WS σ π) (h1 : WyR σ x y z) (h2 : WyR σ x y u) : z = u := by
  by_cases c : onS x ∧ onS y
  · obtain ⟨a1, a2⟩ := h1.2 c
    obtain ⟨b1, b2⟩ := h2.2 c
    by_cases t : isTot σ y.toNat
    · by_cases d : isTot σ x.toNat ∨ kdO (atC σ x) = 0
      · rw [(a2 t).1 d, (b2 t).1 d]
      · obtain ⟨f, f1, f2⟩ := (a2 t).2 d
        obtain ⟨g, g1, g2⟩ := (b2 t).2 d
        rw [f2, g2, WC.det hW f1 g1 _ t]
    · rw [a1 t, b1 t]
  · rw [h1.1 c, h2.1 c]
/-! THE REFERENCE's ways: sums that go no further than 10 -/
def m9 (z : Int) : Int := if 9 ≤ z then 9 else z
def m10 (z : Int) : Int := if 10 ≤ z then 10 else z
def wyV (B : Nat) (ig : sI) (p r : Nat) : Int := (ig (B + 72) (288 * p + r)).toInt
noncomputable def ctr (σ : Sg) (w : Nat → Nat → Int) (r : Nat) (q : Int) : Int := by classical exact if isTot σ q.toNat then w q.toNat r else if q = (r : Int) ∧ kdO (σ r) ≠ 0 then 1 else 0
section CTR
variable {σ : Sg} {π : Ps} {w : Nat → Nat → Int} {r : Nat} {q : Int}
theorem ctr_t (h : isTot σ q.toNat) : ctr σ w r q = w q.toNat r := by unfold ctr; rw [if_pos h]
theorem ctr_1 (h : ¬ isTot σ q.toNat) (e : q = (r : Int) ∧ kdO (σ r) ≠ 0) : ctr σ w r q = 1 := by unfold ctr; rw [if_neg h, if_pos e]
theorem ctr_0 (h : ¬ isTot σ q.toNat) (e : ¬ (q = (r : Int) ∧ kdO (σ r) ≠ 0)) : ctr σ w r q = 0 := by unfold ctr; rw [if_neg h, if_neg e]
theorem wy_m9 {w u : Int → Int} : ∀ (l : List Int) (a : Int), (∀ y ∈ l, 0 ≤ w y ∧ u y = m9 (w y)) → 0 ≤ a → m9 (l.foldl (wyS 10 w) a) = l.foldl (wyS 9 u) (m9 a)
  | [], _, _, _ => rfl
  | y :: l, a, hl, ha => by
    obtain ⟨h1, h2⟩ := hl y (List.mem_cons_self ..)
    have e : m9 (wyS 10 w a y) = wyS 9 u (m9 a) y := by
      unfold wyS
      rw [h2]
      unfold m9
      repeat' split
      all_goals omega
    have nn : 0 ≤ wyS 10 w a y := by unfold wyS; split <;> omega
    show m9 (l.foldl (wyS 10 w) (wyS 10 w a y)) = l.foldl (wyS 9 u) (wyS 9 u (m9 a) y)
    rw [← e]
    exact wy_m9 l _ (fun y hy => hl y (List.mem_cons_of_mem _ hy)) nn
theorem wy_zero {w : Int → Int} : ∀ (l : List Int), (∀ y ∈ l, w y = 0) → l.foldl (wyS 10 w) 0 = 0
  | [], _ => rfl
  | y :: l, hl => by
    have e : wyS 10 w 0 y = 0 := by unfold wyS; rw [hl y (List.mem_cons_self ..)]; decide
    show l.foldl (wyS 10 w) (wyS 10 w 0 y) = 0
    rw [e]
    exact wy_zero l (fun y hy => hl y (List.mem_cons_of_mem _ hy))
/-- the ways into every total, of every cell -/
def WR (σ : Sg) (w : Nat → Nat → Int) : Prop := ∀ p, isTot σ p → ∀ r, r < 288 → w p r = wyF 10 (ctr σ w r) (rdL (fmO (σ p)) (p : Int)) ∧ 0 ≤ w p r
theorem WR.wc (hW : WS σ π) (h : WR σ w) (hr : r < 288) (hn : ¬ isTot σ r) (hk : kdO (σ r) ≠ 0) : WC σ r (fun p => m9 (w p r)) := fun p hp => by
  show m9 (w p r) = _
  rw [(h p hp r hr).1]
  show m9 ((rdL (fmO (σ p)) (p : Int)).foldl (wyS 10 (ctr σ w r)) 0) = (rdL (fmO (σ p)) (p : Int)).foldl (wyS 9 _) (m9 0)
  refine wy_m9 _ _ (fun y hy => ?_) (Int.le_refl 0)
  obtain ⟨s, hs, rs, m⟩ := rdL_mem.mp hy
  have ho := plS_on (((hW.1 p hp.1).1 hp.2.1).1 s hs rs) m
  by_cases e : y = (r : Int)
  · have nt : ¬ isTot σ y.toNat := by rw [e, Int.toNat_natCast]; exact hn
    rw [ctb_1 e, ctr_1 nt ⟨e, hk⟩]
    exact ⟨by decide, by decide⟩
  · by_cases t : isTot σ y.toNat
    · rw [ctb_t e t, ctr_t t]
      exact ⟨(h _ t r hr).2, rfl⟩
    · rw [ctb_0 e t, ctr_0 t (fun q => e q.1)]
      exact ⟨by decide, by decide⟩
theorem WR.zero (hW : WS σ π) (h : WR σ w) (hr : r < 288) (hn : isTot σ r ∨ kdO (σ r) = 0) : ∀ p, isTot σ p → w p r = 0 := by
  have key : ∀ x, ¬ (isTot σ x ∧ w x r ≠ 0) := fun x hx => by
    obtain ⟨p, hp, t⟩ := ring_ex (R := Rd σ) (S := fun x => isTot σ x ∧ w x r ≠ 0) (n := 288) (fun a ha => by
      refine ⟨ha.1.1, ?_⟩
      apply Classical.byContradiction
      intro hc
      refine ha.2 ?_
      rw [(h a ha.1 r hr).1]
      refine wy_zero _ (fun y hy => ?_)
      obtain ⟨s, hs, rs, m⟩ := rdL_mem.mp hy
      have ho := plS_on (((hW.1 a ha.1.1).1 ha.1.2.1).1 s hs rs) m
      by_cases t : isTot σ y.toNat
      · rw [ctr_t t]
        apply Classical.byContradiction
        intro w9
        exact hc ⟨y.toNat, ⟨t, w9⟩, ha.1.1, ha.1.2.1, s, hs, rs, by rw [show ((y.toNat : Nat) : Int) = y by omega]; exact m⟩
      · refine ctr_0 t (fun q => ?_)
        rcases hn with n1 | n1
        · exact t (by rw [q.1, Int.toNat_natCast]; exact n1)
        · exact q.2 n1) hx
    exact hp.1.2.2.2 t
  exact fun p hp => Classical.byContradiction fun w9 => key p ⟨hp, w9⟩
/-- what the reference's rows tell -/
theorem WR.tell {x y z : Int} (hW : WS σ π) (h : WR σ w) (hx : onS x) (hy : onS y) (ht : isTot σ y.toNat) (hz : z = m9 (w y.toNat x.toNat)) : WyR σ x y z := by
  have hx2 := hx
  unfold onS at hx2
  refine ⟨fun q => absurd ⟨hx, hy⟩ q, fun _ => ⟨fun q => absurd ht q, fun _ => ⟨fun q => ?_, fun q => ?_⟩⟩⟩
  · rw [hz, h.zero hW (r := x.toNat) (by omega) (by rw [atC_on (by omega)] at q; exact q) _ ht]; rfl
  · exact ⟨_, h.wc hW (r := x.toNat) (by omega) (fun w => q (Or.inl w)) (fun w => q (Or.inr (by rw [atC_on (by omega)]; exact w))), hz⟩
end CTR
set_option maxHeartbeats 4000000 in
set_option maxRecDepth 100000 in
theorem t_X4_isOfReadsAndPlusE {τ : Tp} (l : Launch) (B : Nat) (D : va_G) (cA : Nat → ClassId) (kd : sK) (ig : sI) (rg : sR) (lg : sG) (sz : Nat) (f : Nat) (L : Fm) (hL : FnL B kd ig rg f L) (hI : IC τ B kd ig rg) : MC l B D cA yX4_isOfReadsAndPlus cX4_isOfReadsAndPlus 2 (some .boolean) (rL 0 0 0) [.ref f] kd ig rg lg sz (Pu kd ig rg lg sz (fun r => ∃ z : Int32, r = some (.int z) ∧ ((z.toInt = 1 ∧ TL L) ∨ (z.toInt = 0 ∧ ¬ TL L)))) := by
  refine MC.of (own := RX4) (by decide +kernel) rfl (Nat.le_of_ble_eq_true rfl) ?_
  intro p e s m args below meth c ls C hr hlk hnm hw hsz hl
  have hx := C.1.1
  have hb := C.1.2.1
  have hown := C.1.2.2.2.1
  have hts := C.1.2.2.2.2
  have hl : lv_has ls 2 [(0, .ref f)] := hl
  have hsh := hI.sh
  have hrs := hI.rs
  have lnf := hL.le
  refine lv_iconst (v := 0) hx hb dX4_isOfReadsAndPlus_0 (by decide) (ti_c 0 (by decide) fun z1 hz1 => ?_)
  refine lv_istore_n (lv' := [(1, .int z1), (0, .ref f)]) hx hb dX4_isOfReadsAndPlus_1 rfl hl (by decide) rfl (fun ls hl => ?_)
  have L2 : ∀ (n : Nat) (ls : Array Slot) (H : Heap) (locs : List Loc) (v2 : Int32), lv_has ls 2 [(1, .int v2), (0, .ref f)] → WD B D cA s.heap kd ig rg lg H locs → H.size = sz → FnL B kd ig rg f L → (0 ≤ v2.toInt) → (v2.toInt ≤ (L.length : Int)) → (∀ j : Nat, (j : Int) < v2.toInt → TsS (stp L (j : Int))) → (L.length : Int) - v2.toInt < (n : Int) → W p l e (rL 0 0 0) s m args below meth c H locs 0 0 (MQ below (QcW B D cA (Pu kd ig rg lg sz (fun r => ∃ z : Int32, r = some (.int z) ∧ ((z.toInt = 1 ∧ TL L) ∨ (z.toInt = 0 ∧ ¬ TL L))))) args s 0 0 (fun q => B ≤ q)) (F0 m 2 ls []) := by
    intro n2
    induction n2 with
    | zero => intro ls H locs v2 hl hw hsz hL g2_0 g2_1 g2_2 hmu; exact absurd hmu (by omega)
    | succ n2 ih2 =>
      intro ls H locs v2 hl hw hsz hL g2_0 g2_1 g2_2 hmu
      refine lv_iload_n hx hb dX4_isOfReadsAndPlus_2 rfl (lv_at hl 0 rfl) ?_
      refine lv_aload_n hx hb dX4_isOfReadsAndPlus_3 rfl (lv_at hl 1 rfl) ?_
      obtain ⟨a3, ra3, ka3, ga3⟩ := isFn.arr (FnL.F hL) 0 (by decide)
      refine r_get C hw (isFn.k (FnL.F hL)) fl_X4_17 (oV_r rfl ra3) dX4_isOfReadsAndPlus_4 ?_
      refine r_alen C hw ka3 (by omega) (by omega) dX4_isOfReadsAndPlus_7 (fun z4 hz4 => ?_)
      refine b_ge (tgt := 49) hx hb dX4_isOfReadsAndPlus_8 (by decide) (fun c8 => ?_) (fun c8 => ?_)
      · refine lv_iconst (v := 1) hx hb dX4_isOfReadsAndPlus_49 (by decide) (ti_c 1 (by decide) fun z5 hz5 => ?_)
        exact r_iret C hw hr hlk (nar_b (by omega)) (Nat.le_of_ble_eq_true rfl) (Nat.le_of_ble_eq_true rfl) dX4_isOfReadsAndPlus_50 ⟨rfl, rfl, rfl, rfl, hsz, ⟨_, rfl, Or.inl ⟨by omega, TL.of (fun j hj => g2_2 j (by omega))⟩⟩⟩
      · refine lv_aload_n hx hb dX4_isOfReadsAndPlus_11 rfl (lv_at hl 1 rfl) ?_
        obtain ⟨a6, ra6, ka6, ga6⟩ := isFn.arr (FnL.F hL) 0 (by decide)
        refine r_get C hw (isFn.k (FnL.F hL)) fl_X4_17 (oV_r rfl ra6) dX4_isOfReadsAndPlus_12 ?_
        refine lv_iload_n hx hb dX4_isOfReadsAndPlus_15 rfl (lv_at hl 0 rfl) ?_
        refine r_iald C hw ka6 (by omega) (by omega) dX4_isOfReadsAndPlus_16 (ti_c (ig a6 v2.toInt.toNat).toInt rfl fun z7 hz7 => ?_)
        have e1 : z7.toInt = (stp L v2.toInt).1 := by rw [hz7]; exact hL.sD ra6 (by omega) (by omega)
        refine lv_iconst (v := 1) hx hb dX4_isOfReadsAndPlus_17 (by decide) (ti_c 1 (by decide) fun z8 hz8 => ?_)
        refine b_eq (tgt := 43) hx hb dX4_isOfReadsAndPlus_18 (by decide) (fun c18 => ?_) (fun c18 => ?_)
        · refine tc_inc hx hb dX4_isOfReadsAndPlus_43 hl (k := 0) rfl (by decide) (by decide) (fun z9 hz9 ls hl => ?_)
          first | replace hz9 := hz9 (by omega) | clear hz9
          have hl : lv_has ls 2 [(1, .int z9), (0, .ref f)] := hl
          refine lv_goto (tgt := 2) hx hb dX4_isOfReadsAndPlus_46 (by decide) ?_
          exact ih2 ls H locs z9 (lv_sub hl [0, 1] rfl) hw hsz hL (by omega) (by omega) (fun j hj => by by_cases e9 : (j : Int) = v2.toInt; (rw [e9]; show _ ∨ _ ∨ _; omega); exact g2_2 j (by omega)) (by omega)
        · refine lv_aload_n hx hb dX4_isOfReadsAndPlus_21 rfl (lv_at hl 1 rfl) ?_
          obtain ⟨a10, ra10, ka10, ga10⟩ := isFn.arr (FnL.F hL) 0 (by decide)
          refine r_get C hw (isFn.k (FnL.F hL)) fl_X4_17 (oV_r rfl ra10) dX4_isOfReadsAndPlus_22 ?_
          refine lv_iload_n hx hb dX4_isOfReadsAndPlus_25 rfl (lv_at hl 0 rfl) ?_
          refine r_iald C hw ka10 (by omega) (by omega) dX4_isOfReadsAndPlus_26 (ti_c (ig a10 v2.toInt.toNat).toInt rfl fun z11 hz11 => ?_)
          have e2 : z11.toInt = (stp L v2.toInt).1 := by rw [hz11]; exact hL.sD ra10 (by omega) (by omega)
          refine lv_iconst (v := 2) hx hb dX4_isOfReadsAndPlus_27 (by decide) (ti_c 2 (by decide) fun z12 hz12 => ?_)
          refine b_eq (tgt := 43) hx hb dX4_isOfReadsAndPlus_28 (by decide) (fun c28 => ?_) (fun c28 => ?_)
          · refine tc_inc hx hb dX4_isOfReadsAndPlus_43 hl (k := 0) rfl (by decide) (by decide) (fun z13 hz13 ls hl => ?_)
            first | replace hz13 := hz13 (by omega) | clear hz13
            have hl : lv_has ls 2 [(1, .int z13), (0, .ref f)] := hl
            refine lv_goto (tgt := 2) hx hb dX4_isOfReadsAndPlus_46 (by decide) ?_
            exact ih2 ls H locs z13 (lv_sub hl [0, 1] rfl) hw hsz hL (by omega) (by omega) (fun j hj => by by_cases e9 : (j : Int) = v2.toInt; (rw [e9]; show _ ∨ _ ∨ _; omega); exact g2_2 j (by omega)) (by omega)
          · refine lv_aload_n hx hb dX4_isOfReadsAndPlus_31 rfl (lv_at hl 1 rfl) ?_
            obtain ⟨a14, ra14, ka14, ga14⟩ := isFn.arr (FnL.F hL) 0 (by decide)
            refine r_get C hw (isFn.k (FnL.F hL)) fl_X4_17 (oV_r rfl ra14) dX4_isOfReadsAndPlus_32 ?_
            refine lv_iload_n hx hb dX4_isOfReadsAndPlus_35 rfl (lv_at hl 0 rfl) ?_
            refine r_iald C hw ka14 (by omega) (by omega) dX4_isOfReadsAndPlus_36 (ti_c (ig a14 v2.toInt.toNat).toInt rfl fun z15 hz15 => ?_)
            have e3 : z15.toInt = (stp L v2.toInt).1 := by rw [hz15]; exact hL.sD ra14 (by omega) (by omega)
            refine lv_iconst (v := 5) hx hb dX4_isOfReadsAndPlus_37 (by decide) (ti_c 5 (by decide) fun z16 hz16 => ?_)
            refine b_eq (tgt := 43) hx hb dX4_isOfReadsAndPlus_38 (by decide) (fun c38 => ?_) (fun c38 => ?_)
            · refine tc_inc hx hb dX4_isOfReadsAndPlus_43 hl (k := 0) rfl (by decide) (by decide) (fun z17 hz17 ls hl => ?_)
              first | replace hz17 := hz17 (by omega) | clear hz17
              have hl : lv_has ls 2 [(1, .int z17), (0, .ref f)] := hl
              refine lv_goto (tgt := 2) hx hb dX4_isOfReadsAndPlus_46 (by decide) ?_
              exact ih2 ls H locs z17 (lv_sub hl [0, 1] rfl) hw hsz hL (by omega) (by omega) (fun j hj => by by_cases e9 : (j : Int) = v2.toInt; (rw [e9]; show _ ∨ _ ∨ _; omega); exact g2_2 j (by omega)) (by omega)
            · refine lv_iconst (v := 0) hx hb dX4_isOfReadsAndPlus_41 (by decide) (ti_c 0 (by decide) fun z18 hz18 => ?_)
              exact r_iret C hw hr hlk (nar_b (by omega)) (Nat.le_of_ble_eq_true rfl) (Nat.le_of_ble_eq_true rfl) dX4_isOfReadsAndPlus_42 ⟨rfl, rfl, rfl, rfl, hsz, ⟨_, rfl, (Or.inr ⟨by omega, fun w => by have q9 : _ ∨ _ ∨ _ := w _ (stp_mem (L := L) (x := v2.toInt) (by omega) (by omega)); omega⟩)⟩⟩
  exact L2 (((L.length : Int) - z1.toInt) + 1).toNat ls s.heap [] z1 (lv_sub hl [0, 1] rfl) hw hsz hL (by omega) (by omega) (fun j hj => by omega) (by omega)

set_option maxHeartbeats 4000000 in
set_option maxRecDepth 100000 in
theorem t_X8_isTotalE {τ : Tp} (l : Launch) (B : Nat) (D : va_G) (cA : Nat → ClassId) (kd : sK) (ig : sI) (rg : sR) (lg : sG) (sz : Nat) (x : Int32) (X : Nat → Prop) (hX : TtP B X 288 ig) (hI : IC τ B kd ig rg) : MC l B D cA yX8_isTotal cX8_isTotal 2 (some .boolean) (rL 1 0 0) [.ref (B + 37), .int x] kd ig rg lg sz (Pu kd ig rg lg sz (fun r => ∃ z : Int32, r = some (.int z) ∧ ((z.toInt = 1 ∧ ((0 ≤ x.toInt ∧ x.toInt < 288) ∧ X x.toInt.toNat)) ∨ (z.toInt = 0 ∧ ¬ ((0 ≤ x.toInt ∧ x.toInt < 288) ∧ X x.toInt.toNat))))) := by
  refine MC.of (own := RX8) (by decide +kernel) rfl (Nat.le_of_ble_eq_true rfl) ?_
  intro p e s m args below meth c ls C hr hlk hnm hw hsz hl
  have hx := C.1.1
  have hb := C.1.2.1
  have hown := C.1.2.2.2.1
  have hts := C.1.2.2.2.2
  have hl : lv_has ls 2 [(0, .ref (B + 37)), (1, .int x)] := hl
  have hsh := hI.sh
  have hrs := hI.rs
  refine lv_iload_n hx hb dX8_isTotal_0 rfl (lv_at hl 1 rfl) ?_
  refine r_callN (As := [.int x]) (rest := []) C hw (t_X11_onSheet l B D cA kd ig rg lg _ x  hI) sn_X8_63 rfl hl.1 rfl (Nat.le_of_ble_eq_true rfl) ⟨Nat.le_of_ble_eq_true rfl, Nat.le_of_ble_eq_true rfl⟩ ⟨Nat.le_of_ble_eq_true rfl, Nat.le_of_ble_eq_true rfl⟩ dX8_isTotal_1 (fun r5 kd1 ig2 rg3 lg4 H locs hw hH hp6 => ?_)
  obtain ⟨rfl, rfl, rfl, rfl, hzhp6, hrhp6⟩ := hp6
  have hsz := hzhp6.trans hsz
  obtain ⟨z7, rfl, hz7⟩ := hrhp6
  refine z_eq (tgt := 20) hx hb dX8_isTotal_4 (by decide) (fun c4 => ?_) (fun c4 => ?_)
  · refine lv_iconst (v := 0) hx hb dX8_isTotal_20 (by decide) (ti_c 0 (by decide) fun z8 hz8 => ?_)
    exact r_iret C hw hr hlk (nar_b (by omega)) (Nat.le_of_ble_eq_true rfl) (Nat.le_of_ble_eq_true rfl) dX8_isTotal_21 ⟨rfl, rfl, rfl, rfl, hsz, ⟨_, rfl, (Or.inr ⟨by omega, fun w9 => absurd w9.1 (by omega)⟩)⟩⟩
  · refine lv_aload_n hx hb dX8_isTotal_7 rfl (lv_at hl 0 rfl) ?_
    refine r_get C hw (hsh 37 _ rfl) fl_X8_19 (oV_r rfl (hrs (37, 2, 38) (by decide))) dX8_isTotal_8 ?_
    refine lv_iload_n hx hb dX8_isTotal_11 rfl (lv_at hl 1 rfl) ?_
    refine r_zald C hw (hsh 38 _ rfl) (by omega) (by omega) dX8_isTotal_12 (ti_c (ig (B + 38) x.toInt.toNat).toInt rfl fun z9 hz9 => ?_)
    refine z_eq (tgt := 20) hx hb dX8_isTotal_13 (by decide) (fun c13 => ?_) (fun c13 => ?_)
    · refine lv_iconst (v := 0) hx hb dX8_isTotal_20 (by decide) (ti_c 0 (by decide) fun z10 hz10 => ?_)
      exact r_iret C hw hr hlk (nar_b (by omega)) (Nat.le_of_ble_eq_true rfl) (Nat.le_of_ble_eq_true rfl) dX8_isTotal_21 ⟨rfl, rfl, rfl, rfl, hsz, ⟨_, rfl, (Or.inr ⟨by omega, fun w8 => (by rcases hX x.toInt.toNat (by omega) with ⟨q9, w9⟩ | ⟨q9, w9⟩; exact absurd hz9 (by omega); exact w9 w8.2)⟩)⟩⟩
    · refine lv_iconst (v := 1) hx hb dX8_isTotal_16 (by decide) (ti_c 1 (by decide) fun z11 hz11 => ?_)
      refine lv_goto (tgt := 21) hx hb dX8_isTotal_17 (by decide) ?_
      exact r_iret C hw hr hlk (nar_b (by omega)) (Nat.le_of_ble_eq_true rfl) (Nat.le_of_ble_eq_true rfl) dX8_isTotal_21 ⟨rfl, rfl, rfl, rfl, hsz, ⟨_, rfl, (Or.inl ⟨by omega, by omega, (by rcases hX x.toInt.toNat (by omega) with ⟨q9, w9⟩ | ⟨q9, w9⟩; exact w9; exact absurd hz9 (by omega))⟩)⟩⟩

set_option maxHeartbeats 4000000 in
set_option maxRecDepth 100000 in
theorem t_X8_settleT {κ : Int} {τ : Tp} (l : Launch) (B : Nat) (D : va_G) (cA : Nat → ClassId) (kd : sK) (ig : sI) (rg : sR) (lg : sG) (sz : Nat) (σ : Sg) (π : Ps) (ν : Nat) (hS : SCh B σ π ν kd ig rg) (hLv : LV κ B σ ν ig lg) (hW : WS σ π) (hTv : TV B σ ν ig) (hI : IC τ B kd ig rg) : MC l B D cA yX8_settle cX8_settle 3 none (rL 6 0 0) [.ref (B + 37)] kd ig rg lg sz (PI 950 τ B none kd ig rg lg (fun r kd' ig' rg' lg' => (r = none ∧ (LV κ B σ ν ig' lg' ∧ TtP B (isTot σ) 288 ig' ∧ (ig' (B + 37) 7).toInt = (ν : Int))))) := by
  refine MC.of (own := RX8) (by decide +kernel) rfl (Nat.le_of_ble_eq_true rfl) ?_
  intro p e s m args below meth c ls C hr hlk hnm hw hsz hl
  have hx := C.1.1
  have hb := C.1.2.1
  have hown := C.1.2.2.2.1
  have hts := C.1.2.2.2.2
  have hl : lv_has ls 3 [(0, .ref (B + 37))] := hl
  have hN : Nx 950 B none kd ig rg lg kd ig rg lg := Nx.rf
  have hsh := hI.sh
  have hrs := hI.rs
  have hv9 := hS.v
  refine lv_aload_n hx hb dX8_settle_0 rfl (lv_at hl 0 rfl) ?_
  refine r_get C hw (hsh 37 _ rfl) fl_X8_37 (oV_i rfl) dX8_settle_1 (ti_c (ig (B + 37) 7).toInt rfl fun z1 hz1 => ?_)
  refine lv_aload_n hx hb dX8_settle_4 rfl (lv_at hl 0 rfl) ?_
  refine r_get C hw (hsh 37 _ rfl) fl_X8_9 (oV_r rfl (hrs (37, 0, 9) (by decide))) dX8_settle_5 ?_
  refine r_get C hw (hsh 9 _ rfl) fl_X8_41 (oV_i rfl) dX8_settle_8 (ti_c (ig (B + 9) 6).toInt rfl fun z2 hz2 => ?_)
  refine b_ne (tgt := 15) hx hb dX8_settle_11 (by decide) (fun c11 => ?_) (fun c11 => ?_)
  · refine lv_aload_n hx hb dX8_settle_15 rfl (lv_at hl 0 rfl) ?_
    refine lv_aload_n hx hb dX8_settle_16 rfl (lv_at hl 0 rfl) ?_
    refine r_get C hw (hsh 37 _ rfl) fl_X8_9 (oV_r rfl (hrs (37, 0, 9) (by decide))) dX8_settle_17 ?_
    refine r_get C hw (hsh 9 _ rfl) fl_X8_41 (oV_i rfl) dX8_settle_20 (ti_c (ig (B + 9) 6).toInt rfl fun z3 hz3 => ?_)
    refine r_puti C hw (hsh 37 _ rfl) fl_X8_37 rfl rfl rfl dX8_settle_23 (fun H locs hH hw => ?_)
    obtain ⟨ig4, eig4⟩ : ∃ f, f = up2 ig (B + 37) 7 z3 := ⟨_, rfl⟩
    rw [← eig4] at hw
    have hN : Nx 950 B none kd ig rg lg kd ig4 rg lg := by rw [eig4]; exact hN.pi (by omega)
    have hI : IC τ B kd ig4 rg := by rw [eig4]; exact hI.pi (show okR none _ from trivial)
    have wig4 : (ig4 (B + 37) 7).toInt = z3.toInt := by rw [eig4, up2_eq]
    have wig4_9_6 : (ig4 (B + 9) 6).toInt = (ig (B + 9) 6).toInt := by rw [eig4, up2_a (by omega)]
    have hLv : LV κ B σ ν ig4 lg := by rw [eig4]; exact hLv.w (by decide)
    refine lv_aload_n hx hb dX8_settle_26 rfl (lv_at hl 0 rfl) ?_
    refine r_get C hw (hsh 37 _ rfl) fl_X8_15 (oV_r rfl (hrs (37, 1, 15) (by decide))) dX8_settle_27 ?_
    refine r_callV (As := []) (rest := []) C hw (t_X5_settleE l B D cA kd ig4 rg lg _  σ π ν (hS.nx hN) hLv hW hI) sv_X8_44 (hsh 15 _ rfl) rfl hl.1 rfl (Nat.le_of_ble_eq_true rfl) ⟨Nat.le_of_ble_eq_true rfl, Nat.le_of_ble_eq_true rfl⟩ ⟨Nat.le_of_ble_eq_true rfl, Nat.le_of_ble_eq_true rfl⟩ dX8_settle_30 (fun r9 kd5 ig6 rg7 lg8 H locs hw hH hp10 => ?_)
    obtain ⟨hI, hchp10, hrhp10⟩ := hp10
    have hN := hN.tr hchp10
    have hsh := hI.sh
    have hrs := hI.rs
    have hLv := LV.of hrhp10.2.1.1 hrhp10.2.1.2.1 hrhp10.2.1.2.2 hLv.le
    have rg0 := hrhp10.2.1.1.2.1
    have fo9 := hrhp10.2.2
    obtain ⟨rfl, hvhp10⟩ := hrhp10
    refine lv_iconst (v := 0) hx hb dX8_settle_33 (by decide) (ti_c 0 (by decide) fun z11 hz11 => ?_)
    refine lv_istore_n (lv' := [(1, .int z11), (0, .ref (B + 37))]) hx hb dX8_settle_34 rfl hl (by decide) rfl (fun ls hl => ?_)
    have L35 : ∀ (n : Nat) (ls : Array Slot) (H : Heap) (locs : List Loc) (kd13 : sK) (ig14 : sI) (rg15 : sR) (lg16 : sG) (v12 : Int32), lv_has ls 3 [(1, .int v12), (0, .ref (B + 37))] → WD B D cA s.heap kd13 ig14 rg15 lg16 H locs → IC τ B kd13 ig14 rg15 → Nx 950 B none kd ig rg lg kd13 ig14 rg15 lg16 → (0 ≤ v12.toInt) → (v12.toInt ≤ 288) → (TtP B (isTot σ) v12.toInt.toNat ig14) → (RgA B (Rg σ) ig14) → ((ig14 (B + 37) 7).toInt = (ν : Int)) → (LV κ B σ ν ig14 lg16) → 288 - v12.toInt < (n : Int) → W p l e (rL 6 0 0) s m args below meth c H locs 0 0 (MQ below (QcW B D cA (PI 950 τ B none kd ig rg lg (fun r kd' ig' rg' lg' => (r = none ∧ (LV κ B σ ν ig' lg' ∧ TtP B (isTot σ) 288 ig' ∧ (ig' (B + 37) 7).toInt = (ν : Int)))))) args s 0 0 (fun q => B ≤ q)) (F0 m 35 ls []) := by
      intro n35
      induction n35 with
      | zero => intro ls H locs kd13 ig14 rg15 lg16 v12 hl hw hI hN g35_0 g35_1 g35_2 g35_3 g35_4 g35_5 hmu; exact absurd hmu (by omega)
      | succ n35 ih35 =>
        intro ls H locs kd13 ig14 rg15 lg16 v12 hl hw hI hN g35_0 g35_1 g35_2 g35_3 g35_4 g35_5 hmu
        have hsh := hI.sh
        have hrs := hI.rs
        have hLv := g35_5
        refine lv_iload_n hx hb dX8_settle_35 rfl (lv_at hl 0 rfl) ?_
        refine lv_sipush (v := 288) hx hb dX8_settle_36 (by decide) (ti_c 288 (by decide) fun z17 hz17 => ?_)
        refine b_ge (tgt := 90) hx hb dX8_settle_39 (by decide) (fun c39 => ?_) (fun c39 => ?_)
        · exact r_vret C hw hr hlk (Nat.le_of_ble_eq_true rfl) (Nat.le_of_ble_eq_true rfl) dX8_settle_90 ⟨hI, hN, ⟨rfl, ⟨hLv, (by have q9 := g35_2; rw [show v12.toInt.toNat = 288 by omega] at q9; exact q9), by omega⟩⟩⟩
        · refine lv_aload_n hx hb dX8_settle_42 rfl (lv_at hl 1 rfl) ?_
          refine r_get C hw (hsh 37 _ rfl) fl_X8_9 (oV_r rfl (hrs (37, 0, 9) (by decide))) dX8_settle_43 ?_
          refine lv_iload_n hx hb dX8_settle_46 rfl (lv_at hl 0 rfl) ?_
          refine r_callV (As := [.int v12]) (rest := []) C hw (t_X6_formulaAtE l B D cA kd13 ig14 rg15 lg16 _ v12 σ π ν (hS.nx hN) hI) sv_X8_49 (hsh 9 _ rfl) rfl hl.1 rfl (Nat.le_of_ble_eq_true rfl) ⟨Nat.le_of_ble_eq_true rfl, Nat.le_of_ble_eq_true rfl⟩ ⟨Nat.le_of_ble_eq_true rfl, Nat.le_of_ble_eq_true rfl⟩ dX8_settle_47 (fun r22 kd18 ig19 rg20 lg21 H locs hw hH hp23 => ?_)
          obtain ⟨rfl, rfl, rfl, rfl, hzhp23, hrhp23⟩ := hp23
          rcases hrhp23 with ⟨rfl, nkf24⟩ | ⟨f24, rfl, nkf24, hLf24⟩
          · refine lv_astore_nN (lv' := [(2, .null), (1, .int v12), (0, .ref (B + 37))]) hx hb dX8_settle_50 rfl hl (by decide) rfl (fun ls hl => ?_)
            refine lv_aload_n hx hb dX8_settle_51 rfl (lv_at hl 2 rfl) ?_
            refine r_get C hw (hsh 37 _ rfl) fl_X8_19 (oV_r rfl (hrs (37, 2, 38) (by decide))) dX8_settle_52 ?_
            refine lv_iload_n hx hb dX8_settle_55 rfl (lv_at hl 1 rfl) ?_
            refine lv_aload_nN hx hb dX8_settle_56 rfl (lv_at hl 0 rfl) ?_
            refine lv_ifnullN (tgt := 82) hx hb dX8_settle_57 (by decide) ?_
            refine lv_iconst (v := 0) hx hb dX8_settle_82 (by decide) (ti_c 0 (by decide) fun z25 hz25 => ?_)
            refine r_zast C hw (hsh 38 _ rfl) (by omega) (by omega) (nar_b (by omega)) dX8_settle_83 (fun H locs hH hw => ?_)
            obtain ⟨ig26, eig26⟩ : ∃ f, f = up2 ig14 (B + 38) v12.toInt.toNat z25 := ⟨_, rfl⟩
            rw [← eig26] at hw
            have hN : Nx 950 B none kd ig rg lg kd13 ig26 rg15 lg16 := by rw [eig26]; exact hN.pi (by omega)
            have hI : IC τ B kd13 ig26 rg15 := by rw [eig26]; exact hI.pi (show okR none _ from trivial)
            have wig26_37_7 : (ig26 (B + 37) 7).toInt = (ig14 (B + 37) 7).toInt := by rw [eig26, up2_a (by omega)]
            have wig26_9_6 : (ig26 (B + 9) 6).toInt = (ig14 (B + 9) 6).toInt := by rw [eig26, up2_a (by omega)]
            have tt9 : TtP B (isTot σ) (v12.toInt.toNat + 1) ig26 := by rw [eig26]; exact TtP.up g35_2 (Or.inr ⟨by omega, fun q => nkf24 (by have q8 := q.2.1; rw [← atC_on (σ := σ) (x := v12.toInt) (by omega)] at q8; exact q8)⟩)
            have rgn : RgA B (Rg σ) ig26 := by rw [eig26]; exact g35_3.ag (fun p => up2_a (by omega))
            have hLv : LV κ B σ ν ig26 lg16 := by rw [eig26]; exact hLv.w (by decide)
            refine tc_inc hx hb dX8_settle_84 hl (k := 1) rfl (by decide) (by decide) (fun z27 hz27 ls hl => ?_)
            first | replace hz27 := hz27 (by omega) | clear hz27
            have hl : lv_has ls 3 [(1, .int z27), (2, .null), (0, .ref (B + 37))] := hl
            refine lv_goto (tgt := 35) hx hb dX8_settle_87 (by decide) ?_
            exact ih35 ls H locs kd13 ig26 rg15 lg16 z27 (lv_sub hl [0, 2] rfl) hw hI hN (by omega) (by omega) (by rw [show z27.toInt.toNat = v12.toInt.toNat + 1 by omega]; exact tt9) (rgn) (by omega) (hLv) (by omega)
          · have lf24 := hLf24.le
            refine lv_astore_n (lv' := [(2, .ref f24), (1, .int v12), (0, .ref (B + 37))]) hx hb dX8_settle_50 rfl hl (by decide) rfl (fun ls hl => ?_)
            refine lv_aload_n hx hb dX8_settle_51 rfl (lv_at hl 2 rfl) ?_
            refine r_get C hw (hsh 37 _ rfl) fl_X8_19 (oV_r rfl (hrs (37, 2, 38) (by decide))) dX8_settle_52 ?_
            refine lv_iload_n hx hb dX8_settle_55 rfl (lv_at hl 1 rfl) ?_
            refine lv_aload_n hx hb dX8_settle_56 rfl (lv_at hl 0 rfl) ?_
            refine lv_ifnull hx hb dX8_settle_57 ?_
            refine lv_aload_n hx hb dX8_settle_60 rfl (lv_at hl 0 rfl) ?_
            refine r_callV (As := []) (rest := [.int v12, .ref (B + 38)]) C hw (t_X4_isOfReadsAndPlusE l B D cA kd13 ig14 rg15 lg16 _ f24 (fmO (atC σ v12.toInt)) hLf24  hI) sv_X8_53 (isFn.k (FnL.F hLf24)) rfl hl.1 rfl (Nat.le_of_ble_eq_true rfl) ⟨Nat.le_of_ble_eq_true rfl, Nat.le_of_ble_eq_true rfl⟩ ⟨Nat.le_of_ble_eq_true rfl, Nat.le_of_ble_eq_true rfl⟩ dX8_settle_61 (fun r32 kd28 ig29 rg30 lg31 H locs hw hH hp33 => ?_)
            obtain ⟨rfl, rfl, rfl, rfl, hzhp33, hrhp33⟩ := hp33
            obtain ⟨z34, rfl, hz34⟩ := hrhp33
            have tlh := hz34
            refine z_eq (tgt := 82) hx hb dX8_settle_64 (by decide) (fun c64 => ?_) (fun c64 => ?_)
            · refine lv_iconst (v := 0) hx hb dX8_settle_82 (by decide) (ti_c 0 (by decide) fun z35 hz35 => ?_)
              refine r_zast C hw (hsh 38 _ rfl) (by omega) (by omega) (nar_b (by omega)) dX8_settle_83 (fun H locs hH hw => ?_)
              obtain ⟨ig36, eig36⟩ : ∃ f, f = up2 ig14 (B + 38) v12.toInt.toNat z35 := ⟨_, rfl⟩
              rw [← eig36] at hw
              have hN : Nx 950 B none kd ig rg lg kd13 ig36 rg15 lg16 := by rw [eig36]; exact hN.pi (by omega)
              have hI : IC τ B kd13 ig36 rg15 := by rw [eig36]; exact hI.pi (show okR none _ from trivial)
              have wig36_37_7 : (ig36 (B + 37) 7).toInt = (ig14 (B + 37) 7).toInt := by rw [eig36, up2_a (by omega)]
              have wig36_9_6 : (ig36 (B + 9) 6).toInt = (ig14 (B + 9) 6).toInt := by rw [eig36, up2_a (by omega)]
              have tt9 : TtP B (isTot σ) (v12.toInt.toNat + 1) ig36 := by rw [eig36]; exact TtP.up g35_2 (Or.inr ⟨by omega, fun q => by0 tlh (by omega) (by have q8 := q.2.2.1; rw [← atC_on (σ := σ) (x := v12.toInt) (by omega)] at q8; exact q8)⟩)
              have rgn : RgA B (Rg σ) ig36 := by rw [eig36]; exact g35_3.ag (fun p => up2_a (by omega))
              have hLv : LV κ B σ ν ig36 lg16 := by rw [eig36]; exact hLv.w (by decide)
              refine tc_inc hx hb dX8_settle_84 hl (k := 1) rfl (by decide) (by decide) (fun z37 hz37 ls hl => ?_)
              first | replace hz37 := hz37 (by omega) | clear hz37
              have hl : lv_has ls 3 [(1, .int z37), (2, .ref f24), (0, .ref (B + 37))] := hl
              refine lv_goto (tgt := 35) hx hb dX8_settle_87 (by decide) ?_
              exact ih35 ls H locs kd13 ig36 rg15 lg16 z37 (lv_sub hl [0, 2] rfl) hw hI hN (by omega) (by omega) (by rw [show z37.toInt.toNat = v12.toInt.toNat + 1 by omega]; exact tt9) (rgn) (by omega) (hLv) (by omega)
            · have tl9 := by1 tlh (by omega)
              refine lv_aload_n hx hb dX8_settle_67 rfl (lv_at hl 2 rfl) ?_
              refine r_get C hw (hsh 37 _ rfl) fl_X8_15 (oV_r rfl (hrs (37, 1, 15) (by decide))) dX8_settle_68 ?_
              refine lv_iload_n hx hb dX8_settle_71 rfl (lv_at hl 1 rfl) ?_
              refine r_callV (As := [.int v12]) (rest := [.int v12, .ref (B + 38)]) C hw (t_X5_inRingE l B D cA kd13 ig14 rg15 lg16 _ v12 (Rg σ) g35_3 (by omega) hI) sv_X8_59 (hsh 15 _ rfl) rfl hl.1 rfl (Nat.le_of_ble_eq_true rfl) ⟨Nat.le_of_ble_eq_true rfl, Nat.le_of_ble_eq_true rfl⟩ ⟨Nat.le_of_ble_eq_true rfl, Nat.le_of_ble_eq_true rfl⟩ dX8_settle_72 (fun r42 kd38 ig39 rg40 lg41 H locs hw hH hp43 => ?_)
              obtain ⟨rfl, rfl, rfl, rfl, hzhp43, hrhp43⟩ := hp43
              obtain ⟨z44, rfl, hz44⟩ := hrhp43
              have rg9 := hz44
              refine z_ne (tgt := 82) hx hb dX8_settle_75 (by decide) (fun c75 => ?_) (fun c75 => ?_)
              · refine lv_iconst (v := 0) hx hb dX8_settle_82 (by decide) (ti_c 0 (by decide) fun z45 hz45 => ?_)
                refine r_zast C hw (hsh 38 _ rfl) (by omega) (by omega) (nar_b (by omega)) dX8_settle_83 (fun H locs hH hw => ?_)
                obtain ⟨ig46, eig46⟩ : ∃ f, f = up2 ig14 (B + 38) v12.toInt.toNat z45 := ⟨_, rfl⟩
                rw [← eig46] at hw
                have hN : Nx 950 B none kd ig rg lg kd13 ig46 rg15 lg16 := by rw [eig46]; exact hN.pi (by omega)
                have hI : IC τ B kd13 ig46 rg15 := by rw [eig46]; exact hI.pi (show okR none _ from trivial)
                have wig46_37_7 : (ig46 (B + 37) 7).toInt = (ig14 (B + 37) 7).toInt := by rw [eig46, up2_a (by omega)]
                have wig46_9_6 : (ig46 (B + 9) 6).toInt = (ig14 (B + 9) 6).toInt := by rw [eig46, up2_a (by omega)]
                have tt9 : TtP B (isTot σ) (v12.toInt.toNat + 1) ig46 := by rw [eig46]; exact TtP.up g35_2 (Or.inr ⟨by omega, fun q => q.2.2.2 (by1 rg9 (by omega))⟩)
                have rgn : RgA B (Rg σ) ig46 := by rw [eig46]; exact g35_3.ag (fun p => up2_a (by omega))
                have hLv : LV κ B σ ν ig46 lg16 := by rw [eig46]; exact hLv.w (by decide)
                refine tc_inc hx hb dX8_settle_84 hl (k := 1) rfl (by decide) (by decide) (fun z47 hz47 ls hl => ?_)
                first | replace hz47 := hz47 (by omega) | clear hz47
                have hl : lv_has ls 3 [(1, .int z47), (2, .ref f24), (0, .ref (B + 37))] := hl
                refine lv_goto (tgt := 35) hx hb dX8_settle_87 (by decide) ?_
                exact ih35 ls H locs kd13 ig46 rg15 lg16 z47 (lv_sub hl [0, 2] rfl) hw hI hN (by omega) (by omega) (by rw [show z47.toInt.toNat = v12.toInt.toNat + 1 by omega]; exact tt9) (rgn) (by omega) (hLv) (by omega)
              · refine lv_iconst (v := 1) hx hb dX8_settle_78 (by decide) (ti_c 1 (by decide) fun z48 hz48 => ?_)
                refine lv_goto (tgt := 83) hx hb dX8_settle_79 (by decide) ?_
                refine r_zast C hw (hsh 38 _ rfl) (by omega) (by omega) (nar_b (by omega)) dX8_settle_83 (fun H locs hH hw => ?_)
                obtain ⟨ig49, eig49⟩ : ∃ f, f = up2 ig14 (B + 38) v12.toInt.toNat z48 := ⟨_, rfl⟩
                rw [← eig49] at hw
                have hN : Nx 950 B none kd ig rg lg kd13 ig49 rg15 lg16 := by rw [eig49]; exact hN.pi (by omega)
                have hI : IC τ B kd13 ig49 rg15 := by rw [eig49]; exact hI.pi (show okR none _ from trivial)
                have wig49_37_7 : (ig49 (B + 37) 7).toInt = (ig14 (B + 37) 7).toInt := by rw [eig49, up2_a (by omega)]
                have wig49_9_6 : (ig49 (B + 9) 6).toInt = (ig14 (B + 9) 6).toInt := by rw [eig49, up2_a (by omega)]
                have tt9 : TtP B (isTot σ) (v12.toInt.toNat + 1) ig49 := by rw [eig49]; exact TtP.up g35_2 (Or.inl ⟨by omega, by omega, (by rw [← atC_on (σ := σ) (x := v12.toInt) (by omega)]; exact nkf24), (by rw [← atC_on (σ := σ) (x := v12.toInt) (by omega)]; exact tl9), by0 rg9 (by omega)⟩)
                have rgn : RgA B (Rg σ) ig49 := by rw [eig49]; exact g35_3.ag (fun p => up2_a (by omega))
                have hLv : LV κ B σ ν ig49 lg16 := by rw [eig49]; exact hLv.w (by decide)
                refine tc_inc hx hb dX8_settle_84 hl (k := 1) rfl (by decide) (by decide) (fun z50 hz50 ls hl => ?_)
                first | replace hz50 := hz50 (by omega) | clear hz50
                have hl : lv_has ls 3 [(1, .int z50), (2, .ref f24), (0, .ref (B + 37))] := hl
                refine lv_goto (tgt := 35) hx hb dX8_settle_87 (by decide) ?_
                exact ih35 ls H locs kd13 ig49 rg15 lg16 z50 (lv_sub hl [0, 2] rfl) hw hI hN (by omega) (by omega) (by rw [show z50.toInt.toNat = v12.toInt.toNat + 1 by omega]; exact tt9) (rgn) (by omega) (hLv) (by omega)
    exact L35 ((288 - z11.toInt) + 1).toNat ls H locs kd5 ig6 rg7 lg8 z11 (lv_sub hl [0, 1] rfl) hw hI hN (by omega) (by omega) (fun p hp => by omega) (rg0) (by rw [fo9.i 37 _]; omega) (hLv) (by omega)
  · exact r_vret C hw hr hlk (Nat.le_of_ble_eq_true rfl) (Nat.le_of_ble_eq_true rfl) dX8_settle_14 ⟨hI, hN, ⟨rfl, ⟨hLv, hTv.2 (by omega), by omega⟩⟩⟩

set_option maxHeartbeats 4000000 in
set_option maxRecDepth 100000 in
theorem t_X8_waysByE {τ : Tp} (l : Launch) (B : Nat) (D : va_G) (cA : Nat → ClassId) (kd : sK) (ig : sI) (rg : sR) (lg : sG) (sz : Nat) (x : Int32) (y : Int32) (σ : Sg) (hX : TtP B (isTot σ) 288 ig) (hx0 : 0 ≤ x.toInt ∧ x.toInt < 288) (hy0 : 0 ≤ y.toInt ∧ y.toInt < 288) (hI : IC τ B kd ig rg) : MC l B D cA yX8_waysBy cX8_waysBy 3 (some .int) (rL 2 0 0) [.ref (B + 37), .int x, .int y] kd ig rg lg sz (Pu kd ig rg lg sz (fun r => ∃ z : Int32, r = some (.int z) ∧ z.toInt = ctb σ (fun p => (ig (B + 39) p).toInt) x.toInt.toNat y.toInt)) := by
  refine MC.of (own := RX8) (by decide +kernel) rfl (Nat.le_of_ble_eq_true rfl) ?_
  intro p e s m args below meth c ls C hr hlk hnm hw hsz hl
  have hx := C.1.1
  have hb := C.1.2.1
  have hown := C.1.2.2.2.1
  have hts := C.1.2.2.2.2
  have hl : lv_has ls 3 [(0, .ref (B + 37)), (1, .int x), (2, .int y)] := hl
  have hsh := hI.sh
  have hrs := hI.rs
  refine lv_iload_n hx hb dX8_waysBy_0 rfl (lv_at hl 2 rfl) ?_
  refine lv_iload_n hx hb dX8_waysBy_1 rfl (lv_at hl 1 rfl) ?_
  refine b_ne (tgt := 7) hx hb dX8_waysBy_2 (by decide) (fun c2 => ?_) (fun c2 => ?_)
  · refine lv_aload_n hx hb dX8_waysBy_7 rfl (lv_at hl 0 rfl) ?_
    refine lv_iload_n hx hb dX8_waysBy_8 rfl (lv_at hl 2 rfl) ?_
    refine r_callV (As := [.int y]) (rest := []) C hw (t_X8_isTotalE l B D cA kd ig rg lg _ y (isTot σ) hX hI) sv_X8_66 (hsh 37 _ rfl) rfl hl.1 rfl (Nat.le_of_ble_eq_true rfl) ⟨Nat.le_of_ble_eq_true rfl, Nat.le_of_ble_eq_true rfl⟩ ⟨Nat.le_of_ble_eq_true rfl, Nat.le_of_ble_eq_true rfl⟩ dX8_waysBy_9 (fun r5 kd1 ig2 rg3 lg4 H locs hw hH hp6 => ?_)
    obtain ⟨rfl, rfl, rfl, rfl, hzhp6, hrhp6⟩ := hp6
    have hsz := hzhp6.trans hsz
    obtain ⟨z7, rfl, hz7⟩ := hrhp6
    have it9 := hz7
    refine z_eq (tgt := 24) hx hb dX8_waysBy_12 (by decide) (fun c12 => ?_) (fun c12 => ?_)
    · refine lv_iconst (v := 0) hx hb dX8_waysBy_24 (by decide) (ti_c 0 (by decide) fun z8 hz8 => ?_)
      exact r_iret C hw hr hlk rfl (Nat.le_of_ble_eq_true rfl) (Nat.le_of_ble_eq_true rfl) dX8_waysBy_25 ⟨rfl, rfl, rfl, rfl, hsz, ⟨_, rfl, (by rw [ctb_0 (by omega) (fun q9 => by0 it9 (by omega) ⟨by omega, q9⟩)]; omega)⟩⟩
    · refine lv_aload_n hx hb dX8_waysBy_15 rfl (lv_at hl 0 rfl) ?_
      refine r_get C hw (hsh 37 _ rfl) fl_X8_23 (oV_r rfl (hrs (37, 3, 39) (by decide))) dX8_waysBy_16 ?_
      refine lv_iload_n hx hb dX8_waysBy_19 rfl (lv_at hl 2 rfl) ?_
      refine r_iald C hw (hsh 39 _ rfl) (by omega) (by omega) dX8_waysBy_20 (ti_c (ig (B + 39) y.toInt.toNat).toInt rfl fun z9 hz9 => ?_)
      refine lv_goto (tgt := 25) hx hb dX8_waysBy_21 (by decide) ?_
      exact r_iret C hw hr hlk rfl (Nat.le_of_ble_eq_true rfl) (Nat.le_of_ble_eq_true rfl) dX8_waysBy_25 ⟨rfl, rfl, rfl, rfl, hsz, ⟨_, rfl, (by rw [ctb_t (by omega) (by1 it9 (by omega)).2]; exact hz9)⟩⟩
  · refine lv_iconst (v := 1) hx hb dX8_waysBy_5 (by decide) (ti_c 1 (by decide) fun z10 hz10 => ?_)
    exact r_iret C hw hr hlk rfl (Nat.le_of_ble_eq_true rfl) (Nat.le_of_ble_eq_true rfl) dX8_waysBy_6 ⟨rfl, rfl, rfl, rfl, hsz, ⟨_, rfl, (by rw [ctb_1 (by omega)]; omega)⟩⟩

set_option maxHeartbeats 4000000 in
set_option maxRecDepth 100000 in
theorem t_X8_waysThroughE {τ : Tp} (l : Launch) (B : Nat) (D : va_G) (cA : Nat → ClassId) (kd : sK) (ig : sI) (rg : sR) (lg : sG) (sz : Nat) (x : Int32) (y : Int32) (g : Nat) (M : Fm) (hM : FnL B kd ig rg g M) (σ : Sg) (hX : TtP B (isTot σ) 288 ig) (hx0 : 0 ≤ x.toInt ∧ x.toInt < 288) (hy0 : 0 ≤ y.toInt ∧ y.toInt < 288) (hft : fitL y.toInt M) (hwf : WfL M) (hf9 : ∀ q : Int, q ∈ rdL M y.toInt → 0 ≤ ctb σ (fun p => (ig (B + 39) p).toInt) x.toInt.toNat q ∧ ctb σ (fun p => (ig (B + 39) p).toInt) x.toInt.toNat q ≤ 9) (hI : IC τ B kd ig rg) : MC l B D cA yX8_waysThrough cX8_waysThrough 8 (some .int) (rL 3 0 0) [.ref (B + 37), .int x, .int y, .ref g] kd ig rg lg sz (PI 958 τ B none kd ig rg lg (fun r kd' ig' rg' lg' => ∃ z : Int32, r = some (.int z) ∧ ((z.toInt = wyF 9 (ctb σ (fun p => (ig (B + 39) p).toInt) x.toInt.toNat) (rdL M y.toInt) ∧ 0 ≤ z.toInt ∧ z.toInt ≤ 9) ∧ Fo B [40] ig lg ig' lg'))) := by
  refine MC.of (own := RX8) (by decide +kernel) rfl (Nat.le_of_ble_eq_true rfl) ?_
  intro p e s m args below meth c ls C hr hlk hnm hw hsz hl
  have hx := C.1.1
  have hb := C.1.2.1
  have hown := C.1.2.2.2.1
  have hts := C.1.2.2.2.2
  have hl : lv_has ls 8 [(0, .ref (B + 37)), (1, .int x), (2, .int y), (3, .ref g)] := hl
  have hN : Nx 958 B none kd ig rg lg kd ig rg lg := Nx.rf
  have hsh := hI.sh
  have hrs := hI.rs
  have hO : Fo B [40] ig lg ig lg := Fo.rf
  have lng := hM.le
  refine lv_iconst (v := 0) hx hb dX8_waysThrough_0 (by decide) (ti_c 0 (by decide) fun z1 hz1 => ?_)
  refine lv_istore (lv' := [(4, .int z1), (0, .ref (B + 37)), (1, .int x), (2, .int y), (3, .ref g)]) hx hb dX8_waysThrough_1 hl (by decide) rfl (fun ls hl => ?_)
  refine lv_iconst (v := 0) hx hb dX8_waysThrough_3 (by decide) (ti_c 0 (by decide) fun z2 hz2 => ?_)
  refine lv_istore (lv' := [(5, .int z2), (4, .int z1), (0, .ref (B + 37)), (1, .int x), (2, .int y), (3, .ref g)]) hx hb dX8_waysThrough_4 hl (by decide) rfl (fun ls hl => ?_)
  have L6 : ∀ (n : Nat) (ls : Array Slot) (H : Heap) (locs : List Loc) (kd5 : sK) (ig6 : sI) (rg7 : sR) (lg8 : sG) (v3 : Int32) (v4 : Int32), lv_has ls 8 [(5, .int v3), (4, .int v4), (0, .ref (B + 37)), (1, .int x), (2, .int y), (3, .ref g)] → WD B D cA s.heap kd5 ig6 rg7 lg8 H locs → IC τ B kd5 ig6 rg7 → Nx 958 B none kd ig rg lg kd5 ig6 rg7 lg8 → (0 ≤ v3.toInt) → (v3.toInt ≤ (M.length : Int)) → (0 ≤ v4.toInt) → (v4.toInt ≤ 9) → (v4.toInt = wyF 9 (ctb σ (fun p => (ig (B + 39) p).toInt) x.toInt.toNat) (rdL (M.take v3.toInt.toNat) y.toInt)) → (Fo B [40] ig lg ig6 lg8) → (Fo B [40] ig lg ig6 lg8) → (M.length : Int) - v3.toInt < (n : Int) → W p l e (rL 3 0 0) s m args below meth c H locs 0 0 (MQ below (QcW B D cA (PI 958 τ B none kd ig rg lg (fun r kd' ig' rg' lg' => ∃ z : Int32, r = some (.int z) ∧ ((z.toInt = wyF 9 (ctb σ (fun p => (ig (B + 39) p).toInt) x.toInt.toNat) (rdL M y.toInt) ∧ 0 ≤ z.toInt ∧ z.toInt ≤ 9) ∧ Fo B [40] ig lg ig' lg')))) args s 0 0 (fun q => B ≤ q)) (F0 m 6 ls []) := by
    intro n6
    induction n6 with
    | zero => intro ls H locs kd5 ig6 rg7 lg8 v3 v4 hl hw hI hN g6_0 g6_1 g6_2 g6_3 g6_4 g6_5 g6_6 hmu; exact absurd hmu (by omega)
    | succ n6 ih6 =>
      intro ls H locs kd5 ig6 rg7 lg8 v3 v4 hl hw hI hN g6_0 g6_1 g6_2 g6_3 g6_4 g6_5 g6_6 hmu
      have hsh := hI.sh
      have hrs := hI.rs
      have hO := g6_6
      have hO8 := g6_5
      refine lv_iload hx hb dX8_waysThrough_6 (lv_at hl 0 rfl) ?_
      refine lv_aload_n hx hb dX8_waysThrough_8 rfl (lv_at hl 5 rfl) ?_
      refine r_callV (As := []) (rest := [.int v3]) C hw (t_X4_size l B D cA kd5 ig6 rg7 lg8 _ g M.length (FnL.F (hM.nx hN))  hI) sv_X8_84 (isFn.k (FnL.F (hM.nx hN))) rfl hl.1 rfl (Nat.le_of_ble_eq_true rfl) ⟨Nat.le_of_ble_eq_true rfl, Nat.le_of_ble_eq_true rfl⟩ ⟨Nat.le_of_ble_eq_true rfl, Nat.le_of_ble_eq_true rfl⟩ dX8_waysThrough_9 (fun r13 kd9 ig10 rg11 lg12 H locs hw hH hp14 => ?_)
      obtain ⟨rfl, rfl, rfl, rfl, hzhp14, hrhp14⟩ := hp14
      obtain ⟨z15, rfl, hz15⟩ := hrhp14
      refine b_ge (tgt := 93) hx hb dX8_waysThrough_12 (by decide) (fun c12 => ?_) (fun c12 => ?_)
      · refine lv_iload hx hb dX8_waysThrough_93 (lv_at hl 1 rfl) ?_
        exact r_iret C hw hr hlk rfl (Nat.le_of_ble_eq_true rfl) (Nat.le_of_ble_eq_true rfl) dX8_waysThrough_95 ⟨hI, hN, ⟨_, rfl, ⟨⟨(by have q9 := g6_4; rw [show v3.toInt.toNat = M.length by omega, List.take_length] at q9; exact q9), by omega, by omega⟩, hO⟩⟩⟩
      · refine lv_aload_n hx hb dX8_waysThrough_15 rfl (lv_at hl 5 rfl) ?_
        refine lv_iload hx hb dX8_waysThrough_16 (lv_at hl 0 rfl) ?_
        refine r_callV (As := [.int v3]) (rest := []) C hw (t_X4_readsAtE l B D cA kd5 ig6 rg7 lg8 _ g M (hM.nx hN) v3  hI) sv_X8_87 (isFn.k (FnL.F (hM.nx hN))) rfl hl.1 rfl (Nat.le_of_ble_eq_true rfl) ⟨Nat.le_of_ble_eq_true rfl, Nat.le_of_ble_eq_true rfl⟩ ⟨Nat.le_of_ble_eq_true rfl, Nat.le_of_ble_eq_true rfl⟩ dX8_waysThrough_18 (fun r20 kd16 ig17 rg18 lg19 H locs hw hH hp21 => ?_)
        obtain ⟨rfl, rfl, rfl, rfl, hzhp21, hrhp21⟩ := hp21
        obtain ⟨z22, rfl, hz22⟩ := hrhp21
        have rdh := hz22
        refine z_eq (tgt := 38) hx hb dX8_waysThrough_21 (by decide) (fun c21 => ?_) (fun c21 => ?_)
        · have nrd9 := by0 rdh (by omega)
          refine lv_iconst (v := 0) hx hb dX8_waysThrough_38 (by decide) (ti_c 0 (by decide) fun z23 hz23 => ?_)
          refine lv_istore (lv' := [(6, .int z23), (5, .int v3), (4, .int v4), (0, .ref (B + 37)), (1, .int x), (2, .int y), (3, .ref g)]) hx hb dX8_waysThrough_39 hl (by decide) rfl (fun ls hl => ?_)
          refine lv_iconst (v := 0) hx hb dX8_waysThrough_41 (by decide) (ti_c 0 (by decide) fun z24 hz24 => ?_)
          refine lv_istore (lv' := [(7, .int z24), (6, .int z23), (5, .int v3), (4, .int v4), (0, .ref (B + 37)), (1, .int x), (2, .int y), (3, .ref g)]) hx hb dX8_waysThrough_42 hl (by decide) rfl (fun ls hl => ?_)
          have L44 : ∀ (n : Nat) (ls : Array Slot) (H : Heap) (locs : List Loc) (kd27 : sK) (ig28 : sI) (rg29 : sR) (lg30 : sG) (v25 : Int32) (v26 : Int32), lv_has ls 8 [(7, .int v25), (6, .int z23), (5, .int v3), (4, .int v26), (0, .ref (B + 37)), (1, .int x), (2, .int y), (3, .ref g)] → WD B D cA s.heap kd27 ig28 rg29 lg30 H locs → IC τ B kd27 ig28 rg29 → Nx 958 B none kd ig rg lg kd27 ig28 rg29 lg30 → (0 ≤ v25.toInt) → (v25.toInt ≤ z23.toInt) → (SpL B 40 (rdI (stp M v3.toInt) y.toInt) ig28 z23.toInt) → ((0 ≤ v26.toInt ∧ v26.toInt ≤ 9) ∧ z23.toInt ≤ 288) → (v26.toInt = ((rdI (stp M v3.toInt) y.toInt).take v25.toInt.toNat).foldl (wyS 9 (ctb σ (fun p => (ig (B + 39) p).toInt) x.toInt.toNat)) (wyF 9 (ctb σ (fun p => (ig (B + 39) p).toInt) x.toInt.toNat) (rdL (M.take v3.toInt.toNat) y.toInt))) → (Fo B [40] ig lg ig28 lg30) → (Fo B [40] ig lg ig28 lg30) → z23.toInt - v25.toInt < (n : Int) → W p l e (rL 3 0 0) s m args below meth c H locs 0 0 (MQ below (QcW B D cA (PI 958 τ B none kd ig rg lg (fun r kd' ig' rg' lg' => ∃ z : Int32, r = some (.int z) ∧ ((z.toInt = wyF 9 (ctb σ (fun p => (ig (B + 39) p).toInt) x.toInt.toNat) (rdL M y.toInt) ∧ 0 ≤ z.toInt ∧ z.toInt ≤ 9) ∧ Fo B [40] ig lg ig' lg')))) args s 0 0 (fun q => B ≤ q)) (F0 m 44 ls []) := by
            intro n44
            induction n44 with
            | zero => intro ls H locs kd27 ig28 rg29 lg30 v25 v26 hl hw hI hN g44_0 g44_1 g44_2 g44_3 g44_4 g44_5 g44_6 hmu; exact absurd hmu (by omega)
            | succ n44 ih44 =>
              intro ls H locs kd27 ig28 rg29 lg30 v25 v26 hl hw hI hN g44_0 g44_1 g44_2 g44_3 g44_4 g44_5 g44_6 hmu
              have hsh := hI.sh
              have hrs := hI.rs
              have hO := g44_6
              have hO8 := g44_5
              refine lv_iload hx hb dX8_waysThrough_44 (lv_at hl 0 rfl) ?_
              refine lv_iload hx hb dX8_waysThrough_46 (lv_at hl 1 rfl) ?_
              refine b_ge (tgt := 87) hx hb dX8_waysThrough_48 (by decide) (fun c48 => ?_) (fun c48 => ?_)
              · refine tc_inc hx hb dX8_waysThrough_87 hl (k := 2) rfl (by decide) (by decide) (fun z31 hz31 ls hl => ?_)
                first | replace hz31 := hz31 (by omega) | clear hz31
                have hl : lv_has ls 8 [(5, .int z31), (7, .int v25), (6, .int z23), (4, .int v26), (0, .ref (B + 37)), (1, .int x), (2, .int y), (3, .ref g)] := hl
                refine lv_goto (tgt := 6) hx hb dX8_waysThrough_90 (by decide) ?_
                exact ih6 ls H locs kd27 ig28 rg29 lg30 z31 v26 (lv_sub hl [0, 3, 4, 5, 6, 7] rfl) hw hI hN (by omega) (by omega) (by omega) (by omega) ((by rw [show z31.toInt.toNat = v3.toInt.toNat + 1 by omega]; exact wy_next g44_4 (by have q9 := g44_2.1; omega) (by omega) (by omega))) (g44_5) (hO) (by omega)
              · refine lv_iload hx hb dX8_waysThrough_51 (lv_at hl 0 rfl) ?_
                refine lv_sipush (v := 288) hx hb dX8_waysThrough_53 (by decide) (ti_c 288 (by decide) fun z32 hz32 => ?_)
                refine b_ge (tgt := 87) hx hb dX8_waysThrough_56 (by decide) (fun c56 => ?_) (fun c56 => ?_)
                · exact absurd c56 (by omega)
                · refine lv_bipush (v := 9) hx hb dX8_waysThrough_59 (by decide) (ti_c 9 (by decide) fun z33 hz33 => ?_)
                  refine lv_iload hx hb dX8_waysThrough_61 (lv_at hl 3 rfl) ?_
                  refine lv_aload_n hx hb dX8_waysThrough_63 rfl (lv_at hl 4 rfl) ?_
                  refine lv_iload_n hx hb dX8_waysThrough_64 rfl (lv_at hl 5 rfl) ?_
                  refine lv_aload_n hx hb dX8_waysThrough_65 rfl (lv_at hl 4 rfl) ?_
                  refine r_get C hw (hsh 37 _ rfl) fl_X8_27 (oV_r rfl (hrs (37, 4, 40) (by decide))) dX8_waysThrough_66 ?_
                  refine lv_iload hx hb dX8_waysThrough_69 (lv_at hl 0 rfl) ?_
                  refine r_iald C hw (hsh 40 _ rfl) (by omega) (by omega) dX8_waysThrough_71 (ti_c (ig28 (B + 40) v25.toInt.toNat).toInt rfl fun z34 hz34 => ?_)
                  obtain ⟨hkl, hsk⟩ := g44_2.at (k := v25.toInt.toNat) (by omega)
                  have hkm := List.getElem_mem hkl
                  have hq9 := rdI_on hft (stp_mem (L := M) (x := v3.toInt) (by omega) (by omega)) hkm
                  have hb9 := hf9 _ (rdI_in (stp_mem (L := M) (x := v3.toInt) (by omega) (by omega)) hkm)
                  have hzq : z34.toInt = (rdI (stp M v3.toInt) y.toInt)[v25.toInt.toNat] := by rw [hz34]; exact hsk
                  refine r_callV (As := [.int x, .int z34]) (rest := [.int v26, .int z33]) C hw (t_X8_waysByE l B D cA kd27 ig28 rg29 lg30 _ x z34 σ (hX.ag (fun p => hO8.i 38 p)) (by omega) (by omega) hI) sv_X8_94 (hsh 37 _ rfl) rfl hl.1 rfl (Nat.le_of_ble_eq_true rfl) ⟨Nat.le_of_ble_eq_true rfl, Nat.le_of_ble_eq_true rfl⟩ ⟨Nat.le_of_ble_eq_true rfl, Nat.le_of_ble_eq_true rfl⟩ dX8_waysThrough_72 (fun r39 kd35 ig36 rg37 lg38 H locs hw hH hp40 => ?_)
                  obtain ⟨rfl, rfl, rfl, rfl, hzhp40, hrhp40⟩ := hp40
                  obtain ⟨z41, rfl, hz41⟩ := hrhp40
                  have hby : z41.toInt = ctb σ (fun p => (ig (B + 39) p).toInt) x.toInt.toNat z34.toInt := by rw [hz41, show (fun p => (ig28 (B + 39) p).toInt) = (fun p => (ig (B + 39) p).toInt) from funext fun p => by rw [hO8.i 39 p]]
                  rw [← hzq, ← hby] at hb9
                  refine lv_iadd hx hb dX8_waysThrough_75 (tc_add fun z42 hz42 => ?_)
                  first | replace hz42 := hz42 (by omega) | clear hz42
                  refine r_min C ss_X8_98 hl.1 (Nat.le_of_ble_eq_true rfl) (Nat.le_of_ble_eq_true rfl) (Nat.le_of_ble_eq_true rfl) (Nat.le_of_ble_eq_true rfl) dX8_waysThrough_76 (fun z43 hz43 => ?_)
                  refine lv_istore (lv' := [(4, .int z43), (7, .int v25), (6, .int z23), (5, .int v3), (0, .ref (B + 37)), (1, .int x), (2, .int y), (3, .ref g)]) hx hb dX8_waysThrough_79 hl (by decide) rfl (fun ls hl => ?_)
                  refine tc_inc hx hb dX8_waysThrough_81 hl (k := 1) rfl (by decide) (by decide) (fun z44 hz44 ls hl => ?_)
                  first | replace hz44 := hz44 (by omega) | clear hz44
                  have hl : lv_has ls 8 [(7, .int z44), (4, .int z43), (6, .int z23), (5, .int v3), (0, .ref (B + 37)), (1, .int x), (2, .int y), (3, .ref g)] := hl
                  refine lv_goto (tgt := 44) hx hb dX8_waysThrough_84 (by decide) ?_
                  exact ih44 ls H locs kd27 ig28 rg29 lg30 z44 z43 (lv_sub hl [0, 2, 3, 1, 4, 5, 6, 7] rfl) hw hI hN (by omega) (by omega) (g44_2) (by omega) ((by rw [show z44.toInt.toNat = v25.toInt.toNat + 1 by omega]; exact wyT (t := z42.toInt) g44_4 hkl (by rw [hz42, hby, hzq]) ⟨by omega, by omega, by omega⟩)) (g44_5) (hO) (by omega)
          exact L44 ((z23.toInt - z24.toInt) + 1).toNat ls H locs kd5 ig6 rg7 lg8 z24 v4 (lv_sub hl [0, 1, 2, 3, 4, 5, 6, 7] rfl) hw hI hN (by omega) (by omega) ((by rw [rdI_n nrd9]; exact SpL.nil (by omega))) (by omega) (by rw [show z24.toInt.toNat = 0 by omega, List.take_zero]; exact g6_4) (hO8) (hO) (by omega)
        · have rd9 := by1 rdh (by omega)
          refine lv_aload_n hx hb dX8_waysThrough_24 rfl (lv_at hl 5 rfl) ?_
          refine lv_iload hx hb dX8_waysThrough_25 (lv_at hl 0 rfl) ?_
          refine lv_iload_n hx hb dX8_waysThrough_27 rfl (lv_at hl 4 rfl) ?_
          refine lv_aload_n hx hb dX8_waysThrough_28 rfl (lv_at hl 2 rfl) ?_
          refine r_get C hw (hsh 37 _ rfl) fl_X8_27 (oV_r rfl (hrs (37, 4, 40) (by decide))) dX8_waysThrough_29 ?_
          refine r_callV (As := [.int v3, .int y, .ref (B + 40)]) (rest := []) C hw (t_X4_listPlacesE l B D cA kd5 ig6 rg7 lg8 _ g M (hM.nx hN) v3 y 40 (Or.inr (Or.inr (Or.inr rfl))) (by omega) (by omega) (hwf.at (by omega) (by omega) rd9) (hft _ (stp_mem (L := M) (x := v3.toInt) (by omega) (by omega)) rd9) hI) sv_X8_90 (isFn.k (FnL.F (hM.nx hN))) rfl hl.1 rfl (Nat.le_of_ble_eq_true rfl) ⟨Nat.le_of_ble_eq_true rfl, Nat.le_of_ble_eq_true rfl⟩ ⟨Nat.le_of_ble_eq_true rfl, Nat.le_of_ble_eq_true rfl⟩ dX8_waysThrough_32 (fun r49 kd45 ig46 rg47 lg48 H locs hw hH hp50 => ?_)
          obtain ⟨hI, hchp50, hrhp50⟩ := hp50
          have hN := hN.tr hchp50
          have hsh := hI.sh
          have hrs := hI.rs
          obtain ⟨z51, rfl, hz51⟩ := hrhp50
          obtain ⟨phz51, ohz51, khz51_0⟩ := hz51
          have hO := hO.tr ohz51
          have hz35 := phz51.1
          have hln9 := plS_len (hft _ (stp_mem (L := M) (x := v3.toInt) (by omega) (by omega)) rd9)
          refine lv_goto (tgt := 39) hx hb dX8_waysThrough_35 (by decide) ?_
          refine lv_istore (lv' := [(6, .int z51), (5, .int v3), (4, .int v4), (0, .ref (B + 37)), (1, .int x), (2, .int y), (3, .ref g)]) hx hb dX8_waysThrough_39 hl (by decide) rfl (fun ls hl => ?_)
          refine lv_iconst (v := 0) hx hb dX8_waysThrough_41 (by decide) (ti_c 0 (by decide) fun z52 hz52 => ?_)
          refine lv_istore (lv' := [(7, .int z52), (6, .int z51), (5, .int v3), (4, .int v4), (0, .ref (B + 37)), (1, .int x), (2, .int y), (3, .ref g)]) hx hb dX8_waysThrough_42 hl (by decide) rfl (fun ls hl => ?_)
          have L44 : ∀ (n : Nat) (ls : Array Slot) (H : Heap) (locs : List Loc) (kd55 : sK) (ig56 : sI) (rg57 : sR) (lg58 : sG) (v53 : Int32) (v54 : Int32), lv_has ls 8 [(7, .int v53), (6, .int z51), (5, .int v3), (4, .int v54), (0, .ref (B + 37)), (1, .int x), (2, .int y), (3, .ref g)] → WD B D cA s.heap kd55 ig56 rg57 lg58 H locs → IC τ B kd55 ig56 rg57 → Nx 958 B none kd ig rg lg kd55 ig56 rg57 lg58 → (0 ≤ v53.toInt) → (v53.toInt ≤ z51.toInt) → (SpL B 40 (rdI (stp M v3.toInt) y.toInt) ig56 z51.toInt) → ((0 ≤ v54.toInt ∧ v54.toInt ≤ 9) ∧ z51.toInt ≤ 288) → (v54.toInt = ((rdI (stp M v3.toInt) y.toInt).take v53.toInt.toNat).foldl (wyS 9 (ctb σ (fun p => (ig (B + 39) p).toInt) x.toInt.toNat)) (wyF 9 (ctb σ (fun p => (ig (B + 39) p).toInt) x.toInt.toNat) (rdL (M.take v3.toInt.toNat) y.toInt))) → (Fo B [40] ig lg ig56 lg58) → (Fo B [40] ig lg ig56 lg58) → z51.toInt - v53.toInt < (n : Int) → W p l e (rL 3 0 0) s m args below meth c H locs 0 0 (MQ below (QcW B D cA (PI 958 τ B none kd ig rg lg (fun r kd' ig' rg' lg' => ∃ z : Int32, r = some (.int z) ∧ ((z.toInt = wyF 9 (ctb σ (fun p => (ig (B + 39) p).toInt) x.toInt.toNat) (rdL M y.toInt) ∧ 0 ≤ z.toInt ∧ z.toInt ≤ 9) ∧ Fo B [40] ig lg ig' lg')))) args s 0 0 (fun q => B ≤ q)) (F0 m 44 ls []) := by
            intro n44
            induction n44 with
            | zero => intro ls H locs kd55 ig56 rg57 lg58 v53 v54 hl hw hI hN g44_0 g44_1 g44_2 g44_3 g44_4 g44_5 g44_6 hmu; exact absurd hmu (by omega)
            | succ n44 ih44 =>
              intro ls H locs kd55 ig56 rg57 lg58 v53 v54 hl hw hI hN g44_0 g44_1 g44_2 g44_3 g44_4 g44_5 g44_6 hmu
              have hsh := hI.sh
              have hrs := hI.rs
              have hO := g44_6
              have hO8 := g44_5
              refine lv_iload hx hb dX8_waysThrough_44 (lv_at hl 0 rfl) ?_
              refine lv_iload hx hb dX8_waysThrough_46 (lv_at hl 1 rfl) ?_
              refine b_ge (tgt := 87) hx hb dX8_waysThrough_48 (by decide) (fun c48 => ?_) (fun c48 => ?_)
              · refine tc_inc hx hb dX8_waysThrough_87 hl (k := 2) rfl (by decide) (by decide) (fun z59 hz59 ls hl => ?_)
                first | replace hz59 := hz59 (by omega) | clear hz59
                have hl : lv_has ls 8 [(5, .int z59), (7, .int v53), (6, .int z51), (4, .int v54), (0, .ref (B + 37)), (1, .int x), (2, .int y), (3, .ref g)] := hl
                refine lv_goto (tgt := 6) hx hb dX8_waysThrough_90 (by decide) ?_
                exact ih6 ls H locs kd55 ig56 rg57 lg58 z59 v54 (lv_sub hl [0, 3, 4, 5, 6, 7] rfl) hw hI hN (by omega) (by omega) (by omega) (by omega) ((by rw [show z59.toInt.toNat = v3.toInt.toNat + 1 by omega]; exact wy_next g44_4 (by have q9 := g44_2.1; omega) (by omega) (by omega))) (g44_5) (hO) (by omega)
              · refine lv_iload hx hb dX8_waysThrough_51 (lv_at hl 0 rfl) ?_
                refine lv_sipush (v := 288) hx hb dX8_waysThrough_53 (by decide) (ti_c 288 (by decide) fun z60 hz60 => ?_)
                refine b_ge (tgt := 87) hx hb dX8_waysThrough_56 (by decide) (fun c56 => ?_) (fun c56 => ?_)
                · exact absurd c56 (by omega)
                · refine lv_bipush (v := 9) hx hb dX8_waysThrough_59 (by decide) (ti_c 9 (by decide) fun z61 hz61 => ?_)
                  refine lv_iload hx hb dX8_waysThrough_61 (lv_at hl 3 rfl) ?_
                  refine lv_aload_n hx hb dX8_waysThrough_63 rfl (lv_at hl 4 rfl) ?_
                  refine lv_iload_n hx hb dX8_waysThrough_64 rfl (lv_at hl 5 rfl) ?_
                  refine lv_aload_n hx hb dX8_waysThrough_65 rfl (lv_at hl 4 rfl) ?_
                  refine r_get C hw (hsh 37 _ rfl) fl_X8_27 (oV_r rfl (hrs (37, 4, 40) (by decide))) dX8_waysThrough_66 ?_
                  refine lv_iload hx hb dX8_waysThrough_69 (lv_at hl 0 rfl) ?_
                  refine r_iald C hw (hsh 40 _ rfl) (by omega) (by omega) dX8_waysThrough_71 (ti_c (ig56 (B + 40) v53.toInt.toNat).toInt rfl fun z62 hz62 => ?_)
                  obtain ⟨hkl, hsk⟩ := g44_2.at (k := v53.toInt.toNat) (by omega)
                  have hkm := List.getElem_mem hkl
                  have hq9 := rdI_on hft (stp_mem (L := M) (x := v3.toInt) (by omega) (by omega)) hkm
                  have hb9 := hf9 _ (rdI_in (stp_mem (L := M) (x := v3.toInt) (by omega) (by omega)) hkm)
                  have hzq : z62.toInt = (rdI (stp M v3.toInt) y.toInt)[v53.toInt.toNat] := by rw [hz62]; exact hsk
                  refine r_callV (As := [.int x, .int z62]) (rest := [.int v54, .int z61]) C hw (t_X8_waysByE l B D cA kd55 ig56 rg57 lg58 _ x z62 σ (hX.ag (fun p => hO8.i 38 p)) (by omega) (by omega) hI) sv_X8_94 (hsh 37 _ rfl) rfl hl.1 rfl (Nat.le_of_ble_eq_true rfl) ⟨Nat.le_of_ble_eq_true rfl, Nat.le_of_ble_eq_true rfl⟩ ⟨Nat.le_of_ble_eq_true rfl, Nat.le_of_ble_eq_true rfl⟩ dX8_waysThrough_72 (fun r67 kd63 ig64 rg65 lg66 H locs hw hH hp68 => ?_)
                  obtain ⟨rfl, rfl, rfl, rfl, hzhp68, hrhp68⟩ := hp68
                  obtain ⟨z69, rfl, hz69⟩ := hrhp68
                  have hby : z69.toInt = ctb σ (fun p => (ig (B + 39) p).toInt) x.toInt.toNat z62.toInt := by rw [hz69, show (fun p => (ig56 (B + 39) p).toInt) = (fun p => (ig (B + 39) p).toInt) from funext fun p => by rw [hO8.i 39 p]]
                  rw [← hzq, ← hby] at hb9
                  refine lv_iadd hx hb dX8_waysThrough_75 (tc_add fun z70 hz70 => ?_)
                  first | replace hz70 := hz70 (by omega) | clear hz70
                  refine r_min C ss_X8_98 hl.1 (Nat.le_of_ble_eq_true rfl) (Nat.le_of_ble_eq_true rfl) (Nat.le_of_ble_eq_true rfl) (Nat.le_of_ble_eq_true rfl) dX8_waysThrough_76 (fun z71 hz71 => ?_)
                  refine lv_istore (lv' := [(4, .int z71), (7, .int v53), (6, .int z51), (5, .int v3), (0, .ref (B + 37)), (1, .int x), (2, .int y), (3, .ref g)]) hx hb dX8_waysThrough_79 hl (by decide) rfl (fun ls hl => ?_)
                  refine tc_inc hx hb dX8_waysThrough_81 hl (k := 1) rfl (by decide) (by decide) (fun z72 hz72 ls hl => ?_)
                  first | replace hz72 := hz72 (by omega) | clear hz72
                  have hl : lv_has ls 8 [(7, .int z72), (4, .int z71), (6, .int z51), (5, .int v3), (0, .ref (B + 37)), (1, .int x), (2, .int y), (3, .ref g)] := hl
                  refine lv_goto (tgt := 44) hx hb dX8_waysThrough_84 (by decide) ?_
                  exact ih44 ls H locs kd55 ig56 rg57 lg58 z72 z71 (lv_sub hl [0, 2, 3, 1, 4, 5, 6, 7] rfl) hw hI hN (by omega) (by omega) (g44_2) (by omega) ((by rw [show z72.toInt.toNat = v53.toInt.toNat + 1 by omega]; exact wyT (t := z70.toInt) g44_4 hkl (by rw [hz70, hby, hzq]) ⟨by omega, by omega, by omega⟩)) (g44_5) (hO) (by omega)
          exact L44 ((z51.toInt - z52.toInt) + 1).toNat ls H locs kd45 ig46 rg47 lg48 z52 v4 (lv_sub hl [0, 1, 2, 3, 4, 5, 6, 7] rfl) hw hI hN (by omega) (by omega) ((by rw [rdI_y rd9]; exact phz51)) (by omega) (by rw [show z52.toInt.toNat = 0 by omega, List.take_zero]; exact g6_4) (hO8.tr ohz51) (hO) (by omega)
  exact L6 (((M.length : Int) - z2.toInt) + 1).toNat ls s.heap [] kd ig rg lg z2 z1 (lv_sub hl [0, 1, 2, 3, 4, 5] rfl) hw hI hN (by omega) (by omega) (by omega) (by omega) (by rw [show z2.toInt.toNat = 0 by omega, List.take_zero]; show _ = (0 : Int); omega) (Fo.rf) (hO) (by omega)

set_option maxHeartbeats 4000000 in
set_option maxRecDepth 100000 in
theorem t_X8_waysIntoE {τ : Tp} (l : Launch) (B : Nat) (D : va_G) (cA : Nat → ClassId) (kd : sK) (ig : sI) (rg : sR) (lg : sG) (sz : Nat) (x : Int32) (y : Int32) (σ : Sg) (π : Ps) (ν : Nat) (hS : SCh B σ π ν kd ig rg) (hLs : LSt B σ ig lg) (hX : TtP B (isTot σ) 288 ig) (hW : WS σ π) (hx0 : 0 ≤ x.toInt ∧ x.toInt < 288) (hy0 : 0 ≤ y.toInt ∧ y.toInt < 288) (hyt : isTot σ y.toInt.toNat) (hI : IC τ B kd ig rg) : MC l B D cA yX8_waysInto cX8_waysInto 6 (some .int) (rL 4 0 0) [.ref (B + 37), .int x, .int y] kd ig rg lg sz (PI 958 τ B none kd ig rg lg (fun r kd' ig' rg' lg' => ∃ z : Int32, r = some (.int z) ∧ (((isTot σ x.toInt.toNat ∨ kdO (atC σ x.toInt) = 0 → z.toInt = 0) ∧ (¬ (isTot σ x.toInt.toNat ∨ kdO (atC σ x.toInt) = 0) → ∃ f, WC σ x.toInt.toNat f ∧ z.toInt = f y.toInt.toNat)) ∧ Fo B [39, 40] ig lg ig' lg'))) := by
  refine MC.of (own := RX8) (by decide +kernel) rfl (Nat.le_of_ble_eq_true rfl) ?_
  intro p e s m args below meth c ls C hr hlk hnm hw hsz hl
  have hx := C.1.1
  have hb := C.1.2.1
  have hown := C.1.2.2.2.1
  have hts := C.1.2.2.2.2
  have hl : lv_has ls 6 [(0, .ref (B + 37)), (1, .int x), (2, .int y)] := hl
  have hN : Nx 958 B none kd ig rg lg kd ig rg lg := Nx.rf
  have hsh := hI.sh
  have hrs := hI.rs
  have hO : Fo B [39, 40] ig lg ig lg := Fo.rf
  have hI0 := hI
  refine lv_aload_n hx hb dX8_waysInto_0 rfl (lv_at hl 0 rfl) ?_
  refine lv_iload_n hx hb dX8_waysInto_1 rfl (lv_at hl 1 rfl) ?_
  refine r_callV (As := [.int x]) (rest := []) C hw (t_X8_isTotalE l B D cA kd ig rg lg _ x (isTot σ) hX hI) sv_X8_66 (hsh 37 _ rfl) rfl hl.1 rfl (Nat.le_of_ble_eq_true rfl) ⟨Nat.le_of_ble_eq_true rfl, Nat.le_of_ble_eq_true rfl⟩ ⟨Nat.le_of_ble_eq_true rfl, Nat.le_of_ble_eq_true rfl⟩ dX8_waysInto_2 (fun r5 kd1 ig2 rg3 lg4 H locs hw hH hp6 => ?_)
  obtain ⟨rfl, rfl, rfl, rfl, hzhp6, hrhp6⟩ := hp6
  obtain ⟨z7, rfl, hz7⟩ := hrhp6
  have it9 := hz7
  refine z_ne (tgt := 26) hx hb dX8_waysInto_5 (by decide) (fun c5 => ?_) (fun c5 => ?_)
  · refine lv_iconst (v := 0) hx hb dX8_waysInto_26 (by decide) (ti_c 0 (by decide) fun z8 hz8 => ?_)
    exact r_iret C hw hr hlk rfl (Nat.le_of_ble_eq_true rfl) (Nat.le_of_ble_eq_true rfl) dX8_waysInto_27 ⟨hI, hN, ⟨_, rfl, ⟨⟨fun _ => by omega, fun q9 => absurd (by first | exact Or.inl (by1 it9 (by omega)).2 | exact Or.inr (by omega)) q9⟩, hO⟩⟩⟩
  · have nt9 : ¬ isTot σ x.toInt.toNat := fun q9 => by0 it9 (by omega) ⟨by omega, q9⟩
    refine lv_aload_n hx hb dX8_waysInto_8 rfl (lv_at hl 0 rfl) ?_
    refine r_get C hw (hsh 37 _ rfl) fl_X8_9 (oV_r rfl (hrs (37, 0, 9) (by decide))) dX8_waysInto_9 ?_
    refine lv_iload_n hx hb dX8_waysInto_12 rfl (lv_at hl 1 rfl) ?_
    refine r_callV (As := [.int x]) (rest := []) C hw (t_X6_kindAtE l B D cA kd ig rg lg _ x σ π ν (hS.nx hN) hI) sv_X8_69 (hsh 9 _ rfl) rfl hl.1 rfl (Nat.le_of_ble_eq_true rfl) ⟨Nat.le_of_ble_eq_true rfl, Nat.le_of_ble_eq_true rfl⟩ ⟨Nat.le_of_ble_eq_true rfl, Nat.le_of_ble_eq_true rfl⟩ dX8_waysInto_13 (fun r13 kd9 ig10 rg11 lg12 H locs hw hH hp14 => ?_)
    obtain ⟨rfl, rfl, rfl, rfl, hzhp14, hrhp14⟩ := hp14
    obtain ⟨z15, rfl, hz15⟩ := hrhp14
    have kd9 := hz15
    refine z_eq (tgt := 26) hx hb dX8_waysInto_16 (by decide) (fun c16 => ?_) (fun c16 => ?_)
    · refine lv_iconst (v := 0) hx hb dX8_waysInto_26 (by decide) (ti_c 0 (by decide) fun z16 hz16 => ?_)
      exact r_iret C hw hr hlk rfl (Nat.le_of_ble_eq_true rfl) (Nat.le_of_ble_eq_true rfl) dX8_waysInto_27 ⟨hI, hN, ⟨_, rfl, ⟨⟨fun _ => by omega, fun q9 => absurd (by first | exact Or.inl (by1 it9 (by omega)).2 | exact Or.inr (by omega)) q9⟩, hO⟩⟩⟩
    · refine lv_iload_n hx hb dX8_waysInto_19 rfl (lv_at hl 2 rfl) ?_
      refine r_callN (As := [.int y]) (rest := []) C hw (t_X11_onSheet l B D cA kd ig rg lg _ y  hI) sn_X8_63 rfl hl.1 rfl (Nat.le_of_ble_eq_true rfl) ⟨Nat.le_of_ble_eq_true rfl, Nat.le_of_ble_eq_true rfl⟩ ⟨Nat.le_of_ble_eq_true rfl, Nat.le_of_ble_eq_true rfl⟩ dX8_waysInto_20 (fun r21 kd17 ig18 rg19 lg20 H locs hw hH hp22 => ?_)
      obtain ⟨rfl, rfl, rfl, rfl, hzhp22, hrhp22⟩ := hp22
      obtain ⟨z23, rfl, hz23⟩ := hrhp22
      refine z_ne (tgt := 28) hx hb dX8_waysInto_23 (by decide) (fun c23 => ?_) (fun c23 => ?_)
      · refine lv_iconst (v := 0) hx hb dX8_waysInto_28 (by decide) (ti_c 0 (by decide) fun z24 hz24 => ?_)
        refine lv_istore_n (lv' := [(3, .int z24), (0, .ref (B + 37)), (1, .int x), (2, .int y)]) hx hb dX8_waysInto_29 rfl hl (by decide) rfl (fun ls hl => ?_)
        have L30 : ∀ (n : Nat) (ls : Array Slot) (H : Heap) (locs : List Loc) (kd26 : sK) (ig27 : sI) (rg28 : sR) (lg29 : sG) (v25 : Int32), lv_has ls 6 [(3, .int v25), (0, .ref (B + 37)), (1, .int x), (2, .int y)] → WD B D cA s.heap kd26 ig27 rg28 lg29 H locs → IC τ B kd26 ig27 rg28 → Nx 958 B none kd ig rg lg kd26 ig27 rg28 lg29 → (0 ≤ v25.toInt) → (v25.toInt ≤ (ig (B + 15) 9).toInt) → (WcI σ x.toInt.toNat (oD B ig) v25.toInt.toNat (fun p => (ig27 (B + 39) p).toInt)) → (Fo B [39, 40] ig lg ig27 lg29) → (Fo B [39, 40] ig lg ig27 lg29) → (ig (B + 15) 9).toInt - v25.toInt < (n : Int) → W p l e (rL 4 0 0) s m args below meth c H locs 0 0 (MQ below (QcW B D cA (PI 958 τ B none kd ig rg lg (fun r kd' ig' rg' lg' => ∃ z : Int32, r = some (.int z) ∧ (((isTot σ x.toInt.toNat ∨ kdO (atC σ x.toInt) = 0 → z.toInt = 0) ∧ (¬ (isTot σ x.toInt.toNat ∨ kdO (atC σ x.toInt) = 0) → ∃ f, WC σ x.toInt.toNat f ∧ z.toInt = f y.toInt.toNat)) ∧ Fo B [39, 40] ig lg ig' lg')))) args s 0 0 (fun q => B ≤ q)) (F0 m 30 ls []) := by
          intro n30
          induction n30 with
          | zero => intro ls H locs kd26 ig27 rg28 lg29 v25 hl hw hI hN g30_0 g30_1 g30_2 g30_3 g30_4 hmu; exact absurd hmu (by omega)
          | succ n30 ih30 =>
            intro ls H locs kd26 ig27 rg28 lg29 v25 hl hw hI hN g30_0 g30_1 g30_2 g30_3 g30_4 hmu
            have hsh := hI.sh
            have hrs := hI.rs
            have hO := g30_4
            have hO8 := g30_3
            have k915 : 0 ≤ (ig (B + 15) 9).toInt ∧ (ig (B + 15) 9).toInt ≤ 288 := hI0.i 15 9 (by decide)
            refine lv_iload_n hx hb dX8_waysInto_30 rfl (lv_at hl 0 rfl) ?_
            refine lv_aload_n hx hb dX8_waysInto_31 rfl (lv_at hl 1 rfl) ?_
            refine r_get C hw (hsh 37 _ rfl) fl_X8_15 (oV_r rfl (hrs (37, 1, 15) (by decide))) dX8_waysInto_32 ?_
            refine r_callV (As := []) (rest := [.int v25]) C hw (t_X5_orderSizeE l B D cA kd26 ig27 rg28 lg29 _   hI) sv_X8_73 (hsh 15 _ rfl) rfl hl.1 rfl (Nat.le_of_ble_eq_true rfl) ⟨Nat.le_of_ble_eq_true rfl, Nat.le_of_ble_eq_true rfl⟩ ⟨Nat.le_of_ble_eq_true rfl, Nat.le_of_ble_eq_true rfl⟩ dX8_waysInto_35 (fun r34 kd30 ig31 rg32 lg33 H locs hw hH hp35 => ?_)
            obtain ⟨rfl, rfl, rfl, rfl, hzhp35, hrhp35⟩ := hp35
            obtain ⟨z36, rfl, hz36⟩ := hrhp35
            have hos : z36.toInt = (ig (B + 15) 9).toInt := by rw [hz36, hO8.i 15 _]
            refine b_ge (tgt := 98) hx hb dX8_waysInto_38 (by decide) (fun c38 => ?_) (fun c38 => ?_)
            · refine lv_aload_n hx hb dX8_waysInto_98 rfl (lv_at hl 1 rfl) ?_
              refine r_get C hw (hsh 37 _ rfl) fl_X8_23 (oV_r rfl (hrs (37, 3, 39) (by decide))) dX8_waysInto_99 ?_
              refine lv_iload_n hx hb dX8_waysInto_102 rfl (lv_at hl 3 rfl) ?_
              refine r_iald C hw (hsh 39 _ rfl) (by omega) (by omega) dX8_waysInto_103 (ti_c (ig27 (B + 39) y.toInt.toNat).toInt rfl fun z37 hz37 => ?_)
              exact r_iret C hw hr hlk rfl (Nat.le_of_ble_eq_true rfl) (Nat.le_of_ble_eq_true rfl) dX8_waysInto_104 ⟨hI, hN, ⟨_, rfl, ⟨⟨fun q9 => (by rcases q9 with q9 | q9; exact absurd q9 nt9; omega), fun _ => ⟨(fun p => (ig27 (B + 39) p).toInt), WcI.fin (n := oN B ig) (by rw [← show v25.toInt.toNat = oN B ig by unfold oN; omega]; exact g30_2) hLs.2.2, hz37⟩⟩, hO⟩⟩⟩
            · refine lv_aload_n hx hb dX8_waysInto_41 rfl (lv_at hl 1 rfl) ?_
              refine r_get C hw (hsh 37 _ rfl) fl_X8_15 (oV_r rfl (hrs (37, 1, 15) (by decide))) dX8_waysInto_42 ?_
              refine lv_iload_n hx hb dX8_waysInto_45 rfl (lv_at hl 0 rfl) ?_
              refine r_callV (As := [.int v25]) (rest := []) C hw (t_X5_inOrderE l B D cA kd26 ig27 rg28 lg29 _ v25 (by omega) hI) sv_X8_77 (hsh 15 _ rfl) rfl hl.1 rfl (Nat.le_of_ble_eq_true rfl) ⟨Nat.le_of_ble_eq_true rfl, Nat.le_of_ble_eq_true rfl⟩ ⟨Nat.le_of_ble_eq_true rfl, Nat.le_of_ble_eq_true rfl⟩ dX8_waysInto_46 (fun r42 kd38 ig39 rg40 lg41 H locs hw hH hp43 => ?_)
              obtain ⟨rfl, rfl, rfl, rfl, hzhp43, hrhp43⟩ := hp43
              obtain ⟨z44, rfl, hz44⟩ := hrhp43
              have hzo : z44.toInt = (ig (B + 22) v25.toInt.toNat).toInt := by rw [hz44, hO8.i 22 _]
              have hfo9 := hLs.2.2.1 v25.toInt.toNat (by unfold oN; omega)
              have hov := oD_v hfo9.1
              have ho9 := hfo9.1
              have hod : oD B ig v25.toInt.toNat = z44.toInt.toNat := by omega
              have hon9 : 0 ≤ z44.toInt ∧ z44.toInt < 288 := by omega
              have hk2 : kdO (atC σ z44.toInt) = 2 := by rw [atC_on hon9, ← hod]; exact hfo9.2
              refine lv_istore (lv' := [(4, .int z44), (3, .int v25), (0, .ref (B + 37)), (1, .int x), (2, .int y)]) hx hb dX8_waysInto_49 hl (by decide) rfl (fun ls hl => ?_)
              refine lv_aload_n hx hb dX8_waysInto_51 rfl (lv_at hl 2 rfl) ?_
              refine r_get C hw (hsh 37 _ rfl) fl_X8_9 (oV_r rfl (hrs (37, 0, 9) (by decide))) dX8_waysInto_52 ?_
              refine lv_iload hx hb dX8_waysInto_55 (lv_at hl 0 rfl) ?_
              refine r_callV (As := [.int z44]) (rest := []) C hw (t_X6_formulaAtE l B D cA kd26 ig27 rg28 lg29 _ z44 σ π ν (hS.nx hN) hI) sv_X8_49 (hsh 9 _ rfl) rfl hl.1 rfl (Nat.le_of_ble_eq_true rfl) ⟨Nat.le_of_ble_eq_true rfl, Nat.le_of_ble_eq_true rfl⟩ ⟨Nat.le_of_ble_eq_true rfl, Nat.le_of_ble_eq_true rfl⟩ dX8_waysInto_57 (fun r49 kd45 ig46 rg47 lg48 H locs hw hH hp50 => ?_)
              obtain ⟨rfl, rfl, rfl, rfl, hzhp50, hrhp50⟩ := hp50
              rcases hrhp50 with ⟨rfl, nkf51⟩ | ⟨f51, rfl, nkf51, hLf51⟩
              · refine lv_astoreN (lv' := [(5, .null), (4, .int z44), (3, .int v25), (0, .ref (B + 37)), (1, .int x), (2, .int y)]) hx hb dX8_waysInto_60 hl (by decide) rfl (fun ls hl => ?_)
                refine lv_aload_n hx hb dX8_waysInto_62 rfl (lv_at hl 3 rfl) ?_
                refine lv_iload hx hb dX8_waysInto_63 (lv_at hl 1 rfl) ?_
                refine r_callV (As := [.int z44]) (rest := []) C hw (t_X8_isTotalE l B D cA kd26 ig27 rg28 lg29 _ z44 (isTot σ) (hX.ag (fun p => hO8.i 38 p)) hI) sv_X8_66 (hsh 37 _ rfl) rfl hl.1 rfl (Nat.le_of_ble_eq_true rfl) ⟨Nat.le_of_ble_eq_true rfl, Nat.le_of_ble_eq_true rfl⟩ ⟨Nat.le_of_ble_eq_true rfl, Nat.le_of_ble_eq_true rfl⟩ dX8_waysInto_65 (fun r56 kd52 ig53 rg54 lg55 H locs hw hH hp57 => ?_)
                obtain ⟨rfl, rfl, rfl, rfl, hzhp57, hrhp57⟩ := hp57
                obtain ⟨z58, rfl, hz58⟩ := hrhp57
                have it8 := hz58
                refine z_eq (tgt := 92) hx hb dX8_waysInto_68 (by decide) (fun c68 => ?_) (fun c68 => ?_)
                · refine tc_inc hx hb dX8_waysInto_92 hl (k := 2) rfl (by decide) (by decide) (fun z59 hz59 ls hl => ?_)
                  first | replace hz59 := hz59 (by omega) | clear hz59
                  have hl : lv_has ls 6 [(3, .int z59), (5, .null), (4, .int z44), (0, .ref (B + 37)), (1, .int x), (2, .int y)] := hl
                  refine lv_goto (tgt := 30) hx hb dX8_waysInto_95 (by decide) ?_
                  exact ih30 ls H locs kd26 ig27 rg28 lg29 z59 (lv_sub hl [0, 3, 4, 5] rfl) hw hI hN (by omega) (by omega) ((by rw [show z59.toInt.toNat = v25.toInt.toNat + 1 by omega]; exact (WcI.step g30_2 hLs.2.2 hW (by unfold oN; omega) (fun p _ => rfl) (fun q9 => absurd ⟨hon9, (by rw [hod] at q9; exact q9)⟩ (by0 it8 (by omega)))))) (hO8) (hO) (by omega)
                · refine lv_aloadN hx hb dX8_waysInto_71 (lv_at hl 0 rfl) ?_
                  refine lv_ifnullN (tgt := 92) hx hb dX8_waysInto_73 (by decide) ?_
                  refine tc_inc hx hb dX8_waysInto_92 hl (k := 2) rfl (by decide) (by decide) (fun z60 hz60 ls hl => ?_)
                  first | replace hz60 := hz60 (by omega) | clear hz60
                  have hl : lv_has ls 6 [(3, .int z60), (5, .null), (4, .int z44), (0, .ref (B + 37)), (1, .int x), (2, .int y)] := hl
                  refine lv_goto (tgt := 30) hx hb dX8_waysInto_95 (by decide) ?_
                  exact ih30 ls H locs kd26 ig27 rg28 lg29 z60 (lv_sub hl [0, 3, 4, 5] rfl) hw hI hN (by omega) (by omega) ((by rw [show z60.toInt.toNat = v25.toInt.toNat + 1 by omega]; exact (nkf51 hk2).elim)) (hO8) (hO) (by omega)
              · have lf51 := hLf51.le
                refine lv_astore (lv' := [(5, .ref f51), (4, .int z44), (3, .int v25), (0, .ref (B + 37)), (1, .int x), (2, .int y)]) hx hb dX8_waysInto_60 hl (by decide) rfl (fun ls hl => ?_)
                refine lv_aload_n hx hb dX8_waysInto_62 rfl (lv_at hl 3 rfl) ?_
                refine lv_iload hx hb dX8_waysInto_63 (lv_at hl 1 rfl) ?_
                refine r_callV (As := [.int z44]) (rest := []) C hw (t_X8_isTotalE l B D cA kd26 ig27 rg28 lg29 _ z44 (isTot σ) (hX.ag (fun p => hO8.i 38 p)) hI) sv_X8_66 (hsh 37 _ rfl) rfl hl.1 rfl (Nat.le_of_ble_eq_true rfl) ⟨Nat.le_of_ble_eq_true rfl, Nat.le_of_ble_eq_true rfl⟩ ⟨Nat.le_of_ble_eq_true rfl, Nat.le_of_ble_eq_true rfl⟩ dX8_waysInto_65 (fun r65 kd61 ig62 rg63 lg64 H locs hw hH hp66 => ?_)
                obtain ⟨rfl, rfl, rfl, rfl, hzhp66, hrhp66⟩ := hp66
                obtain ⟨z67, rfl, hz67⟩ := hrhp66
                have it8 := hz67
                refine z_eq (tgt := 92) hx hb dX8_waysInto_68 (by decide) (fun c68 => ?_) (fun c68 => ?_)
                · refine tc_inc hx hb dX8_waysInto_92 hl (k := 2) rfl (by decide) (by decide) (fun z68 hz68 ls hl => ?_)
                  first | replace hz68 := hz68 (by omega) | clear hz68
                  have hl : lv_has ls 6 [(3, .int z68), (5, .ref f51), (4, .int z44), (0, .ref (B + 37)), (1, .int x), (2, .int y)] := hl
                  refine lv_goto (tgt := 30) hx hb dX8_waysInto_95 (by decide) ?_
                  exact ih30 ls H locs kd26 ig27 rg28 lg29 z68 (lv_sub hl [0, 3, 4, 5] rfl) hw hI hN (by omega) (by omega) ((by rw [show z68.toInt.toNat = v25.toInt.toNat + 1 by omega]; exact (WcI.step g30_2 hLs.2.2 hW (by unfold oN; omega) (fun p _ => rfl) (fun q9 => absurd ⟨hon9, (by rw [hod] at q9; exact q9)⟩ (by0 it8 (by omega)))))) (hO8) (hO) (by omega)
                · refine lv_aload hx hb dX8_waysInto_71 (lv_at hl 0 rfl) ?_
                  refine lv_ifnull hx hb dX8_waysInto_73 ?_
                  refine lv_aload_n hx hb dX8_waysInto_76 rfl (lv_at hl 3 rfl) ?_
                  refine r_get C hw (hsh 37 _ rfl) fl_X8_23 (oV_r rfl (hrs (37, 3, 39) (by decide))) dX8_waysInto_77 ?_
                  refine lv_iload hx hb dX8_waysInto_80 (lv_at hl 1 rfl) ?_
                  refine lv_aload_n hx hb dX8_waysInto_82 rfl (lv_at hl 3 rfl) ?_
                  refine lv_iload_n hx hb dX8_waysInto_83 rfl (lv_at hl 4 rfl) ?_
                  refine lv_iload hx hb dX8_waysInto_84 (lv_at hl 1 rfl) ?_
                  refine lv_aload hx hb dX8_waysInto_86 (lv_at hl 0 rfl) ?_
                  refine r_callV (As := [.int x, .int z44, .ref f51]) (rest := [.int z44, .ref (B + 39)]) C hw (t_X8_waysThroughE l B D cA kd26 ig27 rg28 lg29 _ x z44 f51 (fmO (atC σ z44.toInt)) hLf51 σ (hX.ag (fun p => hO8.i 38 p)) (by omega) (by omega) (hW.wf hk2).1 (hW.wf hk2).2 (fun q9 hq9 => WcI.rd g30_2 hLs.2.2 hW (by unfold oN; omega) (show isTot σ (oD B ig v25.toInt.toNat) by rw [hod]; exact (by1 it8 (by omega)).2) (by rw [hod, show ((z44.toInt.toNat : Nat) : Int) = z44.toInt by omega, ← atC_on (σ := σ) (x := z44.toInt) hon9]; exact hq9)) hI) sv_X8_80 (hsh 37 _ rfl) rfl hl.1 rfl (Nat.le_of_ble_eq_true rfl) ⟨Nat.le_of_ble_eq_true rfl, Nat.le_of_ble_eq_true rfl⟩ ⟨Nat.le_of_ble_eq_true rfl, Nat.le_of_ble_eq_true rfl⟩ dX8_waysInto_88 (fun r73 kd69 ig70 rg71 lg72 H locs hw hH hp74 => ?_)
                  obtain ⟨hI, hchp74, hrhp74⟩ := hp74
                  have hN := hN.tr hchp74
                  have hsh := hI.sh
                  have hrs := hI.rs
                  obtain ⟨z75, rfl, hz75⟩ := hrhp74
                  obtain ⟨phz75, ohz75⟩ := hz75
                  have hO := hO.tr ohz75
                  have hLf51 := FnL.nx hLf51 hchp74
                  refine r_iast C hw (hsh 39 _ rfl) (by omega) (by omega) dX8_waysInto_91 (fun H locs hH hw => ?_)
                  have hO0 := hO
                  obtain ⟨ig76, eig76⟩ : ∃ f, f = up2 ig70 (B + 39) z44.toInt.toNat z75 := ⟨_, rfl⟩
                  rw [← eig76] at hw
                  have hN : Nx 958 B none kd ig rg lg kd69 ig76 rg71 lg72 := by rw [eig76]; exact hN.pi (by omega)
                  have hI : IC τ B kd69 ig76 rg71 := by rw [eig76]; exact hI.pi (show okR none _ from trivial)
                  have hO : Fo B [39, 40] ig lg ig76 lg72 := by rw [eig76]; exact hO0.pi (by decide)
                  clear hO0
                  have hLf51 : FnL B kd69 ig76 rg71 f51 (fmO (atC σ z44.toInt)) := by rw [eig76]; exact FnL.ag hLf51 (fun a j ha => up2_a (by omega)) (fun _ _ _ => rfl)
                  have wcn : WcI σ x.toInt.toNat (oD B ig) (v25.toInt.toNat + 1) (fun p => (ig76 (B + 39) p).toInt) := WcI.step g30_2 hLs.2.2 hW (by unfold oN; omega) (fun p hp => by rw [hod] at hp; show (ig76 (B + 39) p).toInt = (ig27 (B + 39) p).toInt; rw [eig76, up2_j hp, ohz75.i 39 p]) (fun _ => by rw [hod]; show (ig76 (B + 39) z44.toInt.toNat).toInt = _ ∧ 0 ≤ (ig76 (B + 39) z44.toInt.toNat).toInt ∧ (ig76 (B + 39) z44.toInt.toNat).toInt ≤ 9; rw [eig76, up2_eq, show ((z44.toInt.toNat : Nat) : Int) = z44.toInt by omega, ← atC_on (σ := σ) (x := z44.toInt) hon9]; exact phz75)
                  refine tc_inc hx hb dX8_waysInto_92 hl (k := 2) rfl (by decide) (by decide) (fun z77 hz77 ls hl => ?_)
                  first | replace hz77 := hz77 (by omega) | clear hz77
                  have hl : lv_has ls 6 [(3, .int z77), (5, .ref f51), (4, .int z44), (0, .ref (B + 37)), (1, .int x), (2, .int y)] := hl
                  refine lv_goto (tgt := 30) hx hb dX8_waysInto_95 (by decide) ?_
                  exact ih30 ls H locs kd69 ig76 rg71 lg72 z77 (lv_sub hl [0, 3, 4, 5] rfl) hw hI hN (by omega) (by omega) ((by rw [show z77.toInt.toNat = v25.toInt.toNat + 1 by omega]; exact wcn)) ((by rw [eig76]; exact (hO8.tr ohz75).pi (by decide))) (hO) (by omega)
        exact L30 (((ig (B + 15) 9).toInt - z24.toInt) + 1).toNat ls H locs kd ig rg lg z24 (lv_sub hl [0, 1, 2, 3] rfl) hw hI hN (by omega) ((by have q9 : 0 ≤ (ig (B + 15) 9).toInt ∧ (ig (B + 15) 9).toInt ≤ 288 := hI0.i 15 9 (by decide); omega)) (fun j hj => by omega) (Fo.rf) (hO) (by omega)
      · refine lv_iconst (v := 0) hx hb dX8_waysInto_26 (by decide) (ti_c 0 (by decide) fun z78 hz78 => ?_)
        exact r_iret C hw hr hlk rfl (Nat.le_of_ble_eq_true rfl) (Nat.le_of_ble_eq_true rfl) dX8_waysInto_27 ⟨hI, hN, ⟨_, rfl, ⟨⟨fun _ => by omega, fun q9 => absurd (by first | exact Or.inl (by1 it9 (by omega)).2 | exact Or.inr (by omega)) q9⟩, hO⟩⟩⟩
