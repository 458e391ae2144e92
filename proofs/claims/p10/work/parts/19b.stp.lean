/-! a formula's steps by their numbers; where its REFS point from a home -/
def stp (L : Fm) (x : Int) : St := if 0 ≤ x then L.getD x.toNat (-1, 0, 0) else (-1, 0, 0)
theorem stp_in {L : Fm} {x : Int} (h : 0 ≤ x) (h2 : x.toNat < L.length) : stp L x = L[x.toNat] := by
  unfold stp
  rw [if_pos h, List.getD_eq_getElem?_getD, List.getElem?_eq_getElem h2]
  rfl
theorem stp_out {L : Fm} {x : Int} (h : x < 0 ∨ (L.length : Int) ≤ x) : stp L x = (-1, 0, 0) := by
  unfold stp
  by_cases h0 : 0 ≤ x
  · rw [if_pos h0, List.getD_eq_getElem?_getD, List.getElem?_eq_none (by omega)]
    rfl
  · rw [if_neg h0]
theorem stp_mem {L : Fm} {x : Int} (h : 0 ≤ x) (h2 : x < (L.length : Int)) : stp L x ∈ L := by
  rw [stp_in h (by omega)]
  exact List.getElem_mem _
section STP
variable {B : Nat} {kd : sK} {ig : sI} {rg : sR} {f : Nat} {L : Fm}
theorem FnL.sD (h : FnL B kd ig rg f L) {a : Nat} {i : Int} (ha : rg f 0 = some a) (h0 : 0 ≤ i) (hi : i < (L.length : Int)) : (ig a i.toNat).toInt = (stp L i).1 := by rw [stp_in h0 (by omega)]; exact h.s ha (by omega)
theorem FnL.aD (h : FnL B kd ig rg f L) {a : Nat} {i : Int} (ha : rg f 1 = some a) (h0 : 0 ≤ i) (hi : i < (L.length : Int)) : (ig a i.toNat).toInt = (stp L i).2.1 := by rw [stp_in h0 (by omega)]; exact h.a ha (by omega)
theorem FnL.lD (h : FnL B kd ig rg f L) {a : Nat} {i : Int} (ha : rg f 2 = some a) (h0 : 0 ≤ i) (hi : i < (L.length : Int)) : (ig a i.toNat).toInt = (stp L i).2.2 := by rw [stp_in h0 (by omega)]; exact h.l ha (by omega)
theorem FnL.le (h : FnL B kd ig rg f L) : L.length ≤ 120 := h.1.2.1
end STP
/-- the columns and rows that a REF points to -/
def inR (x w : Int) : Prop := (0 ≤ colv w x ∧ colv w x < 12) ∧ 0 ≤ rowv w x ∧ rowv w x < 24
def orR (x w u : Int) : Prop := colv w x ≤ colv u x ∧ rowv w x ≤ rowv u x
def fitL (x : Int) (L : Fm) : Prop := okL (inR x) (orR x) L
def fitC (x : Int) (c : Cl) : Prop := kdO c = 2 → fitL x (fmO c)
def pkR (w : Int) : Prop := 0 ≤ w ∧ w < 16384
def WfL (L : Fm) : Prop := okL pkR (fun _ _ => True) L
def fitS (x : Int) (s : St) : Prop := inR x s.2.1 ∧ inR x s.2.2 ∧ orR x s.2.1 s.2.2
def rdS (s : St) : Prop := s.1 = 1 ∨ s.1 = 2
theorem fitL.all {x : Int} {L : Fm} (h : ∀ i : Int, 0 ≤ i → i < (L.length : Int) → rdS (stp L i) → fitS x (stp L i)) : fitL x L := fun s hs q => by
  obtain ⟨k, hk, rfl⟩ := List.getElem_of_mem hs
  have e := stp_in (L := L) (x := (k : Int)) (by omega) (by omega)
  simp only [Int.toNat_natCast] at e
  have := h k (by omega) (by omega)
  rw [e] at this
  exact this q
theorem fitL.no {x i : Int} {L : Fm} (h0 : 0 ≤ i) (h1 : i < (L.length : Int)) (hr : rdS (stp L i)) (hn : ¬ fitS x (stp L i)) : ¬ fitL x L := fun h => hn (h _ (stp_mem h0 h1) hr)
theorem WfL.at {L : Fm} {i : Int} (h : WfL L) (h0 : 0 ≤ i) (h1 : i < (L.length : Int)) (hr : rdS (stp L i)) : pkR (stp L i).2.1 ∧ pkR (stp L i).2.2 := by
  have := h _ (stp_mem h0 h1) hr
  exact ⟨this.1, this.2.1⟩
theorem ClQ.kq {B : Nat} {kd : sK} {ig : sI} {rg : sR} {q : Nat} {c : Cl} (h : ClQ B kd ig rg q c) : ∃ n, kd q = some (0, n) := h.1
/-- two formulas: the same step by step -/
theorem Fm.ext {L M : Fm} (hl : L.length = M.length) (h : ∀ i : Int, 0 ≤ i → i < (L.length : Int) → stp L i = stp M i) : L = M := by
  refine List.ext_getElem hl (fun i h1 h2 => ?_)
  have e := h i (by omega) (by omega)
  rw [stp_in (by omega) (by omega), stp_in (by omega) (by omega)] at e
  simpa using e
theorem St.ext {s t : St} (h1 : s.1 = t.1) (h2 : s.2.1 = t.2.1) (h3 : s.2.2 = t.2.2) : s = t := by
  obtain ⟨a, b, c⟩ := s
  obtain ⟨a', b', c'⟩ := t
  simp only at h1 h2 h3
  rw [h1, h2, h3]
/-! the sheet's steps -/
def upS (σ : Sg) (p : Nat) (c : Cl) : Sg := fun k => if k = p then c else σ k
theorem upS_eq {σ : Sg} {p : Nat} {c : Cl} : upS σ p c p = c := if_pos rfl
theorem upS_ne {σ : Sg} {p k : Nat} {c : Cl} (h : k ≠ p) : upS σ p c k = σ k := if_neg h
/-- a number without its unit -/
def wuC (c : Cl) : Cl := if kdO c = 1 then ((1, c.1.2), (0, 0, 0), []) else c
/-- what can be taken back, the oldest of 20 forgotten -/
def ptl (π : Ps) : Ps := if π.length = 20 then π.tail else π
def pput (π : Ps) (p : Nat) (c : Cl) : Ps := ptl π ++ [(p, c)]
theorem ptl_len {π : Ps} (h : π.length ≤ 20) : (ptl π).length ≤ 19 := by
  unfold ptl
  split
  · rw [List.length_tail]; omega
  · omega
def sfp (π : Ps) (k : Nat) : Ps := (List.range π.length).map (fun j => if j < k then π.getD (j + 1) (0, blk) else π.getD j (0, blk))
theorem sfp_len {π : Ps} {k : Nat} : (sfp π k).length = π.length := by
  unfold sfp
  rw [List.length_map, List.length_range]
theorem sfp_get {π : Ps} {k j : Nat} (h : j < (sfp π k).length) : (sfp π k)[j] = if j < k then π.getD (j + 1) (0, blk) else π.getD j (0, blk) := by
  simp only [sfp, List.getElem_map, List.getElem_range]
theorem getD_in {π : Ps} {j : Nat} (h : j < π.length) : π.getD j (0, blk) = π[j] := by
  rw [List.getD_eq_getElem?_getD, List.getElem?_eq_getElem h]
  rfl
theorem sfp_0 {π : Ps} : sfp π 0 = π := by
  refine List.ext_getElem sfp_len (fun j h1 h2 => ?_)
  rw [sfp_get h1, if_neg (by omega), getD_in h2]
theorem sfp_s {π : Ps} {k : Nat} : (sfp π k).set k (π.getD (k + 1) (0, blk)) = sfp π (k + 1) := by
  refine List.ext_getElem (by rw [List.length_set, sfp_len, sfp_len]) (fun j h1 h2 => ?_)
  rw [sfp_get h2]
  by_cases e : k = j
  · subst e
    rw [List.getElem_set_self, if_pos (by omega)]
  · rw [List.getElem_set_ne e, sfp_get (by rw [List.length_set] at h1; exact h1)]
    by_cases e2 : j < k
    · rw [if_pos e2, if_pos (by omega)]
    · rw [if_neg e2, if_neg (by omega)]
theorem sfp_e {π : Ps} {j : Nat} (h : j < π.tail.length) : π.tail[j] = π.getD (j + 1) (0, blk) := by
  rw [List.getElem_tail, getD_in (by rw [List.length_tail] at h; omega)]
section SCHS
variable {B : Nat} {b : Nat} {σ : Sg} {π : Ps} {ν : Nat} {kd kd' : sK} {ig ig' : sI} {rg rg' : sR} {lg lg' : sG} {f q : Nat} {L : Fm} {c : Cl}
theorem FnL.ag (h : FnL B kd ig rg f L) (e1 : ∀ a j, B + 80 ≤ a → ig' a j = ig a j) (e2 : ∀ a j, B + 80 ≤ a → rg' a j = rg a j) : FnL B kd ig' rg' f L := by
  refine ⟨⟨h.1.1, h.1.2.1, fun j hj => ?_⟩, h.2.1, fun j a ha i hi => ?_⟩
  · obtain ⟨a, g1, g2⟩ := h.1.2.2 j hj
    exact ⟨a, (e2 f j h.2.1).trans g1, g2⟩
  · rw [e2 f j h.2.1] at ha
    by_cases hj : j < 3
    · obtain ⟨a2, r2, k2, g2⟩ := h.1.2.2 j hj
      rw [ha] at r2
      cases r2
      rw [e1 a i g2]
      exact h.2.2 j a ha i hi
    · exact ⟨fun q => by omega, fun q => by omega, fun q => by omega⟩
theorem ClQ.ag (h : ClQ B kd ig rg q c) (e1 : ∀ a j, (a = B + 10 ∨ B + 80 ≤ a) → ig' a j = ig a j) (e2 : ∀ a j, (a = B + 10 ∨ B + 80 ≤ a) → rg' a j = rg a j) : ClQ B kd ig' rg' q c := by
  obtain ⟨h1, h2, h3, h4⟩ := h
  refine ⟨h1, h2, by rw [e1 q 0 h2, e1 q 1 h2, e1 q 3 h2, e1 q 4 h2, e1 q 5 h2]; exact h3, ?_⟩
  rw [e2 q 2 h2]
  exact h4.imp id (fun w => ⟨w.1, w.2.elim fun f g => ⟨f, g.1, g.2.ag (fun a j ha => e1 a j (Or.inr ha)) (fun a j ha => e2 a j (Or.inr ha))⟩⟩)
/-- a place's cell -/
theorem SCh.cell (h : SCh B σ π ν kd ig rg) {p : Nat} (hp : p < 288) (hq : ClQ B kd ig rg q c) : SCh B (upS σ p c) π ν kd ig (up2 rg (B + 11) p (some q)) := by
  obtain ⟨h1, h2, h3, h4, h5⟩ := h
  have e : ∀ a j, (a = B + 10 ∨ B + 80 ≤ a) → up2 rg (B + 11) p (some q) a j = rg a j := fun a j ha => up2_a (by omega)
  refine ⟨fun k hk => ?_, h2.ag (fun _ _ _ => rfl) e, h3, fun i hi => ?_, h5⟩
  · by_cases w : k = p
    · subst w
      exact ⟨q, up2_eq, by rw [upS_eq]; exact hq.ag (fun _ _ _ => rfl) e⟩
    · obtain ⟨q2, g1, g2⟩ := h1 k hk
      exact ⟨q2, by rw [up2_j w]; exact g1, by rw [upS_ne w]; exact g2.ag (fun _ _ _ => rfl) e⟩
  · obtain ⟨g1, g2, q2, g3, g4⟩ := h4 i hi
    exact ⟨g1, g2, q2, by rw [up2_a (by omega)]; exact g3, g4.ag (fun _ _ _ => rfl) e⟩
theorem SCh.ver (h : SCh B σ π ν kd ig rg) {v : Int32} {ν' : Nat} (hv : v.toInt = (ν' : Int)) : SCh B σ π ν' kd (up2 ig (B + 9) 6 v) rg := by
  obtain ⟨h1, h2, h3, h4, h5⟩ := h
  have e : ∀ a j, (a = B + 10 ∨ B + 80 ≤ a) → up2 ig (B + 9) 6 v a j = ig a j := fun a j ha => up2_a (by omega)
  refine ⟨fun k hk => ?_, h2.ag e (fun _ _ _ => rfl), by rw [up2_j (by decide)]; exact h3, fun i hi => ?_, by rw [up2_eq]; exact hv⟩
  · obtain ⟨q2, g1, g2⟩ := h1 k hk
    exact ⟨q2, g1, g2.ag e (fun _ _ _ => rfl)⟩
  · obtain ⟨g1, g2, q2, g3, g4⟩ := h4 i hi
    exact ⟨by rw [up2_a (by omega)]; exact g1, g2, q2, g3, g4.ag e (fun _ _ _ => rfl)⟩
/-- the number of what can be taken back: another list -/
theorem SCh.dep (h : SCh B σ π ν kd ig rg) {v : Int32} {π' : Ps} (hv : v.toInt = (π'.length : Int)) (hl : π'.length ≤ 20) (hp : ∀ i (hi : i < π'.length), (ig (B + 13) i).toInt = ((π'[i]).1 : Int) ∧ (π'[i]).1 < 288 ∧ ∃ q, rg (B + 14) i = some q ∧ ClQ B kd ig rg q (π'[i]).2) : SCh B σ π' ν kd (up2 ig (B + 9) 5 v) rg := by
  obtain ⟨h1, h2, h3, h4, h5⟩ := h
  have e : ∀ a j, (a = B + 10 ∨ B + 80 ≤ a) → up2 ig (B + 9) 5 v a j = ig a j := fun a j ha => up2_a (by omega)
  refine ⟨fun k hk => ?_, h2.ag e (fun _ _ _ => rfl), ⟨by rw [up2_eq]; exact hv, hl⟩, fun i hi => ?_, by rw [up2_j (by decide)]; exact h5⟩
  · obtain ⟨q2, g1, g2⟩ := h1 k hk
    exact ⟨q2, g1, g2.ag e (fun _ _ _ => rfl)⟩
  · obtain ⟨g1, g2, q2, g3, g4⟩ := hp i hi
    exact ⟨by rw [up2_a (by omega)]; exact g1, g2, q2, g3, g4.ag e (fun _ _ _ => rfl)⟩
theorem SCh.p13 (h : SCh B σ π ν kd ig rg) {v : Int32} {k p : Nat} (hp : p < 288) (hv : v.toInt = (p : Int)) : SCh B σ (π.set k (p, (π.getD k (0, blk)).2)) ν kd (up2 ig (B + 13) k v) rg := by
  obtain ⟨h1, h2, h3, h4, h5⟩ := h
  have e : ∀ a j, (a = B + 10 ∨ B + 80 ≤ a) → up2 ig (B + 13) k v a j = ig a j := fun a j ha => up2_a (by omega)
  refine ⟨fun k hk => ?_, h2.ag e (fun _ _ _ => rfl), by rw [up2_a (by omega), List.length_set]; exact h3, fun i hi => ?_, by rw [up2_a (by omega)]; exact h5⟩
  · obtain ⟨q2, g1, g2⟩ := h1 k hk
    exact ⟨q2, g1, g2.ag e (fun _ _ _ => rfl)⟩
  · have hi2 : i < π.length := by rw [List.length_set] at hi; exact hi
    obtain ⟨g1, g2, q2, g3, g4⟩ := h4 i hi2
    by_cases w : k = i
    · subst w
      rw [List.getElem_set_self, up2_eq, getD_in hi2]
      exact ⟨hv, hp, q2, g3, g4.ag e (fun _ _ _ => rfl)⟩
    · rw [List.getElem_set_ne w, up2_j (Ne.symm w)]
      exact ⟨g1, g2, q2, g3, g4.ag e (fun _ _ _ => rfl)⟩
theorem SCh.p14 (h : SCh B σ π ν kd ig rg) {k : Nat} (hq : ClQ B kd ig rg q c) : SCh B σ (π.set k ((π.getD k (0, blk)).1, c)) ν kd ig (up2 rg (B + 14) k (some q)) := by
  obtain ⟨h1, h2, h3, h4, h5⟩ := h
  have e : ∀ a j, (a = B + 10 ∨ B + 80 ≤ a) → up2 rg (B + 14) k (some q) a j = rg a j := fun a j ha => up2_a (by omega)
  refine ⟨fun k hk => ?_, h2.ag (fun _ _ _ => rfl) e, by rw [List.length_set]; exact h3, fun i hi => ?_, h5⟩
  · obtain ⟨q2, g1, g2⟩ := h1 k hk
    exact ⟨q2, by rw [up2_a (by omega)]; exact g1, g2.ag (fun _ _ _ => rfl) e⟩
  · have hi2 : i < π.length := by rw [List.length_set] at hi; exact hi
    obtain ⟨g1, g2, q2, g3, g4⟩ := h4 i hi2
    by_cases w : k = i
    · subst w
      rw [List.getElem_set_self, getD_in hi2]
      exact ⟨g1, g2, q, up2_eq, hq.ag (fun _ _ _ => rfl) e⟩
    · rw [List.getElem_set_ne w, up2_j (Ne.symm w)]
      exact ⟨g1, g2, q2, g3, g4.ag (fun _ _ _ => rfl) e⟩
theorem SCh.past (h : SCh B σ π ν kd ig rg) {i : Nat} (hi : i < π.length) : (ig (B + 13) i).toInt = ((π.getD i (0, blk)).1 : Int) ∧ (π.getD i (0, blk)).1 < 288 ∧ ∃ q, rg (B + 14) i = some q ∧ ClQ B kd ig rg q (π.getD i (0, blk)).2 := by
  rw [getD_in hi]
  exact h.2.2.2.1 i hi
theorem SCh.len (h : SCh B σ π ν kd ig rg) : (ig (B + 9) 5).toInt = (π.length : Int) ∧ π.length ≤ 20 := h.2.2.1
theorem SCh.v (h : SCh B σ π ν kd ig rg) : (ig (B + 9) 6).toInt = (ν : Int) := h.2.2.2.2
theorem SCh.eq {σ' : Sg} {π' : Ps} {ν' : Nat} (h : SCh B σ π ν kd ig rg) (e1 : σ' = σ) (e2 : π' = π) (e3 : ν' = ν) : SCh B σ' π' ν' kd ig rg := by subst e1 e2 e3; exact h
theorem set_out {k : Nat} {x : Nat × Cl} (h : π.length ≤ k) : π.set k x = π := List.set_eq_of_length_le h
/-- behind a constructor of another object -/
theorem FnL.nxe {a k n : Nat} (h : FnL B kd ig rg f L) (hN : Nx b B (some a) kd ig rg lg kd' ig' rg' lg') (ha : kd a = some (k, n)) (hk : k ≠ 20 ∧ k ≠ 4) : FnL B kd' ig' rg' f L := by
  have hfa : f ≠ a := by rintro rfl; rw [h.1.1] at ha; cases ha; exact hk.2 rfl
  refine ⟨hN.Fe h.1 hfa, h.2.1, fun j a2 ha2 i hi => ?_⟩
  have e : rg' f j = rg f j := hN.1.2.1 f j (by simpa using hfa) ⟨0, Or.inr h.1.1⟩
  rw [e] at ha2
  by_cases hj : j < 3
  · obtain ⟨a3, r2, k2, g2⟩ := h.1.2.2 j hj
    rw [ha2] at r2
    cases r2
    rw [hN.2.1 a2 i (Or.inr ⟨g2, by rw [k2]; simp, by rintro w; cases w; rw [ha] at k2; cases k2; exact hk.1 rfl⟩)]
    exact h.2.2 j a2 ha2 i hi
  · exact ⟨fun q => by omega, fun q => by omega, fun q => by omega⟩
end SCHS
