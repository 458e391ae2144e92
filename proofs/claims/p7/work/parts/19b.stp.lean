/-! a formula's steps by their numbers; where its REFS point from a home -/
def stp (L : Fm) (x : Int) : St := if 0 ≤ x then L.getD x.toNat (-1, 0, 0) else (-1, 0, 0)
theorem stp_in {L : Fm} {x : Int} (h : 0 ≤ x) (h2 : x.toNat < L.length) : stp L x = L[x.toNat] := by
  unfold stp
  rw [if_pos h, List.getD_eq_getElem?_getD, List.getElem?_eq_getElem h2]
  rfl
theorem stp_out {L : Fm} {x : Int} (h : x < 0 ∨ (L.length : Int) ≤ x) : stp L x = (-1, 0, 0) := by
  unfold stp
  by_cases h0 : 0 ≤ x
  · rw [if_pos h0, List.getD_eq_getElem?_getD, List.getElem?_eq_none (by omega)]
    rfl
  · rw [if_neg h0]
theorem stp_mem {L : Fm} {x : Int} (h : 0 ≤ x) (h2 : x < (L.length : Int)) : stp L x ∈ L := by
  rw [stp_in h (by omega)]
  exact List.getElem_mem _
section STP
variable {B : Nat} {kd : sK} {ig : sI} {rg : sR} {f : Nat} {L : Fm}
theorem FnL.sD (h : FnL B kd ig rg f L) {a : Nat} {i : Int} (ha : rg f 0 = some a) (h0 : 0 ≤ i) (hi : i < (L.length : Int)) : (ig a i.toNat).toInt = (stp L i).1 := by rw [stp_in h0 (by omega)]; exact h.s ha (by omega)
theorem FnL.aD (h : FnL B kd ig rg f L) {a : Nat} {i : Int} (ha : rg f 1 = some a) (h0 : 0 ≤ i) (hi : i < (L.length : Int)) : (ig a i.toNat).toInt = (stp L i).2.1 := by rw [stp_in h0 (by omega)]; exact h.a ha (by omega)
theorem FnL.lD (h : FnL B kd ig rg f L) {a : Nat} {i : Int} (ha : rg f 2 = some a) (h0 : 0 ≤ i) (hi : i < (L.length : Int)) : (ig a i.toNat).toInt = (stp L i).2.2 := by rw [stp_in h0 (by omega)]; exact h.l ha (by omega)
theorem FnL.le (h : FnL B kd ig rg f L) : L.length ≤ 120 := h.1.2.1
end STP
/-- the columns and rows that a REF points to -/
def inR (x w : Int) : Prop := (0 ≤ colv w x ∧ colv w x < 12) ∧ 0 ≤ rowv w x ∧ rowv w x < 24
def orR (x w u : Int) : Prop := colv w x ≤ colv u x ∧ rowv w x ≤ rowv u x
def fitL (x : Int) (L : Fm) : Prop := okL (inR x) (orR x) L
def fitC (x : Int) (c : Cl) : Prop := kdO c = 2 → fitL x (fmO c)
def pkR (w : Int) : Prop := 0 ≤ w ∧ w < 16384
def WfL (L : Fm) : Prop := okL pkR (fun _ _ => True) L
def fitS (x : Int) (s : St) : Prop := inR x s.2.1 ∧ inR x s.2.2 ∧ orR x s.2.1 s.2.2
def rdS (s : St) : Prop := s.1 = 1 ∨ s.1 = 2
theorem fitL.all {x : Int} {L : Fm} (h : ∀ i : Int, 0 ≤ i → i < (L.length : Int) → rdS (stp L i) → fitS x (stp L i)) : fitL x L := fun s hs q => by
  obtain ⟨k, hk, rfl⟩ := List.getElem_of_mem hs
  have e := stp_in (L := L) (x := (k : Int)) (by omega) (by omega)
  simp only [Int.toNat_natCast] at e
  have := h k (by omega) (by omega)
  rw [e] at this
  exact this q
theorem fitL.no {x i : Int} {L : Fm} (h0 : 0 ≤ i) (h1 : i < (L.length : Int)) (hr : rdS (stp L i)) (hn : ¬ fitS x (stp L i)) : ¬ fitL x L := fun h => hn (h _ (stp_mem h0 h1) hr)
theorem WfL.at {L : Fm} {i : Int} (h : WfL L) (h0 : 0 ≤ i) (h1 : i < (L.length : Int)) (hr : rdS (stp L i)) : pkR (stp L i).2.1 ∧ pkR (stp L i).2.2 := by
  have := h _ (stp_mem h0 h1) hr
  exact ⟨this.1, this.2.1⟩
theorem ClQ.kq {B : Nat} {kd : sK} {ig : sI} {rg : sR} {q : Nat} {c : Cl} (h : ClQ B kd ig rg q c) : ∃ n, kd q = some (0, n) := h.1
/-- two formulas: the same step by step -/
theorem Fm.ext {L M : Fm} (hl : L.length = M.length) (h : ∀ i : Int, 0 ≤ i → i < (L.length : Int) → stp L i = stp M i) : L = M := by
  refine List.ext_getElem hl (fun i h1 h2 => ?_)
  have e := h i (by omega) (by omega)
  rw [stp_in (by omega) (by omega), stp_in (by omega) (by omega)] at e
  simpa using e
theorem St.ext {s t : St} (h1 : s.1 = t.1) (h2 : s.2.1 = t.2.1) (h3 : s.2.2 = t.2.2) : s = t := by
  obtain ⟨a, b, c⟩ := s
  obtain ⟨a', b', c'⟩ := t
  simp only at h1 h2 h3
  rw [h1, h2, h3]
