/-! makesCopy(): the draft moves with its REFS -/
def MVi (B : Nat) (g f : sI) (dx dy : Int) (i : Nat) : Prop := ((g (B + 54) i).toInt = 3 → (((g (B + 57) i).toInt % 2 = 1 ∧ (f (B + 55) i).toInt = (g (B + 55) i).toInt) ∨ ((g (B + 57) i).toInt % 2 = 0 ∧ (f (B + 55) i).toInt = (g (B + 55) i).toInt + dx)) ∧ (((g (B + 57) i).toInt / 2 = 1 ∧ (f (B + 56) i).toInt = (g (B + 56) i).toInt) ∨ ((g (B + 57) i).toInt / 2 = 0 ∧ (f (B + 56) i).toInt = (g (B + 56) i).toInt + dy))) ∧ ((g (B + 54) i).toInt ≠ 3 → f (B + 55) i = g (B + 55) i ∧ f (B + 56) i = g (B + 56) i)
def MV (B : Nat) (g f : sI) (dx dy : Int) (k : Nat) : Prop := (∀ c j, 54 ≤ c → c ≤ 61 → c ≠ 55 → c ≠ 56 → f (B + c) j = g (B + c) j) ∧ (∀ c j, c = 55 ∨ c = 56 → ¬ (34560 ≤ j ∧ j < 34560 + k) → f (B + c) j = g (B + c) j) ∧ ∀ j, j < k → MVi B g f dx dy (34560 + j)
/-- REFS on the sheet; spans in order -/
def inI (B : Nat) (f : sI) (i : Nat) : Prop := (f (B + 54) i).toInt = 3 → (0 ≤ (f (B + 55) i).toInt ∧ (f (B + 55) i).toInt < 12) ∧ 0 ≤ (f (B + 56) i).toInt ∧ (f (B + 56) i).toInt < 24
def orI (B : Nat) (f : sI) (i : Nat) : Prop := (f (B + 54) i).toInt = 2 → (f (B + 55) (i + 2)).toInt ≤ (f (B + 55) (i + 4)).toInt ∧ (f (B + 56) (i + 2)).toInt ≤ (f (B + 56) (i + 4)).toInt
def GFl (B : Nat) (f : sI) (k : Nat) (v : Int32) : Prop := (v.toInt ≠ 0 → ∀ j, j < k → inI B f (34560 + j)) ∧ (v.toInt = 0 → ∃ j, j < k ∧ ¬ inI B f (34560 + j))
section MCOPY
variable {B k : Nat} {g f : sI} {dx dy : Int} {v w : Int32} {x y : Int} {L : Fm}
theorem MV.z : MV B g g dx dy 0 := ⟨fun _ _ _ _ _ _ => rfl, fun _ _ _ _ => rfl, fun j hj => by omega⟩
theorem MV.r (m : MV B g f dx dy k) {i : Nat} (hi : nEq i (34560 + k)) : f (B + 55) i = g (B + 55) i ∧ f (B + 56) i = g (B + 56) i := by
  have hi : i = _ := hi
  exact ⟨m.2.1 55 i (Or.inl rfl) (by omega), m.2.1 56 i (Or.inr rfl) (by omega)⟩
theorem MV.no (m : MV B g f dx dy k) {i k' : Nat} (hi : nEq i (34560 + k)) (hk : k' = k + 1) (h3 : (g (B + 54) i).toInt ≠ 3) : MV B g f dx dy k' := by
  have e := m.r hi
  have hi : i = _ := hi
  subst hk hi
  refine ⟨m.1, fun c j hc hj => m.2.1 c j hc (by omega), fun j hj => ?_⟩
  by_cases q : j = k
  · subst q; exact ⟨fun w => (h3 w).elim, fun _ => e⟩
  · exact m.2.2 j (by omega)
theorem MV.st (m : MV B g f dx dy k) {i k' : Nat} (hi : nEq i (34560 + k)) (hk : k' = k + 1) (h3 : (g (B + 54) i).toInt = 3) (ha : ((g (B + 57) i).toInt % 2 = 1 ∧ v.toInt = (g (B + 55) i).toInt) ∨ ((g (B + 57) i).toInt % 2 = 0 ∧ v.toInt = (g (B + 55) i).toInt + dx)) (hb : ((g (B + 57) i).toInt / 2 = 1 ∧ w.toInt = (g (B + 56) i).toInt) ∨ ((g (B + 57) i).toInt / 2 = 0 ∧ w.toInt = (g (B + 56) i).toInt + dy)) : MV B g (up2 (up2 f (B + 55) i v) (B + 56) i w) dx dy k' := by
  have hi : i = _ := hi
  subst hk hi
  refine ⟨fun c j a b c1 c2 => by rw [up2_c (by omega), up2_c (by omega)]; exact m.1 c j a b c1 c2, fun c j hc hj => by rw [up2_j (by omega), up2_j (by omega)]; exact m.2.1 c j hc (by omega), fun j hj => ?_⟩
  by_cases q : j = k
  · subst q
    refine ⟨fun _ => ?_, fun w => (w h3).elim⟩
    rw [up2_c (by decide), up2_eq, up2_eq]
    exact ⟨ha, hb⟩
  · have r := m.2.2 j (by omega)
    unfold MVi at *
    rw [up2_c (by decide), up2_j (by omega), up2_j (by omega), up2_c (by decide)]
    exact r
theorem inI.ag {f' : sI} {i : Nat} (e : ∀ c, c = 54 ∨ c = 55 ∨ c = 56 → f' (B + c) i = f (B + c) i) : inI B f' i ↔ inI B f i := by
  unfold inI
  rw [e 54 (Or.inl rfl), e 55 (Or.inr (Or.inl rfl)), e 56 (Or.inr (Or.inr rfl))]
theorem GFl.z {k : Nat} (hk : k = 0) (hv : v.toInt ≠ 0) : GFl B f k v := ⟨fun _ j hj => by omega, fun q => (hv q).elim⟩
theorem GFl.wr (h : GFl B f k v) {c i : Nat} {u : Int32} (hi : nEq i (34560 + k)) (hc : c = 55 ∨ c = 56) : GFl B (up2 f (B + c) i u) k v := by
  have hi : i = _ := hi
  have e : ∀ j, j < k → (inI B (up2 f (B + c) i u) (34560 + j) ↔ inI B f (34560 + j)) := fun j hj => inI.ag (fun c2 h2 => up2_j (by omega))
  exact ⟨fun q j hj => (e j hj).mpr (h.1 q j hj), fun q => (h.2 q).elim fun j hj => ⟨j, hj.1, fun w => hj.2 ((e j hj.1).mp w)⟩⟩
theorem GFl.st (h : GFl B f k v) {i k' : Nat} (hi : nEq i (34560 + k)) (hk : k' = k + 1) (hw : (w.toInt ≠ 0 ∧ v.toInt ≠ 0 ∧ inI B f i) ∨ (w.toInt = 0 ∧ (v.toInt = 0 ∨ ¬ inI B f i))) : GFl B f k' w := by
  have hi : i = _ := hi
  subst hk hi
  rcases hw with ⟨a, b, c⟩ | ⟨a, b⟩
  · refine ⟨fun _ j hj => ?_, fun q => (a q).elim⟩
    by_cases e : j = k
    · subst e; exact c
    · exact h.1 b j (by omega)
  · refine ⟨fun q => (q a).elim, fun _ => ?_⟩
    rcases b with b | b
    · obtain ⟨j, j1, j2⟩ := h.2 b
      exact ⟨j, by omega, j2⟩
    · exact ⟨k, by omega, b⟩
theorem pkW_mv {cf rf a b a' b' : Int} (hc : cf = 0 ∨ cf = 1) (hr : rf = 0 ∨ rf = 1) (ha : (cf = 1 ∧ a' = a) ∨ (cf = 0 ∧ a' = a + (y % 12 - x % 12))) (hb : (rf = 1 ∧ b' = b) ∨ (rf = 0 ∧ b' = b + (y / 12 - x / 12))) : pkW cf rf a' b' y = pkW cf rf a b x := by
  obtain ⟨p, q, e, h1, h2⟩ := pkW_eq (c := a) (r := b) (h := x) hc hr
  obtain ⟨p', q', e', h1', h2'⟩ := pkW_eq (c := a') (r := b') (h := y) hc hr
  rw [e, e']
  generalize y % 12 = yc at *
  generalize x % 12 = xc at *
  generalize y / 12 = yr at *
  generalize x / 12 = xr at *
  omega
/-- the moved row reads as it did -/
theorem MV.row (m : MV B g f (y % 12 - x % 12) (y / 12 - x / 12) k) (hk : (g (B + 58) 288).toInt ≤ (k : Int)) (ho : ∀ j : Nat, (j : Int) < (g (B + 58) 288).toInt → itO B g (120 * 288 + j)) : mR B f y 288 = mR B g x 288 := by
  funext j
  unfold mR
  rw [m.1 58 288 (by decide) (by decide) (by decide) (by decide)]
  by_cases e : (j : Int) < (g (B + 58) 288).toInt
  · rw [if_pos e, if_pos e]
    have o := ho j e
    have r := m.2.2 j (by omega)
    unfold itR itO MVi mK mA mB mF at *
    rw [m.1 54 _ (by decide) (by decide) (by decide) (by decide), m.1 57 _ (by decide) (by decide) (by decide) (by decide)]
    by_cases e3 : (g (B + 54) (120 * 288 + j)).toInt = 3
    · rw [if_pos e3, if_pos e3]
      have o1 := o.1 e3
      obtain ⟨r1, r2⟩ := r.1 e3
      rw [pkW_mv (by omega) (by omega) r1 r2]
    · rw [if_neg e3, if_neg e3]
      obtain ⟨r1, r2⟩ := r.2 e3
      rw [r1]
  · rw [if_neg e, if_neg e]
theorem MV.keepO (m : MV B g f dx dy k) {j : Nat} (hj : j < k) (o : itO B g (120 * 288 + j)) : itO B f (120 * 288 + j) := by
  have r := m.2.2 j hj
  have o : itO B g (34560 + j) := o
  show itO B f (34560 + j)
  unfold itO MVi mK mA mF at *
  rw [m.1 54 _ (by decide) (by decide) (by decide) (by decide), m.1 57 _ (by decide) (by decide) (by decide) (by decide)]
  refine ⟨o.1, o.2.1, fun e => ?_⟩
  rw [(r.2 (by omega)).1]
  exact o.2.2 e
/-- each of its REFS can be read off -/
def DECm (B : Nat) (f : sI) (y : Int) : Prop := ∀ j : Nat, (j : Int) < (f (B + 58) 288).toInt → (f (B + 54) (34560 + j)).toInt = 3 → ∃ w, mR B f y 288 j = (3, w) ∧ colv w y = (f (B + 55) (34560 + j)).toInt ∧ rowv w y = (f (B + 56) (34560 + j)).toInt
def GOKm (B : Nat) (f : sI) : Prop := ∀ j : Nat, (j : Int) < (f (B + 58) 288).toInt → (f (B + 54) (34560 + j)).toInt = 2 → ((j + 5 : Nat) : Int) < (f (B + 58) 288).toInt ∧ (f (B + 54) (34560 + (j + 2))).toInt = 3 ∧ (f (B + 54) (34560 + (j + 4))).toInt = 3
theorem MV.dec (m : MV B g f (y % 12 - x % 12) (y / 12 - x / 12) k) (hk : (g (B + 58) 288).toInt ≤ (k : Int)) (ho : ∀ j : Nat, (j : Int) < (g (B + 58) 288).toInt → itO B g (120 * 288 + j)) (hr : ∀ j : Nat, (j : Int) < (g (B + 58) 288).toInt → rOk B g (120 * 288 + j)) (hx : 0 ≤ x ∧ x < 288) (hy : 0 ≤ y ∧ y < 288) : DECm B f y := by
  intro j hj h3
  rw [m.1 58 288 (by decide) (by decide) (by decide) (by decide)] at hj
  rw [m.1 54 _ (by decide) (by decide) (by decide) (by decide)] at h3
  have o : itO B g (34560 + j) := ho j hj
  have r : rOk B g (34560 + j) := hr j hj
  have q := m.2.2 j (by omega)
  unfold itO rOk MVi mK mA mB mF at *
  have o1 := o.1 h3
  have r1 := r h3
  obtain ⟨q1, q2⟩ := q.1 h3
  refine ⟨pkW ((g (B + 57) (34560 + j)).toInt % 2) ((g (B + 57) (34560 + j)).toInt / 2) (f (B + 55) (34560 + j)).toInt (f (B + 56) (34560 + j)).toInt y, ?_, ?_⟩
  · unfold mR
    rw [m.1 58 288 (by decide) (by decide) (by decide) (by decide), if_pos hj]
    unfold itR mK mA mB mF
    rw [m.1 54 _ (by decide) (by decide) (by decide) (by decide), m.1 57 _ (by decide) (by decide) (by decide) (by decide), if_pos h3]
  · have b1 : 0 ≤ x % 12 ∧ x % 12 < 12 ∧ 0 ≤ x / 12 ∧ x / 12 < 24 := by omega
    exact pkW_dec (by omega) (by omega) (fun w => by omega) (fun w => by omega) (fun w => by omega) (fun w => by omega)
/-- it fits just when its REFS are on the sheet and its spans in order -/
theorem fit_of (rf : RowF B f 288 y L) (dc : DECm B f y) (gk : GOKm B f) : fitL y L ↔ (∀ j : Nat, (j : Int) < (f (B + 58) 288).toInt → inI B f (34560 + j)) ∧ ∀ j : Nat, (j : Int) < (f (B + 58) 288).toInt → orI B f (34560 + j) := by
  obtain ⟨⟨n, n1, n2, n3⟩, ho⟩ := rf
  have ok := iE.ok (g := inR y) (h := orR y) (fun w => ⟨Int.le_refl _, Int.le_refl _⟩) n3
  unfold fitL
  rw [ok]
  have key : ∀ (j : Nat) (c v : Int), j < n → mR B f y 288 j = (c, v) → (c = 3 ↔ (f (B + 54) (34560 + j)).toInt = 3) ∧ (c = 2 ↔ (f (B + 54) (34560 + j)).toInt = 2) := fun j c v hj e => by
    unfold mR at e
    rw [if_pos (by omega)] at e
    unfold itR mK at e
    by_cases e3 : (f (B + 54) (120 * 288 + j)).toInt = 3
    · rw [if_pos e3] at e
      have e1 := congrArg Prod.fst e
      simp only at e1
      have e3' : (f (B + 54) (34560 + j)).toInt = 3 := e3
      omega
    · rw [if_neg e3] at e
      have e3' : ¬ (f (B + 54) (34560 + j)).toInt = 3 := e3
      by_cases e2 : (f (B + 54) (120 * 288 + j)).toInt = 2
      · rw [if_pos e2] at e
        have e1 := congrArg Prod.fst e
        simp only at e1
        have e2' : (f (B + 54) (34560 + j)).toInt = 2 := e2
        omega
      · rw [if_neg e2] at e
        have e1 := congrArg Prod.fst e
        simp only at e1
        have e2' : ¬ (f (B + 54) (34560 + j)).toInt = 2 := e2
        have e1' : (f (B + 54) (34560 + j)).toInt = c := e1
        omega
  constructor
  · intro h
    refine ⟨fun j hj h3 => ?_, fun j hj h2 => ?_⟩
    · obtain ⟨w, w1, w2, w3⟩ := dc j hj h3
      have := (h j (Nat.zero_le _) (by omega)).1 w w1
      unfold inR at this
      omega
    · obtain ⟨g1, g2, g3⟩ := gk j hj h2
      obtain ⟨w, w1, w2, w3⟩ := dc (j + 2) (by omega) g2
      obtain ⟨u, u1, u2, u3⟩ := dc (j + 4) (by omega) g3
      have e2 : mR B f y 288 j = (2, 0) := by
        unfold mR
        rw [if_pos hj]
        unfold itR mK
        have h2' : (f (B + 54) (120 * 288 + j)).toInt = 2 := h2
        rw [if_neg (by omega), if_pos h2']
      have := (h j (Nat.zero_le _) (by omega)).2 e2 w u w1 u1
      unfold orR at this
      rw [w2, w3, u2, u3] at this
      exact this
  · rintro ⟨h1, h2⟩ j - hj
    refine ⟨fun w hw => ?_, fun e2 w u hw hu => ?_⟩
    · have h3 := ((key j 3 w hj hw).1.mp rfl)
      obtain ⟨w', w1, w2, w3⟩ := dc j (by omega) h3
      rw [hw] at w1
      cases w1
      have := h1 j (by omega) h3
      unfold inR
      omega
    · have k2 := ((key j 2 0 hj e2).2.mp rfl)
      obtain ⟨g1, g2, g3⟩ := gk j (by omega) k2
      obtain ⟨w', w1, w2, w3⟩ := dc (j + 2) (by omega) g2
      obtain ⟨u', u1, u2, u3⟩ := dc (j + 4) (by omega) g3
      rw [hw] at w1
      rw [hu] at u1
      cases w1
      cases u1
      have := h2 j (by omega) k2
      unfold orR
      rw [w2, w3, u2, u3]
      exact this
theorem MV.gok (m : MV B g f dx dy k) (h : GOKm B g) : GOKm B f := fun j hj h2 => by
  rw [m.1 58 288 (by decide) (by decide) (by decide) (by decide)] at hj ⊢
  rw [m.1 54 _ (by decide) (by decide) (by decide) (by decide)] at h2 ⊢
  rw [m.1 54 _ (by decide) (by decide) (by decide) (by decide)]
  exact h j hj h2
theorem WFr.gok (h : WFr B g 288) : GOKm B g ∧ ∀ j : Nat, (j : Int) < (g (B + 58) 288).toInt → rOk B g (120 * 288 + j) := by
  obtain ⟨n, e1, e2, e3, e4⟩ := h
  refine ⟨fun j hj h2 => ?_, fun j hj => e4 _ (by omega) (by omega)⟩
  have q := (e3.ok (120 * 288 + j) (by omega) (by omega)).1 h2
  exact ⟨by omega, q.2.1, q.2.2⟩
/-- the spans so far -/
def OFl (B : Nat) (f : sI) (k : Nat) (v : Int32) (P : Prop) : Prop := (v.toInt ≠ 0 → (∀ j : Nat, (j : Int) < (f (B + 58) 288).toInt → inI B f (34560 + j)) ∧ ∀ j : Nat, j < k → orI B f (34560 + j)) ∧ (v.toInt = 0 → ¬ P)
theorem OFl.of {P : Prop} (h : GFl B f k v) (hk : (f (B + 58) 288).toInt ≤ (k : Int)) (hk2 : (k : Int) ≤ (f (B + 58) 288).toInt) (hP : P → ∀ j : Nat, (j : Int) < (f (B + 58) 288).toInt → inI B f (34560 + j)) {q : Nat} (hq : q = 0) : OFl B f q v P := ⟨fun w => ⟨fun j hj => h.1 w j (by omega), fun j hj => by omega⟩, fun w p => (h.2 w).elim fun j hj => hj.2 (hP p j (by omega))⟩
theorem OFl.st {P : Prop} (h : OFl B f k v P) {k' : Nat} (hk : k' = k + 1) (hn : (k : Int) < (f (B + 58) 288).toInt) (hP : P → ∀ j : Nat, (j : Int) < (f (B + 58) 288).toInt → orI B f (34560 + j)) (hw : (w.toInt ≠ 0 ∧ v.toInt ≠ 0 ∧ orI B f (34560 + k)) ∨ (w.toInt = 0 ∧ (v.toInt = 0 ∨ ¬ orI B f (34560 + k)))) : OFl B f k' w P := by
  subst hk
  rcases hw with ⟨a, b, c⟩ | ⟨a, b⟩
  · refine ⟨fun _ => ⟨(h.1 b).1, fun j hj => ?_⟩, fun q => (a q).elim⟩
    by_cases e : j = k
    · subst e; exact c
    · exact (h.1 b).2 j (by omega)
  · refine ⟨fun q => (q a).elim, fun _ p => ?_⟩
    rcases b with b | b
    · exact h.2 b p
    · exact b (hP p k hn)
theorem OFl.ag {P : Prop} {f' : sI} (h : OFl B f k v P) (e8 : f' (B + 58) 288 = f (B + 58) 288) (e : ∀ c j, c = 54 ∨ c = 55 ∨ c = 56 → f' (B + c) j = f (B + c) j) : OFl B f' k v P := by
  unfold OFl inI orI at *
  rw [e8]
  simp only [e 54 _ (Or.inl rfl), e 55 _ (Or.inr (Or.inl rfl)), e 56 _ (Or.inr (Or.inr rfl))]
  exact h
def FTq (B : Nat) (f : sI) (y : Int) (c : Cl) : Prop := hid (fitC y c ↔ (∀ j : Nat, (j : Int) < (f (B + 58) 288).toInt → inI B f (34560 + j)) ∧ ∀ j : Nat, (j : Int) < (f (B + 58) 288).toInt → orI B f (34560 + j))
theorem FTq.p1 {c : Cl} (h : FTq B f y c) (q : fitC y c) : ∀ j : Nat, (j : Int) < (f (B + 58) 288).toInt → inI B f (34560 + j) := (Iff.mp h q).1
theorem FTq.p2 {c : Cl} (h : FTq B f y c) (q : fitC y c) : ∀ j : Nat, (j : Int) < (f (B + 58) 288).toInt → orI B f (34560 + j) := (Iff.mp h q).2
theorem kd_wu {c : Cl} : kdO (wuC c) = kdO c ∧ (kdO c = 2 → fmO (wuC c) = fmO c) := by
  unfold wuC
  split
  · rename_i h; exact ⟨h.symm, fun w => by omega⟩
  · exact ⟨rfl, fun _ => rfl⟩
theorem RowM.wu {h : Int} {c : Cl} {q : Nat} (r : RowM B g q h c) (e : ∀ c j, 54 ≤ c → c ≤ 60 → f (B + c) j = g (B + c) j) (u0 : RowU B f q (0, 0, 0)) (hz : kdO c ≠ 1 → c.2.1 = (0, 0, 0)) : RowM B f q h (wuC c) := by
  have e59 := e 59 q (by decide) (by decide)
  have e60 := e 60 q (by decide) (by decide)
  have e58 := e 58 q (by decide) (by decide)
  by_cases k1 : kdO c = 1
  · have ew : wuC c = ((1, c.1.2), (0, 0, 0), []) := if_pos k1
    rw [ew]
    exact ⟨⟨by rw [e59, r.1.1, k1]; rfl, by rw [e60]; exact r.1.2⟩, u0, fun w => absurd w (by show ¬ (1 : Int) = 2; decide), fun _ => by rw [e58]; exact r.2.2.2 (by omega)⟩
  · have ew : wuC c = c := if_neg k1
    rw [ew]
    refine ⟨⟨by rw [e59]; exact r.1.1, by rw [e60]; exact r.1.2⟩, by rw [hz k1]; exact u0, fun w => (r.2.2.1 w).tr e58 (fun c k a b _ => e c _ a (by omega)), fun w => by rw [e58]; exact r.2.2.2 w⟩
theorem MV.rowM {c : Cl} (m : MV B g f (y % 12 - x % 12) (y / 12 - x / 12) k) (r : RowM B g 288 x c) (hk : (g (B + 58) 288).toInt ≤ (k : Int)) : RowM B f 288 y c := by
  have e : ∀ c j, 54 ≤ c → c ≤ 61 → c ≠ 55 → c ≠ 56 → f (B + c) j = g (B + c) j := m.1
  have e58 := e 58 288 (by decide) (by decide) (by decide) (by decide)
  refine ⟨⟨by rw [e 59 _ (by decide) (by decide) (by decide) (by decide)]; exact r.1.1, by rw [e 60 _ (by decide) (by decide) (by decide) (by decide)]; exact r.1.2⟩, ?_, fun w => ?_, fun w => by rw [e58]; exact r.2.2.2 w⟩
  · unfold RowU
    rw [e 61 _ (by decide) (by decide) (by decide) (by decide), e 61 _ (by decide) (by decide) (by decide) (by decide), e 61 _ (by decide) (by decide) (by decide) (by decide)]
    exact r.2.1
  · obtain ⟨r1, r2⟩ := r.2.2.1 w
    unfold RowF
    rw [m.row hk r2, e58]
    exact ⟨r1, fun j hj => m.keepO (by omega) (r2 j hj)⟩
theorem FTq.of {c : Cl} (r : RowM B f 288 y (wuC c)) (hd : kdO c = 2 → DECm B f y ∧ GOKm B f) : FTq B f y c := by
  by_cases k2 : kdO c = 2
  · have rf := r.2.2.1 (by rw [kd_wu.1]; exact k2)
    rw [kd_wu.2 k2] at rf
    have q := fit_of rf (hd k2).1 (hd k2).2
    exact ⟨fun h => q.mp (h k2), fun h _ => q.mpr h⟩
  · have e := r.2.2.2 (by rw [kd_wu.1]; exact k2)
    exact ⟨fun _ => ⟨fun j hj => by omega, fun j hj => by omega⟩, fun _ w => (k2 w).elim⟩
theorem NDr.cr {q : Nat} {ig : sI} (h : CRx B q 288 ig f) : NDr B ig f := fun c j a b hd => by
  unfold drp at hd
  obtain ⟨⟨c1, c2, c3, c4, c5⟩, ⟨d1, d2⟩, d3, d4⟩ := h
  rcases (show (54 ≤ c ∧ c ≤ 57) ∨ c = 58 ∨ c = 59 ∨ c = 60 ∨ c = 61 by omega) with e | rfl | rfl | rfl | rfl
  · exact c5 c j e.1 e.2 (by omega)
  · exact c3 58 j (Or.inl rfl) (by omega)
  · exact c3 59 j (Or.inr rfl) (by omega)
  · exact d2 j (by omega)
  · exact d4 j (by omega)
end MCOPY
