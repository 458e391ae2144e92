/-! A ROW OF THE REFERENCE as a cell: its items relative to its home -/
def mF (B : Nat) (ig : sI) : Nat → Int := fun k => (ig (B + 57) k).toInt
def itR (B : Nat) (ig : sI) (h : Int) (k : Nat) : Int × Int := if mK B ig k = 3 then (3, pkW (mF B ig k % 2) (mF B ig k / 2) (mA B ig k) (mB B ig k) h) else if mK B ig k = 2 then (2, 0) else (mK B ig k, mA B ig k)
def mR (B : Nat) (ig : sI) (h : Int) (q : Nat) : Rw := fun k => if (k : Int) < (ig (B + 58) q).toInt then itR B ig h (120 * q + k) else (4, 0)
def itO (B : Nat) (ig : sI) (k : Nat) : Prop := (mK B ig k = 3 → 0 ≤ mF B ig k ∧ mF B ig k ≤ 3) ∧ (mK B ig k ≠ 3 → mF B ig k = 0) ∧ (mK B ig k = 2 → mA B ig k = 0)
def RowF (B : Nat) (ig : sI) (q : Nat) (h : Int) (L : Fm) : Prop := (∃ n : Nat, (ig (B + 58) q).toInt = (n : Int) ∧ n ≤ 120 ∧ iE (mR B ig h q) 8 0 n L) ∧ ∀ k : Nat, (k : Int) < (ig (B + 58) q).toInt → itO B ig (120 * q + k)
def RowU (B : Nat) (ig : sI) (q : Nat) (u : Int × Int × Int) : Prop := (ig (B + 61) (3 * q)).toInt = u.1 ∧ (ig (B + 61) (3 * q + 1)).toInt = u.2.1 ∧ (ig (B + 61) (3 * q + 2)).toInt = u.2.2
def RowM (B : Nat) (ig : sI) (q : Nat) (h : Int) (c : Cl) : Prop := ((ig (B + 59) q).toInt = kdO c ∧ (ig (B + 60) q).toInt = c.1.2) ∧ RowU B ig q c.2.1 ∧ (kdO c = 2 → RowF B ig q h (fmO c)) ∧ (kdO c ≠ 2 → (ig (B + 58) q).toInt = 0)
def CRx (B x y : Nat) (ig ig' : sI) : Prop := CRw B x y ig ig' ∧ (ig' (B + 60) y = ig (B + 60) x ∧ ∀ j, j ≠ y → ig' (B + 60) j = ig (B + 60) j) ∧ (∀ u, u < 3 → ig' (B + 61) (3 * y + u) = ig (B + 61) (3 * x + u)) ∧ ∀ j, ¬ (3 * y ≤ j ∧ j < 3 * y + 3) → ig' (B + 61) j = ig (B + 61) j
section ROWM
variable {B q q' x y p : Nat} {ig ig' ig2 ig3 : sI} {lg lg' : sG} {h : Int} {c : Cl} {L : Fm} {σ : Sg} {π : Ps} {v w : Int32} {T : List Nat}
theorem itR.ag {k k' : Nat} (e : ∀ c, 54 ≤ c → c ≤ 57 → ig' (B + c) k' = ig (B + c) k) : itR B ig' h k' = itR B ig h k := by
  unfold itR mK mA mB mF
  rw [e 54 (by decide) (by decide), e 55 (by decide) (by decide), e 56 (by decide) (by decide), e 57 (by decide) (by decide)]
theorem itO.ag {k k' : Nat} (o : itO B ig k) (e : ∀ c, 54 ≤ c → c ≤ 57 → ig' (B + c) k' = ig (B + c) k) : itO B ig' k' := by
  unfold itO mK mA mF at *
  rw [e 54 (by decide) (by decide), e 55 (by decide) (by decide), e 57 (by decide) (by decide)]
  exact o
theorem mR.ag (e8 : ig' (B + 58) q' = ig (B + 58) q) (e5 : ∀ c k : Nat, 54 ≤ c → c ≤ 57 → (k : Int) < (ig (B + 58) q).toInt → ig' (B + c) (120 * q' + k) = ig (B + c) (120 * q + k)) : mR B ig' h q' = mR B ig h q := by
  funext k
  unfold mR
  rw [e8]
  by_cases e : (k : Int) < (ig (B + 58) q).toInt
  · rw [if_pos e, if_pos e]
    exact itR.ag (fun c a b => e5 c k a b e)
  · rw [if_neg e, if_neg e]
theorem RowF.tr (r : RowF B ig q h L) (e8 : ig' (B + 58) q' = ig (B + 58) q) (e5 : ∀ c k : Nat, 54 ≤ c → c ≤ 57 → (k : Int) < (ig (B + 58) q).toInt → ig' (B + c) (120 * q' + k) = ig (B + c) (120 * q + k)) : RowF B ig' q' h L := by
  unfold RowF
  rw [mR.ag e8 e5, e8]
  exact ⟨r.1, fun k hk => (r.2 k hk).ag (fun c a b => e5 c k a b hk)⟩
theorem RowM.tr (r : RowM B ig q h c) (e9 : ig' (B + 59) q' = ig (B + 59) q) (e0 : ig' (B + 60) q' = ig (B + 60) q) (e1 : ∀ u, u < 3 → ig' (B + 61) (3 * q' + u) = ig (B + 61) (3 * q + u)) (e8 : ig' (B + 58) q' = ig (B + 58) q) (e5 : ∀ c k : Nat, 54 ≤ c → c ≤ 57 → (k : Int) < (ig (B + 58) q).toInt → ig' (B + c) (120 * q' + k) = ig (B + c) (120 * q + k)) : RowM B ig' q' h c := by
  have u0 := e1 0 (by decide)
  have u1 := e1 1 (by decide)
  have u2 := e1 2 (by decide)
  simp only [Nat.add_zero] at u0
  refine ⟨by rw [e9, e0]; exact r.1, ?_, fun k2 => (r.2.2.1 k2).tr e8 e5, fun k2 => by rw [e8]; exact r.2.2.2 k2⟩
  unfold RowU
  rw [u0, u1, u2]
  exact r.2.1
theorem CRx.row (hc : CRx B x y ig ig') (r : RowM B ig x h c) : RowM B ig' y h c := r.tr hc.1.1 hc.2.1.1 hc.2.2.1 hc.1.2.1 (fun c k a b hk => hc.1.2.2.2.1 c k a b hk)
theorem CRx.oth (hc : CRx B x y ig ig') (r : RowM B ig p h c) (hp : p ≠ y) (h120 : (ig (B + 58) p).toInt ≤ 120) : RowM B ig' p h c := by
  obtain ⟨⟨c1, c2, c3, c4, c5⟩, ⟨d1, d2⟩, d3, d4⟩ := hc
  exact r.tr (c3 59 p (Or.inr rfl) hp) (d2 p hp) (fun u hu => d4 _ (by omega)) (c3 58 p (Or.inl rfl) hp) (fun c k a b hk => c5 c _ a b (by omega))
theorem RowM.wr {cc j : Nat} (r : RowM B ig p h c) (hc : cc < 54 ∨ 61 < cc) : RowM B (up2 ig (B + cc) j v) p h c := r.tr (up2_c (by omega)) (up2_c (by omega)) (fun u hu => up2_c (by omega)) (up2_c (by omega)) (fun c k a b hk => up2_c (by omega))
/-- the whole sheet of the reference, what it can take back -/
def SM (B : Nat) (σ : Sg) (π : Ps) (ig : sI) : Prop := (∀ p, p < 288 → RowM B ig p (p : Int) (σ p)) ∧ ((ig (B + 49) 19).toInt = (π.length : Int) ∧ π.length ≤ 20) ∧ ∀ i (h : i < π.length), (ig (B + 63) i).toInt = ((π[i]).1 : Int) ∧ (π[i]).1 < 288 ∧ RowM B ig (289 + i) ((π[i]).1 : Int) (π[i]).2
def FMm (B : Nat) (σ : Sg) (ig : sI) : Prop := ∀ p, p < 288 → FmR σ p (ig (B + 71) p).toInt
/-- at most 120 items a row -/
def I120 (B : Nat) (ig : sI) : Prop := ∀ p, p < 309 → (ig (B + 58) p).toInt ≤ 120
theorem SM.ag (s : SM B σ π ig) (e : ∀ c j, (54 ≤ c ∧ c ≤ 61) ∨ c = 63 → ig' (B + c) j = ig (B + c) j) (e19 : (ig' (B + 49) 19).toInt = (ig (B + 49) 19).toInt) : SM B σ π ig' := by
  have k : ∀ p h c, RowM B ig p h c → RowM B ig' p h c := fun p h c r => r.tr (e _ _ (by omega)) (e _ _ (by omega)) (fun u hu => e _ _ (by omega)) (e _ _ (by omega)) (fun c k a b hk => e _ _ (by omega))
  exact ⟨fun p hp => k _ _ _ (s.1 p hp), by rw [e19]; exact s.2.1, fun i hi => ⟨by rw [e 63 i (Or.inr rfl)]; exact (s.2.2 i hi).1, (s.2.2 i hi).2.1, k _ _ _ (s.2.2 i hi).2.2⟩⟩
theorem SM.ft (s : SM B σ π ig) (hF : Ft B T ig lg ig' lg') (hT : ∀ q ∈ T, ¬ (54 ≤ q ∧ q ≤ 61) ∧ q ≠ 63) (e19 : (ig' (B + 49) 19).toInt = (ig (B + 49) 19).toInt) : SM B σ π ig' := s.ag (fun c j hc => hF.i c j (fun q hq e => by have := hT q hq; omega)) e19
theorem FMm.ft (s : FMm B σ ig) (hF : Ft B T ig lg ig' lg') (hT : ∀ q ∈ T, 71 ≠ q) : FMm B σ ig' := fun p hp => by rw [hF.i 71 p hT]; exact s p hp
theorem SM.eq {σ' : Sg} {π' : Ps} (s : SM B σ π ig) (e1 : σ' = σ) (e2 : π' = π) : SM B σ' π' ig := by subst e1 e2; exact s
/-- the draft comes to a place -/
theorem SM.cell (s : SM B σ π ig) (hc : CRx B x p ig ig') (hp : p < 288) (r : RowM B ig x (p : Int) c) (hi : I120 B ig) (e63 : ∀ j, ig' (B + 63) j = ig (B + 63) j) (e19 : ig' (B + 49) 19 = ig (B + 49) 19) : SM B (upS σ p c) π ig' := by
  refine ⟨fun k hk => ?_, by rw [e19]; exact s.2.1, fun i hi2 => ⟨by rw [e63]; exact (s.2.2 i hi2).1, (s.2.2 i hi2).2.1, hc.oth (s.2.2 i hi2).2.2 (by omega) (hi _ (by have := s.2.1.2; omega))⟩⟩
  by_cases e : k = p
  · subst e; rw [upS_eq]; exact hc.row r
  · rw [upS_ne e]; exact hc.oth (s.1 k hk) e (hi k (by omega))
/-- one more that can be taken back -/
theorem SM.push (s : SM B σ π ig) (hl : π.length < 20) (hp : p < 288) (hc : CRx B p (289 + π.length) ig ig') (hi : I120 B ig) (e63 : ∀ j, ig' (B + 63) j = ig (B + 63) j) {n : Nat} (hn : n = π.length) (hv : v.toInt = (p : Int)) (hw : w.toInt = (π.length : Int) + 1) : SM B σ (π ++ [(p, σ p)]) (up2 (up2 ig' (B + 63) n v) (B + 49) 19 w) := by
  subst hn
  refine ⟨fun k hk => ((hc.oth (s.1 k hk) (by omega) (hi k (by omega))).wr (by omega)).wr (by omega), ⟨by rw [up2_eq, List.length_append, List.length_singleton]; omega, by rw [List.length_append, List.length_singleton]; omega⟩, fun i hi2 => ?_⟩
  rw [List.length_append, List.length_singleton] at hi2
  by_cases e : i < π.length
  · rw [List.getElem_append_left e]
    have k := s.2.2 i e
    exact ⟨by rw [up2_c (by decide), up2_j (by omega), e63]; exact k.1, k.2.1, ((hc.oth k.2.2 (by omega) (hi _ (by omega))).wr (by omega)).wr (by omega)⟩
  · obtain rfl : i = π.length := by omega
    rw [List.getElem_append_right (Nat.le_refl _)]
    simp only [Nat.sub_self, List.getElem_cons_zero]
    exact ⟨by rw [up2_c (by decide), up2_eq]; exact hv, hp, ((hc.row (s.1 p hp)).wr (by omega)).wr (by omega)⟩
/-- one of them moves down by one -/
theorem SM.down (s : SM B σ π ig) {k : Nat} (hk : 1 ≤ k ∧ k < π.length) (hc : CRx B (289 + k) (288 + k) ig ig') (hi : I120 B ig) (e63 : ∀ j, ig' (B + 63) j = ig (B + 63) j) (e19 : ig' (B + 49) 19 = ig (B + 49) 19) {n : Nat} (hn : n = k - 1) (hv : v = ig (B + 63) k) : SM B σ (π.set (k - 1) (π.getD k (0, blk))) (up2 ig' (B + 63) n v) := by
  subst hn
  refine ⟨fun q hq => (hc.oth (s.1 q hq) (by omega) (hi q (by omega))).wr (by omega), by rw [up2_c (by decide), e19, List.length_set]; exact s.2.1, fun i hi2 => ?_⟩
  rw [List.length_set] at hi2
  by_cases e : k - 1 = i
  · subst e
    rw [List.getElem_set_self, getD_in hk.2]
    have q := s.2.2 k hk.2
    exact ⟨by rw [up2_eq, hv]; exact q.1, q.2.1, (by have r := (hc.row q.2.2).wr (v := v) (cc := 63) (j := k - 1) (by omega); rw [show 289 + (k - 1) = 288 + k by omega]; exact r)⟩
  · rw [List.getElem_set_ne e]
    have q := s.2.2 i hi2
    exact ⟨by rw [up2_j (by omega), e63]; exact q.1, q.2.1, (hc.oth q.2.2 (by omega) (hi _ (by have := s.2.1.2; omega))).wr (by omega)⟩
theorem SM.dep {π' : Ps} (s : SM B σ π ig) (hw : w.toInt = (π'.length : Int)) (hl : π'.length ≤ π.length) (hp : ∀ i (h : i < π'.length), π'[i] = π[i]'(Nat.lt_of_lt_of_le h hl)) : SM B σ π' (up2 ig (B + 49) 19 w) := by
  refine ⟨fun q hq => (s.1 q hq).wr (by omega), ⟨by rw [up2_eq]; exact hw, Nat.le_trans hl s.2.1.2⟩, fun i hi => ?_⟩
  rw [hp i hi]
  have q := s.2.2 i (Nat.lt_of_lt_of_le hi hl)
  exact ⟨by rw [up2_c (by decide)]; exact q.1, q.2.1, q.2.2.wr (by omega)⟩
theorem SM.len (s : SM B σ π ig) : (ig (B + 49) 19).toInt = (π.length : Int) ∧ π.length ≤ 20 := s.2.1
theorem SM.kd (s : SM B σ π ig) (hp : p < 288) : (ig (B + 59) p).toInt = kdO (σ p) := (s.1 p hp).1.1
theorem SM.kdx (s : SM B σ π ig) {x : Int} (hx : 0 ≤ x ∧ x < 288) : (ig (B + 59) x.toNat).toInt = kdO (atC σ x) := by rw [atC_on hx]; exact s.kd (by omega)
theorem sfp_down {k : Nat} (hk : 1 ≤ k) : (sfp π (k - 1)).set (k - 1) (π.getD k (0, blk)) = sfp π k := by
  have e := sfp_s (π := π) (k := k - 1)
  rw [show k - 1 + 1 = k by omega] at e
  exact e
theorem sfp_at {k : Nat} (hk : 1 ≤ k ∧ k < π.length) : (sfp π (k - 1)).getD k (0, blk) = π.getD k (0, blk) := by
  rw [getD_in (by rw [sfp_len]; omega), sfp_get (by rw [sfp_len]; omega), if_neg (by omega)]
/-! copyRow(), on the way -/
def CN (B x y k : Nat) (ig f : sI) : Prop := (f (B + 60) y = ig (B + 60) x ∧ ∀ j, j ≠ y → f (B + 60) j = ig (B + 60) j) ∧ (∀ u, u < k → f (B + 61) (3 * y + u) = ig (B + 61) (3 * x + u)) ∧ ∀ j, ¬ (3 * y ≤ j ∧ j < 3 * y + 3) → f (B + 61) j = ig (B + 61) j
theorem CN.of {z1 z2 z3 : Int32} {k : Nat} (hk : k = 0) (h2 : z2 = ig (B + 60) x) : CN B x y k ig (up2 (up2 (up2 ig (B + 59) y z1) (B + 60) y z2) (B + 58) y z3) := by
  subst h2 hk
  refine ⟨⟨by rw [up2_c (by decide), up2_eq], fun j hj => by rw [up2_j hj, up2_j hj, up2_j hj]⟩, fun u hu => by omega, fun j hj => by rw [up2_c (by decide), up2_c (by decide), up2_c (by decide)]⟩
theorem CN.st {f : sI} {i j k k' : Nat} (n : CN B x y k ig f) (hxy : x ≠ y) (hk : nLt k 3) (hk' : k' = k + 1) (hi : nEq i (3 * y + k)) (hj : nEq j (3 * x + k)) (hv : v = f (B + 61) j) : CN B x y k' ig (up2 f (B + 61) i v) := by
  have hi : i = _ := hi
  have hj : j = _ := hj
  have hk : k < 3 := hk
  subst hi hj hk'
  obtain ⟨⟨n1, n2⟩, n3, n4⟩ := n
  refine ⟨⟨by rw [up2_c (by decide)]; exact n1, fun j hj => by rw [up2_c (by decide)]; exact n2 j hj⟩, fun u hu => ?_, fun j hj => ?_⟩
  · by_cases e : u = k
    · subst e
      rw [up2_eq, hv, n4 _ (by omega)]
    · rw [up2_j (by omega)]; exact n3 u (by omega)
  · rw [up2_j (by omega)]; exact n4 j hj
theorem CN.u {f : sI} {c i k : Nat} (n : CN B x y k ig f) (hc : 54 ≤ c ∧ c ≤ 57) : CN B x y k ig (up2 f (B + c) i v) := by
  obtain ⟨⟨n1, n2⟩, n3, n4⟩ := n
  exact ⟨⟨by rw [up2_c (by omega)]; exact n1, fun j hj => by rw [up2_c (by omega)]; exact n2 j hj⟩, fun u hu => by rw [up2_c (by omega)]; exact n3 u hu, fun j hj => by rw [up2_c (by omega)]; exact n4 j hj⟩
theorem CN.k {f : sI} {k k' : Nat} (n : CN B x y k ig f) (e : k' = k) : CN B x y k' ig f := e ▸ n
theorem CRx.toY {q : Int32} (h : CRx B x q.toInt.toNat ig ig') (hq : q.toInt = (y : Int)) : CRx B x y ig ig' := by
  rw [show q.toInt.toNat = y by omega] at h
  exact h
theorem CRx.toX {q : Int32} (h : CRx B q.toInt.toNat y ig ig') (hq : q.toInt = (x : Int)) : CRx B x y ig ig' := by
  rw [show q.toInt.toNat = x by omega] at h
  exact h
theorem ix_3 {y k m s : Int32} (hy : 0 ≤ y.toInt ∧ y.toInt < 309) (hk : 0 ≤ k.toInt) (hm : m.toInt = 3 * y.toInt) (hs : s.toInt = m.toInt + k.toInt) : nEq s.toInt.toNat (3 * y.toInt.toNat + k.toInt.toNat) := by
  show _ = _
  omega
/-- a place of the draft -/
def drp (c j : Nat) : Prop := (58 ≤ c ∧ c ≤ 60 ∧ j = 288) ∨ (c = 61 ∧ 864 ≤ j ∧ j < 867) ∨ (54 ≤ c ∧ c ≤ 57 ∧ 34560 ≤ j ∧ j < 34680)
/-- what does not lie in the draft -/
def NDr (B : Nat) (ig f : sI) : Prop := ∀ c j, 54 ≤ c → c ≤ 61 → ¬ drp c j → f (B + c) j = ig (B + c) j
theorem NDr.wr {f : sI} {c i : Nat} (h : NDr B ig f) (hd : drp c i) : NDr B ig (up2 f (B + c) i v) := fun c2 j a b hn => by
  rw [up2_n (by rintro ⟨e1, rfl⟩; exact hn (by rw [show c2 = c by omega]; exact hd))]
  exact h c2 j a b hn
theorem NDr.wo {f : sI} {c i : Nat} (h : NDr B ig f) (hd : c < 54 ∨ 61 < c) : NDr B ig (up2 f (B + c) i v) := fun c2 j a b hn => by
  rw [up2_c (by omega)]
  exact h c2 j a b hn
theorem NDr.rf : NDr B ig ig := fun _ _ _ _ _ => rfl
theorem NDr.tr {f : sI} (h1 : NDr B ig ig') (h2 : NDr B ig' f) : NDr B ig f := fun c j a b hn => (h2 c j a b hn).trans (h1 c j a b hn)
theorem NDr.ft (hF : Ft B T ig lg ig' lg') (hT : ∀ q ∈ T, ¬ (54 ≤ q ∧ q ≤ 61)) : NDr B ig ig' := fun c j a b _ => hF.i c j (fun q hq e => by have := hT q hq; omega)
end ROWM
theorem IM.i120 {τ : Tp} {φ υ : Option Int} {B : Nat} {kd : sK} {ig : sI} {rg : sR} (h : IM τ φ υ B kd ig rg) : I120 B ig := fun p hp => (h.its hp).2
