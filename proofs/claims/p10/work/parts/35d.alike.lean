/-! two formulas of the reference are alike just when they are one -/
theorem and1 {z a b : Int32} (h : z = a &&& b) (hb : b.toInt = 1) (ha : 0 ≤ a.toInt ∧ a.toInt ≤ 3) : z.toInt = a.toInt % 2 := by
  have e : b = 1 := i32_inj hb
  have k : a = 0 ∨ a = 1 ∨ a = 2 ∨ a = 3 := by
    rcases (show a.toInt = 0 ∨ a.toInt = 1 ∨ a.toInt = 2 ∨ a.toInt = 3 by omega) with q | q | q | q
    · exact Or.inl (i32_inj q)
    · exact Or.inr (Or.inl (i32_inj q))
    · exact Or.inr (Or.inr (Or.inl (i32_inj q)))
    · exact Or.inr (Or.inr (Or.inr (i32_inj q)))
  subst h e
  rcases k with rfl | rfl | rfl | rfl <;> decide
theorem and2 {z a b : Int32} (h : z = a &&& b) (hb : b.toInt = 2) (ha : 0 ≤ a.toInt ∧ a.toInt ≤ 3) : z.toInt = 2 * (a.toInt / 2) := by
  have e : b = 2 := i32_inj hb
  have k : a = 0 ∨ a = 1 ∨ a = 2 ∨ a = 3 := by
    rcases (show a.toInt = 0 ∨ a.toInt = 1 ∨ a.toInt = 2 ∨ a.toInt = 3 by omega) with q | q | q | q
    · exact Or.inl (i32_inj q)
    · exact Or.inr (Or.inl (i32_inj q))
    · exact Or.inr (Or.inr (Or.inl (i32_inj q)))
    · exact Or.inr (Or.inr (Or.inr (i32_inj q)))
  subst h e
  rcases k with rfl | rfl | rfl | rfl <;> decide
theorem pkW_eq {cf rf c r h : Int} (hc : cf = 0 ∨ cf = 1) (hr : rf = 0 ∨ rf = 1) : ∃ a b : Int, pkW cf rf c r h = 128 * a + b ∧ ((cf = 1 ∧ a = 64 + c) ∨ (cf = 0 ∧ a = c - h % 12 + 32)) ∧ ((rf = 1 ∧ b = 64 + r) ∨ (rf = 0 ∧ b = r - h / 12 + 32)) := by
  rcases hc with rfl | rfl <;> rcases hr with rfl | rfl
  · exact ⟨c - h % 12 + 32, r - h / 12 + 32, by simp [pkW], Or.inr ⟨rfl, rfl⟩, Or.inr ⟨rfl, rfl⟩⟩
  · exact ⟨c - h % 12 + 32, 64 + r, by simp [pkW], Or.inr ⟨rfl, rfl⟩, Or.inl ⟨rfl, rfl⟩⟩
  · exact ⟨64 + c, r - h / 12 + 32, by simp [pkW]; omega, Or.inl ⟨rfl, rfl⟩, Or.inr ⟨rfl, rfl⟩⟩
  · exact ⟨64 + c, 64 + r, by simp [pkW]; omega, Or.inl ⟨rfl, rfl⟩, Or.inl ⟨rfl, rfl⟩⟩
/-- columns and rows, read off again: also beyond the sheet -/
theorem pkW_dec {cf rf c r h : Int} (hc : cf = 0 ∨ cf = 1) (hr : rf = 0 ∨ rf = 1) (h1 : cf = 1 → 0 ≤ c ∧ c < 12) (h0 : cf = 0 → -12 < c - h % 12 ∧ c - h % 12 < 12) (g1 : rf = 1 → 0 ≤ r ∧ r < 24) (g0 : rf = 0 → -24 < r - h / 12 ∧ r - h / 12 < 24) : colv (pkW cf rf c r h) h = c ∧ rowv (pkW cf rf c r h) h = r := by
  obtain ⟨a, b, e, ha, hb⟩ := pkW_eq (c := c) (r := r) (h := h) hc hr
  have hb0 : 0 ≤ b ∧ b < 128 := by omega
  have ha0 : 0 ≤ a ∧ a < 128 := by omega
  have d1 : (128 * a + b) / 128 = a := by omega
  have d2 : (128 * a + b) / 64 = 2 * a + b / 64 := by omega
  have d3 : (128 * a + b) % 64 = b % 64 := by omega
  rw [e]
  unfold colv rowv
  rw [d1, d2, d3]
  refine ⟨?_, ?_⟩
  · rcases ha with ⟨q, ha⟩ | ⟨q, ha⟩
    · have := h1 q
      rw [if_pos (by omega)]; omega
    · rw [if_neg (by have := h0 q; omega)]
      have := h0 q
      omega
  · rcases hb with ⟨q, hb⟩ | ⟨q, hb⟩
    · have := g1 q
      rw [if_pos (by omega)]; omega
    · have := g0 q
      rw [if_neg (by omega)]
      omega
theorem pkW_inj {cf rf c r p cf' rf' c' r' q : Int} (hc : cf = 0 ∨ cf = 1) (hr : rf = 0 ∨ rf = 1) (hc' : cf' = 0 ∨ cf' = 1) (hr' : rf' = 0 ∨ rf' = 1) (b1 : (0 ≤ c ∧ c < 12) ∧ 0 ≤ r ∧ r < 24) (b2 : (0 ≤ c' ∧ c' < 12) ∧ 0 ≤ r' ∧ r' < 24) (hp : 0 ≤ p ∧ p < 288) (hq : 0 ≤ q ∧ q < 288) :
    pkW cf rf c r p = pkW cf' rf' c' r' q ↔ (cf = cf' ∧ rf = rf') ∧ ((cf = 1 ∧ c - c' = 0) ∨ (cf = 0 ∧ c - c' = p % 12 - q % 12)) ∧ ((rf = 1 ∧ r - r' = 0) ∨ (rf = 0 ∧ r - r' = p / 12 - q / 12)) := by
  obtain ⟨a, b, e, ha, hb⟩ := pkW_eq (c := c) (r := r) (h := p) hc hr
  obtain ⟨a', b', e', ha', hb'⟩ := pkW_eq (c := c') (r := r') (h := q) hc' hr'
  have x1 : 0 ≤ p % 12 ∧ p % 12 < 12 ∧ 0 ≤ p / 12 ∧ p / 12 < 24 := by omega
  have x2 : 0 ≤ q % 12 ∧ q % 12 < 12 ∧ 0 ≤ q / 12 ∧ q / 12 < 24 := by omega
  generalize p % 12 = pc at *
  generalize p / 12 = pr at *
  generalize q % 12 = qc at *
  generalize q / 12 = qr at *
  have hb0 : 0 ≤ b ∧ b < 128 := by omega
  have hb0' : 0 ≤ b' ∧ b' < 128 := by omega
  rw [e, e']
  have k : 128 * a + b = 128 * a' + b' ↔ a = a' ∧ b = b' := by omega
  rw [k]
  clear k e e'
  omega
section ALIKE
variable {τ : Tp} {φ : Option Int} {B i j : Nat} {ig : sI} {p q : Int}
theorem itR_eq (oi : itO B ig i) (oj : itO B ig j) (ri : rOk B ig i) (rj : rOk B ig j) (hp : 0 ≤ p ∧ p < 288) (hq : 0 ≤ q ∧ q < 288) : itR B ig p i = itR B ig q j ↔ ((ig (B + 54) i).toInt = (ig (B + 54) j).toInt ∧ (ig (B + 57) i).toInt = (ig (B + 57) j).toInt) ∧
    ((ig (B + 54) i).toInt = 3 → (((ig (B + 57) i).toInt % 2 = 1 ∧ (ig (B + 55) i).toInt - (ig (B + 55) j).toInt = 0) ∨ ((ig (B + 57) i).toInt % 2 = 0 ∧ (ig (B + 55) i).toInt - (ig (B + 55) j).toInt = p % 12 - q % 12)) ∧ (((ig (B + 57) i).toInt / 2 = 1 ∧ (ig (B + 56) i).toInt - (ig (B + 56) j).toInt = 0) ∨ ((ig (B + 57) i).toInt / 2 = 0 ∧ (ig (B + 56) i).toInt - (ig (B + 56) j).toInt = p / 12 - q / 12))) ∧
    ((ig (B + 54) i).toInt ≠ 3 → (ig (B + 55) i).toInt = (ig (B + 55) j).toInt) := by
  unfold itR
  unfold itO at oi oj
  unfold rOk at ri rj
  unfold mK mA mB mF at *
  generalize (ig (B + 54) i).toInt = ki at *
  generalize (ig (B + 54) j).toInt = kj at *
  generalize (ig (B + 55) i).toInt = ai at *
  generalize (ig (B + 55) j).toInt = aj at *
  generalize (ig (B + 56) i).toInt = bi at *
  generalize (ig (B + 56) j).toInt = bj at *
  generalize (ig (B + 57) i).toInt = fi at *
  generalize (ig (B + 57) j).toInt = fj at *
  by_cases e3 : ki = 3
  · subst e3
    have fi0 := oi.1 rfl
    have ri0 := ri rfl
    rw [if_pos rfl]
    by_cases e4 : kj = 3
    · subst e4
      have fj0 := oj.1 rfl
      have rj0 := rj rfl
      rw [if_pos rfl]
      constructor
      · intro h
        have h2 : pkW (fi % 2) (fi / 2) ai bi p = pkW (fj % 2) (fj / 2) aj bj q := congrArg Prod.snd h
        obtain ⟨⟨k1, k2⟩, k3, k4⟩ := (pkW_inj (by omega) (by omega) (by omega) (by omega) ri0 rj0 hp hq).mp h2
        exact ⟨⟨rfl, by omega⟩, fun _ => ⟨k3, k4⟩, fun w => (w rfl).elim⟩
      · rintro ⟨⟨-, k1⟩, k2, -⟩
        obtain ⟨k3, k4⟩ := k2 rfl
        rw [(pkW_inj (cf := fi % 2) (rf := fi / 2) (c := ai) (r := bi) (p := p) (cf' := fj % 2) (rf' := fj / 2) (c' := aj) (r' := bj) (q := q) (by omega) (by omega) (by omega) (by omega) ri0 rj0 hp hq).mpr ⟨⟨by omega, by omega⟩, k3, k4⟩]
    · rw [if_neg e4]
      constructor
      · intro h
        by_cases e5 : kj = 2
        · rw [if_pos e5] at h
          exact absurd (congrArg Prod.fst h) (show ¬ (3 : Int) = 2 by decide)
        · rw [if_neg e5] at h
          exact absurd (congrArg Prod.fst h).symm e4
      · rintro ⟨⟨h, -⟩, -⟩
        exact absurd h.symm e4
  · rw [if_neg e3]
    have fi0 := oi.2.1 e3
    by_cases e4 : kj = 3
    · subst e4
      rw [if_pos rfl]
      constructor
      · intro h
        by_cases e5 : ki = 2
        · rw [if_pos e5] at h
          exact absurd (congrArg Prod.fst h) (show ¬ (2 : Int) = 3 by decide)
        · rw [if_neg e5] at h
          exact absurd (congrArg Prod.fst h) e3
      · rintro ⟨⟨h, -⟩, -⟩
        exact absurd h e3
    · have fj0 := oj.2.1 e4
      rw [if_neg e4]
      by_cases e5 : ki = 2
      · subst e5
        rw [if_pos rfl]
        have ai0 := oi.2.2 rfl
        by_cases e6 : kj = 2
        · subst e6
          have aj0 := oj.2.2 rfl
          rw [if_pos rfl]
          exact ⟨fun _ => ⟨⟨rfl, by omega⟩, fun w => absurd w (by decide), fun _ => by omega⟩, fun _ => rfl⟩
        · rw [if_neg e6]
          constructor
          · intro h
            exact absurd (congrArg Prod.fst h).symm e6
          · rintro ⟨⟨h, -⟩, -⟩
            exact absurd h.symm e6
      · rw [if_neg e5]
        by_cases e6 : kj = 2
        · subst e6
          rw [if_pos rfl]
          constructor
          · intro h
            exact absurd (congrArg Prod.fst h) e5
          · rintro ⟨⟨h, -⟩, -⟩
            exact absurd h e5
        · rw [if_neg e6]
          constructor
          · intro h
            exact ⟨⟨congrArg Prod.fst h, by omega⟩, fun w => absurd w e3, fun _ => congrArg Prod.snd h⟩
          · rintro ⟨⟨h1, -⟩, -, h2⟩
            rw [h1, h2 e3]
def hid (P : Prop) : Prop := P
theorem itR_eqx {x y : Int32} (oi : itO B ig i) (oj : itO B ig j) (ri : rOk B ig i) (rj : rOk B ig j) (hp : 0 ≤ x.toInt ∧ x.toInt < 288) (hq : 0 ≤ y.toInt ∧ y.toInt < 288) : hid (itR B ig (x.toInt.toNat : Int) i = itR B ig (y.toInt.toNat : Int) j ↔ ((ig (B + 54) i).toInt = (ig (B + 54) j).toInt ∧ (ig (B + 57) i).toInt = (ig (B + 57) j).toInt) ∧
    ((ig (B + 54) i).toInt = 3 → (((ig (B + 57) i).toInt % 2 = 1 ∧ (ig (B + 55) i).toInt - (ig (B + 55) j).toInt = 0) ∨ ((ig (B + 57) i).toInt % 2 = 0 ∧ (ig (B + 55) i).toInt - (ig (B + 55) j).toInt = x.toInt % 12 - y.toInt % 12)) ∧ (((ig (B + 57) i).toInt / 2 = 1 ∧ (ig (B + 56) i).toInt - (ig (B + 56) j).toInt = 0) ∨ ((ig (B + 57) i).toInt / 2 = 0 ∧ (ig (B + 56) i).toInt - (ig (B + 56) j).toInt = x.toInt / 12 - y.toInt / 12))) ∧
    ((ig (B + 54) i).toInt ≠ 3 → (ig (B + 55) i).toInt = (ig (B + 55) j).toInt)) := by
  have e1 : ((x.toInt.toNat : Nat) : Int) = x.toInt := by omega
  have e2 : ((y.toInt.toNat : Nat) : Int) = y.toInt := by omega
  have k := itR_eq (p := x.toInt) (q := y.toInt) oi oj ri rj hp hq
  show _ ↔ _
  rw [e1, e2]
  exact k
theorem hid.w {P Q R : Prop} (h : hid (P ↔ Q)) (e : P ↔ R) : hid (R ↔ Q) := e.symm.trans h
theorem mR_in {k n : Nat} {h : Int} {r : Nat} (hk : (k : Int) < (ig (B + 58) r).toInt) (hn : n = 120 * r + k) : mR B ig h r k = itR B ig h n := by
  subst hn
  unfold mR
  rw [if_pos hk]
def ALn (B : Nat) (ig : sI) (x y : Nat) : Prop := ∃ k : Nat, (k : Int) < (ig (B + 58) x).toInt ∧ mR B ig (x : Int) x k ≠ mR B ig (y : Int) y k
def ALy (B : Nat) (ig : sI) (x y : Nat) (n : Int) : Prop := ∀ j : Nat, (j : Int) < n → mR B ig (x : Int) x j = mR B ig (y : Int) y j
/-- alike item by item: one formula -/
theorem RowF.one {x y : Nat} {L M : Fm} (rx : RowF B ig x (x : Int) L) (ry : RowF B ig y (y : Int) M) (en : (ig (B + 58) x).toInt = (ig (B + 58) y).toInt) (h : ∀ k : Nat, (k : Int) < (ig (B + 58) x).toInt → mR B ig (x : Int) x k = mR B ig (y : Int) y k) : L = M := by
  obtain ⟨n, n1, n2, n3⟩ := rx.1
  obtain ⟨m, m1, m2, m3⟩ := ry.1
  obtain rfl : n = m := by omega
  have e : mR B ig (x : Int) x = mR B ig (y : Int) y := by
    funext k
    by_cases hk : (k : Int) < (ig (B + 58) x).toInt
    · exact h k hk
    · unfold mR
      rw [if_neg hk, if_neg (by omega)]
  rw [e] at n3
  exact (iE.det _ 8 _ _ _ _ _ n3 m3).2
theorem RowF.two {x y : Nat} {L M : Fm} (rx : RowF B ig x (x : Int) L) (ry : RowF B ig y (y : Int) M) (h : (ig (B + 58) x).toInt ≠ (ig (B + 58) y).toInt ∨ ∃ k : Nat, (k : Int) < (ig (B + 58) x).toInt ∧ mR B ig (x : Int) x k ≠ mR B ig (y : Int) y k) : L ≠ M := by
  rintro rfl
  obtain ⟨n, n1, n2, n3⟩ := rx.1
  obtain ⟨m, m1, m2, m3⟩ := ry.1
  obtain ⟨rfl, e⟩ := iE.same n3 m3
  rcases h with h | ⟨k, hk, h⟩
  · omega
  · exact h (e k (by omega))
theorem RowM.ft {T : List Nat} {ig' : sI} {lg lg' : sG} {r : Nat} {h : Int} {c : Cl} (m : RowM B ig r h c) (hF : Ft B T ig lg ig' lg') (hT : ∀ q ∈ T, ¬ (54 ≤ q ∧ q ≤ 61)) : RowM B ig' r h c := by
  have e : ∀ c j, 54 ≤ c → c ≤ 61 → ig' (B + c) j = ig (B + c) j := fun c j a b => hF.i c j (fun q hq e => by have := hT q hq; omega)
  exact m.tr (e _ _ (by decide) (by decide)) (e _ _ (by decide) (by decide)) (fun u hu => e _ _ (by decide) (by decide)) (e _ _ (by decide) (by decide)) (fun c k a b hk => e _ _ a (by omega))
/-- whose family, on the way -/
def FIn (σ : Sg) (p k : Nat) (f : Int) : Prop := (f = -1 ∧ ∀ r, r < k → kdO (σ r) = 2 → kdO (σ p) = 2 → fmO (σ r) ≠ fmO (σ p)) ∨ (0 ≤ f ∧ FmR σ p f)
variable {σ : Sg} {r k : Nat} {f g : Int}
theorem FIn.z (hf : f = -1) (hk : k = 0) : FIn σ r k f := Or.inl ⟨hf, fun s hs => by omega⟩
theorem FIn.no {k' : Nat} (h : FIn σ r k f) (hf : f < 0) (hk' : k' = k + 1) (hn : kdO (σ k) = 2 → kdO (σ r) = 2 → fmO (σ k) ≠ fmO (σ r)) : FIn σ r k' f := by
  subst hk'
  rcases h with ⟨h1, h2⟩ | ⟨h1, -⟩
  · refine Or.inl ⟨h1, fun s hs a b => ?_⟩
    by_cases e : s = k
    · subst e; exact hn a b
    · exact h2 s (by omega) a b
  · omega
theorem FIn.nr (h : FIn σ r k f) (hf : f < 0) (hg : FmR σ k g) (hne : g ≠ (k : Int)) : kdO (σ k) = 2 → kdO (σ r) = 2 → fmO (σ k) ≠ fmO (σ r) := fun a b e => by
  rcases h with ⟨-, h2⟩ | ⟨h1, -⟩
  · obtain ⟨q, a1, a2, a3, a4, a5⟩ := hg.2 a
    exact h2 q (by omega) a3 b (a4.trans e)
  · omega
theorem FIn.yes (h : FIn σ r k f) (hf : f < 0) (hr : kdO (σ r) = 2) (hk : kdO (σ k) = 2) (he : fmO (σ k) = fmO (σ r)) (hle : k ≤ r) (hg : g = (k : Int)) {k' : Nat} : FIn σ r k' g := by
  rcases h with ⟨-, h2⟩ | ⟨h1, -⟩
  · exact Or.inr ⟨by omega, fun w => (w hr).elim, fun _ => ⟨k, hle, hg, hk, he, fun s hs a => h2 s hs a hr⟩⟩
  · omega
theorem FIn.fin (h : FIn σ r k f) (hq : r < k ∨ 0 ≤ f ∨ kdO (σ r) ≠ 2) : FmR σ r f := by
  rcases h with ⟨h1, h2⟩ | ⟨-, h2⟩
  · refine ⟨fun _ => h1, fun w => ?_⟩
    rcases hq with hq | hq | hq
    · exact (h2 r hq w w rfl).elim
    · omega
    · exact (hq w).elim
  · exact h2
end ALIKE

set_option maxHeartbeats 4000000 in
set_option maxRecDepth 100000 in
theorem t_X12_isAlikeE {υ : Option Int} {τ : Tp} {φ : Option Int} (l : Launch) (B : Nat) (D : va_G) (cA : Nat → ClassId) (kd : sK) (ig : sI) (rg : sR) (lg : sG) (sz : Nat) (x : Int32) (y : Int32) (hx0 : 0 ≤ x.toInt ∧ x.toInt < 288) (hy0 : 0 ≤ y.toInt ∧ y.toInt < 288) (L N : Fm) (hx2 : RowF B ig x.toInt.toNat (x.toInt.toNat : Int) L) (hy2 : RowF B ig y.toInt.toNat (y.toInt.toNat : Int) N) (hkx : (ig (B + 59) x.toInt.toNat).toInt = 2) (hky : (ig (B + 59) y.toInt.toNat).toInt = 2) (hI : IM τ φ υ B kd ig rg) : MC l B D cA yX12_isAlike cX12_isAlike 9 (some .boolean) (rL 0 0 0) [.ref (B + 49), .int x, .int y] kd ig rg lg sz (Pu kd ig rg lg sz (fun r => ∃ z : Int32, r = some (.int z) ∧ ((z.toInt = 1 ∧ L = N) ∨ (z.toInt = 0 ∧ L ≠ N)))) := by
  refine MC.of (own := RX12) (by decide +kernel) rfl (Nat.le_of_ble_eq_true rfl) ?_
  intro p e s m args below meth c ls C hr hlk hnm hw hsz hl
  have hx := C.1.1
  have hb := C.1.2.1
  have hown := C.1.2.2.2.1
  have hts := C.1.2.2.2.2
  have hl : lv_has ls 9 [(0, .ref (B + 49)), (1, .int x), (2, .int y)] := hl
  have hsh := hI.sh
  have hrm := hI.rm
  have kkx := hI.its (j := x.toInt.toNat) (by omega)
  refine lv_aload_n hx hb dX12_isAlike_0 rfl (lv_at hl 0 rfl) ?_
  refine r_get C hw (hsh 49 _ rfl) fl_X12_77 (oV_r rfl (hrm (49, 13, 58) (by decide))) dX12_isAlike_1 ?_
  refine lv_iload_n hx hb dX12_isAlike_4 rfl (lv_at hl 1 rfl) ?_
  refine r_iald C hw (hsh 58 _ rfl) (by omega) (by omega) dX12_isAlike_5 (ti_c (ig (B + 58) x.toInt.toNat).toInt rfl fun z1 hz1 => ?_)
  have k2 := hI.its (j := (x.toInt.toNat)) (by omega)
  refine lv_aload_n hx hb dX12_isAlike_6 rfl (lv_at hl 0 rfl) ?_
  refine r_get C hw (hsh 49 _ rfl) fl_X12_77 (oV_r rfl (hrm (49, 13, 58) (by decide))) dX12_isAlike_7 ?_
  refine lv_iload_n hx hb dX12_isAlike_10 rfl (lv_at hl 2 rfl) ?_
  refine r_iald C hw (hsh 58 _ rfl) (by omega) (by omega) dX12_isAlike_11 (ti_c (ig (B + 58) y.toInt.toNat).toInt rfl fun z3 hz3 => ?_)
  have k4 := hI.its (j := (y.toInt.toNat)) (by omega)
  refine b_eq (tgt := 17) hx hb dX12_isAlike_12 (by decide) (fun c12 => ?_) (fun c12 => ?_)
  · have hnn : (ig (B + 58) x.toInt.toNat).toInt = (ig (B + 58) y.toInt.toNat).toInt := by omega
    refine lv_iconst (v := 1) hx hb dX12_isAlike_17 (by decide) (ti_c 1 (by decide) fun z5 hz5 => ?_)
    refine lv_istore_n (lv' := [(3, .int z5), (0, .ref (B + 49)), (1, .int x), (2, .int y)]) hx hb dX12_isAlike_18 rfl hl (by decide) rfl (fun ls hl => ?_)
    refine lv_iconst (v := 0) hx hb dX12_isAlike_19 (by decide) (ti_c 0 (by decide) fun z6 hz6 => ?_)
    refine lv_istore (lv' := [(4, .int z6), (3, .int z5), (0, .ref (B + 49)), (1, .int x), (2, .int y)]) hx hb dX12_isAlike_20 hl (by decide) rfl (fun ls hl => ?_)
    have L22 : ∀ (n : Nat) (ls : Array Slot) (H : Heap) (locs : List Loc) (v7 : Int32) (v8 : Int32), lv_has ls 9 [(4, .int v7), (3, .int v8), (0, .ref (B + 49)), (1, .int x), (2, .int y)] → WD B D cA s.heap kd ig rg lg H locs → H.size = sz → (0 ≤ v7.toInt) → (v7.toInt ≤ (ig (B + 58) x.toInt.toNat).toInt) → (v8.toInt = 0 ∨ v8.toInt = 1) → (v8.toInt = 1 → ALy B ig x.toInt.toNat y.toInt.toNat v7.toInt) → (v8.toInt = 0 → ALn B ig x.toInt.toNat y.toInt.toNat) → (ig (B + 58) x.toInt.toNat).toInt - v7.toInt < (n : Int) → W p l e (rL 0 0 0) s m args below meth c H locs 0 0 (MQ below (QcW B D cA (Pu kd ig rg lg sz (fun r => ∃ z : Int32, r = some (.int z) ∧ ((z.toInt = 1 ∧ L = N) ∨ (z.toInt = 0 ∧ L ≠ N))))) args s 0 0 (fun q => B ≤ q)) (F0 m 22 ls []) := by
      intro n22
      induction n22 with
      | zero => intro ls H locs v7 v8 hl hw hsz g22_0 g22_1 g22_2 g22_3 g22_4 hmu; exact absurd hmu (by omega)
      | succ n22 ih22 =>
        intro ls H locs v7 v8 hl hw hsz g22_0 g22_1 g22_2 g22_3 g22_4 hmu
        refine lv_iload hx hb dX12_isAlike_22 (lv_at hl 0 rfl) ?_
        refine lv_aload_n hx hb dX12_isAlike_24 rfl (lv_at hl 2 rfl) ?_
        refine r_get C hw (hsh 49 _ rfl) fl_X12_77 (oV_r rfl (hrm (49, 13, 58) (by decide))) dX12_isAlike_25 ?_
        refine lv_iload_n hx hb dX12_isAlike_28 rfl (lv_at hl 3 rfl) ?_
        refine r_iald C hw (hsh 58 _ rfl) (by omega) (by omega) dX12_isAlike_29 (ti_c (ig (B + 58) x.toInt.toNat).toInt rfl fun z9 hz9 => ?_)
        have k10 := hI.its (j := (x.toInt.toNat)) (by omega)
        refine b_ge (tgt := 248) hx hb dX12_isAlike_30 (by decide) (fun c30 => ?_) (fun c30 => ?_)
        · refine lv_iload_n hx hb dX12_isAlike_248 rfl (lv_at hl 1 rfl) ?_
          exact r_iret C hw hr hlk (nar_b (by omega)) (Nat.le_of_ble_eq_true rfl) (Nat.le_of_ble_eq_true rfl) dX12_isAlike_249 ⟨rfl, rfl, rfl, rfl, hsz, ⟨_, rfl, (by rcases g22_2 with w | w; exact Or.inr ⟨w, RowF.two hx2 hy2 (Or.inr (g22_4 w))⟩; exact Or.inl ⟨w, RowF.one hx2 hy2 hnn (fun j hj => g22_3 w j (by omega))⟩)⟩⟩
        · refine lv_iload_n hx hb dX12_isAlike_33 rfl (lv_at hl 1 rfl) ?_
          refine z_eq (tgt := 248) hx hb dX12_isAlike_34 (by decide) (fun c34 => ?_) (fun c34 => ?_)
          · refine lv_iload_n hx hb dX12_isAlike_248 rfl (lv_at hl 1 rfl) ?_
            exact r_iret C hw hr hlk (nar_b (by omega)) (Nat.le_of_ble_eq_true rfl) (Nat.le_of_ble_eq_true rfl) dX12_isAlike_249 ⟨rfl, rfl, rfl, rfl, hsz, ⟨_, rfl, (by rcases g22_2 with w | w; exact Or.inr ⟨w, RowF.two hx2 hy2 (Or.inr (g22_4 w))⟩; exact Or.inl ⟨w, RowF.one hx2 hy2 hnn (fun j hj => g22_3 w j (by omega))⟩)⟩⟩
          · refine lv_bipush (v := 120) hx hb dX12_isAlike_37 (by decide) (ti_c 120 (by decide) fun z11 hz11 => ?_)
            refine lv_iload_n hx hb dX12_isAlike_39 rfl (lv_at hl 3 rfl) ?_
            refine lv_imul hx hb dX12_isAlike_40 (tc_mulL 120 hz11 fun z12 hz12 => ?_)
            first | replace hz12 := hz12 (by omega) | clear hz12
            refine lv_iload hx hb dX12_isAlike_41 (lv_at hl 0 rfl) ?_
            refine lv_iadd hx hb dX12_isAlike_43 (tc_add fun z13 hz13 => ?_)
            first | replace hz13 := hz13 (by omega) | clear hz13
            refine lv_istore (lv' := [(5, .int z13), (4, .int v7), (3, .int v8), (0, .ref (B + 49)), (1, .int x), (2, .int y)]) hx hb dX12_isAlike_44 hl (by decide) rfl (fun ls hl => ?_)
            refine lv_bipush (v := 120) hx hb dX12_isAlike_46 (by decide) (ti_c 120 (by decide) fun z14 hz14 => ?_)
            refine lv_iload_n hx hb dX12_isAlike_48 rfl (lv_at hl 5 rfl) ?_
            refine lv_imul hx hb dX12_isAlike_49 (tc_mulL 120 hz14 fun z15 hz15 => ?_)
            first | replace hz15 := hz15 (by omega) | clear hz15
            refine lv_iload hx hb dX12_isAlike_50 (lv_at hl 1 rfl) ?_
            refine lv_iadd hx hb dX12_isAlike_52 (tc_add fun z16 hz16 => ?_)
            first | replace hz16 := hz16 (by omega) | clear hz16
            refine lv_istore (lv' := [(6, .int z16), (5, .int z13), (4, .int v7), (3, .int v8), (0, .ref (B + 49)), (1, .int x), (2, .int y)]) hx hb dX12_isAlike_53 hl (by decide) rfl (fun ls hl => ?_)
            have ni : z13.toInt.toNat = 120 * x.toInt.toNat + v7.toInt.toNat := by omega
            have nj : z16.toInt.toNat = 120 * y.toInt.toNat + v7.toInt.toNat := by omega
            have oi := hx2.2 v7.toInt.toNat (by omega)
            have oj := hy2.2 v7.toInt.toNat (by omega)
            have ri := (hI.at (p := x.toInt.toNat) (k := v7.toInt.toNat) (by omega) (by omega) hkx (by omega)).2
            have rj := (hI.at (p := y.toInt.toNat) (k := v7.toInt.toNat) (by omega) (by omega) hky (by omega)).2
            rw [← ni] at oi ri
            rw [← nj] at oj rj
            have ieq := itR_eqx (x := x) (y := y) oi oj ri rj (by omega) (by omega)
            have ex := mR_in (B := B) (ig := ig) (h := (x.toInt.toNat : Int)) (r := x.toInt.toNat) (k := v7.toInt.toNat) (by omega) ni
            have ey := mR_in (B := B) (ig := ig) (h := (y.toInt.toNat : Int)) (r := y.toInt.toNat) (k := v7.toInt.toNat) (by omega) nj
            have o3 := oi.1
            unfold mK mF at o3
            replace ieq := hid.w ieq (by rw [← ex, ← ey])
            clear ex ey
            clear oi oj ni nj
            refine lv_aload_n hx hb dX12_isAlike_55 rfl (lv_at hl 4 rfl) ?_
            refine r_get C hw (hsh 49 _ rfl) fl_X12_65 (oV_r rfl (hrm (49, 9, 54) (by decide))) dX12_isAlike_56 ?_
            refine lv_iload hx hb dX12_isAlike_59 (lv_at hl 1 rfl) ?_
            refine r_iald C hw (hsh 54 _ rfl) (by omega) (by omega) dX12_isAlike_61 (ti_c (ig (B + 54) z13.toInt.toNat).toInt rfl fun z17 hz17 => ?_)
            refine lv_aload_n hx hb dX12_isAlike_62 rfl (lv_at hl 4 rfl) ?_
            refine r_get C hw (hsh 49 _ rfl) fl_X12_65 (oV_r rfl (hrm (49, 9, 54) (by decide))) dX12_isAlike_63 ?_
            refine lv_iload hx hb dX12_isAlike_66 (lv_at hl 0 rfl) ?_
            refine r_iald C hw (hsh 54 _ rfl) (by omega) (by omega) dX12_isAlike_68 (ti_c (ig (B + 54) z16.toInt.toNat).toInt rfl fun z19 hz19 => ?_)
            have J94 : ∀ (ls : Array Slot) (H : Heap) (locs : List Loc) (u21 : Int32), lv_has ls 9 [(6, .int z16), (5, .int z13), (4, .int v7), (0, .ref (B + 49)), (1, .int x), (2, .int y)] → WD B D cA s.heap kd ig rg lg H locs → H.size = sz → ((u21.toInt = 1 ∧ (ig (B + 54) z13.toInt.toNat).toInt = (ig (B + 54) z16.toInt.toNat).toInt ∧ (ig (B + 57) z13.toInt.toNat).toInt = (ig (B + 57) z16.toInt.toNat).toInt) ∨ (u21.toInt = 0 ∧ ¬ ((ig (B + 54) z13.toInt.toNat).toInt = (ig (B + 54) z16.toInt.toNat).toInt ∧ (ig (B + 57) z13.toInt.toNat).toInt = (ig (B + 57) z16.toInt.toNat).toInt))) → W p l e (rL 0 0 0) s m args below meth c H locs 0 0 (MQ below (QcW B D cA (Pu kd ig rg lg sz (fun r => ∃ z : Int32, r = some (.int z) ∧ ((z.toInt = 1 ∧ L = N) ∨ (z.toInt = 0 ∧ L ≠ N))))) args s 0 0 (fun q => B ≤ q)) (F0 m 94 ls [.int u21]) := by
              intro ls H locs u21 hl hw hsz g94_0
              refine lv_istore_n (lv' := [(3, .int u21), (6, .int z16), (5, .int z13), (4, .int v7), (0, .ref (B + 49)), (1, .int x), (2, .int y)]) hx hb dX12_isAlike_94 rfl hl (by decide) rfl (fun ls hl => ?_)
              refine lv_iload_n hx hb dX12_isAlike_95 rfl (lv_at hl 0 rfl) ?_
              have J242 : ∀ (ls : Array Slot) (H : Heap) (locs : List Loc) (v22 : Int32), lv_has ls 9 [(3, .int v22), (4, .int v7), (0, .ref (B + 49)), (1, .int x), (2, .int y)] → WD B D cA s.heap kd ig rg lg H locs → H.size = sz → ((v22.toInt = 1 ∧ mR B ig (x.toInt.toNat : Int) x.toInt.toNat v7.toInt.toNat = mR B ig (y.toInt.toNat : Int) y.toInt.toNat v7.toInt.toNat) ∨ (v22.toInt = 0 ∧ ¬ mR B ig (x.toInt.toNat : Int) x.toInt.toNat v7.toInt.toNat = mR B ig (y.toInt.toNat : Int) y.toInt.toNat v7.toInt.toNat)) → W p l e (rL 0 0 0) s m args below meth c H locs 0 0 (MQ below (QcW B D cA (Pu kd ig rg lg sz (fun r => ∃ z : Int32, r = some (.int z) ∧ ((z.toInt = 1 ∧ L = N) ∨ (z.toInt = 0 ∧ L ≠ N))))) args s 0 0 (fun q => B ≤ q)) (F0 m 242 ls []) := by
                intro ls H locs v22 hl hw hsz g242_0
                refine tc_inc hx hb dX12_isAlike_242 hl (k := 1) rfl (by decide) (by decide) (fun z23 hz23 ls hl => ?_)
                first | replace hz23 := hz23 (by omega) | clear hz23
                have hl : lv_has ls 9 [(4, .int z23), (3, .int v22), (0, .ref (B + 49)), (1, .int x), (2, .int y)] := hl
                refine lv_goto (tgt := 22) hx hb dX12_isAlike_245 (by decide) ?_
                exact ih22 ls H locs z23 v22 (lv_sub hl [0, 1, 2, 3, 4] rfl) hw hsz (by omega) (by omega) (by omega) (fun w j hj => by by_cases e9 : (j : Int) = v7.toInt; (obtain rfl : j = v7.toInt.toNat := by omega); (rcases g242_0 with ⟨-, w1⟩ | ⟨w1, -⟩; exact w1; omega); exact g22_3 (by omega) j (by omega)) (fun w => ⟨v7.toInt.toNat, by omega, by rcases g242_0 with ⟨w1, -⟩ | ⟨-, w1⟩; omega; exact w1⟩) (by omega)
              have J215 : ∀ (ls : Array Slot) (H : Heap) (locs : List Loc) , lv_has ls 9 [(3, .int u21), (6, .int z16), (5, .int z13), (4, .int v7), (0, .ref (B + 49)), (1, .int x), (2, .int y)] → WD B D cA s.heap kd ig rg lg H locs → H.size = sz → (u21.toInt = 0 ∨ (ig (B + 54) z13.toInt.toNat).toInt ≠ 3) → W p l e (rL 0 0 0) s m args below meth c H locs 0 0 (MQ below (QcW B D cA (Pu kd ig rg lg sz (fun r => ∃ z : Int32, r = some (.int z) ∧ ((z.toInt = 1 ∧ L = N) ∨ (z.toInt = 0 ∧ L ≠ N))))) args s 0 0 (fun q => B ≤ q)) (F0 m 215 ls []) := by
                intro ls H locs  hl hw hsz g215_0
                refine lv_iload_n hx hb dX12_isAlike_215 rfl (lv_at hl 0 rfl) ?_
                refine z_eq (tgt := 242) hx hb dX12_isAlike_216 (by decide) (fun c216 => ?_) (fun c216 => ?_)
                · exact J242 ls H locs u21 (lv_sub hl [0, 3, 4, 5, 6] rfl) hw hsz ((by rcases g94_0 with ⟨w, -⟩ | ⟨w1, w2⟩; (exact absurd w (by omega)); exact Or.inr ⟨by omega, fun w => by have w3 := (Iff.mp ieq w).1; omega⟩))
                · refine lv_aload_n hx hb dX12_isAlike_219 rfl (lv_at hl 4 rfl) ?_
                  refine r_get C hw (hsh 49 _ rfl) fl_X12_68 (oV_r rfl (hrm (49, 10, 55) (by decide))) dX12_isAlike_220 ?_
                  refine lv_iload hx hb dX12_isAlike_223 (lv_at hl 2 rfl) ?_
                  refine r_iald C hw (hsh 55 _ rfl) (by omega) (by omega) dX12_isAlike_225 (ti_c (ig (B + 55) z13.toInt.toNat).toInt rfl fun z24 hz24 => ?_)
                  refine lv_aload_n hx hb dX12_isAlike_226 rfl (lv_at hl 4 rfl) ?_
                  refine r_get C hw (hsh 49 _ rfl) fl_X12_68 (oV_r rfl (hrm (49, 10, 55) (by decide))) dX12_isAlike_227 ?_
                  refine lv_iload hx hb dX12_isAlike_230 (lv_at hl 1 rfl) ?_
                  refine r_iald C hw (hsh 55 _ rfl) (by omega) (by omega) dX12_isAlike_232 (ti_c (ig (B + 55) z16.toInt.toNat).toInt rfl fun z26 hz26 => ?_)
                  have J241 : ∀ (ls : Array Slot) (H : Heap) (locs : List Loc) (u28 : Int32), lv_has ls 9 [(4, .int v7), (0, .ref (B + 49)), (1, .int x), (2, .int y)] → WD B D cA s.heap kd ig rg lg H locs → H.size = sz → ((u28.toInt = 1 ∧ mR B ig (x.toInt.toNat : Int) x.toInt.toNat v7.toInt.toNat = mR B ig (y.toInt.toNat : Int) y.toInt.toNat v7.toInt.toNat) ∨ (u28.toInt = 0 ∧ ¬ mR B ig (x.toInt.toNat : Int) x.toInt.toNat v7.toInt.toNat = mR B ig (y.toInt.toNat : Int) y.toInt.toNat v7.toInt.toNat)) → W p l e (rL 0 0 0) s m args below meth c H locs 0 0 (MQ below (QcW B D cA (Pu kd ig rg lg sz (fun r => ∃ z : Int32, r = some (.int z) ∧ ((z.toInt = 1 ∧ L = N) ∨ (z.toInt = 0 ∧ L ≠ N))))) args s 0 0 (fun q => B ≤ q)) (F0 m 241 ls [.int u28]) := by
                    intro ls H locs u28 hl hw hsz g241_0
                    refine lv_istore_n (lv' := [(3, .int u28), (4, .int v7), (0, .ref (B + 49)), (1, .int x), (2, .int y)]) hx hb dX12_isAlike_241 rfl hl (by decide) rfl (fun ls hl => ?_)
                    exact J242 ls H locs u28 (lv_sub hl [0, 1, 2, 3, 4] rfl) hw hsz (g241_0)
                  refine b_ne (tgt := 240) hx hb dX12_isAlike_233 (by decide) (fun c233 => ?_) (fun c233 => ?_)
                  · refine lv_iconst (v := 0) hx hb dX12_isAlike_240 (by decide) (ti_c 0 (by decide) fun z29 hz29 => ?_)
                    exact J241 ls H locs z29 (lv_sub hl [3, 4, 5, 6] rfl) hw hsz (Or.inr ⟨by omega, fun w => by have w1 := ((Iff.mp ieq w).2.2 (by omega)); omega⟩)
                  · refine lv_iconst (v := 1) hx hb dX12_isAlike_236 (by decide) (ti_c 1 (by decide) fun z30 hz30 => ?_)
                    refine lv_goto (tgt := 241) hx hb dX12_isAlike_237 (by decide) ?_
                    exact J241 ls H locs z30 (lv_sub hl [3, 4, 5, 6] rfl) hw hsz (Or.inl ⟨by omega, Iff.mpr ieq ⟨⟨by omega, by omega⟩, fun w => absurd w (by omega), fun _ => by omega⟩⟩)
              refine z_eq (tgt := 215) hx hb dX12_isAlike_96 (by decide) (fun c96 => ?_) (fun c96 => ?_)
              · exact J215 ls H locs (lv_sub hl [0, 1, 2, 3, 4, 5, 6] rfl) hw hsz (by omega)
              · refine lv_aload_n hx hb dX12_isAlike_99 rfl (lv_at hl 4 rfl) ?_
                refine r_get C hw (hsh 49 _ rfl) fl_X12_65 (oV_r rfl (hrm (49, 9, 54) (by decide))) dX12_isAlike_100 ?_
                refine lv_iload hx hb dX12_isAlike_103 (lv_at hl 2 rfl) ?_
                refine r_iald C hw (hsh 54 _ rfl) (by omega) (by omega) dX12_isAlike_105 (ti_c (ig (B + 54) z13.toInt.toNat).toInt rfl fun z31 hz31 => ?_)
                refine lv_iconst (v := 3) hx hb dX12_isAlike_106 (by decide) (ti_c 3 (by decide) fun z33 hz33 => ?_)
                refine b_ne (tgt := 215) hx hb dX12_isAlike_107 (by decide) (fun c107 => ?_) (fun c107 => ?_)
                · exact J215 ls H locs (lv_sub hl [0, 1, 2, 3, 4, 5, 6] rfl) hw hsz (by omega)
                · have f3 := o3 (by omega)
                  have q3 := ri (show mK B ig z13.toInt.toNat = 3 by unfold mK; omega)
                  have q4 := rj (show mK B ig z16.toInt.toNat = 3 by unfold mK; omega)
                  unfold mA mB at q3 q4
                  refine lv_aload_n hx hb dX12_isAlike_110 rfl (lv_at hl 4 rfl) ?_
                  refine r_get C hw (hsh 49 _ rfl) fl_X12_74 (oV_r rfl (hrm (49, 12, 57) (by decide))) dX12_isAlike_111 ?_
                  refine lv_iload hx hb dX12_isAlike_114 (lv_at hl 2 rfl) ?_
                  refine r_iald C hw (hsh 57 _ rfl) (by omega) (by omega) dX12_isAlike_116 (ti_c (ig (B + 57) z13.toInt.toNat).toInt rfl fun z34 hz34 => ?_)
                  refine lv_iconst (v := 1) hx hb dX12_isAlike_117 (by decide) (ti_c 1 (by decide) fun z36 hz36 => ?_)
                  refine lv_iand hx hb dX12_isAlike_118 (lv_topi fun z37 hz37 => ?_)
                  have a1 := and1 hz37 hz36 (by rw [hz34]; omega)
                  refine lv_iconst (v := 1) hx hb dX12_isAlike_119 (by decide) (ti_c 1 (by decide) fun z38 hz38 => ?_)
                  have J136 : ∀ (ls : Array Slot) (H : Heap) (locs : List Loc) (u39 : Int32), lv_has ls 9 [(6, .int z16), (5, .int z13), (4, .int v7), (0, .ref (B + 49)), (1, .int x), (2, .int y)] → WD B D cA s.heap kd ig rg lg H locs → H.size = sz → (((ig (B + 57) z13.toInt.toNat).toInt % 2 = 1 ∧ u39.toInt = 0) ∨ ((ig (B + 57) z13.toInt.toNat).toInt % 2 = 0 ∧ u39.toInt = x.toInt % 12 - y.toInt % 12)) → W p l e (rL 0 0 0) s m args below meth c H locs 0 0 (MQ below (QcW B D cA (Pu kd ig rg lg sz (fun r => ∃ z : Int32, r = some (.int z) ∧ ((z.toInt = 1 ∧ L = N) ∨ (z.toInt = 0 ∧ L ≠ N))))) args s 0 0 (fun q => B ≤ q)) (F0 m 136 ls [.int u39]) := by
                    intro ls H locs u39 hl hw hsz g136_0
                    refine lv_istore (lv' := [(7, .int u39), (6, .int z16), (5, .int z13), (4, .int v7), (0, .ref (B + 49)), (1, .int x), (2, .int y)]) hx hb dX12_isAlike_136 hl (by decide) rfl (fun ls hl => ?_)
                    refine lv_aload_n hx hb dX12_isAlike_138 rfl (lv_at hl 4 rfl) ?_
                    refine r_get C hw (hsh 49 _ rfl) fl_X12_74 (oV_r rfl (hrm (49, 12, 57) (by decide))) dX12_isAlike_139 ?_
                    refine lv_iload hx hb dX12_isAlike_142 (lv_at hl 2 rfl) ?_
                    refine r_iald C hw (hsh 57 _ rfl) (by omega) (by omega) dX12_isAlike_144 (ti_c (ig (B + 57) z13.toInt.toNat).toInt rfl fun z40 hz40 => ?_)
                    refine lv_iconst (v := 2) hx hb dX12_isAlike_145 (by decide) (ti_c 2 (by decide) fun z42 hz42 => ?_)
                    refine lv_iand hx hb dX12_isAlike_146 (lv_topi fun z43 hz43 => ?_)
                    have a2 := and2 hz43 hz42 (by rw [hz40]; omega)
                    refine lv_iconst (v := 2) hx hb dX12_isAlike_147 (by decide) (ti_c 2 (by decide) fun z44 hz44 => ?_)
                    have J164 : ∀ (ls : Array Slot) (H : Heap) (locs : List Loc) (u45 : Int32), lv_has ls 9 [(7, .int u39), (6, .int z16), (5, .int z13), (4, .int v7), (0, .ref (B + 49)), (1, .int x), (2, .int y)] → WD B D cA s.heap kd ig rg lg H locs → H.size = sz → (((ig (B + 57) z13.toInt.toNat).toInt / 2 = 1 ∧ u45.toInt = 0) ∨ ((ig (B + 57) z13.toInt.toNat).toInt / 2 = 0 ∧ u45.toInt = x.toInt / 12 - y.toInt / 12)) → W p l e (rL 0 0 0) s m args below meth c H locs 0 0 (MQ below (QcW B D cA (Pu kd ig rg lg sz (fun r => ∃ z : Int32, r = some (.int z) ∧ ((z.toInt = 1 ∧ L = N) ∨ (z.toInt = 0 ∧ L ≠ N))))) args s 0 0 (fun q => B ≤ q)) (F0 m 164 ls [.int u45]) := by
                      intro ls H locs u45 hl hw hsz g164_0
                      refine lv_istore (lv' := [(8, .int u45), (7, .int u39), (6, .int z16), (5, .int z13), (4, .int v7), (0, .ref (B + 49)), (1, .int x), (2, .int y)]) hx hb dX12_isAlike_164 hl (by decide) rfl (fun ls hl => ?_)
                      refine lv_aload_n hx hb dX12_isAlike_166 rfl (lv_at hl 5 rfl) ?_
                      refine r_get C hw (hsh 49 _ rfl) fl_X12_68 (oV_r rfl (hrm (49, 10, 55) (by decide))) dX12_isAlike_167 ?_
                      refine lv_iload hx hb dX12_isAlike_170 (lv_at hl 3 rfl) ?_
                      refine r_iald C hw (hsh 55 _ rfl) (by omega) (by omega) dX12_isAlike_172 (ti_c (ig (B + 55) z13.toInt.toNat).toInt rfl fun z46 hz46 => ?_)
                      refine lv_aload_n hx hb dX12_isAlike_173 rfl (lv_at hl 5 rfl) ?_
                      refine r_get C hw (hsh 49 _ rfl) fl_X12_68 (oV_r rfl (hrm (49, 10, 55) (by decide))) dX12_isAlike_174 ?_
                      refine lv_iload hx hb dX12_isAlike_177 (lv_at hl 2 rfl) ?_
                      refine r_iald C hw (hsh 55 _ rfl) (by omega) (by omega) dX12_isAlike_179 (ti_c (ig (B + 55) z16.toInt.toNat).toInt rfl fun z48 hz48 => ?_)
                      refine lv_isub hx hb dX12_isAlike_180 (tc_sub fun z50 hz50 => ?_)
                      first | replace hz50 := hz50 (by omega) | clear hz50
                      refine lv_iload hx hb dX12_isAlike_181 (lv_at hl 1 rfl) ?_
                      have J211 : ∀ (ls : Array Slot) (H : Heap) (locs : List Loc) (u51 : Int32), lv_has ls 9 [(4, .int v7), (0, .ref (B + 49)), (1, .int x), (2, .int y)] → WD B D cA s.heap kd ig rg lg H locs → H.size = sz → ((u51.toInt = 1 ∧ mR B ig (x.toInt.toNat : Int) x.toInt.toNat v7.toInt.toNat = mR B ig (y.toInt.toNat : Int) y.toInt.toNat v7.toInt.toNat) ∨ (u51.toInt = 0 ∧ ¬ mR B ig (x.toInt.toNat : Int) x.toInt.toNat v7.toInt.toNat = mR B ig (y.toInt.toNat : Int) y.toInt.toNat v7.toInt.toNat)) → W p l e (rL 0 0 0) s m args below meth c H locs 0 0 (MQ below (QcW B D cA (Pu kd ig rg lg sz (fun r => ∃ z : Int32, r = some (.int z) ∧ ((z.toInt = 1 ∧ L = N) ∨ (z.toInt = 0 ∧ L ≠ N))))) args s 0 0 (fun q => B ≤ q)) (F0 m 211 ls [.int u51]) := by
                        intro ls H locs u51 hl hw hsz g211_0
                        refine lv_istore_n (lv' := [(3, .int u51), (4, .int v7), (0, .ref (B + 49)), (1, .int x), (2, .int y)]) hx hb dX12_isAlike_211 rfl hl (by decide) rfl (fun ls hl => ?_)
                        refine lv_goto (tgt := 242) hx hb dX12_isAlike_212 (by decide) ?_
                        exact J242 ls H locs u51 (lv_sub hl [0, 1, 2, 3, 4] rfl) hw hsz (g211_0)
                      refine b_ne (tgt := 210) hx hb dX12_isAlike_183 (by decide) (fun c183 => ?_) (fun c183 => ?_)
                      · refine lv_iconst (v := 0) hx hb dX12_isAlike_210 (by decide) (ti_c 0 (by decide) fun z52 hz52 => ?_)
                        exact J211 ls H locs z52 (lv_sub hl [4, 5, 6, 7] rfl) hw hsz (Or.inr ⟨by omega, fun w => by have w1 := ((Iff.mp ieq w).2.1 (by omega)); omega⟩)
                      · refine lv_aload_n hx hb dX12_isAlike_186 rfl (lv_at hl 5 rfl) ?_
                        refine r_get C hw (hsh 49 _ rfl) fl_X12_71 (oV_r rfl (hrm (49, 11, 56) (by decide))) dX12_isAlike_187 ?_
                        refine lv_iload hx hb dX12_isAlike_190 (lv_at hl 3 rfl) ?_
                        refine r_iald C hw (hsh 56 _ rfl) (by omega) (by omega) dX12_isAlike_192 (ti_c (ig (B + 56) z13.toInt.toNat).toInt rfl fun z53 hz53 => ?_)
                        refine lv_aload_n hx hb dX12_isAlike_193 rfl (lv_at hl 5 rfl) ?_
                        refine r_get C hw (hsh 49 _ rfl) fl_X12_71 (oV_r rfl (hrm (49, 11, 56) (by decide))) dX12_isAlike_194 ?_
                        refine lv_iload hx hb dX12_isAlike_197 (lv_at hl 2 rfl) ?_
                        refine r_iald C hw (hsh 56 _ rfl) (by omega) (by omega) dX12_isAlike_199 (ti_c (ig (B + 56) z16.toInt.toNat).toInt rfl fun z55 hz55 => ?_)
                        refine lv_isub hx hb dX12_isAlike_200 (tc_sub fun z57 hz57 => ?_)
                        first | replace hz57 := hz57 (by omega) | clear hz57
                        refine lv_iload hx hb dX12_isAlike_201 (lv_at hl 0 rfl) ?_
                        refine b_ne (tgt := 210) hx hb dX12_isAlike_203 (by decide) (fun c203 => ?_) (fun c203 => ?_)
                        · refine lv_iconst (v := 0) hx hb dX12_isAlike_210 (by decide) (ti_c 0 (by decide) fun z58 hz58 => ?_)
                          exact J211 ls H locs z58 (lv_sub hl [4, 5, 6, 7] rfl) hw hsz (Or.inr ⟨by omega, fun w => by have w1 := ((Iff.mp ieq w).2.1 (by omega)); omega⟩)
                        · refine lv_iconst (v := 1) hx hb dX12_isAlike_206 (by decide) (ti_c 1 (by decide) fun z59 hz59 => ?_)
                          refine lv_goto (tgt := 211) hx hb dX12_isAlike_207 (by decide) ?_
                          exact J211 ls H locs z59 (lv_sub hl [4, 5, 6, 7] rfl) hw hsz (Or.inl ⟨by omega, Iff.mpr ieq ⟨⟨by omega, by omega⟩, fun _ => ⟨by omega, by omega⟩, fun w => absurd (show (ig (B + 54) z13.toInt.toNat).toInt = 3 by omega) w⟩⟩)
                    refine b_ne (tgt := 155) hx hb dX12_isAlike_148 (by decide) (fun c148 => ?_) (fun c148 => ?_)
                    · refine lv_iload_n hx hb dX12_isAlike_155 rfl (lv_at hl 5 rfl) ?_
                      refine lv_bipush (v := 12) hx hb dX12_isAlike_156 (by decide) (ti_c 12 (by decide) fun z60 hz60 => ?_)
                      refine lv_idiv hx hb dX12_isAlike_158 (ne0_of (by omega)) (tc_div 12 hz60 (by decide) fun z61 bz61 hz61 => ?_)
                      first | replace hz61 := hz61 (by omega) | clear hz61
                      refine lv_iload_n hx hb dX12_isAlike_159 rfl (lv_at hl 6 rfl) ?_
                      refine lv_bipush (v := 12) hx hb dX12_isAlike_160 (by decide) (ti_c 12 (by decide) fun z62 hz62 => ?_)
                      refine lv_idiv hx hb dX12_isAlike_162 (ne0_of (by omega)) (tc_div 12 hz62 (by decide) fun z63 bz63 hz63 => ?_)
                      first | replace hz63 := hz63 (by omega) | clear hz63
                      refine lv_isub hx hb dX12_isAlike_163 (tc_sub fun z64 hz64 => ?_)
                      first | replace hz64 := hz64 (by omega) | clear hz64
                      exact J164 ls H locs z64 (lv_sub hl [0, 1, 2, 3, 4, 5, 6] rfl) hw hsz (by omega)
                    · refine lv_iconst (v := 0) hx hb dX12_isAlike_151 (by decide) (ti_c 0 (by decide) fun z65 hz65 => ?_)
                      refine lv_goto (tgt := 164) hx hb dX12_isAlike_152 (by decide) ?_
                      exact J164 ls H locs z65 (lv_sub hl [0, 1, 2, 3, 4, 5, 6] rfl) hw hsz (by omega)
                  refine b_ne (tgt := 127) hx hb dX12_isAlike_120 (by decide) (fun c120 => ?_) (fun c120 => ?_)
                  · refine lv_iload_n hx hb dX12_isAlike_127 rfl (lv_at hl 5 rfl) ?_
                    refine lv_bipush (v := 12) hx hb dX12_isAlike_128 (by decide) (ti_c 12 (by decide) fun z66 hz66 => ?_)
                    refine lv_irem hx hb dX12_isAlike_130 (ne0_of (by omega)) (tc_rem 12 hz66 (by decide) fun z67 bz67 hz67 => ?_)
                    first | replace hz67 := hz67 (by omega) | clear hz67
                    refine lv_iload_n hx hb dX12_isAlike_131 rfl (lv_at hl 6 rfl) ?_
                    refine lv_bipush (v := 12) hx hb dX12_isAlike_132 (by decide) (ti_c 12 (by decide) fun z68 hz68 => ?_)
                    refine lv_irem hx hb dX12_isAlike_134 (ne0_of (by omega)) (tc_rem 12 hz68 (by decide) fun z69 bz69 hz69 => ?_)
                    first | replace hz69 := hz69 (by omega) | clear hz69
                    refine lv_isub hx hb dX12_isAlike_135 (tc_sub fun z70 hz70 => ?_)
                    first | replace hz70 := hz70 (by omega) | clear hz70
                    exact J136 ls H locs z70 (lv_sub hl [1, 2, 3, 4, 5, 6] rfl) hw hsz (by omega)
                  · refine lv_iconst (v := 0) hx hb dX12_isAlike_123 (by decide) (ti_c 0 (by decide) fun z71 hz71 => ?_)
                    refine lv_goto (tgt := 136) hx hb dX12_isAlike_124 (by decide) ?_
                    exact J136 ls H locs z71 (lv_sub hl [1, 2, 3, 4, 5, 6] rfl) hw hsz (by omega)
            refine b_ne (tgt := 93) hx hb dX12_isAlike_69 (by decide) (fun c69 => ?_) (fun c69 => ?_)
            · refine lv_iconst (v := 0) hx hb dX12_isAlike_93 (by decide) (ti_c 0 (by decide) fun z72 hz72 => ?_)
              exact J94 ls H locs z72 (lv_sub hl [0, 1, 2, 4, 5, 6] rfl) hw hsz (by omega)
            · refine lv_aload_n hx hb dX12_isAlike_72 rfl (lv_at hl 4 rfl) ?_
              refine r_get C hw (hsh 49 _ rfl) fl_X12_74 (oV_r rfl (hrm (49, 12, 57) (by decide))) dX12_isAlike_73 ?_
              refine lv_iload hx hb dX12_isAlike_76 (lv_at hl 1 rfl) ?_
              refine r_iald C hw (hsh 57 _ rfl) (by omega) (by omega) dX12_isAlike_78 (ti_c (ig (B + 57) z13.toInt.toNat).toInt rfl fun z73 hz73 => ?_)
              refine lv_aload_n hx hb dX12_isAlike_79 rfl (lv_at hl 4 rfl) ?_
              refine r_get C hw (hsh 49 _ rfl) fl_X12_74 (oV_r rfl (hrm (49, 12, 57) (by decide))) dX12_isAlike_80 ?_
              refine lv_iload hx hb dX12_isAlike_83 (lv_at hl 0 rfl) ?_
              refine r_iald C hw (hsh 57 _ rfl) (by omega) (by omega) dX12_isAlike_85 (ti_c (ig (B + 57) z16.toInt.toNat).toInt rfl fun z75 hz75 => ?_)
              refine b_ne (tgt := 93) hx hb dX12_isAlike_86 (by decide) (fun c86 => ?_) (fun c86 => ?_)
              · refine lv_iconst (v := 0) hx hb dX12_isAlike_93 (by decide) (ti_c 0 (by decide) fun z77 hz77 => ?_)
                exact J94 ls H locs z77 (lv_sub hl [0, 1, 2, 4, 5, 6] rfl) hw hsz (by omega)
              · refine lv_iconst (v := 1) hx hb dX12_isAlike_89 (by decide) (ti_c 1 (by decide) fun z78 hz78 => ?_)
                refine lv_goto (tgt := 94) hx hb dX12_isAlike_90 (by decide) ?_
                exact J94 ls H locs z78 (lv_sub hl [0, 1, 2, 4, 5, 6] rfl) hw hsz (by omega)
    exact L22 (((ig (B + 58) x.toInt.toNat).toInt - z6.toInt) + 1).toNat ls s.heap [] z6 z5 (lv_sub hl [0, 1, 2, 3, 4] rfl) hw hsz (by omega) (by omega) (by omega) (fun _ j hj => by omega) (fun w => by omega) (by omega)
  · refine lv_iconst (v := 0) hx hb dX12_isAlike_15 (by decide) (ti_c 0 (by decide) fun z79 hz79 => ?_)
    exact r_iret C hw hr hlk (nar_b (by omega)) (Nat.le_of_ble_eq_true rfl) (Nat.le_of_ble_eq_true rfl) dX12_isAlike_16 ⟨rfl, rfl, rfl, rfl, hsz, ⟨_, rfl, Or.inr ⟨by omega, RowF.two hx2 hy2 (Or.inl (by omega))⟩⟩⟩

set_option maxHeartbeats 4000000 in
set_option maxRecDepth 100000 in
theorem t_X12_findFamiliesE {υ : Option Int} {τ : Tp} {φ : Option Int} (l : Launch) (B : Nat) (D : va_G) (cA : Nat → ClassId) (kd : sK) (ig : sI) (rg : sR) (lg : sG) (sz : Nat) (σ : Sg) (hM : ∀ p, p < 288 → RowM B ig p (p : Int) (σ p)) (hI : IM τ φ υ B kd ig rg) : MC l B D cA yX12_findFamilies cX12_findFamilies 3 none (rL 1 0 0) [.ref (B + 49)] kd ig rg lg sz (PM τ φ υ B [71] kd ig rg lg (fun r ig' lg' => (r = none ∧ FMm B σ ig'))) := by
  refine MC.of (own := RX12) (by decide +kernel) rfl (Nat.le_of_ble_eq_true rfl) ?_
  intro p e s m args below meth c ls C hr hlk hnm hw hsz hl
  have hx := C.1.1
  have hb := C.1.2.1
  have hown := C.1.2.2.2.1
  have hts := C.1.2.2.2.2
  have hl : lv_has ls 3 [(0, .ref (B + 49))] := hl
  have hF : Ft B [71] ig lg ig lg := Ft.rf
  have hsh := hI.sh
  have hrm := hI.rm
  refine lv_iconst (v := 0) hx hb dX12_findFamilies_0 (by decide) (ti_c 0 (by decide) fun z1 hz1 => ?_)
  refine lv_istore_n (lv' := [(1, .int z1), (0, .ref (B + 49))]) hx hb dX12_findFamilies_1 rfl hl (by decide) rfl (fun ls hl => ?_)
  have L2 : ∀ (n : Nat) (ls : Array Slot) (H : Heap) (locs : List Loc) (ig3 : sI) (lg4 : sG) (v2 : Int32), lv_has ls 3 [(1, .int v2), (0, .ref (B + 49))] → WD B D cA s.heap kd ig3 rg lg4 H locs → IM τ φ υ B kd ig3 rg → Ft B [71] ig lg ig3 lg4 → (0 ≤ v2.toInt) → (v2.toInt ≤ 288) → (∀ r, r < v2.toInt.toNat → FmR σ r (ig3 (B + 71) r).toInt) → 288 - v2.toInt < (n : Int) → W p l e (rL 1 0 0) s m args below meth c H locs 0 0 (MQ below (QcW B D cA (PM τ φ υ B [71] kd ig rg lg (fun r ig' lg' => (r = none ∧ FMm B σ ig')))) args s 0 0 (fun q => B ≤ q)) (F0 m 2 ls []) := by
    intro n2
    induction n2 with
    | zero => intro ls H locs ig3 lg4 v2 hl hw hI hF g2_0 g2_1 g2_2 hmu; exact absurd hmu (by omega)
    | succ n2 ih2 =>
      intro ls H locs ig3 lg4 v2 hl hw hI hF g2_0 g2_1 g2_2 hmu
      refine lv_iload_n hx hb dX12_findFamilies_2 rfl (lv_at hl 0 rfl) ?_
      refine lv_sipush (v := 288) hx hb dX12_findFamilies_3 (by decide) (ti_c 288 (by decide) fun z5 hz5 => ?_)
      refine b_ge (tgt := 95) hx hb dX12_findFamilies_6 (by decide) (fun c6 => ?_) (fun c6 => ?_)
      · exact r_vret C hw hr hlk (Nat.le_of_ble_eq_true rfl) (Nat.le_of_ble_eq_true rfl) dX12_findFamilies_95 ⟨rfl, rfl, hI, hF, ⟨rfl, fun p hp => g2_2 p (by omega)⟩⟩
      · refine lv_aload_n hx hb dX12_findFamilies_9 rfl (lv_at hl 1 rfl) ?_
        refine r_get C hw (hsh 49 _ rfl) fl_X12_117 (oV_r rfl (hrm (49, 28, 71) (by decide))) dX12_findFamilies_10 ?_
        refine lv_iload_n hx hb dX12_findFamilies_13 rfl (lv_at hl 0 rfl) ?_
        refine lv_iconst (v := (-1)) hx hb dX12_findFamilies_14 (by decide) (ti_c (-1) (by decide) fun z6 hz6 => ?_)
        refine r_iast C hw (hsh 71 _ rfl) (by omega) (by omega) dX12_findFamilies_15 (fun H locs hH hw => ?_)
        obtain ⟨ig7, eig7⟩ : ∃ f, f = up2 ig3 (B + 71) v2.toInt.toNat z6 := ⟨_, rfl⟩
        rw [← eig7] at hw
        have hF : Ft B [71] ig lg ig7 lg4 := by rw [eig7]; exact hF.pi (by decide)
        have hI : IM τ φ υ B kd ig7 rg := by rw [eig7]; exact hI.pi (by decide) (show okR none _ from trivial)
        refine lv_iconst (v := 0) hx hb dX12_findFamilies_16 (by decide) (ti_c 0 (by decide) fun z8 hz8 => ?_)
        refine lv_istore_n (lv' := [(2, .int z8), (1, .int v2), (0, .ref (B + 49))]) hx hb dX12_findFamilies_17 rfl hl (by decide) rfl (fun ls hl => ?_)
        have L18 : ∀ (n : Nat) (ls : Array Slot) (H : Heap) (locs : List Loc) (ig10 : sI) (lg11 : sG) (v9 : Int32), lv_has ls 3 [(2, .int v9), (1, .int v2), (0, .ref (B + 49))] → WD B D cA s.heap kd ig10 rg lg11 H locs → IM τ φ υ B kd ig10 rg → Ft B [71] ig lg ig10 lg11 → (0 ≤ v9.toInt) → (v9.toInt ≤ v2.toInt + 1) → (v2.toInt < 288) → (∀ r, r < v2.toInt.toNat → FmR σ r (ig10 (B + 71) r).toInt) → (FIn σ v2.toInt.toNat v9.toInt.toNat (ig10 (B + 71) v2.toInt.toNat).toInt) → v2.toInt + 1 - v9.toInt < (n : Int) → W p l e (rL 1 0 0) s m args below meth c H locs 0 0 (MQ below (QcW B D cA (PM τ φ υ B [71] kd ig rg lg (fun r ig' lg' => (r = none ∧ FMm B σ ig')))) args s 0 0 (fun q => B ≤ q)) (F0 m 18 ls []) := by
          intro n18
          induction n18 with
          | zero => intro ls H locs ig10 lg11 v9 hl hw hI hF g18_0 g18_1 g18_2 g18_3 g18_4 hmu; exact absurd hmu (by omega)
          | succ n18 ih18 =>
            intro ls H locs ig10 lg11 v9 hl hw hI hF g18_0 g18_1 g18_2 g18_3 g18_4 hmu
            refine lv_iload_n hx hb dX12_findFamilies_18 rfl (lv_at hl 0 rfl) ?_
            refine lv_iload_n hx hb dX12_findFamilies_19 rfl (lv_at hl 1 rfl) ?_
            refine b_gt (tgt := 89) hx hb dX12_findFamilies_20 (by decide) (fun c20 => ?_) (fun c20 => ?_)
            · refine tc_inc hx hb dX12_findFamilies_89 hl (k := 1) rfl (by decide) (by decide) (fun z12 hz12 ls hl => ?_)
              first | replace hz12 := hz12 (by omega) | clear hz12
              have hl : lv_has ls 3 [(1, .int z12), (2, .int v9), (0, .ref (B + 49))] := hl
              refine lv_goto (tgt := 2) hx hb dX12_findFamilies_92 (by decide) ?_
              exact ih2 ls H locs ig10 lg11 z12 (lv_sub hl [0, 2] rfl) hw hI hF (by omega) (by omega) (fun r hr => by by_cases e9 : r = v2.toInt.toNat; (subst e9; exact FIn.fin g18_4 (by omega)); exact g18_3 r (by omega)) (by omega)
            · refine lv_aload_n hx hb dX12_findFamilies_23 rfl (lv_at hl 2 rfl) ?_
              refine r_get C hw (hsh 49 _ rfl) fl_X12_117 (oV_r rfl (hrm (49, 28, 71) (by decide))) dX12_findFamilies_24 ?_
              refine lv_iload_n hx hb dX12_findFamilies_27 rfl (lv_at hl 1 rfl) ?_
              refine r_iald C hw (hsh 71 _ rfl) (by omega) (by omega) dX12_findFamilies_28 (ti_c (ig10 (B + 71) v2.toInt.toNat).toInt rfl fun z13 hz13 => ?_)
              refine z_ge (tgt := 89) hx hb dX12_findFamilies_29 (by decide) (fun c29 => ?_) (fun c29 => ?_)
              · refine tc_inc hx hb dX12_findFamilies_89 hl (k := 1) rfl (by decide) (by decide) (fun z15 hz15 ls hl => ?_)
                first | replace hz15 := hz15 (by omega) | clear hz15
                have hl : lv_has ls 3 [(1, .int z15), (2, .int v9), (0, .ref (B + 49))] := hl
                refine lv_goto (tgt := 2) hx hb dX12_findFamilies_92 (by decide) ?_
                exact ih2 ls H locs ig10 lg11 z15 (lv_sub hl [0, 2] rfl) hw hI hF (by omega) (by omega) (fun r hr => by by_cases e9 : r = v2.toInt.toNat; (subst e9; exact FIn.fin g18_4 (by omega)); exact g18_3 r (by omega)) (by omega)
              · refine lv_aload_n hx hb dX12_findFamilies_32 rfl (lv_at hl 2 rfl) ?_
                refine r_get C hw (hsh 49 _ rfl) fl_X12_80 (oV_r rfl (hrm (49, 15, 59) (by decide))) dX12_findFamilies_33 ?_
                refine lv_iload_n hx hb dX12_findFamilies_36 rfl (lv_at hl 1 rfl) ?_
                refine r_iald C hw (hsh 59 _ rfl) (by omega) (by omega) dX12_findFamilies_37 (ti_c (ig10 (B + 59) v2.toInt.toNat).toInt rfl fun z16 hz16 => ?_)
                rw [Ft.i hF 59 _ (by decide)] at hz16
                have kp8 : z16.toInt = kdO (σ v2.toInt.toNat) := by rw [hz16]; exact (hM _ (by omega)).1.1
                refine lv_iconst (v := 2) hx hb dX12_findFamilies_38 (by decide) (ti_c 2 (by decide) fun z18 hz18 => ?_)
                refine b_ne (tgt := 89) hx hb dX12_findFamilies_39 (by decide) (fun c39 => ?_) (fun c39 => ?_)
                · refine tc_inc hx hb dX12_findFamilies_89 hl (k := 1) rfl (by decide) (by decide) (fun z19 hz19 ls hl => ?_)
                  first | replace hz19 := hz19 (by omega) | clear hz19
                  have hl : lv_has ls 3 [(1, .int z19), (2, .int v9), (0, .ref (B + 49))] := hl
                  refine lv_goto (tgt := 2) hx hb dX12_findFamilies_92 (by decide) ?_
                  exact ih2 ls H locs ig10 lg11 z19 (lv_sub hl [0, 2] rfl) hw hI hF (by omega) (by omega) (fun r hr => by by_cases e9 : r = v2.toInt.toNat; (subst e9; exact FIn.fin g18_4 (by omega)); exact g18_3 r (by omega)) (by omega)
                · have kp9 : kdO (σ v2.toInt.toNat) = 2 := by omega
                  refine lv_aload_n hx hb dX12_findFamilies_42 rfl (lv_at hl 2 rfl) ?_
                  refine r_get C hw (hsh 49 _ rfl) fl_X12_80 (oV_r rfl (hrm (49, 15, 59) (by decide))) dX12_findFamilies_43 ?_
                  refine lv_iload_n hx hb dX12_findFamilies_46 rfl (lv_at hl 0 rfl) ?_
                  refine r_iald C hw (hsh 59 _ rfl) (by omega) (by omega) dX12_findFamilies_47 (ti_c (ig10 (B + 59) v9.toInt.toNat).toInt rfl fun z20 hz20 => ?_)
                  rw [Ft.i hF 59 _ (by decide)] at hz20
                  have kq8 : z20.toInt = kdO (σ v9.toInt.toNat) := by rw [hz20]; exact (hM _ (by omega)).1.1
                  refine lv_iconst (v := 2) hx hb dX12_findFamilies_48 (by decide) (ti_c 2 (by decide) fun z22 hz22 => ?_)
                  refine b_ne (tgt := 83) hx hb dX12_findFamilies_49 (by decide) (fun c49 => ?_) (fun c49 => ?_)
                  · have hno : kdO (σ v9.toInt.toNat) = 2 → kdO (σ v2.toInt.toNat) = 2 → fmO (σ v9.toInt.toNat) ≠ fmO (σ v2.toInt.toNat) := fun w => absurd w (by omega)
                    refine tc_inc hx hb dX12_findFamilies_83 hl (k := 0) rfl (by decide) (by decide) (fun z23 hz23 ls hl => ?_)
                    first | replace hz23 := hz23 (by omega) | clear hz23
                    have hl : lv_has ls 3 [(2, .int z23), (1, .int v2), (0, .ref (B + 49))] := hl
                    refine lv_goto (tgt := 18) hx hb dX12_findFamilies_86 (by decide) ?_
                    exact ih18 ls H locs ig10 lg11 z23 (lv_sub hl [0, 1, 2] rfl) hw hI hF (by omega) (by omega) (by omega) (g18_3) (FIn.no g18_4 (by omega) (by omega) hno) (by omega)
                  · have kq9 : kdO (σ v9.toInt.toNat) = 2 := by omega
                    refine lv_iload_n hx hb dX12_findFamilies_52 rfl (lv_at hl 0 rfl) ?_
                    refine lv_iload_n hx hb dX12_findFamilies_53 rfl (lv_at hl 1 rfl) ?_
                    refine b_eq (tgt := 76) hx hb dX12_findFamilies_54 (by decide) (fun c54 => ?_) (fun c54 => ?_)
                    · have heq : fmO (σ v9.toInt.toNat) = fmO (σ v2.toInt.toNat) := by rw [show v9.toInt.toNat = v2.toInt.toNat by omega]
                      refine lv_aload_n hx hb dX12_findFamilies_76 rfl (lv_at hl 2 rfl) ?_
                      refine r_get C hw (hsh 49 _ rfl) fl_X12_117 (oV_r rfl (hrm (49, 28, 71) (by decide))) dX12_findFamilies_77 ?_
                      refine lv_iload_n hx hb dX12_findFamilies_80 rfl (lv_at hl 1 rfl) ?_
                      refine lv_iload_n hx hb dX12_findFamilies_81 rfl (lv_at hl 0 rfl) ?_
                      refine r_iast C hw (hsh 71 _ rfl) (by omega) (by omega) dX12_findFamilies_82 (fun H locs hH hw => ?_)
                      obtain ⟨ig24, eig24⟩ : ∃ f, f = up2 ig10 (B + 71) v2.toInt.toNat v9 := ⟨_, rfl⟩
                      rw [← eig24] at hw
                      have hF : Ft B [71] ig lg ig24 lg11 := by rw [eig24]; exact hF.pi (by decide)
                      have hI : IM τ φ υ B kd ig24 rg := by rw [eig24]; exact hI.pi (by decide) (show okR none _ from trivial)
                      have inn : ∀ k, FIn σ v2.toInt.toNat k (ig24 (B + 71) v2.toInt.toNat).toInt := fun k => by rw [eig24, up2_eq]; exact FIn.yes g18_4 (by omega) kp9 kq9 heq (by omega) (by omega)
                      have otr : ∀ r, r < v2.toInt.toNat → FmR σ r (ig24 (B + 71) r).toInt := fun r hr => by rw [eig24, up2_j (by omega)]; exact g18_3 r hr
                      refine tc_inc hx hb dX12_findFamilies_83 hl (k := 0) rfl (by decide) (by decide) (fun z25 hz25 ls hl => ?_)
                      first | replace hz25 := hz25 (by omega) | clear hz25
                      have hl : lv_has ls 3 [(2, .int z25), (1, .int v2), (0, .ref (B + 49))] := hl
                      refine lv_goto (tgt := 18) hx hb dX12_findFamilies_86 (by decide) ?_
                      exact ih18 ls H locs ig24 lg11 z25 (lv_sub hl [0, 1, 2] rfl) hw hI hF (by omega) (by omega) (by omega) (otr) (inn _) (by omega)
                    · refine lv_aload_n hx hb dX12_findFamilies_57 rfl (lv_at hl 2 rfl) ?_
                      refine r_get C hw (hsh 49 _ rfl) fl_X12_117 (oV_r rfl (hrm (49, 28, 71) (by decide))) dX12_findFamilies_58 ?_
                      refine lv_iload_n hx hb dX12_findFamilies_61 rfl (lv_at hl 0 rfl) ?_
                      refine r_iald C hw (hsh 71 _ rfl) (by omega) (by omega) dX12_findFamilies_62 (ti_c (ig10 (B + 71) v9.toInt.toNat).toInt rfl fun z26 hz26 => ?_)
                      refine lv_iload_n hx hb dX12_findFamilies_63 rfl (lv_at hl 0 rfl) ?_
                      refine b_ne (tgt := 83) hx hb dX12_findFamilies_64 (by decide) (fun c64 => ?_) (fun c64 => ?_)
                      · have hno := FIn.nr g18_4 (by omega) (g18_3 v9.toInt.toNat (by omega)) (by omega)
                        refine tc_inc hx hb dX12_findFamilies_83 hl (k := 0) rfl (by decide) (by decide) (fun z28 hz28 ls hl => ?_)
                        first | replace hz28 := hz28 (by omega) | clear hz28
                        have hl : lv_has ls 3 [(2, .int z28), (1, .int v2), (0, .ref (B + 49))] := hl
                        refine lv_goto (tgt := 18) hx hb dX12_findFamilies_86 (by decide) ?_
                        exact ih18 ls H locs ig10 lg11 z28 (lv_sub hl [0, 1, 2] rfl) hw hI hF (by omega) (by omega) (by omega) (g18_3) (FIn.no g18_4 (by omega) (by omega) hno) (by omega)
                      · refine lv_aload_n hx hb dX12_findFamilies_67 rfl (lv_at hl 2 rfl) ?_
                        refine lv_iload_n hx hb dX12_findFamilies_68 rfl (lv_at hl 1 rfl) ?_
                        refine lv_iload_n hx hb dX12_findFamilies_69 rfl (lv_at hl 0 rfl) ?_
                        refine r_callV (As := [.int v2, .int v9]) (rest := []) C hw (t_X12_isAlikeE l B D cA kd ig10 rg lg11 _ v2 v9 (by omega) (by omega) _ _ (((hM v2.toInt.toNat (by omega)).ft hF (by decide)).2.2.1 kp9) (((hM v9.toInt.toNat (by omega)).ft hF (by decide)).2.2.1 kq9) (by rw [((hM v2.toInt.toNat (by omega)).ft hF (by decide)).1.1]; exact kp9) (by rw [((hM v9.toInt.toNat (by omega)).ft hF (by decide)).1.1]; exact kq9) hI) sv_X12_311 (hsh 49 _ rfl) rfl hl.1 rfl (Nat.le_of_ble_eq_true rfl) ⟨Nat.le_of_ble_eq_true rfl, Nat.le_of_ble_eq_true rfl⟩ ⟨Nat.le_of_ble_eq_true rfl, Nat.le_of_ble_eq_true rfl⟩ dX12_findFamilies_70 (fun r33 kd29 ig30 rg31 lg32 H locs hw hH hp34 => ?_)
                        obtain ⟨rfl, rfl, rfl, rfl, hzhp34, hrhp34⟩ := hp34
                        obtain ⟨z35, rfl, hz35⟩ := hrhp34
                        have al9 := hz35
                        refine z_eq (tgt := 83) hx hb dX12_findFamilies_73 (by decide) (fun c73 => ?_) (fun c73 => ?_)
                        · have hno : kdO (σ v9.toInt.toNat) = 2 → kdO (σ v2.toInt.toNat) = 2 → fmO (σ v9.toInt.toNat) ≠ fmO (σ v2.toInt.toNat) := fun _ _ => fun w => by0 al9 (by omega) w.symm
                          refine tc_inc hx hb dX12_findFamilies_83 hl (k := 0) rfl (by decide) (by decide) (fun z36 hz36 ls hl => ?_)
                          first | replace hz36 := hz36 (by omega) | clear hz36
                          have hl : lv_has ls 3 [(2, .int z36), (1, .int v2), (0, .ref (B + 49))] := hl
                          refine lv_goto (tgt := 18) hx hb dX12_findFamilies_86 (by decide) ?_
                          exact ih18 ls H locs ig10 lg11 z36 (lv_sub hl [0, 1, 2] rfl) hw hI hF (by omega) (by omega) (by omega) (g18_3) (FIn.no g18_4 (by omega) (by omega) hno) (by omega)
                        · have heq := (by1 al9 (by omega)).symm
                          refine lv_aload_n hx hb dX12_findFamilies_76 rfl (lv_at hl 2 rfl) ?_
                          refine r_get C hw (hsh 49 _ rfl) fl_X12_117 (oV_r rfl (hrm (49, 28, 71) (by decide))) dX12_findFamilies_77 ?_
                          refine lv_iload_n hx hb dX12_findFamilies_80 rfl (lv_at hl 1 rfl) ?_
                          refine lv_iload_n hx hb dX12_findFamilies_81 rfl (lv_at hl 0 rfl) ?_
                          refine r_iast C hw (hsh 71 _ rfl) (by omega) (by omega) dX12_findFamilies_82 (fun H locs hH hw => ?_)
                          obtain ⟨ig37, eig37⟩ : ∃ f, f = up2 ig10 (B + 71) v2.toInt.toNat v9 := ⟨_, rfl⟩
                          rw [← eig37] at hw
                          have hF : Ft B [71] ig lg ig37 lg11 := by rw [eig37]; exact hF.pi (by decide)
                          have hI : IM τ φ υ B kd ig37 rg := by rw [eig37]; exact hI.pi (by decide) (show okR none _ from trivial)
                          have inn : ∀ k, FIn σ v2.toInt.toNat k (ig37 (B + 71) v2.toInt.toNat).toInt := fun k => by rw [eig37, up2_eq]; exact FIn.yes g18_4 (by omega) kp9 kq9 heq (by omega) (by omega)
                          have otr : ∀ r, r < v2.toInt.toNat → FmR σ r (ig37 (B + 71) r).toInt := fun r hr => by rw [eig37, up2_j (by omega)]; exact g18_3 r hr
                          refine tc_inc hx hb dX12_findFamilies_83 hl (k := 0) rfl (by decide) (by decide) (fun z38 hz38 ls hl => ?_)
                          first | replace hz38 := hz38 (by omega) | clear hz38
                          have hl : lv_has ls 3 [(2, .int z38), (1, .int v2), (0, .ref (B + 49))] := hl
                          refine lv_goto (tgt := 18) hx hb dX12_findFamilies_86 (by decide) ?_
                          exact ih18 ls H locs ig37 lg11 z38 (lv_sub hl [0, 1, 2] rfl) hw hI hF (by omega) (by omega) (by omega) (otr) (inn _) (by omega)
        exact L18 ((v2.toInt + 1 - z8.toInt) + 1).toNat ls H locs ig7 lg4 z8 (lv_sub hl [0, 1, 2] rfl) hw hI hF (by omega) (by omega) (by omega) (fun r hr => by rw [eig7, up2_j (by omega)]; exact g2_2 r hr) (FIn.z (by rw [eig7, up2_eq]; omega) (by omega)) (by omega)
  exact L2 ((288 - z1.toInt) + 1).toNat ls s.heap [] ig lg z1 (lv_sub hl [0, 1] rfl) hw hI hF (by omega) (by omega) (fun r hr => by omega) (by omega)

set_option maxHeartbeats 4000000 in
set_option maxRecDepth 100000 in
theorem t_X12_worksE {υ : Option Int} {τ : Tp} {φ : Option Int} (l : Launch) (B : Nat) (D : va_G) (cA : Nat → ClassId) (kd : sK) (ig : sI) (rg : sR) (lg : sG) (sz : Nat) (σ : Sg) (hM : ∀ p, p < 288 → RowM B ig p (p : Int) (σ p)) (hI : IM τ φ υ B kd ig rg) : MC l B D cA yX12_works cX12_works 3 none (rL 31 0 0) [.ref (B + 49)] kd ig rg lg sz (PM τ φ υ B [49, 64, 65, 66, 67, 68, 69, 70, 71, 72, 73, 74] kd ig rg lg (fun r ig' lg' => (r = none ∧ FMm B σ ig'))) := by
  refine MC.of (own := RX12) (by decide +kernel) rfl (Nat.le_of_ble_eq_true rfl) ?_
  intro p e s m args below meth c ls C hr hlk hnm hw hsz hl
  have hx := C.1.1
  have hb := C.1.2.1
  have hown := C.1.2.2.2.1
  have hts := C.1.2.2.2.2
  have hl : lv_has ls 3 [(0, .ref (B + 49))] := hl
  have hF : Ft B [49, 64, 65, 66, 67, 68, 69, 70, 71, 72, 73, 74] ig lg ig lg := Ft.rf
  have hsh := hI.sh
  have hrm := hI.rm
  refine lv_aload_n hx hb dX12_works_0 rfl (lv_at hl 0 rfl) ?_
  refine r_callV (As := []) (rest := []) C hw (t_X12_findReads l B D cA kd ig rg lg _   hI) sv_X12_226 (hsh 49 _ rfl) rfl hl.1 rfl (Nat.le_of_ble_eq_true rfl) ⟨Nat.le_of_ble_eq_true rfl, Nat.le_of_ble_eq_true rfl⟩ ⟨Nat.le_of_ble_eq_true rfl, Nat.le_of_ble_eq_true rfl⟩ dX12_works_1 (fun r5 kd1 ig2 rg3 lg4 H locs hw hH hp6 => ?_)
  obtain ⟨rfl, rfl, hI, hchp6, hrhp6⟩ := hp6
  have hF : Ft B [49, 64, 65, 66, 67, 68, 69, 70, 71, 72, 73, 74] ig lg ig2 lg4 := Ft.tr hF hchp6 (by decide) (by decide)
  obtain rfl := hrhp6
  refine lv_iconst (v := 0) hx hb dX12_works_4 (by decide) (ti_c 0 (by decide) fun z7 hz7 => ?_)
  refine lv_istore_n (lv' := [(1, .int z7), (0, .ref (B + 49))]) hx hb dX12_works_5 rfl hl (by decide) rfl (fun ls hl => ?_)
  have L6 : ∀ (n : Nat) (ls : Array Slot) (H : Heap) (locs : List Loc) (ig9 : sI) (lg10 : sG) (v8 : Int32), lv_has ls 3 [(1, .int v8), (0, .ref (B + 49))] → WD B D cA s.heap kd ig9 rg lg10 H locs → IM τ φ υ B kd ig9 rg → Ft B [49, 64, 65, 66, 67, 68, 69, 70, 71, 72, 73, 74] ig lg ig9 lg10 → (0 ≤ v8.toInt) → (v8.toInt ≤ 288) → (∀ q : Nat, (q : Int) < v8.toInt → (ig9 (B + 73) q).toInt = 0 → (ig (B + 59) q).toInt = 2) → 288 - v8.toInt < (n : Int) → W p l e (rL 31 0 0) s m args below meth c H locs 0 0 (MQ below (QcW B D cA (PM τ φ υ B [49, 64, 65, 66, 67, 68, 69, 70, 71, 72, 73, 74] kd ig rg lg (fun r ig' lg' => (r = none ∧ FMm B σ ig')))) args s 0 0 (fun q => B ≤ q)) (F0 m 6 ls []) := by
    intro n6
    induction n6 with
    | zero => intro ls H locs ig9 lg10 v8 hl hw hI hF g6_0 g6_1 g6_2 hmu; exact absurd hmu (by omega)
    | succ n6 ih6 =>
      intro ls H locs ig9 lg10 v8 hl hw hI hF g6_0 g6_1 g6_2 hmu
      have dn6 := g6_2
      refine lv_iload_n hx hb dX12_works_6 rfl (lv_at hl 0 rfl) ?_
      refine lv_sipush (v := 288) hx hb dX12_works_7 (by decide) (ti_c 288 (by decide) fun z11 hz11 => ?_)
      refine b_ge (tgt := 164) hx hb dX12_works_10 (by decide) (fun c10 => ?_) (fun c10 => ?_)
      · refine lv_iconst (v := 1) hx hb dX12_works_164 (by decide) (ti_c 1 (by decide) fun z12 hz12 => ?_)
        refine lv_istore_n (lv' := [(1, .int z12), (0, .ref (B + 49))]) hx hb dX12_works_165 rfl hl (by decide) rfl (fun ls hl => ?_)
        have L166 : ∀ (n : Nat) (ls : Array Slot) (H : Heap) (locs : List Loc) (ig14 : sI) (lg15 : sG) (v13 : Int32), lv_has ls 3 [(1, .int v13), (0, .ref (B + 49))] → WD B D cA s.heap kd ig14 rg lg15 H locs → IM τ φ υ B kd ig14 rg → Ft B [49, 64, 65, 66, 67, 68, 69, 70, 71, 72, 73, 74] ig lg ig14 lg15 → (v13.toInt = 0 ∨ v13.toInt = 1) → (∀ q : Nat, (q : Int) < 288 → (ig14 (B + 73) q).toInt = 0 → (ig (B + 59) q).toInt = 2) → 2 * (ucnt (ig14 (B + 73)) 288 : Int) + v13.toInt < (n : Int) → W p l e (rL 31 0 0) s m args below meth c H locs 0 0 (MQ below (QcW B D cA (PM τ φ υ B [49, 64, 65, 66, 67, 68, 69, 70, 71, 72, 73, 74] kd ig rg lg (fun r ig' lg' => (r = none ∧ FMm B σ ig')))) args s 0 0 (fun q => B ≤ q)) (F0 m 166 ls []) := by
          intro n166
          induction n166 with
          | zero => intro ls H locs ig14 lg15 v13 hl hw hI hF g166_0 g166_1 hmu; exact absurd hmu (by omega)
          | succ n166 ih166 =>
            intro ls H locs ig14 lg15 v13 hl hw hI hF g166_0 g166_1 hmu
            have dna := g166_1
            obtain ⟨igo, eigo⟩ : ∃ f, f = ig14 := ⟨_, rfl⟩
            have ecn : ucnt (igo (B + 73)) 288 = ucnt (ig14 (B + 73)) 288 := by rw [eigo]
            refine lv_iload_n hx hb dX12_works_166 rfl (lv_at hl 0 rfl) ?_
            refine z_eq (tgt := 221) hx hb dX12_works_167 (by decide) (fun c167 => ?_) (fun c167 => ?_)
            · refine lv_aload_n hx hb dX12_works_221 rfl (lv_at hl 1 rfl) ?_
              refine r_callV (As := []) (rest := []) C hw (t_X12_findFamiliesE l B D cA kd ig14 rg lg15 _  σ (fun p hp => (hM p hp).ft hF (by decide)) hI) sv_X12_238 (hsh 49 _ rfl) rfl hl.1 rfl (Nat.le_of_ble_eq_true rfl) ⟨Nat.le_of_ble_eq_true rfl, Nat.le_of_ble_eq_true rfl⟩ ⟨Nat.le_of_ble_eq_true rfl, Nat.le_of_ble_eq_true rfl⟩ dX12_works_222 (fun r20 kd16 ig17 rg18 lg19 H locs hw hH hp21 => ?_)
              obtain ⟨rfl, rfl, hI, hchp21, hrhp21⟩ := hp21
              have hF : Ft B [49, 64, 65, 66, 67, 68, 69, 70, 71, 72, 73, 74] ig lg ig17 lg19 := Ft.tr hF hchp21 (by decide) (by decide)
              obtain ⟨rfl, hvhp21⟩ := hrhp21
              exact r_vret C hw hr hlk (Nat.le_of_ble_eq_true rfl) (Nat.le_of_ble_eq_true rfl) dX12_works_225 ⟨rfl, rfl, hI, hF, ⟨rfl, hvhp21⟩⟩
            · refine lv_iconst (v := 0) hx hb dX12_works_170 (by decide) (ti_c 0 (by decide) fun z22 hz22 => ?_)
              refine lv_istore_n (lv' := [(1, .int z22), (0, .ref (B + 49))]) hx hb dX12_works_171 rfl hl (by decide) rfl (fun ls hl => ?_)
              refine lv_iconst (v := 0) hx hb dX12_works_172 (by decide) (ti_c 0 (by decide) fun z23 hz23 => ?_)
              refine lv_istore_n (lv' := [(2, .int z23), (1, .int z22), (0, .ref (B + 49))]) hx hb dX12_works_173 rfl hl (by decide) rfl (fun ls hl => ?_)
              have L174 : ∀ (n : Nat) (ls : Array Slot) (H : Heap) (locs : List Loc) (ig26 : sI) (lg27 : sG) (v24 : Int32) (v25 : Int32), lv_has ls 3 [(2, .int v24), (1, .int v25), (0, .ref (B + 49))] → WD B D cA s.heap kd ig26 rg lg27 H locs → IM τ φ υ B kd ig26 rg → Ft B [49, 64, 65, 66, 67, 68, 69, 70, 71, 72, 73, 74] ig lg ig26 lg27 → (0 ≤ v24.toInt) → (v24.toInt ≤ 288) → (v25.toInt = 0 ∨ v25.toInt = 1) → (∀ q : Nat, (q : Int) < 288 → (ig26 (B + 73) q).toInt = 0 → (ig (B + 59) q).toInt = 2) → ((ucnt (ig26 (B + 73)) 288 : Int) + v25.toInt ≤ (ucnt (igo (B + 73)) 288 : Int)) → 288 - v24.toInt < (n : Int) → W p l e (rL 31 0 0) s m args below meth c H locs 0 0 (MQ below (QcW B D cA (PM τ φ υ B [49, 64, 65, 66, 67, 68, 69, 70, 71, 72, 73, 74] kd ig rg lg (fun r ig' lg' => (r = none ∧ FMm B σ ig')))) args s 0 0 (fun q => B ≤ q)) (F0 m 174 ls []) := by
                intro n174
                induction n174 with
                | zero => intro ls H locs ig26 lg27 v24 v25 hl hw hI hF g174_0 g174_1 g174_2 g174_3 g174_4 hmu; exact absurd hmu (by omega)
                | succ n174 ih174 =>
                  intro ls H locs ig26 lg27 v24 v25 hl hw hI hF g174_0 g174_1 g174_2 g174_3 g174_4 hmu
                  have dna := g174_3
                  refine lv_iload_n hx hb dX12_works_174 rfl (lv_at hl 0 rfl) ?_
                  refine lv_sipush (v := 288) hx hb dX12_works_175 (by decide) (ti_c 288 (by decide) fun z28 hz28 => ?_)
                  refine b_ge (tgt := 218) hx hb dX12_works_178 (by decide) (fun c178 => ?_) (fun c178 => ?_)
                  · refine lv_goto (tgt := 166) hx hb dX12_works_218 (by decide) ?_
                    exact ih166 ls H locs ig26 lg27 v25 (lv_sub hl [1, 2] rfl) hw hI hF (by omega) (dna) (by omega)
                  · refine lv_aload_n hx hb dX12_works_181 rfl (lv_at hl 2 rfl) ?_
                    refine r_get C hw (hsh 49 _ rfl) fl_X12_124 (oV_r rfl (hrm (49, 30, 73) (by decide))) dX12_works_182 ?_
                    refine lv_iload_n hx hb dX12_works_185 rfl (lv_at hl 0 rfl) ?_
                    refine r_zald C hw (hsh 73 _ rfl) (by omega) (by omega) dX12_works_186 (ti_c (ig26 (B + 73) v24.toInt.toNat).toInt rfl fun z29 hz29 => ?_)
                    refine z_ne (tgt := 212) hx hb dX12_works_187 (by decide) (fun c187 => ?_) (fun c187 => ?_)
                    · refine tc_inc hx hb dX12_works_212 hl (k := 0) rfl (by decide) (by decide) (fun z31 hz31 ls hl => ?_)
                      first | replace hz31 := hz31 (by omega) | clear hz31
                      have hl : lv_has ls 3 [(2, .int z31), (1, .int v25), (0, .ref (B + 49))] := hl
                      refine lv_goto (tgt := 174) hx hb dX12_works_215 (by decide) ?_
                      exact ih174 ls H locs ig26 lg27 z31 v25 (lv_sub hl [0, 1, 2] rfl) hw hI hF (by omega) (by omega) (by omega) (dna) (by omega) (by omega)
                    · refine lv_aload_n hx hb dX12_works_190 rfl (lv_at hl 2 rfl) ?_
                      refine lv_iload_n hx hb dX12_works_191 rfl (lv_at hl 0 rfl) ?_
                      refine r_callV (As := [.int v24]) (rest := []) C hw (t_X12_isReady l B D cA kd ig26 rg lg27 _ v24 (by omega) hI) sv_X12_232 (hsh 49 _ rfl) rfl hl.1 rfl (Nat.le_of_ble_eq_true rfl) ⟨Nat.le_of_ble_eq_true rfl, Nat.le_of_ble_eq_true rfl⟩ ⟨Nat.le_of_ble_eq_true rfl, Nat.le_of_ble_eq_true rfl⟩ dX12_works_192 (fun r36 kd32 ig33 rg34 lg35 H locs hw hH hp37 => ?_)
                      obtain ⟨rfl, rfl, rfl, rfl, hzhp37, hrhp37⟩ := hp37
                      obtain ⟨z38, rfl, hz38⟩ := hrhp37
                      refine z_eq (tgt := 212) hx hb dX12_works_195 (by decide) (fun c195 => ?_) (fun c195 => ?_)
                      · refine tc_inc hx hb dX12_works_212 hl (k := 0) rfl (by decide) (by decide) (fun z39 hz39 ls hl => ?_)
                        first | replace hz39 := hz39 (by omega) | clear hz39
                        have hl : lv_has ls 3 [(2, .int z39), (1, .int v25), (0, .ref (B + 49))] := hl
                        refine lv_goto (tgt := 174) hx hb dX12_works_215 (by decide) ?_
                        exact ih174 ls H locs ig26 lg27 z39 v25 (lv_sub hl [0, 1, 2] rfl) hw hI hF (by omega) (by omega) (by omega) (dna) (by omega) (by omega)
                      · refine lv_aload_n hx hb dX12_works_198 rfl (lv_at hl 2 rfl) ?_
                        refine lv_iload_n hx hb dX12_works_199 rfl (lv_at hl 0 rfl) ?_
                        have hkw := dna v24.toInt.toNat (by omega) (by omega)
                        refine r_callV (As := [.int v24]) (rest := []) C hw (t_X12_work l B D cA kd ig26 rg lg27 _ v24 (by omega) (by rw [Ft.i hF 59 _ (by decide)]; exact hkw) hI) sv_X12_235 (hsh 49 _ rfl) rfl hl.1 rfl (Nat.le_of_ble_eq_true rfl) ⟨Nat.le_of_ble_eq_true rfl, Nat.le_of_ble_eq_true rfl⟩ ⟨Nat.le_of_ble_eq_true rfl, Nat.le_of_ble_eq_true rfl⟩ dX12_works_200 (fun r44 kd40 ig41 rg42 lg43 H locs hw hH hp45 => ?_)
                        obtain ⟨rfl, rfl, hI, hchp45, hrhp45⟩ := hp45
                        have hF : Ft B [49, 64, 65, 66, 67, 68, 69, 70, 71, 72, 73, 74] ig lg ig41 lg43 := Ft.tr hF hchp45 (by decide) (by decide)
                        obtain rfl := hrhp45
                        have e73 : ∀ k, ig41 (B + 73) k = ig26 (B + 73) k := fun k => hchp45.i 73 k (by decide)
                        have u73 := ucnt_same 288 (fun k _ => e73 k)
                        have z73 := e73 v24.toInt.toNat
                        have dna : ∀ q : Nat, (q : Int) < 288 → (ig41 (B + 73) q).toInt = 0 → (ig (B + 59) q).toInt = 2 := fun q h1 h2 => dna q h1 (by rw [← e73]; exact h2)
                        have zz73 : (ig41 (B + 73) v24.toInt.toNat).toInt = 0 := by rw [z73]; omega
                        refine lv_aload_n hx hb dX12_works_203 rfl (lv_at hl 2 rfl) ?_
                        refine r_get C hw (hsh 49 _ rfl) fl_X12_124 (oV_r rfl (hrm (49, 30, 73) (by decide))) dX12_works_204 ?_
                        refine lv_iload_n hx hb dX12_works_207 rfl (lv_at hl 0 rfl) ?_
                        refine lv_iconst (v := 1) hx hb dX12_works_208 (by decide) (ti_c 1 (by decide) fun z46 hz46 => ?_)
                        refine r_zast C hw (hsh 73 _ rfl) (by omega) (by omega) (nar_b (by omega)) dX12_works_209 (fun H locs hH hw => ?_)
                        obtain ⟨ig47, eig47⟩ : ∃ f, f = up2 ig41 (B + 73) v24.toInt.toNat z46 := ⟨_, rfl⟩
                        rw [← eig47] at hw
                        have hF : Ft B [49, 64, 65, 66, 67, 68, 69, 70, 71, 72, 73, 74] ig lg ig47 lg43 := by rw [eig47]; exact hF.pi (by decide)
                        have hI : IM τ φ υ B kd ig47 rg := by rw [eig47]; exact hI.pi (by decide) (show okR none _ from trivial)
                        have ucn := ucnt_set (f := ig41 (B + 73)) (g := ig47 (B + 73)) (p := v24.toInt.toNat) (by omega) (by rw [eig47, up2_eq]; omega) (fun k hk => by rw [eig47, up2_j hk]) 288 (by omega)
                        have dna : ∀ q : Nat, (q : Int) < 288 → (ig47 (B + 73) q).toInt = 0 → (ig (B + 59) q).toInt = 2 := fun q h1 h2 => dna q h1 (by by_cases hq : q = v24.toInt.toNat; (subst hq; rw [eig47, up2_eq] at h2; omega); (rw [eig47, up2_j hq] at h2; exact h2))
                        refine lv_iconst (v := 1) hx hb dX12_works_210 (by decide) (ti_c 1 (by decide) fun z48 hz48 => ?_)
                        refine lv_istore_n (lv' := [(1, .int z48), (2, .int v24), (0, .ref (B + 49))]) hx hb dX12_works_211 rfl hl (by decide) rfl (fun ls hl => ?_)
                        refine tc_inc hx hb dX12_works_212 hl (k := 1) rfl (by decide) (by decide) (fun z49 hz49 ls hl => ?_)
                        first | replace hz49 := hz49 (by omega) | clear hz49
                        have hl : lv_has ls 3 [(2, .int z49), (1, .int z48), (0, .ref (B + 49))] := hl
                        refine lv_goto (tgt := 174) hx hb dX12_works_215 (by decide) ?_
                        exact ih174 ls H locs ig47 lg43 z49 z48 (lv_sub hl [0, 1, 2] rfl) hw hI hF (by omega) (by omega) (by omega) (dna) (by omega) (by omega)
              exact L174 ((288 - z23.toInt) + 1).toNat ls H locs ig14 lg15 z23 z22 (lv_sub hl [0, 1, 2] rfl) hw hI hF (by omega) (by omega) (by omega) (dna) (by rw [eigo]; omega) (by omega)
        exact L166 ((2 * (ucnt (ig9 (B + 73)) 288 : Int) + z12.toInt) + 1).toNat ls H locs ig9 lg10 z12 (lv_sub hl [0, 1] rfl) hw hI hF (by omega) (fun q h1 h2 => dn6 q (by omega) h2) (by omega)
      · refine lv_aload_n hx hb dX12_works_13 rfl (lv_at hl 1 rfl) ?_
        refine r_get C hw (hsh 49 _ rfl) fl_X12_124 (oV_r rfl (hrm (49, 30, 73) (by decide))) dX12_works_14 ?_
        refine lv_iload_n hx hb dX12_works_17 rfl (lv_at hl 0 rfl) ?_
        refine lv_aload_n hx hb dX12_works_18 rfl (lv_at hl 1 rfl) ?_
        refine r_get C hw (hsh 49 _ rfl) fl_X12_80 (oV_r rfl (hrm (49, 15, 59) (by decide))) dX12_works_19 ?_
        refine lv_iload_n hx hb dX12_works_22 rfl (lv_at hl 0 rfl) ?_
        refine r_iald C hw (hsh 59 _ rfl) (by omega) (by omega) dX12_works_23 (ti_c (ig9 (B + 59) v8.toInt.toNat).toInt rfl fun z50 hz50 => ?_)
        rw [Ft.i hF 59 _ (by decide)] at hz50
        refine lv_iconst (v := 2) hx hb dX12_works_24 (by decide) (ti_c 2 (by decide) fun z52 hz52 => ?_)
        have J41 : ∀ (ls : Array Slot) (H : Heap) (locs : List Loc) (ig54 : sI) (lg55 : sG) (u53 : Int32), lv_has ls 3 [(1, .int v8), (0, .ref (B + 49))] → WD B D cA s.heap kd ig54 rg lg55 H locs → IM τ φ υ B kd ig54 rg → Ft B [49, 64, 65, 66, 67, 68, 69, 70, 71, 72, 73, 74] ig lg ig54 lg55 → (u53.toInt = 0 ∨ u53.toInt = 1) → (u53.toInt = 0 → (ig (B + 59) v8.toInt.toNat).toInt = 2) → (∀ q : Nat, (q : Int) < v8.toInt → (ig54 (B + 73) q).toInt = 0 → (ig (B + 59) q).toInt = 2) → W p l e (rL 31 0 0) s m args below meth c H locs 0 0 (MQ below (QcW B D cA (PM τ φ υ B [49, 64, 65, 66, 67, 68, 69, 70, 71, 72, 73, 74] kd ig rg lg (fun r ig' lg' => (r = none ∧ FMm B σ ig')))) args s 0 0 (fun q => B ≤ q)) (F0 m 41 ls [.int u53, .int v8, .ref (B + 73)]) := by
          intro ls H locs ig54 lg55 u53 hl hw hI hF g41_0 g41_1 g41_2
          refine r_zast C hw (hsh 73 _ rfl) (by omega) (by omega) (nar_b (by omega)) dX12_works_41 (fun H locs hH hw => ?_)
          obtain ⟨ig56, eig56⟩ : ∃ f, f = up2 ig54 (B + 73) v8.toInt.toNat u53 := ⟨_, rfl⟩
          rw [← eig56] at hw
          have hF : Ft B [49, 64, 65, 66, 67, 68, 69, 70, 71, 72, 73, 74] ig lg ig56 lg55 := by rw [eig56]; exact hF.pi (by decide)
          have hI : IM τ φ υ B kd ig56 rg := by rw [eig56]; exact hI.pi (by decide) (show okR none _ from trivial)
          have dn : ∀ q : Nat, (q : Int) < v8.toInt + 1 → (ig56 (B + 73) q).toInt = 0 → (ig (B + 59) q).toInt = 2 := by
            intro q h1 h2
            by_cases hq : q = v8.toInt.toNat
            · subst hq
              rw [eig56, up2_eq] at h2
              exact g41_1 h2
            · rw [eig56, up2_j hq] at h2
              exact g41_2 q (by omega) h2
          refine lv_aload_n hx hb dX12_works_42 rfl (lv_at hl 1 rfl) ?_
          refine r_get C hw (hsh 49 _ rfl) fl_X12_102 (oV_r rfl (hrm (49, 23, 66) (by decide))) dX12_works_43 ?_
          refine lv_iload_n hx hb dX12_works_46 rfl (lv_at hl 0 rfl) ?_
          refine lv_aload_n hx hb dX12_works_47 rfl (lv_at hl 1 rfl) ?_
          refine r_get C hw (hsh 49 _ rfl) fl_X12_80 (oV_r rfl (hrm (49, 15, 59) (by decide))) dX12_works_48 ?_
          refine lv_iload_n hx hb dX12_works_51 rfl (lv_at hl 0 rfl) ?_
          refine r_iald C hw (hsh 59 _ rfl) (by omega) (by omega) dX12_works_52 (ti_c (ig56 (B + 59) v8.toInt.toNat).toInt rfl fun z57 hz57 => ?_)
          rw [Ft.i hF 59 _ (by decide)] at hz57
          refine lv_iconst (v := 1) hx hb dX12_works_53 (by decide) (ti_c 1 (by decide) fun z59 hz59 => ?_)
          have J67 : ∀ (ls : Array Slot) (H : Heap) (locs : List Loc) (ig61 : sI) (lg62 : sG) (u60 : Int32), lv_has ls 3 [(1, .int v8), (0, .ref (B + 49))] → WD B D cA s.heap kd ig61 rg lg62 H locs → IM τ φ υ B kd ig61 rg → Ft B [49, 64, 65, 66, 67, 68, 69, 70, 71, 72, 73, 74] ig lg ig61 lg62 → (∀ q : Nat, (q : Int) < v8.toInt + 1 → (ig61 (B + 73) q).toInt = 0 → (ig (B + 59) q).toInt = 2) → W p l e (rL 31 0 0) s m args below meth c H locs 0 0 (MQ below (QcW B D cA (PM τ φ υ B [49, 64, 65, 66, 67, 68, 69, 70, 71, 72, 73, 74] kd ig rg lg (fun r ig' lg' => (r = none ∧ FMm B σ ig')))) args s 0 0 (fun q => B ≤ q)) (F0 m 67 ls [.int u60, .int v8, .ref (B + 66)]) := by
            intro ls H locs ig61 lg62 u60 hl hw hI hF g67_0
            have dn := g67_0
            refine r_iast C hw (hsh 66 _ rfl) (by omega) (by omega) dX12_works_67 (fun H locs hH hw => ?_)
            obtain ⟨ig63, eig63⟩ : ∃ f, f = up2 ig61 (B + 66) v8.toInt.toNat u60 := ⟨_, rfl⟩
            rw [← eig63] at hw
            have hF : Ft B [49, 64, 65, 66, 67, 68, 69, 70, 71, 72, 73, 74] ig lg ig63 lg62 := by rw [eig63]; exact hF.pi (by decide)
            have hI : IM τ φ υ B kd ig63 rg := by rw [eig63]; exact hI.pi (by decide) (show okR none _ from trivial)
            have dn : ∀ q : Nat, (q : Int) < v8.toInt + 1 → (ig63 (B + 73) q).toInt = 0 → (ig (B + 59) q).toInt = 2 := fun q h1 h2 => dn q h1 (by rw [eig63, up2_a (by omega)] at h2; exact h2)
            refine lv_aload_n hx hb dX12_works_68 rfl (lv_at hl 1 rfl) ?_
            refine r_get C hw (hsh 49 _ rfl) fl_X12_105 (oV_r rfl (hrm (49, 24, 67) (by decide))) dX12_works_69 ?_
            refine lv_iload_n hx hb dX12_works_72 rfl (lv_at hl 0 rfl) ?_
            refine lv_aload_n hx hb dX12_works_73 rfl (lv_at hl 1 rfl) ?_
            refine r_get C hw (hsh 49 _ rfl) fl_X12_80 (oV_r rfl (hrm (49, 15, 59) (by decide))) dX12_works_74 ?_
            refine lv_iload_n hx hb dX12_works_77 rfl (lv_at hl 0 rfl) ?_
            refine r_iald C hw (hsh 59 _ rfl) (by omega) (by omega) dX12_works_78 (ti_c (ig63 (B + 59) v8.toInt.toNat).toInt rfl fun z64 hz64 => ?_)
            rw [Ft.i hF 59 _ (by decide)] at hz64
            refine lv_iconst (v := 2) hx hb dX12_works_79 (by decide) (ti_c 2 (by decide) fun z66 hz66 => ?_)
            have J96 : ∀ (ls : Array Slot) (H : Heap) (locs : List Loc) (ig68 : sI) (lg69 : sG) (u67 : Int32), lv_has ls 3 [(1, .int v8), (0, .ref (B + 49))] → WD B D cA s.heap kd ig68 rg lg69 H locs → IM τ φ υ B kd ig68 rg → Ft B [49, 64, 65, 66, 67, 68, 69, 70, 71, 72, 73, 74] ig lg ig68 lg69 → (∀ q : Nat, (q : Int) < v8.toInt + 1 → (ig68 (B + 73) q).toInt = 0 → (ig (B + 59) q).toInt = 2) → W p l e (rL 31 0 0) s m args below meth c H locs 0 0 (MQ below (QcW B D cA (PM τ φ υ B [49, 64, 65, 66, 67, 68, 69, 70, 71, 72, 73, 74] kd ig rg lg (fun r ig' lg' => (r = none ∧ FMm B σ ig')))) args s 0 0 (fun q => B ≤ q)) (F0 m 96 ls [.int u67, .int v8, .ref (B + 67)]) := by
              intro ls H locs ig68 lg69 u67 hl hw hI hF g96_0
              have dn := g96_0
              refine r_iast C hw (hsh 67 _ rfl) (by omega) (by omega) dX12_works_96 (fun H locs hH hw => ?_)
              obtain ⟨ig70, eig70⟩ : ∃ f, f = up2 ig68 (B + 67) v8.toInt.toNat u67 := ⟨_, rfl⟩
              rw [← eig70] at hw
              have hF : Ft B [49, 64, 65, 66, 67, 68, 69, 70, 71, 72, 73, 74] ig lg ig70 lg69 := by rw [eig70]; exact hF.pi (by decide)
              have hI : IM τ φ υ B kd ig70 rg := by rw [eig70]; exact hI.pi (by decide) (show okR none _ from trivial)
              have dn : ∀ q : Nat, (q : Int) < v8.toInt + 1 → (ig70 (B + 73) q).toInt = 0 → (ig (B + 59) q).toInt = 2 := fun q h1 h2 => dn q h1 (by rw [eig70, up2_a (by omega)] at h2; exact h2)
              refine lv_aload_n hx hb dX12_works_97 rfl (lv_at hl 1 rfl) ?_
              refine r_get C hw (hsh 49 _ rfl) fl_X12_111 (oV_r rfl (hrm (49, 26, 69) (by decide))) dX12_works_98 ?_
              refine lv_iload_n hx hb dX12_works_101 rfl (lv_at hl 0 rfl) ?_
              refine lv_iconst (v := 0) hx hb dX12_works_102 (by decide) (ti_c 0 (by decide) fun z71 hz71 => ?_)
              refine r_zast C hw (hsh 69 _ rfl) (by omega) (by omega) (nar_b (by omega)) dX12_works_103 (fun H locs hH hw => ?_)
              obtain ⟨ig72, eig72⟩ : ∃ f, f = up2 ig70 (B + 69) v8.toInt.toNat z71 := ⟨_, rfl⟩
              rw [← eig72] at hw
              have hF : Ft B [49, 64, 65, 66, 67, 68, 69, 70, 71, 72, 73, 74] ig lg ig72 lg69 := by rw [eig72]; exact hF.pi (by decide)
              have hI : IM τ φ υ B kd ig72 rg := by rw [eig72]; exact hI.pi (by decide) (show okR none _ from trivial)
              have dn : ∀ q : Nat, (q : Int) < v8.toInt + 1 → (ig72 (B + 73) q).toInt = 0 → (ig (B + 59) q).toInt = 2 := fun q h1 h2 => dn q h1 (by rw [eig72, up2_a (by omega)] at h2; exact h2)
              refine lv_aload_n hx hb dX12_works_104 rfl (lv_at hl 1 rfl) ?_
              refine r_get C hw (hsh 49 _ rfl) fl_X12_114 (oV_r rfl (hrm (49, 27, 70) (by decide))) dX12_works_105 ?_
              refine lv_iload_n hx hb dX12_works_108 rfl (lv_at hl 0 rfl) ?_
              refine lv_iconst (v := 0) hx hb dX12_works_109 (by decide) (ti_c 0 (by decide) fun z73 hz73 => ?_)
              refine r_zast C hw (hsh 70 _ rfl) (by omega) (by omega) (nar_b (by omega)) dX12_works_110 (fun H locs hH hw => ?_)
              obtain ⟨ig74, eig74⟩ : ∃ f, f = up2 ig72 (B + 70) v8.toInt.toNat z73 := ⟨_, rfl⟩
              rw [← eig74] at hw
              have hF : Ft B [49, 64, 65, 66, 67, 68, 69, 70, 71, 72, 73, 74] ig lg ig74 lg69 := by rw [eig74]; exact hF.pi (by decide)
              have hI : IM τ φ υ B kd ig74 rg := by rw [eig74]; exact hI.pi (by decide) (show okR none _ from trivial)
              have dn : ∀ q : Nat, (q : Int) < v8.toInt + 1 → (ig74 (B + 73) q).toInt = 0 → (ig (B + 59) q).toInt = 2 := fun q h1 h2 => dn q h1 (by rw [eig74, up2_a (by omega)] at h2; exact h2)
              refine lv_iconst (v := 0) hx hb dX12_works_111 (by decide) (ti_c 0 (by decide) fun z75 hz75 => ?_)
              refine lv_istore_n (lv' := [(2, .int z75), (1, .int v8), (0, .ref (B + 49))]) hx hb dX12_works_112 rfl hl (by decide) rfl (fun ls hl => ?_)
              have L113 : ∀ (n : Nat) (ls : Array Slot) (H : Heap) (locs : List Loc) (ig77 : sI) (lg78 : sG) (v76 : Int32), lv_has ls 3 [(2, .int v76), (1, .int v8), (0, .ref (B + 49))] → WD B D cA s.heap kd ig77 rg lg78 H locs → IM τ φ υ B kd ig77 rg → Ft B [49, 64, 65, 66, 67, 68, 69, 70, 71, 72, 73, 74] ig lg ig77 lg78 → (0 ≤ v76.toInt) → (v76.toInt ≤ 3) → (∀ q : Nat, (q : Int) < v8.toInt + 1 → (ig77 (B + 73) q).toInt = 0 → (ig (B + 59) q).toInt = 2) → 3 - v76.toInt < (n : Int) → W p l e (rL 31 0 0) s m args below meth c H locs 0 0 (MQ below (QcW B D cA (PM τ φ υ B [49, 64, 65, 66, 67, 68, 69, 70, 71, 72, 73, 74] kd ig rg lg (fun r ig' lg' => (r = none ∧ FMm B σ ig')))) args s 0 0 (fun q => B ≤ q)) (F0 m 113 ls []) := by
                intro n113
                induction n113 with
                | zero => intro ls H locs ig77 lg78 v76 hl hw hI hF g113_0 g113_1 g113_2 hmu; exact absurd hmu (by omega)
                | succ n113 ih113 =>
                  intro ls H locs ig77 lg78 v76 hl hw hI hF g113_0 g113_1 g113_2 hmu
                  have dn := g113_2
                  refine lv_iload_n hx hb dX12_works_113 rfl (lv_at hl 0 rfl) ?_
                  refine lv_iconst (v := 3) hx hb dX12_works_114 (by decide) (ti_c 3 (by decide) fun z79 hz79 => ?_)
                  refine b_ge (tgt := 158) hx hb dX12_works_115 (by decide) (fun c115 => ?_) (fun c115 => ?_)
                  · refine tc_inc hx hb dX12_works_158 hl (k := 1) rfl (by decide) (by decide) (fun z80 hz80 ls hl => ?_)
                    first | replace hz80 := hz80 (by omega) | clear hz80
                    have hl : lv_has ls 3 [(1, .int z80), (2, .int v76), (0, .ref (B + 49))] := hl
                    refine lv_goto (tgt := 6) hx hb dX12_works_161 (by decide) ?_
                    exact ih6 ls H locs ig77 lg78 z80 (lv_sub hl [0, 2] rfl) hw hI hF (by omega) (by omega) (fun q h1 h2 => dn q (by omega) h2) (by omega)
                  · refine lv_aload_n hx hb dX12_works_118 rfl (lv_at hl 2 rfl) ?_
                    refine r_get C hw (hsh 49 _ rfl) fl_X12_108 (oV_r rfl (hrm (49, 25, 68) (by decide))) dX12_works_119 ?_
                    refine lv_iconst (v := 3) hx hb dX12_works_122 (by decide) (ti_c 3 (by decide) fun z81 hz81 => ?_)
                    refine lv_iload_n hx hb dX12_works_123 rfl (lv_at hl 1 rfl) ?_
                    refine lv_imul hx hb dX12_works_124 (tc_mulL 3 hz81 fun z82 hz82 => ?_)
                    first | replace hz82 := hz82 (by omega) | clear hz82
                    refine lv_iload_n hx hb dX12_works_125 rfl (lv_at hl 0 rfl) ?_
                    refine lv_iadd hx hb dX12_works_126 (tc_add fun z83 hz83 => ?_)
                    first | replace hz83 := hz83 (by omega) | clear hz83
                    refine lv_aload_n hx hb dX12_works_127 rfl (lv_at hl 2 rfl) ?_
                    refine r_get C hw (hsh 49 _ rfl) fl_X12_80 (oV_r rfl (hrm (49, 15, 59) (by decide))) dX12_works_128 ?_
                    refine lv_iload_n hx hb dX12_works_131 rfl (lv_at hl 1 rfl) ?_
                    refine r_iald C hw (hsh 59 _ rfl) (by omega) (by omega) dX12_works_132 (ti_c (ig77 (B + 59) v8.toInt.toNat).toInt rfl fun z84 hz84 => ?_)
                    rw [Ft.i hF 59 _ (by decide)] at hz84
                    refine lv_iconst (v := 1) hx hb dX12_works_133 (by decide) (ti_c 1 (by decide) fun z86 hz86 => ?_)
                    have J151 : ∀ (ls : Array Slot) (H : Heap) (locs : List Loc) (ig88 : sI) (lg89 : sG) (u87 : Int32), lv_has ls 3 [(2, .int v76), (1, .int v8), (0, .ref (B + 49))] → WD B D cA s.heap kd ig88 rg lg89 H locs → IM τ φ υ B kd ig88 rg → Ft B [49, 64, 65, 66, 67, 68, 69, 70, 71, 72, 73, 74] ig lg ig88 lg89 → (∀ q : Nat, (q : Int) < v8.toInt + 1 → (ig88 (B + 73) q).toInt = 0 → (ig (B + 59) q).toInt = 2) → W p l e (rL 31 0 0) s m args below meth c H locs 0 0 (MQ below (QcW B D cA (PM τ φ υ B [49, 64, 65, 66, 67, 68, 69, 70, 71, 72, 73, 74] kd ig rg lg (fun r ig' lg' => (r = none ∧ FMm B σ ig')))) args s 0 0 (fun q => B ≤ q)) (F0 m 151 ls [.int u87, .int z83, .ref (B + 68)]) := by
                      intro ls H locs ig88 lg89 u87 hl hw hI hF g151_0
                      have dn := g151_0
                      refine r_iast C hw (hsh 68 _ rfl) (by omega) (by omega) dX12_works_151 (fun H locs hH hw => ?_)
                      obtain ⟨ig90, eig90⟩ : ∃ f, f = up2 ig88 (B + 68) z83.toInt.toNat u87 := ⟨_, rfl⟩
                      rw [← eig90] at hw
                      have hF : Ft B [49, 64, 65, 66, 67, 68, 69, 70, 71, 72, 73, 74] ig lg ig90 lg89 := by rw [eig90]; exact hF.pi (by decide)
                      have hI : IM τ φ υ B kd ig90 rg := by rw [eig90]; exact hI.pi (by decide) (show okR none _ from trivial)
                      have dn : ∀ q : Nat, (q : Int) < v8.toInt + 1 → (ig90 (B + 73) q).toInt = 0 → (ig (B + 59) q).toInt = 2 := fun q h1 h2 => dn q h1 (by rw [eig90, up2_a (by omega)] at h2; exact h2)
                      refine tc_inc hx hb dX12_works_152 hl (k := 0) rfl (by decide) (by decide) (fun z91 hz91 ls hl => ?_)
                      first | replace hz91 := hz91 (by omega) | clear hz91
                      have hl : lv_has ls 3 [(2, .int z91), (1, .int v8), (0, .ref (B + 49))] := hl
                      refine lv_goto (tgt := 113) hx hb dX12_works_155 (by decide) ?_
                      exact ih113 ls H locs ig90 lg89 z91 (lv_sub hl [0, 1, 2] rfl) hw hI hF (by omega) (by omega) (dn) (by omega)
                    refine b_ne (tgt := 150) hx hb dX12_works_134 (by decide) (fun c134 => ?_) (fun c134 => ?_)
                    · refine lv_iconst (v := 0) hx hb dX12_works_150 (by decide) (ti_c 0 (by decide) fun z92 hz92 => ?_)
                      exact J151 ls H locs ig77 lg78 z92 (lv_sub hl [0, 1, 2] rfl) hw hI hF (dn)
                    · refine lv_aload_n hx hb dX12_works_137 rfl (lv_at hl 2 rfl) ?_
                      refine r_get C hw (hsh 49 _ rfl) fl_X12_86 (oV_r rfl (hrm (49, 17, 61) (by decide))) dX12_works_138 ?_
                      refine lv_iconst (v := 3) hx hb dX12_works_141 (by decide) (ti_c 3 (by decide) fun z93 hz93 => ?_)
                      refine lv_iload_n hx hb dX12_works_142 rfl (lv_at hl 1 rfl) ?_
                      refine lv_imul hx hb dX12_works_143 (tc_mulL 3 hz93 fun z94 hz94 => ?_)
                      first | replace hz94 := hz94 (by omega) | clear hz94
                      refine lv_iload_n hx hb dX12_works_144 rfl (lv_at hl 0 rfl) ?_
                      refine lv_iadd hx hb dX12_works_145 (tc_add fun z95 hz95 => ?_)
                      first | replace hz95 := hz95 (by omega) | clear hz95
                      refine r_iald C hw (hsh 61 _ rfl) (by omega) (by omega) dX12_works_146 (ti_c (ig77 (B + 61) z95.toInt.toNat).toInt rfl fun z96 hz96 => ?_)
                      rw [Ft.i hF 61 _ (by decide)] at hz96
                      refine lv_goto (tgt := 151) hx hb dX12_works_147 (by decide) ?_
                      exact J151 ls H locs ig77 lg78 z96 (lv_sub hl [0, 1, 2] rfl) hw hI hF (dn)
              exact L113 ((3 - z75.toInt) + 1).toNat ls H locs ig74 lg69 z75 (lv_sub hl [0, 1, 2] rfl) hw hI hF (by omega) (by omega) (dn) (by omega)
            refine b_ne (tgt := 95) hx hb dX12_works_80 (by decide) (fun c80 => ?_) (fun c80 => ?_)
            · refine lv_iconst (v := 0) hx hb dX12_works_95 (by decide) (ti_c 0 (by decide) fun z98 hz98 => ?_)
              exact J96 ls H locs ig63 lg62 z98 (lv_sub hl [0, 1] rfl) hw hI hF (dn)
            · refine lv_aload_n hx hb dX12_works_83 rfl (lv_at hl 1 rfl) ?_
              refine lv_iload_n hx hb dX12_works_84 rfl (lv_at hl 0 rfl) ?_
              refine r_callV (As := [.int v8]) (rest := [.int v8, .ref (B + 67)]) C hw (t_X12_isRing l B D cA kd ig63 rg lg62 _ v8 (by omega) hI) sv_X12_229 (hsh 49 _ rfl) rfl hl.1 rfl (Nat.le_of_ble_eq_true rfl) ⟨Nat.le_of_ble_eq_true rfl, Nat.le_of_ble_eq_true rfl⟩ ⟨Nat.le_of_ble_eq_true rfl, Nat.le_of_ble_eq_true rfl⟩ dX12_works_85 (fun r103 kd99 ig100 rg101 lg102 H locs hw hH hp104 => ?_)
              obtain ⟨rfl, rfl, rfl, rfl, hzhp104, hrhp104⟩ := hp104
              obtain ⟨z105, rfl, hz105⟩ := hrhp104
              refine z_eq (tgt := 95) hx hb dX12_works_88 (by decide) (fun c88 => ?_) (fun c88 => ?_)
              · refine lv_iconst (v := 0) hx hb dX12_works_95 (by decide) (ti_c 0 (by decide) fun z106 hz106 => ?_)
                exact J96 ls H locs ig63 lg62 z106 (lv_sub hl [0, 1] rfl) hw hI hF (dn)
              · refine lv_iconst (v := 2) hx hb dX12_works_91 (by decide) (ti_c 2 (by decide) fun z107 hz107 => ?_)
                refine lv_goto (tgt := 96) hx hb dX12_works_92 (by decide) ?_
                exact J96 ls H locs ig63 lg62 z107 (lv_sub hl [0, 1] rfl) hw hI hF (dn)
          refine b_ne (tgt := 66) hx hb dX12_works_54 (by decide) (fun c54 => ?_) (fun c54 => ?_)
          · refine lv_iconst (v := 0) hx hb dX12_works_66 (by decide) (ti_c 0 (by decide) fun z108 hz108 => ?_)
            exact J67 ls H locs ig56 lg55 z108 (lv_sub hl [0, 1] rfl) hw hI hF (dn)
          · refine lv_aload_n hx hb dX12_works_57 rfl (lv_at hl 1 rfl) ?_
            refine r_get C hw (hsh 49 _ rfl) fl_X12_83 (oV_r rfl (hrm (49, 16, 60) (by decide))) dX12_works_58 ?_
            refine lv_iload_n hx hb dX12_works_61 rfl (lv_at hl 0 rfl) ?_
            refine r_iald C hw (hsh 60 _ rfl) (by omega) (by omega) dX12_works_62 (ti_c (ig56 (B + 60) v8.toInt.toNat).toInt rfl fun z109 hz109 => ?_)
            rw [Ft.i hF 60 _ (by decide)] at hz109
            refine lv_goto (tgt := 67) hx hb dX12_works_63 (by decide) ?_
            exact J67 ls H locs ig56 lg55 z109 (lv_sub hl [0, 1] rfl) hw hI hF (dn)
        refine b_ne (tgt := 36) hx hb dX12_works_25 (by decide) (fun c25 => ?_) (fun c25 => ?_)
        · refine lv_iconst (v := 1) hx hb dX12_works_36 (by decide) (ti_c 1 (by decide) fun z111 hz111 => ?_)
          refine lv_goto (tgt := 41) hx hb dX12_works_37 (by decide) ?_
          exact J41 ls H locs ig9 lg10 z111 (lv_sub hl [0, 1] rfl) hw hI hF (by omega) (fun h => by omega) (dn6)
        · refine lv_aload_n hx hb dX12_works_28 rfl (lv_at hl 1 rfl) ?_
          refine lv_iload_n hx hb dX12_works_29 rfl (lv_at hl 0 rfl) ?_
          refine r_callV (As := [.int v8]) (rest := [.int v8, .ref (B + 73)]) C hw (t_X12_isRing l B D cA kd ig9 rg lg10 _ v8 (by omega) hI) sv_X12_229 (hsh 49 _ rfl) rfl hl.1 rfl (Nat.le_of_ble_eq_true rfl) ⟨Nat.le_of_ble_eq_true rfl, Nat.le_of_ble_eq_true rfl⟩ ⟨Nat.le_of_ble_eq_true rfl, Nat.le_of_ble_eq_true rfl⟩ dX12_works_30 (fun r116 kd112 ig113 rg114 lg115 H locs hw hH hp117 => ?_)
          obtain ⟨rfl, rfl, rfl, rfl, hzhp117, hrhp117⟩ := hp117
          obtain ⟨z118, rfl, hz118⟩ := hrhp117
          refine z_eq (tgt := 40) hx hb dX12_works_33 (by decide) (fun c33 => ?_) (fun c33 => ?_)
          · refine lv_iconst (v := 0) hx hb dX12_works_40 (by decide) (ti_c 0 (by decide) fun z119 hz119 => ?_)
            exact J41 ls H locs ig9 lg10 z119 (lv_sub hl [0, 1] rfl) hw hI hF (by omega) (fun h => by omega) (dn6)
          · refine lv_iconst (v := 1) hx hb dX12_works_36 (by decide) (ti_c 1 (by decide) fun z120 hz120 => ?_)
            refine lv_goto (tgt := 41) hx hb dX12_works_37 (by decide) ?_
            exact J41 ls H locs ig9 lg10 z120 (lv_sub hl [0, 1] rfl) hw hI hF (by omega) (fun h => by omega) (dn6)
  exact L6 ((288 - z7.toInt) + 1).toNat ls H locs ig2 lg4 z7 (lv_sub hl [0, 1] rfl) hw hI hF (by omega) (by omega) (fun q h1 h2 => absurd h1 (by omega)) (by omega)
