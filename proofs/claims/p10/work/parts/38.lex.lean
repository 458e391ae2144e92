/-! THE READER: what holds while the model reads its tape's tokens -/
theorem nEq.e {a b : Nat} (h : nEq a b) : a = b := h
theorem lgc {a b : Int64} {z : Int32} (h : z = lg_cmp a b) : (z.toInt < 0 ∧ a.toInt < b.toInt) ∨ (z.toInt = 0 ∧ a.toInt = b.toInt) ∨ (0 < z.toInt ∧ b.toInt < a.toInt) := by
  subst h
  unfold lg_cmp
  by_cases h1 : b < a
  · right; right
    rw [if_pos h1]
    exact ⟨by decide, Int64.lt_iff_toInt_lt.mp h1⟩
  · rw [if_neg h1]
    by_cases h2 : a = b
    · right; left
      rw [if_pos h2]
      exact ⟨by decide, by rw [h2]⟩
    · left
      rw [if_neg h2]
      have h3 : ¬ b.toInt < a.toInt := fun q => h1 (Int64.lt_iff_toInt_lt.mpr q)
      have h4 : a.toInt ≠ b.toInt := fun q => h2 (Int64.toInt_inj.mp q)
      exact ⟨by decide, by omega⟩
theorem or_t {z : Int32} {S : Prop} (h : (z.toInt = 1 ∧ S) ∨ (z.toInt = 0 ∧ ¬ S)) (hz : z.toInt ≠ 0) : S := by
  rcases h with ⟨-, h⟩ | ⟨h, -⟩
  · exact h
  · exact absurd h hz
theorem or_f {z : Int32} {S : Prop} (h : (z.toInt = 1 ∧ S) ∨ (z.toInt = 0 ∧ ¬ S)) (hz : z.toInt = 0) : ¬ S := by
  rcases h with ⟨h, -⟩ | ⟨-, h⟩
  · omega
  · exact h
theorem l2i_e {x : Int64} {z : Int32} (h : z = x.toInt32) (h1 : -2147483648 ≤ x.toInt) (h2 : x.toInt ≤ 2147483647) : z.toInt = x.toInt := by
  subst h
  rw [Int64.toInt_toInt32, Int.bmod_eq_of_le] <;> omega
section READER
variable {τ : Tp} {φ : Option Int} {B N : Nat} {kd : sK} {ig ig' ig1 ig2 : sI} {rg : sR} {lg lg' : sG} {T : List Nat} {x y u v : Int32}
/-- N tokens, the end behind them -/
def PSt (B N : Nat) (ig : sI) : Prop := N ≤ 120 ∧ (ig (B + 51) N).toInt = 0 ∧ ∀ k, k ≤ N → 0 ≤ (ig (B + 52) k).toInt ∧ (ig (B + 52) k).toInt ≤ 120
def PV (B N : Nat) (ig : sI) : Prop := PSt B N ig ∧ (0 ≤ (ig (B + 49) 7).toInt ∧ (ig (B + 49) 7).toInt ≤ (N : Int)) ∧ 0 ≤ (ig (B + 49) 8).toInt ∧ (0 ≤ (ig (B + 58) 288).toInt ∧ (ig (B + 58) 288).toInt ≤ (ig (B + 49) 7).toInt) ∧ N ≤ 120
/-- from one state to a later one -/
def PR (B : Nat) (ig ig' : sI) : Prop := (ig (B + 49) 7).toInt ≤ (ig' (B + 49) 7).toInt ∧ (ig (B + 58) 288).toInt ≤ (ig' (B + 58) 288).toInt ∧ ((ig' (B + 49) 8).toInt = 0 → (ig (B + 49) 8).toInt = 0) ∧ (ig' (B + 49) 14).toInt = (ig (B + 49) 14).toInt ∧ ∀ c k, 54 ≤ c → c ≤ 56 → k < 34560 + (ig (B + 58) 288).toInt.toNat → ig' (B + c) k = ig (B + c) k
def ADD (B : Nat) (x y u : Int32) (ig ig' : sI) : Prop := (ig' (B + 58) 288).toInt = (ig (B + 58) 288).toInt + 1 ∧ (ig' (B + 54) (34560 + (ig (B + 58) 288).toInt.toNat) = x ∧ ig' (B + 55) (34560 + (ig (B + 58) 288).toInt.toNat) = y ∧ ig' (B + 56) (34560 + (ig (B + 58) 288).toInt.toNat) = u) ∧ ∀ c k, 54 ≤ c → c ≤ 56 → k ≠ 34560 + (ig (B + 58) 288).toInt.toNat → ig' (B + c) k = ig (B + c) k
def SG (B : Nat) (ig : sI) (lg : sG) (x : Int32) : Prop := (ig (B + 49) 8).toInt = 0 ∧ (ig (B + 51) (ig (B + 49) 7).toInt.toNat).toInt = 3 ∧ (lg (B + 53) (ig (B + 49) 7).toInt.toNat).toInt = x.toInt
def TS (B : Nat) (x : Int32) (ig ig' : sI) : Prop := (ig' (B + 58) 288).toInt = (ig (B + 58) 288).toInt + 1 ∧ mK B ig' (34560 + (ig (B + 58) 288).toInt.toNat) = 1 ∧ mA B ig' (34560 + (ig (B + 58) 288).toInt.toNat) = x.toInt
def RS (B : Nat) (ig ig' : sI) : Prop := (ig' (B + 58) 288).toInt = (ig (B + 58) 288).toInt + 1 ∧ mK B ig' (34560 + (ig (B + 58) 288).toInt.toNat) = 3 ∧ rOk B ig' (34560 + (ig (B + 58) 288).toInt.toNat)
theorem PSt.ft (h : PSt B N ig) (hF : Ft B T ig lg ig' lg') (h1 : ∀ q ∈ T, 51 ≠ q) (h2 : ∀ q ∈ T, 52 ≠ q) : PSt B N ig' := ⟨h.1, by rw [hF.i 51 N h1]; exact h.2.1, fun k hk => by rw [hF.i 52 k h2]; exact h.2.2 k hk⟩
theorem PSt.wr {c i : Nat} (h : PSt B N ig) (hc : c ≠ 51 ∧ c ≠ 52) : PSt B N (up2 ig (B + c) i v) := ⟨h.1, by rw [up2_c (by omega)]; exact h.2.1, fun k hk => by rw [up2_c (by omega)]; exact h.2.2 k hk⟩
theorem PR.rf : PR B ig ig := ⟨Int.le_refl _, Int.le_refl _, fun h => h, rfl, fun _ _ _ _ _ => rfl⟩
theorem PR.tr (h : PR B ig ig1) (h' : PR B ig1 ig2) : PR B ig ig2 := by
  obtain ⟨a1, a2, a3, a4, a5⟩ := h
  obtain ⟨b1, b2, b3, b4, b5⟩ := h'
  exact ⟨by omega, by omega, fun q => a3 (b3 q), b4.trans a4, fun c k h1 h2 h3 => (b5 c k h1 h2 (by omega)).trans (a5 c k h1 h2 h3)⟩
theorem PV.lt {k : Nat} {q : Int} (h : PV B N ig) (hk : (k : Int) = (ig (B + 49) 7).toInt) (hs : (ig (B + 51) k).toInt = q) (hq : q ≠ 0) : (ig (B + 49) 7).toInt < (N : Int) := by
  obtain ⟨⟨-, h1, -⟩, ⟨h2, h3⟩, -⟩ := h
  by_cases e : k = N
  · subst e
    rw [h1] at hs
    exact absurd hs.symm hq
  · omega
theorem SG.lt (h : PV B N ig) (hs : SG B ig lg x) : (ig (B + 49) 7).toInt < (N : Int) := h.lt (k := (ig (B + 49) 7).toInt.toNat) (by have := h.2.1; omega) hs.2.1 (by decide)
/-- the reader goes on by one -/
theorem PV.at (h : PV B N ig) (hv : (ig (B + 49) 7).toInt ≤ v.toInt ∧ v.toInt ≤ (N : Int)) : PV B N (up2 ig (B + 49) 7 v) ∧ PR B ig (up2 ig (B + 49) 7 v) := by
  obtain ⟨h1, h2, h3, h4, h5⟩ := h
  refine ⟨⟨h1.wr (by decide), ?_, ?_, ?_, h5⟩, ?_, ?_, ?_, ?_, fun c k a b _ => up2_c (by omega)⟩
  · rw [up2_eq]; omega
  · rw [up2_j (by decide)]; exact h3
  · rw [up2_c (by decide), up2_eq]; omega
  · rw [up2_eq]; omega
  · rw [up2_c (by decide)]; omega
  · rw [up2_j (by decide)]; exact fun q => q
  · rw [up2_j (by decide)]
theorem PV.f (h : PV B N ig) (hv : 0 < v.toInt) : PV B N (up2 ig (B + 49) 8 v) ∧ PR B ig (up2 ig (B + 49) 8 v) := by
  obtain ⟨h1, h2, h3, h4, h5⟩ := h
  refine ⟨⟨h1.wr (by decide), ?_, ?_, ?_, h5⟩, ?_, ?_, ?_, ?_, fun c k a b _ => up2_c (by omega)⟩
  · rw [up2_j (by decide)]; exact h2
  · rw [up2_eq]; omega
  · rw [up2_c (by decide), up2_j (by decide)]; exact h4
  · rw [up2_j (by decide)]; omega
  · rw [up2_c (by decide)]; omega
  · rw [up2_eq]; intro q; omega
  · rw [up2_j (by decide)]
theorem ADD.of {i1 i2 i3 i4 i5 : Nat} {w z : Int32} (h1 : nEq i1 (34560 + (ig (B + 58) 288).toInt.toNat)) (h2 : nEq i2 (34560 + (ig (B + 58) 288).toInt.toNat)) (h3 : nEq i3 (34560 + (ig (B + 58) 288).toInt.toNat)) (h5 : nEq i5 288) (hz : z.toInt = (ig (B + 58) 288).toInt + 1) : ADD B x y u ig (up2 (up2 (up2 (up2 (up2 ig (B + 54) i1 x) (B + 55) i2 y) (B + 56) i3 u) (B + 57) i4 w) (B + 58) i5 z) := by
  have h1 : i1 = _ := h1
  have h2 : i2 = _ := h2
  have h3 : i3 = _ := h3
  have h5 : i5 = 288 := h5
  subst h5
  refine ⟨by rw [up2_eq]; exact hz, ⟨?_, ?_, ?_⟩, fun c k a b hk => ?_⟩
  · rw [up2_c (by decide), up2_c (by decide), up2_c (by decide), up2_c (by decide), ← h1, up2_eq]
  · rw [up2_c (by decide), up2_c (by decide), up2_c (by decide), ← h2, up2_eq]
  · rw [up2_c (by decide), up2_c (by decide), ← h3, up2_eq]
  · rw [up2_c (by omega), up2_c (by omega), up2_j (by omega), up2_j (by omega), up2_j (by omega)]
theorem ADD.pr (h : ADD B x y u ig ig') (hF : Ft B T ig lg ig' lg') (h0 : 0 ≤ (ig (B + 58) 288).toInt) (h9 : ∀ q ∈ T, 49 ≠ q) : PR B ig ig' := by
  obtain ⟨a1, a2, a3⟩ := h
  refine ⟨?_, by omega, ?_, ?_, fun c k h1 h2 h3 => a3 c k h1 h2 (by omega)⟩
  · rw [hF.i 49 7 h9]; omega
  · rw [hF.i 49 8 h9]; exact fun q => q
  · rw [hF.i 49 14 h9]
theorem ADD.pv (h : ADD B x y u ig ig') (hp : PV B N ig) (hF : Ft B T ig lg ig' lg') (ha : (ig (B + 58) 288).toInt < (ig (B + 49) 7).toInt) (h9 : ∀ q ∈ T, 49 ≠ q) (h1 : ∀ q ∈ T, 51 ≠ q) (h2 : ∀ q ∈ T, 52 ≠ q) : PV B N ig' := by
  obtain ⟨a1, a2, a3⟩ := h
  obtain ⟨b1, b2, b3, b4, b5⟩ := hp
  refine ⟨b1.ft hF h1 h2, ?_, ?_, ?_, b5⟩
  · rw [hF.i 49 7 h9]; exact b2
  · rw [hF.i 49 8 h9]; exact b3
  · rw [hF.i 49 7 h9]; omega
/-- an item, then the reader goes on -/
theorem ADD.at (h : ADD B x y u ig ig') (hp : PV B N ig) (hF : Ft B T ig lg ig' lg') (ha : (ig (B + 49) 7).toInt < (N : Int)) (hv : v.toInt = (ig (B + 49) 7).toInt + 1) (h9 : ∀ q ∈ T, 49 ≠ q) (h1 : ∀ q ∈ T, 51 ≠ q) (h2 : ∀ q ∈ T, 52 ≠ q) : PV B N (up2 ig' (B + 49) 7 v) ∧ PR B ig (up2 ig' (B + 49) 7 v) ∧ ADD B x y u ig (up2 ig' (B + 49) 7 v) := by
  have hr := h.pr hF hp.2.2.2.1.1 h9
  obtain ⟨a1, a2, a3⟩ := h
  obtain ⟨b1, b2, b3, b4, b5⟩ := hp
  obtain ⟨r1, r2, r3, r4, r5⟩ := hr
  refine ⟨⟨(b1.ft hF h1 h2).wr (by decide), ?_, ?_, ?_, b5⟩, ⟨?_, ?_, ?_, ?_, fun c k q1 q2 q3 => ?_⟩, ?_, ⟨?_, ?_, ?_⟩, fun c k q1 q2 q3 => ?_⟩
  · rw [up2_eq]; omega
  · rw [up2_j (by decide), hF.i 49 8 h9]; exact b3
  · rw [up2_c (by decide), up2_eq]; omega
  · rw [up2_eq]; omega
  · rw [up2_c (by decide)]; omega
  · rw [up2_j (by decide)]; exact r3
  · rw [up2_j (by decide)]; exact r4
  · rw [up2_c (by omega)]; exact r5 c k q1 q2 q3
  · rw [up2_c (by decide)]; exact a1
  · rw [up2_c (by decide)]; exact a2.1
  · rw [up2_c (by decide)]; exact a2.2.1
  · rw [up2_c (by decide)]; exact a2.2.2
  · rw [up2_c (by omega)]; exact a3 c k q1 q2 q3
theorem ADD.ts {a : Int32} (h : ADD B a y u ig ig') (ha : a.toInt = 1) : TS B y ig ig' := ⟨h.1, by simp only [mK]; rw [h.2.1.1]; exact ha, by simp only [mA]; rw [h.2.1.2.1]⟩
theorem ADD.rs {a : Int32} (h : ADD B a y u ig ig') (ha : a.toInt = 3) (hy : 0 ≤ y.toInt ∧ y.toInt < 12) (hu : 0 ≤ u.toInt ∧ u.toInt < 24) : RS B ig ig' := ⟨h.1, by simp only [mK]; rw [h.2.1.1]; exact ha, fun _ => by
  simp only [mA, mB]
  rw [h.2.1.2.1, h.2.1.2.2]
  exact ⟨hy, hu⟩⟩
/-- what was said of an earlier state, of the later one -/
theorem TS.at (h : TS B x ig ig') (he : ig1 (B + 58) 288 = ig (B + 58) 288) : TS B x ig1 ig' := by
  simp only [TS, he]
  exact h
theorem RS.at (h : RS B ig ig') (he : ig1 (B + 58) 288 = ig (B + 58) 288) : RS B ig1 ig' := by
  simp only [RS, he]
  exact h
end READER
/-- the reference's tokens are the tape's -/
def MT (B N : Nat) (τ : Tp) (ig : sI) (lg : sG) : Prop := ∀ q, q ≤ N → mtk (ig (B + 51) q).toInt (lg (B + 53) q).toInt (tK τ q) (tV τ q) ∧ (ig (B + 52) q).toInt = tS τ q
section MTS
variable {τ : Tp} {φ : Option Int} {B N : Nat} {τ : Tp} {ig ig' : sI} {lg lg' : sG} {T : List Nat} {v : Int32}
theorem MT.ft (h : MT B N τ ig lg) (hF : Ft B T ig lg ig' lg') (hT : ∀ q ∈ T, 51 ≠ q ∧ 52 ≠ q ∧ 53 ≠ q) : MT B N τ ig' lg' := fun q hq => by
  rw [hF.i 51 q (fun x hx => (hT x hx).1), hF.i 52 q (fun x hx => (hT x hx).2.1), hF.l 53 q (fun x hx => (hT x hx).2.2)]
  exact h q hq
theorem MT.wr {c i : Nat} (h : MT B N τ ig lg) (hc : c ≠ 51 ∧ c ≠ 52) : MT B N τ (up2 ig (B + c) i v) lg := fun q hq => by
  rw [up2_c (by omega), up2_c (by omega)]
  exact h q hq
/-- at the place where the reader stands -/
theorem MT.at (h : MT B N τ ig lg) (ha : 0 ≤ (ig (B + 49) 7).toInt ∧ (ig (B + 49) 7).toInt ≤ (N : Int)) : mtk (ig (B + 51) (ig (B + 49) 7).toInt.toNat).toInt (lg (B + 53) (ig (B + 49) 7).toInt.toNat).toInt (tK τ (ig (B + 49) 7).toInt.toNat) (tV τ (ig (B + 49) 7).toInt.toNat) := (h _ (by omega)).1
theorem MT.pl (h : MT B N τ ig lg) (ha : 0 ≤ (ig (B + 49) 7).toInt ∧ (ig (B + 49) 7).toInt ≤ (N : Int)) : (ig (B + 52) (ig (B + 49) 7).toInt.toNat).toInt = tS τ (ig (B + 49) 7).toInt.toNat := (h _ (by omega)).2
end MTS

/-- what stands of fixed columns and rows -/
def ADF (B : Nat) (w : Int32) (ig ig' : sI) : Prop := ig' (B + 57) (34560 + (ig (B + 58) 288).toInt.toNat) = w ∧ (∀ k, k ≠ 34560 + (ig (B + 58) 288).toInt.toNat → ig' (B + 57) k = ig (B + 57) k) ∧ ∀ k, k ≠ 288 → ig' (B + 58) k = ig (B + 58) k
theorem ADF.of {B : Nat} {x y u w z : Int32} {ig : sI} {i1 i2 i3 i4 i5 : Nat} (h4 : nEq i4 (34560 + (ig (B + 58) 288).toInt.toNat)) (h5 : nEq i5 288) : ADF B w ig (up2 (up2 (up2 (up2 (up2 ig (B + 54) i1 x) (B + 55) i2 y) (B + 56) i3 u) (B + 57) i4 w) (B + 58) i5 z) := by
  have h4 : i4 = _ := h4
  have h5 : i5 = _ := h5
  refine ⟨by rw [up2_c (by decide), ← h4, up2_eq], fun k hk => ?_, fun k hk => ?_⟩
  · rw [up2_c (by decide), up2_j (by omega), up2_c (by decide), up2_c (by decide), up2_c (by decide)]
  · rw [up2_j (by omega), up2_c (by decide), up2_c (by decide), up2_c (by decide), up2_c (by decide)]
theorem ADF.at {B : Nat} {v w : Int32} {ig ig' : sI} (h : ADF B w ig ig') : ADF B w ig (up2 ig' (B + 49) 7 v) := ⟨by rw [up2_c (by decide)]; exact h.1, (fun k hk => by rw [up2_c (by decide)]; exact h.2.1 k hk), fun k hk => by rw [up2_c (by decide)]; exact h.2.2 k hk⟩
/-- an item was added -/
theorem TRk.add {B : Nat} {τ : Tp} {x y u w : Int32} {ig ig' ig0 : sI} (h : ADD B x y u ig ig') (hf : ADF B w ig ig') (h0 : 0 ≤ (ig (B + 58) 288).toInt ∧ (ig (B + 58) 288).toInt < 120) (hr : ∀ c k, 59 ≤ c → c ≤ 61 → ig' (B + c) k = ig (B + c) k) (e58 : ∀ k, ig (B + 58) k = ig0 (B + 58) k) (e5 : ∀ c k, 54 ≤ c → c ≤ 61 → ig (B + c) k = ig0 (B + c) k) (ho : (ig' (B + 49) 8).toInt = 0 → (x.toInt = 3 → 0 ≤ w.toInt ∧ w.toInt ≤ 3) ∧ (x.toInt ≠ 3 → w.toInt = 0) ∧ (x.toInt = 2 → y.toInt = 0))
    (hm : (ig' (B + 49) 8).toInt = 0 → (ig0 (B + 49) 8).toInt = 0 ∧ ∀ h : Nat, itM τ h (if x.toInt = 3 then (3, pkW (w.toInt % 2) (w.toInt / 2) y.toInt u.toInt (h : Int)) else if x.toInt = 2 then (2, 0) else (x.toInt, y.toInt)) (ig0 (B + 49) 7).toInt.toNat (ig' (B + 49) 7).toInt.toNat) : TRk B τ ig0 ig' := by
  have e58 := e58 288
  have e58t := congrArg Int32.toInt e58
  rw [e58t] at h0
  obtain ⟨a1, ⟨a2, a3, a4⟩, a5⟩ := h
  obtain ⟨b1, b2, b3⟩ := hf
  rw [e58] at a2 a3 a4 a5 b1 b2
  refine TRk.one (fun c j q1 q2 hd => ?_) h0.1 (by omega) (fun c k q1 q2 q3 => ?_) (fun q => ?_) (fun q => ⟨(hm q).1, fun h => ?_⟩)
  · unfold drp at hd
    rw [← e5 c j q1 q2]
    by_cases e7 : c = 57
    · subst e7; exact b2 j (by omega)
    · by_cases e8 : c = 58
      · subst e8; exact b3 j (by omega)
      · by_cases e9 : 59 ≤ c
        · exact hr c j e9 q2
        · exact a5 c j q1 (by omega) (by omega)
  · rw [← e5 c k q1 (by omega)]
    by_cases e : c = 57
    · subst e; exact b2 k (by omega)
    · exact a5 c k q1 (by omega) (by omega)
  · unfold itO mK mA mF
    rw [a2, a3, b1]
    exact ho q
  · have m := (hm q).2 h
    unfold dI itR mK mA mB mF
    rw [a2, a3, a4, b1]
    exact m

set_option maxHeartbeats 4000000 in
set_option maxRecDepth 100000 in
theorem t_X12_add {υ : Option Int} (l : Launch) (B : Nat) (D : va_G) (cA : Nat → ClassId) (kd : sK) (ig : sI) (rg : sR) (lg : sG) (sz : Nat) (x : Int32) (y : Int32) (u : Int32) (w : Int32) (hit : 0 ≤ (ig (B + 58) 288).toInt ∧ (ig (B + 58) 288).toInt < 120) (hI : IM [] none υ B kd ig rg) : MC l B D cA yX12_add cX12_add 6 none (rL 0 0 0) [.ref (B + 49), .int x, .int y, .int u, .int w] kd ig rg lg sz (PM [] none υ B [54, 55, 56, 57, 58] kd ig rg lg (fun r ig' lg' => (r = none ∧ (ADD B x y u ig ig' ∧ ADF B w ig ig')))) := by
  refine MC.of (own := RX12) (by decide +kernel) rfl (Nat.le_of_ble_eq_true rfl) ?_
  intro p e s m args below meth c ls C hr hlk hnm hw hsz hl
  have hx := C.1.1
  have hb := C.1.2.1
  have hown := C.1.2.2.2.1
  have hts := C.1.2.2.2.2
  have hl : lv_has ls 6 [(0, .ref (B + 49)), (1, .int x), (2, .int y), (3, .int u), (4, .int w)] := hl
  have hF : Ft B [54, 55, 56, 57, 58] ig lg ig lg := Ft.rf
  have hsh := hI.sh
  have hrm := hI.rm
  refine lv_ldc (v := 34560) hx hb hown (hts _ kc_X12_142) dX12_add_0 (ti_c 34560 (by decide) fun z1 hz1 => ?_)
  refine lv_aload_n hx hb dX12_add_2 rfl (lv_at hl 0 rfl) ?_
  refine r_get C hw (hsh 49 _ rfl) fl_X12_77 (oV_r rfl (hrm (49, 13, 58) (by decide))) dX12_add_3 ?_
  refine lv_sipush (v := 288) hx hb dX12_add_6 (by decide) (ti_c 288 (by decide) fun z2 hz2 => ?_)
  refine r_iald C hw (hsh 58 _ rfl) (by omega) (by omega) dX12_add_9 (ti_c (ig (B + 58) z2.toInt.toNat).toInt rfl fun z3 hz3 => ?_)
  have k4 := hI.its (j := (z2.toInt.toNat)) (by omega)
  have ks := hI.its (j := 288) (by decide)
  rw [show z2.toInt.toNat = 288 by omega] at hz3
  refine lv_iadd hx hb dX12_add_10 (tc_add fun z5 hz5 => ?_)
  first | replace hz5 := hz5 (by omega) | clear hz5
  refine lv_istore (lv' := [(5, .int z5), (0, .ref (B + 49)), (1, .int x), (2, .int y), (3, .int u), (4, .int w)]) hx hb dX12_add_11 hl (by decide) rfl (fun ls hl => ?_)
  have n5 : nEq z5.toInt.toNat (34560 + (ig (B + 58) 288).toInt.toNat) := by show _ = _; omega
  refine lv_aload_n hx hb dX12_add_13 rfl (lv_at hl 1 rfl) ?_
  refine r_get C hw (hsh 49 _ rfl) fl_X12_65 (oV_r rfl (hrm (49, 9, 54) (by decide))) dX12_add_14 ?_
  refine lv_iload hx hb dX12_add_17 (lv_at hl 0 rfl) ?_
  refine lv_iload_n hx hb dX12_add_19 rfl (lv_at hl 2 rfl) ?_
  refine r_iast C hw (hsh 54 _ rfl) (by omega) (by omega) dX12_add_20 (fun H locs hH hw => ?_)
  obtain ⟨ig6, eig6⟩ : ∃ f, f = up2 ig (B + 54) z5.toInt.toNat x := ⟨_, rfl⟩
  rw [← eig6] at hw
  have hF : Ft B [54, 55, 56, 57, 58] ig lg ig6 lg := by rw [eig6]; exact hF.pi (by decide)
  have hI : IM [] none υ B kd ig6 rg := by rw [eig6]; exact hI.pdr (Or.inl rfl) (by omega) (by omega)
  refine lv_aload_n hx hb dX12_add_21 rfl (lv_at hl 1 rfl) ?_
  refine r_get C hw (hsh 49 _ rfl) fl_X12_68 (oV_r rfl (hrm (49, 10, 55) (by decide))) dX12_add_22 ?_
  refine lv_iload hx hb dX12_add_25 (lv_at hl 0 rfl) ?_
  refine lv_iload_n hx hb dX12_add_27 rfl (lv_at hl 3 rfl) ?_
  refine r_iast C hw (hsh 55 _ rfl) (by omega) (by omega) dX12_add_28 (fun H locs hH hw => ?_)
  obtain ⟨ig7, eig7⟩ : ∃ f, f = up2 ig6 (B + 55) z5.toInt.toNat y := ⟨_, rfl⟩
  rw [← eig7] at hw
  have hF : Ft B [54, 55, 56, 57, 58] ig lg ig7 lg := by rw [eig7]; exact hF.pi (by decide)
  have hI : IM [] none υ B kd ig7 rg := by rw [eig7]; exact hI.pdr (Or.inr (Or.inl rfl)) (by omega) (by omega)
  refine lv_aload_n hx hb dX12_add_29 rfl (lv_at hl 1 rfl) ?_
  refine r_get C hw (hsh 49 _ rfl) fl_X12_71 (oV_r rfl (hrm (49, 11, 56) (by decide))) dX12_add_30 ?_
  refine lv_iload hx hb dX12_add_33 (lv_at hl 0 rfl) ?_
  refine lv_iload_n hx hb dX12_add_35 rfl (lv_at hl 4 rfl) ?_
  refine r_iast C hw (hsh 56 _ rfl) (by omega) (by omega) dX12_add_36 (fun H locs hH hw => ?_)
  obtain ⟨ig8, eig8⟩ : ∃ f, f = up2 ig7 (B + 56) z5.toInt.toNat u := ⟨_, rfl⟩
  rw [← eig8] at hw
  have hF : Ft B [54, 55, 56, 57, 58] ig lg ig8 lg := by rw [eig8]; exact hF.pi (by decide)
  have hI : IM [] none υ B kd ig8 rg := by rw [eig8]; exact hI.pdr (Or.inr (Or.inr rfl)) (by omega) (by omega)
  refine lv_aload_n hx hb dX12_add_37 rfl (lv_at hl 1 rfl) ?_
  refine r_get C hw (hsh 49 _ rfl) fl_X12_74 (oV_r rfl (hrm (49, 12, 57) (by decide))) dX12_add_38 ?_
  refine lv_iload hx hb dX12_add_41 (lv_at hl 0 rfl) ?_
  refine lv_iload hx hb dX12_add_43 (lv_at hl 5 rfl) ?_
  refine r_iast C hw (hsh 57 _ rfl) (by omega) (by omega) dX12_add_45 (fun H locs hH hw => ?_)
  obtain ⟨ig9, eig9⟩ : ∃ f, f = up2 ig8 (B + 57) z5.toInt.toNat w := ⟨_, rfl⟩
  rw [← eig9] at hw
  have hF : Ft B [54, 55, 56, 57, 58] ig lg ig9 lg := by rw [eig9]; exact hF.pi (by decide)
  have hI : IM [] none υ B kd ig9 rg := by rw [eig9]; exact hI.pi (by decide) (show okR none _ from trivial)
  refine lv_aload_n hx hb dX12_add_46 rfl (lv_at hl 1 rfl) ?_
  refine r_get C hw (hsh 49 _ rfl) fl_X12_77 (oV_r rfl (hrm (49, 13, 58) (by decide))) dX12_add_47 ?_
  refine lv_sipush (v := 288) hx hb dX12_add_50 (by decide) (ti_c 288 (by decide) fun z10 hz10 => ?_)
  refine lv_dup2_11 hx hb dX12_add_53 rfl rfl ?_
  refine r_iald C hw (hsh 58 _ rfl) (by omega) (by omega) dX12_add_54 (ti_c (ig9 (B + 58) z10.toInt.toNat).toInt rfl fun z11 hz11 => ?_)
  have k12 := hI.its (j := (z10.toInt.toNat)) (by omega)
  rw [show z10.toInt.toNat = 288 by omega, eig9, up2_c (by decide), eig8, up2_c (by decide), eig7, up2_c (by decide), eig6, up2_c (by decide)] at hz11
  refine lv_iconst (v := 1) hx hb dX12_add_55 (by decide) (ti_c 1 (by decide) fun z13 hz13 => ?_)
  refine lv_iadd hx hb dX12_add_56 (tc_add fun z14 hz14 => ?_)
  first | replace hz14 := hz14 (by omega) | clear hz14
  have n57 : nEq z10.toInt.toNat 288 := by show _ = _; omega
  refine r_iast C hw (hsh 58 _ rfl) (by omega) (by omega) dX12_add_57 (fun H locs hH hw => ?_)
  obtain ⟨ig15, eig15⟩ : ∃ f, f = up2 ig9 (B + 58) z10.toInt.toNat z14 := ⟨_, rfl⟩
  rw [← eig15] at hw
  have hF : Ft B [54, 55, 56, 57, 58] ig lg ig15 lg := by rw [eig15]; exact hF.pi (by decide)
  have hI : IM [] none υ B kd ig15 rg := by rw [eig15]; exact hI.pdi2 n57 ⟨by omega, by omega⟩
  have hadf : ADF B w ig ig15 := by rw [eig15, eig9, eig8, eig7, eig6]; exact ADF.of n5 n57
  have hadd : ADD B x y u ig ig15 := by rw [eig15, eig9, eig8, eig7, eig6]; exact ADD.of n5 n5 n5 n57 (by rw [hz14]; omega)
  exact r_vret C hw hr hlk (Nat.le_of_ble_eq_true rfl) (Nat.le_of_ble_eq_true rfl) dX12_add_58 ⟨rfl, rfl, hI, hF, ⟨rfl, ⟨hadd, hadf⟩⟩⟩

set_option maxHeartbeats 4000000 in
set_option maxRecDepth 100000 in
theorem t_X12_wrong {υ : Option Int} {τ : Tp} (l : Launch) (B : Nat) (D : va_G) (cA : Nat → ClassId) (kd : sK) (ig : sI) (rg : sR) (lg : sG) (sz : Nat) (x : Int32) (N : Nat) (hpv : PV B N ig) (hmt : MT B N τ ig lg) (hx0 : 1 ≤ x.toInt ∧ x.toInt ≤ 7) (hI : IM [] none υ B kd ig rg) : MC l B D cA yX12_wrong cX12_wrong 2 none (rL 0 0 0) [.ref (B + 49), .int x] kd ig rg lg sz (PM [] none υ B [49] kd ig rg lg (fun r ig' lg' => (r = none ∧ (PV B N ig' ∧ PR B ig ig' ∧ 0 < (ig' (B + 49) 8).toInt ∧ ((ig (B + 49) 8).toInt = 0 → (ig' (B + 49) 8).toInt = fw (tS τ) x.toInt (ig (B + 49) 7).toInt.toNat) ∧ ((ig (B + 49) 8).toInt ≠ 0 → (ig' (B + 49) 8).toInt = (ig (B + 49) 8).toInt) ∧ (ig' (B + 49) 7).toInt = (ig (B + 49) 7).toInt)))) := by
  refine MC.of (own := RX12) (by decide +kernel) rfl (Nat.le_of_ble_eq_true rfl) ?_
  intro p e s m args below meth c ls C hr hlk hnm hw hsz hl
  have hx := C.1.1
  have hb := C.1.2.1
  have hown := C.1.2.2.2.1
  have hts := C.1.2.2.2.2
  have hl : lv_has ls 2 [(0, .ref (B + 49)), (1, .int x)] := hl
  have hF : Ft B [49] ig lg ig lg := Ft.rf
  have hsh := hI.sh
  have hrm := hI.rm
  have hpv0 := hpv
  obtain ⟨hps, hat, hfa, hit, hN⟩ := hpv
  refine lv_aload_n hx hb dX12_wrong_0 rfl (lv_at hl 0 rfl) ?_
  refine r_get C hw (hsh 49 _ rfl) fl_X12_52 (oV_i rfl) dX12_wrong_1 (ti_c (ig (B + 49) 8).toInt rfl fun z1 hz1 => ?_)
  refine z_ne (tgt := 25) hx hb dX12_wrong_4 (by decide) (fun c4 => ?_) (fun c4 => ?_)
  · have pvr : PV B N ig ∧ PR B ig ig := ⟨hpv0, PR.rf⟩
    exact r_vret C hw hr hlk (Nat.le_of_ble_eq_true rfl) (Nat.le_of_ble_eq_true rfl) dX12_wrong_25 ⟨rfl, rfl, hI, hF, ⟨rfl, ⟨pvr.1, pvr.2, by omega, fun q => by unfold fw; omega, fun q => by omega, by omega⟩⟩⟩
  · refine lv_aload_n hx hb dX12_wrong_7 rfl (lv_at hl 0 rfl) ?_
    refine lv_iload_n hx hb dX12_wrong_8 rfl (lv_at hl 1 rfl) ?_
    refine lv_bipush (v := 16) hx hb dX12_wrong_9 (by decide) (ti_c 16 (by decide) fun z2 hz2 => ?_)
    refine lv_aload_n hx hb dX12_wrong_11 rfl (lv_at hl 0 rfl) ?_
    refine r_get C hw (hsh 49 _ rfl) fl_X12_21 (oV_r rfl (hrm (49, 5, 52) (by decide))) dX12_wrong_12 ?_
    refine lv_aload_n hx hb dX12_wrong_15 rfl (lv_at hl 0 rfl) ?_
    refine r_get C hw (hsh 49 _ rfl) fl_X12_49 (oV_i rfl) dX12_wrong_16 (ti_c (ig (B + 49) 7).toInt rfl fun z3 hz3 => ?_)
    refine r_iald C hw (hsh 52 _ rfl) (by omega) (by omega) dX12_wrong_19 (ti_c (ig (B + 52) z3.toInt.toNat).toInt rfl fun z4 hz4 => ?_)
    have hpl := hps.2.2 z3.toInt.toNat (by omega)
    have hpl2 : z4.toInt = tS τ (ig (B + 49) 7).toInt.toNat := by rw [hz4, show z3.toInt.toNat = (ig (B + 49) 7).toInt.toNat by omega]; exact hmt.pl hat
    refine lv_imul hx hb dX12_wrong_20 (tc_mulL 16 hz2 fun z6 hz6 => ?_)
    first | replace hz6 := hz6 (by omega) | clear hz6
    refine lv_iadd hx hb dX12_wrong_21 (tc_add fun z7 hz7 => ?_)
    first | replace hz7 := hz7 (by omega) | clear hz7
    refine r_puti C hw (hsh 49 _ rfl) fl_X12_52 rfl rfl rfl dX12_wrong_22 (fun H locs hH hw => ?_)
    obtain ⟨ig8, eig8⟩ : ∃ f, f = up2 ig (B + 49) 8 z7 := ⟨_, rfl⟩
    rw [← eig8] at hw
    have hF : Ft B [49] ig lg ig8 lg := by rw [eig8]; exact hF.pi (by decide)
    have hI : IM [] none υ B kd ig8 rg := by rw [eig8]; exact hI.pi (by decide) (show okR none _ from trivial)
    have wig8_49_7 : (ig8 (B + 49) 7).toInt = (ig (B + 49) 7).toInt := by rw [eig8, up2_j (by decide)]
    have wig8 : (ig8 (B + 49) 8).toInt = z7.toInt := by rw [eig8, up2_eq]
    have pvr : PV B N ig8 ∧ PR B ig ig8 := by rw [eig8]; exact hpv0.f (by omega)
    exact r_vret C hw hr hlk (Nat.le_of_ble_eq_true rfl) (Nat.le_of_ble_eq_true rfl) dX12_wrong_25 ⟨rfl, rfl, hI, hF, ⟨rfl, ⟨pvr.1, pvr.2, by omega, fun q => by unfold fw; omega, fun q => by omega, by omega⟩⟩⟩

set_option maxHeartbeats 4000000 in
set_option maxRecDepth 100000 in
theorem t_X12_isSign {υ : Option Int} (l : Launch) (B : Nat) (D : va_G) (cA : Nat → ClassId) (kd : sK) (ig : sI) (rg : sR) (lg : sG) (sz : Nat) (x : Int32) (hat : 0 ≤ (ig (B + 49) 7).toInt ∧ (ig (B + 49) 7).toInt ≤ 121) (hI : IM [] none υ B kd ig rg) : MC l B D cA yX12_isSign cX12_isSign 2 (some .boolean) (rL 0 0 0) [.ref (B + 49), .int x] kd ig rg lg sz (Pu kd ig rg lg sz (fun r => ∃ z : Int32, r = some (.int z) ∧ ((z.toInt = 1 ∧ SG B ig lg x) ∨ (z.toInt = 0 ∧ ¬ SG B ig lg x)))) := by
  refine MC.of (own := RX12) (by decide +kernel) rfl (Nat.le_of_ble_eq_true rfl) ?_
  intro p e s m args below meth c ls C hr hlk hnm hw hsz hl
  have hx := C.1.1
  have hb := C.1.2.1
  have hown := C.1.2.2.2.1
  have hts := C.1.2.2.2.2
  have hl : lv_has ls 2 [(0, .ref (B + 49)), (1, .int x)] := hl
  have hsh := hI.sh
  have hrm := hI.rm
  refine lv_aload_n hx hb dX12_isSign_0 rfl (lv_at hl 0 rfl) ?_
  refine r_get C hw (hsh 49 _ rfl) fl_X12_52 (oV_i rfl) dX12_isSign_1 (ti_c (ig (B + 49) 8).toInt rfl fun z1 hz1 => ?_)
  refine z_ne (tgt := 39) hx hb dX12_isSign_4 (by decide) (fun c4 => ?_) (fun c4 => ?_)
  · refine lv_iconst (v := 0) hx hb dX12_isSign_39 (by decide) (ti_c 0 (by decide) fun z2 hz2 => ?_)
    exact r_iret C hw hr hlk (nar_b (by omega)) (Nat.le_of_ble_eq_true rfl) (Nat.le_of_ble_eq_true rfl) dX12_isSign_40 ⟨rfl, rfl, rfl, rfl, hsz, ⟨_, rfl, Or.inr ⟨by omega, fun q => absurd q.1 (by omega)⟩⟩⟩
  · refine lv_aload_n hx hb dX12_isSign_7 rfl (lv_at hl 0 rfl) ?_
    refine r_get C hw (hsh 49 _ rfl) fl_X12_32 (oV_r rfl (hrm (49, 4, 51) (by decide))) dX12_isSign_8 ?_
    refine lv_aload_n hx hb dX12_isSign_11 rfl (lv_at hl 0 rfl) ?_
    refine r_get C hw (hsh 49 _ rfl) fl_X12_49 (oV_i rfl) dX12_isSign_12 (ti_c (ig (B + 49) 7).toInt rfl fun z3 hz3 => ?_)
    have ezz3 : nEq z3.toInt.toNat (ig (B + 49) 7).toInt.toNat := by show _ = _; omega
    refine r_iald C hw (hsh 51 _ rfl) (by omega) (by omega) dX12_isSign_15 (ti_c (ig (B + 51) z3.toInt.toNat).toInt rfl fun z4 hz4 => ?_)
    rw [nEq.e ezz3] at hz4
    refine lv_iconst (v := 3) hx hb dX12_isSign_16 (by decide) (ti_c 3 (by decide) fun z6 hz6 => ?_)
    refine b_ne (tgt := 39) hx hb dX12_isSign_17 (by decide) (fun c17 => ?_) (fun c17 => ?_)
    · refine lv_iconst (v := 0) hx hb dX12_isSign_39 (by decide) (ti_c 0 (by decide) fun z7 hz7 => ?_)
      exact r_iret C hw hr hlk (nar_b (by omega)) (Nat.le_of_ble_eq_true rfl) (Nat.le_of_ble_eq_true rfl) dX12_isSign_40 ⟨rfl, rfl, rfl, rfl, hsz, ⟨_, rfl, Or.inr ⟨by omega, fun q => absurd q.2.1 (by omega)⟩⟩⟩
    · refine lv_aload_n hx hb dX12_isSign_20 rfl (lv_at hl 0 rfl) ?_
      refine r_get C hw (hsh 49 _ rfl) fl_X12_45 (oV_r rfl (hrm (49, 6, 53) (by decide))) dX12_isSign_21 ?_
      refine lv_aload_n hx hb dX12_isSign_24 rfl (lv_at hl 0 rfl) ?_
      refine r_get C hw (hsh 49 _ rfl) fl_X12_49 (oV_i rfl) dX12_isSign_25 (ti_c (ig (B + 49) 7).toInt rfl fun z8 hz8 => ?_)
      have ezz8 : nEq z8.toInt.toNat (ig (B + 49) 7).toInt.toNat := by show _ = _; omega
      refine r_lald C hw (hsh 53 _ rfl) (by omega) (by omega) dX12_isSign_28 (lv_topl fun x9 hx9 => ?_)
      have tx9 : x9.toInt = (lg (B + 53) (ig (B + 49) 7).toInt.toNat).toInt := by have q := hx9; rw [nEq.e ezz8] at q; exact congrArg Int64.toInt q
      refine lv_iload_n hx hb dX12_isSign_29 rfl (lv_at hl 1 rfl) ?_
      refine lv_i2l hx hb dX12_isSign_30 rfl (lv_topl fun x10 hx10 => ?_)
      have tx10 : x10.toInt = x.toInt := by rw [hx10, Int32.toInt_toInt64]
      refine W.lcmp hx hb dX12_isSign_31 (lv_topi fun z11 hz11 => ?_)
      have lcz11 := lgc hz11
      refine z_ne (tgt := 39) hx hb dX12_isSign_32 (by decide) (fun c32 => ?_) (fun c32 => ?_)
      · refine lv_iconst (v := 0) hx hb dX12_isSign_39 (by decide) (ti_c 0 (by decide) fun z12 hz12 => ?_)
        exact r_iret C hw hr hlk (nar_b (by omega)) (Nat.le_of_ble_eq_true rfl) (Nat.le_of_ble_eq_true rfl) dX12_isSign_40 ⟨rfl, rfl, rfl, rfl, hsz, ⟨_, rfl, Or.inr ⟨by omega, fun q => absurd q.2.2 (by omega)⟩⟩⟩
      · refine lv_iconst (v := 1) hx hb dX12_isSign_35 (by decide) (ti_c 1 (by decide) fun z13 hz13 => ?_)
        refine lv_goto (tgt := 40) hx hb dX12_isSign_36 (by decide) ?_
        exact r_iret C hw hr hlk (nar_b (by omega)) (Nat.le_of_ble_eq_true rfl) (Nat.le_of_ble_eq_true rfl) dX12_isSign_40 ⟨rfl, rfl, rfl, rfl, hsz, ⟨_, rfl, Or.inl ⟨by omega, by omega, by omega, by omega⟩⟩⟩

set_option maxHeartbeats 4000000 in
set_option maxRecDepth 100000 in
theorem t_X12_isSum {υ : Option Int} (l : Launch) (B : Nat) (D : va_G) (cA : Nat → ClassId) (kd : sK) (ig : sI) (rg : sR) (lg : sG) (sz : Nat) (hat : 0 ≤ (ig (B + 49) 7).toInt ∧ (ig (B + 49) 7).toInt ≤ 121) (hI : IM [] none υ B kd ig rg) : MC l B D cA yX12_isSum cX12_isSum 1 (some .boolean) (rL 0 0 0) [.ref (B + 49)] kd ig rg lg sz (Pu kd ig rg lg sz (fun r => ∃ z : Int32, r = some (.int z) ∧ ((z.toInt = 1 ∧ ((ig (B + 49) 8).toInt = 0 ∧ (ig (B + 51) (ig (B + 49) 7).toInt.toNat).toInt = 1 ∧ (lg (B + 53) (ig (B + 49) 7).toInt.toNat).toInt = 14431)) ∨ (z.toInt = 0 ∧ ¬ ((ig (B + 49) 8).toInt = 0 ∧ (ig (B + 51) (ig (B + 49) 7).toInt.toNat).toInt = 1 ∧ (lg (B + 53) (ig (B + 49) 7).toInt.toNat).toInt = 14431))))) := by
  refine MC.of (own := RX12) (by decide +kernel) rfl (Nat.le_of_ble_eq_true rfl) ?_
  intro p e s m args below meth c ls C hr hlk hnm hw hsz hl
  have hx := C.1.1
  have hb := C.1.2.1
  have hown := C.1.2.2.2.1
  have hts := C.1.2.2.2.2
  have hl : lv_has ls 1 [(0, .ref (B + 49))] := hl
  have hsh := hI.sh
  have hrm := hI.rm
  refine lv_aload_n hx hb dX12_isSum_0 rfl (lv_at hl 0 rfl) ?_
  refine r_get C hw (hsh 49 _ rfl) fl_X12_52 (oV_i rfl) dX12_isSum_1 (ti_c (ig (B + 49) 8).toInt rfl fun z1 hz1 => ?_)
  refine z_ne (tgt := 40) hx hb dX12_isSum_4 (by decide) (fun c4 => ?_) (fun c4 => ?_)
  · refine lv_iconst (v := 0) hx hb dX12_isSum_40 (by decide) (ti_c 0 (by decide) fun z2 hz2 => ?_)
    exact r_iret C hw hr hlk (nar_b (by omega)) (Nat.le_of_ble_eq_true rfl) (Nat.le_of_ble_eq_true rfl) dX12_isSum_41 ⟨rfl, rfl, rfl, rfl, hsz, ⟨_, rfl, by omega⟩⟩
  · refine lv_aload_n hx hb dX12_isSum_7 rfl (lv_at hl 0 rfl) ?_
    refine r_get C hw (hsh 49 _ rfl) fl_X12_32 (oV_r rfl (hrm (49, 4, 51) (by decide))) dX12_isSum_8 ?_
    refine lv_aload_n hx hb dX12_isSum_11 rfl (lv_at hl 0 rfl) ?_
    refine r_get C hw (hsh 49 _ rfl) fl_X12_49 (oV_i rfl) dX12_isSum_12 (ti_c (ig (B + 49) 7).toInt rfl fun z3 hz3 => ?_)
    have ezz3 : nEq z3.toInt.toNat (ig (B + 49) 7).toInt.toNat := by show _ = _; omega
    refine r_iald C hw (hsh 51 _ rfl) (by omega) (by omega) dX12_isSum_15 (ti_c (ig (B + 51) z3.toInt.toNat).toInt rfl fun z4 hz4 => ?_)
    rw [nEq.e ezz3] at hz4
    refine lv_iconst (v := 1) hx hb dX12_isSum_16 (by decide) (ti_c 1 (by decide) fun z6 hz6 => ?_)
    refine b_ne (tgt := 40) hx hb dX12_isSum_17 (by decide) (fun c17 => ?_) (fun c17 => ?_)
    · refine lv_iconst (v := 0) hx hb dX12_isSum_40 (by decide) (ti_c 0 (by decide) fun z7 hz7 => ?_)
      exact r_iret C hw hr hlk (nar_b (by omega)) (Nat.le_of_ble_eq_true rfl) (Nat.le_of_ble_eq_true rfl) dX12_isSum_41 ⟨rfl, rfl, rfl, rfl, hsz, ⟨_, rfl, by omega⟩⟩
    · refine lv_aload_n hx hb dX12_isSum_20 rfl (lv_at hl 0 rfl) ?_
      refine r_get C hw (hsh 49 _ rfl) fl_X12_45 (oV_r rfl (hrm (49, 6, 53) (by decide))) dX12_isSum_21 ?_
      refine lv_aload_n hx hb dX12_isSum_24 rfl (lv_at hl 0 rfl) ?_
      refine r_get C hw (hsh 49 _ rfl) fl_X12_49 (oV_i rfl) dX12_isSum_25 (ti_c (ig (B + 49) 7).toInt rfl fun z8 hz8 => ?_)
      have ezz8 : nEq z8.toInt.toNat (ig (B + 49) 7).toInt.toNat := by show _ = _; omega
      refine r_lald C hw (hsh 53 _ rfl) (by omega) (by omega) dX12_isSum_28 (lv_topl fun x9 hx9 => ?_)
      have tx9 : x9.toInt = (lg (B + 53) (ig (B + 49) 7).toInt.toNat).toInt := by have q := hx9; rw [nEq.e ezz8] at q; exact congrArg Int64.toInt q
      refine lv_ldc2 (v := 14431) hx hb hown (hts _ kl_X12_151) dX12_isSum_29 (lv_topl fun x10 hx10 => ?_)
      have tx10 : x10.toInt = 14431 := by rw [hx10]; decide
      refine W.lcmp hx hb dX12_isSum_32 (lv_topi fun z11 hz11 => ?_)
      have lcz11 := lgc hz11
      refine z_ne (tgt := 40) hx hb dX12_isSum_33 (by decide) (fun c33 => ?_) (fun c33 => ?_)
      · refine lv_iconst (v := 0) hx hb dX12_isSum_40 (by decide) (ti_c 0 (by decide) fun z12 hz12 => ?_)
        exact r_iret C hw hr hlk (nar_b (by omega)) (Nat.le_of_ble_eq_true rfl) (Nat.le_of_ble_eq_true rfl) dX12_isSum_41 ⟨rfl, rfl, rfl, rfl, hsz, ⟨_, rfl, by omega⟩⟩
      · refine lv_iconst (v := 1) hx hb dX12_isSum_36 (by decide) (ti_c 1 (by decide) fun z13 hz13 => ?_)
        refine lv_goto (tgt := 41) hx hb dX12_isSum_37 (by decide) ?_
        exact r_iret C hw hr hlk (nar_b (by omega)) (Nat.le_of_ble_eq_true rfl) (Nat.le_of_ble_eq_true rfl) dX12_isSum_41 ⟨rfl, rfl, rfl, rfl, hsz, ⟨_, rfl, by omega⟩⟩

set_option maxHeartbeats 4000000 in
set_option maxRecDepth 100000 in
theorem t_X12_isColumn {υ : Option Int} (l : Launch) (B : Nat) (D : va_G) (cA : Nat → ClassId) (kd : sK) (ig : sI) (rg : sR) (lg : sG) (sz : Nat) (hat : 0 ≤ (ig (B + 49) 7).toInt ∧ (ig (B + 49) 7).toInt ≤ 121) (hI : IM [] none υ B kd ig rg) : MC l B D cA yX12_isColumn cX12_isColumn 1 (some .boolean) (rL 0 0 0) [.ref (B + 49)] kd ig rg lg sz (Pu kd ig rg lg sz (fun r => ∃ z : Int32, r = some (.int z) ∧ ((z.toInt = 1 ∧ ((ig (B + 49) 8).toInt = 0 ∧ (ig (B + 51) (ig (B + 49) 7).toInt.toNat).toInt = 1 ∧ 1 ≤ (lg (B + 53) (ig (B + 49) 7).toInt.toNat).toInt ∧ (lg (B + 53) (ig (B + 49) 7).toInt.toNat).toInt ≤ 12)) ∨ (z.toInt = 0 ∧ ¬ ((ig (B + 49) 8).toInt = 0 ∧ (ig (B + 51) (ig (B + 49) 7).toInt.toNat).toInt = 1 ∧ 1 ≤ (lg (B + 53) (ig (B + 49) 7).toInt.toNat).toInt ∧ (lg (B + 53) (ig (B + 49) 7).toInt.toNat).toInt ≤ 12))))) := by
  refine MC.of (own := RX12) (by decide +kernel) rfl (Nat.le_of_ble_eq_true rfl) ?_
  intro p e s m args below meth c ls C hr hlk hnm hw hsz hl
  have hx := C.1.1
  have hb := C.1.2.1
  have hown := C.1.2.2.2.1
  have hts := C.1.2.2.2.2
  have hl : lv_has ls 1 [(0, .ref (B + 49))] := hl
  have hsh := hI.sh
  have hrm := hI.rm
  refine lv_aload_n hx hb dX12_isColumn_0 rfl (lv_at hl 0 rfl) ?_
  refine r_get C hw (hsh 49 _ rfl) fl_X12_52 (oV_i rfl) dX12_isColumn_1 (ti_c (ig (B + 49) 8).toInt rfl fun z1 hz1 => ?_)
  refine z_ne (tgt := 54) hx hb dX12_isColumn_4 (by decide) (fun c4 => ?_) (fun c4 => ?_)
  · refine lv_iconst (v := 0) hx hb dX12_isColumn_54 (by decide) (ti_c 0 (by decide) fun z2 hz2 => ?_)
    exact r_iret C hw hr hlk (nar_b (by omega)) (Nat.le_of_ble_eq_true rfl) (Nat.le_of_ble_eq_true rfl) dX12_isColumn_55 ⟨rfl, rfl, rfl, rfl, hsz, ⟨_, rfl, by omega⟩⟩
  · refine lv_aload_n hx hb dX12_isColumn_7 rfl (lv_at hl 0 rfl) ?_
    refine r_get C hw (hsh 49 _ rfl) fl_X12_32 (oV_r rfl (hrm (49, 4, 51) (by decide))) dX12_isColumn_8 ?_
    refine lv_aload_n hx hb dX12_isColumn_11 rfl (lv_at hl 0 rfl) ?_
    refine r_get C hw (hsh 49 _ rfl) fl_X12_49 (oV_i rfl) dX12_isColumn_12 (ti_c (ig (B + 49) 7).toInt rfl fun z3 hz3 => ?_)
    have ezz3 : nEq z3.toInt.toNat (ig (B + 49) 7).toInt.toNat := by show _ = _; omega
    refine r_iald C hw (hsh 51 _ rfl) (by omega) (by omega) dX12_isColumn_15 (ti_c (ig (B + 51) z3.toInt.toNat).toInt rfl fun z4 hz4 => ?_)
    rw [nEq.e ezz3] at hz4
    refine lv_iconst (v := 1) hx hb dX12_isColumn_16 (by decide) (ti_c 1 (by decide) fun z6 hz6 => ?_)
    refine b_ne (tgt := 54) hx hb dX12_isColumn_17 (by decide) (fun c17 => ?_) (fun c17 => ?_)
    · refine lv_iconst (v := 0) hx hb dX12_isColumn_54 (by decide) (ti_c 0 (by decide) fun z7 hz7 => ?_)
      exact r_iret C hw hr hlk (nar_b (by omega)) (Nat.le_of_ble_eq_true rfl) (Nat.le_of_ble_eq_true rfl) dX12_isColumn_55 ⟨rfl, rfl, rfl, rfl, hsz, ⟨_, rfl, by omega⟩⟩
    · refine lv_aload_n hx hb dX12_isColumn_20 rfl (lv_at hl 0 rfl) ?_
      refine r_get C hw (hsh 49 _ rfl) fl_X12_45 (oV_r rfl (hrm (49, 6, 53) (by decide))) dX12_isColumn_21 ?_
      refine lv_aload_n hx hb dX12_isColumn_24 rfl (lv_at hl 0 rfl) ?_
      refine r_get C hw (hsh 49 _ rfl) fl_X12_49 (oV_i rfl) dX12_isColumn_25 (ti_c (ig (B + 49) 7).toInt rfl fun z8 hz8 => ?_)
      have ezz8 : nEq z8.toInt.toNat (ig (B + 49) 7).toInt.toNat := by show _ = _; omega
      refine r_lald C hw (hsh 53 _ rfl) (by omega) (by omega) dX12_isColumn_28 (lv_topl fun x9 hx9 => ?_)
      have tx9 : x9.toInt = (lg (B + 53) (ig (B + 49) 7).toInt.toNat).toInt := by have q := hx9; rw [nEq.e ezz8] at q; exact congrArg Int64.toInt q
      refine lv_lconst (v := 1) hx hb dX12_isColumn_29 (by decide) (lv_topl fun x10 hx10 => ?_)
      have tx10 : x10.toInt = 1 := by rw [hx10]; decide
      refine W.lcmp hx hb dX12_isColumn_30 (lv_topi fun z11 hz11 => ?_)
      have lcz11 := lgc hz11
      refine z_lt (tgt := 54) hx hb dX12_isColumn_31 (by decide) (fun c31 => ?_) (fun c31 => ?_)
      · refine lv_iconst (v := 0) hx hb dX12_isColumn_54 (by decide) (ti_c 0 (by decide) fun z12 hz12 => ?_)
        exact r_iret C hw hr hlk (nar_b (by omega)) (Nat.le_of_ble_eq_true rfl) (Nat.le_of_ble_eq_true rfl) dX12_isColumn_55 ⟨rfl, rfl, rfl, rfl, hsz, ⟨_, rfl, by omega⟩⟩
      · refine lv_aload_n hx hb dX12_isColumn_34 rfl (lv_at hl 0 rfl) ?_
        refine r_get C hw (hsh 49 _ rfl) fl_X12_45 (oV_r rfl (hrm (49, 6, 53) (by decide))) dX12_isColumn_35 ?_
        refine lv_aload_n hx hb dX12_isColumn_38 rfl (lv_at hl 0 rfl) ?_
        refine r_get C hw (hsh 49 _ rfl) fl_X12_49 (oV_i rfl) dX12_isColumn_39 (ti_c (ig (B + 49) 7).toInt rfl fun z13 hz13 => ?_)
        have ezz13 : nEq z13.toInt.toNat (ig (B + 49) 7).toInt.toNat := by show _ = _; omega
        refine r_lald C hw (hsh 53 _ rfl) (by omega) (by omega) dX12_isColumn_42 (lv_topl fun x14 hx14 => ?_)
        have tx14 : x14.toInt = (lg (B + 53) (ig (B + 49) 7).toInt.toNat).toInt := by have q := hx14; rw [nEq.e ezz13] at q; exact congrArg Int64.toInt q
        refine lv_ldc2 (v := 12) hx hb hown (hts _ kl_X12_153) dX12_isColumn_43 (lv_topl fun x15 hx15 => ?_)
        have tx15 : x15.toInt = 12 := by rw [hx15]; decide
        refine W.lcmp hx hb dX12_isColumn_46 (lv_topi fun z16 hz16 => ?_)
        have lcz16 := lgc hz16
        refine z_gt (tgt := 54) hx hb dX12_isColumn_47 (by decide) (fun c47 => ?_) (fun c47 => ?_)
        · refine lv_iconst (v := 0) hx hb dX12_isColumn_54 (by decide) (ti_c 0 (by decide) fun z17 hz17 => ?_)
          exact r_iret C hw hr hlk (nar_b (by omega)) (Nat.le_of_ble_eq_true rfl) (Nat.le_of_ble_eq_true rfl) dX12_isColumn_55 ⟨rfl, rfl, rfl, rfl, hsz, ⟨_, rfl, by omega⟩⟩
        · refine lv_iconst (v := 1) hx hb dX12_isColumn_50 (by decide) (ti_c 1 (by decide) fun z18 hz18 => ?_)
          refine lv_goto (tgt := 55) hx hb dX12_isColumn_51 (by decide) ?_
          exact r_iret C hw hr hlk (nar_b (by omega)) (Nat.le_of_ble_eq_true rfl) (Nat.le_of_ble_eq_true rfl) dX12_isColumn_55 ⟨rfl, rfl, rfl, rfl, hsz, ⟨_, rfl, by omega⟩⟩

set_option maxHeartbeats 4000000 in
set_option maxRecDepth 100000 in
theorem t_X12_isPart {υ : Option Int} (l : Launch) (B : Nat) (D : va_G) (cA : Nat → ClassId) (kd : sK) (ig : sI) (rg : sR) (lg : sG) (sz : Nat) (hat : 0 ≤ (ig (B + 49) 7).toInt ∧ (ig (B + 49) 7).toInt ≤ 121) (hI : IM [] none υ B kd ig rg) : MC l B D cA yX12_isPart cX12_isPart 1 (some .boolean) (rL 1 0 0) [.ref (B + 49)] kd ig rg lg sz (Pu kd ig rg lg sz (fun r => ∃ z : Int32, r = some (.int z) ∧ ((z.toInt = 1 ∧ ((ig (B + 49) 8).toInt = 0 ∧ ((ig (B + 51) (ig (B + 49) 7).toInt.toNat).toInt = 2 ∨ ((ig (B + 51) (ig (B + 49) 7).toInt.toNat).toInt = 1 ∧ 1 ≤ (lg (B + 53) (ig (B + 49) 7).toInt.toNat).toInt ∧ (lg (B + 53) (ig (B + 49) 7).toInt.toNat).toInt ≤ 12) ∨ ((ig (B + 51) (ig (B + 49) 7).toInt.toNat).toInt = 1 ∧ (lg (B + 53) (ig (B + 49) 7).toInt.toNat).toInt = 14431) ∨ ((ig (B + 51) (ig (B + 49) 7).toInt.toNat).toInt = 3 ∧ ((lg (B + 53) (ig (B + 49) 7).toInt.toNat).toInt = 36 ∨ (lg (B + 53) (ig (B + 49) 7).toInt.toNat).toInt = 40 ∨ (lg (B + 53) (ig (B + 49) 7).toInt.toNat).toInt = 45))))) ∨ (z.toInt = 0 ∧ ¬ ((ig (B + 49) 8).toInt = 0 ∧ ((ig (B + 51) (ig (B + 49) 7).toInt.toNat).toInt = 2 ∨ ((ig (B + 51) (ig (B + 49) 7).toInt.toNat).toInt = 1 ∧ 1 ≤ (lg (B + 53) (ig (B + 49) 7).toInt.toNat).toInt ∧ (lg (B + 53) (ig (B + 49) 7).toInt.toNat).toInt ≤ 12) ∨ ((ig (B + 51) (ig (B + 49) 7).toInt.toNat).toInt = 1 ∧ (lg (B + 53) (ig (B + 49) 7).toInt.toNat).toInt = 14431) ∨ ((ig (B + 51) (ig (B + 49) 7).toInt.toNat).toInt = 3 ∧ ((lg (B + 53) (ig (B + 49) 7).toInt.toNat).toInt = 36 ∨ (lg (B + 53) (ig (B + 49) 7).toInt.toNat).toInt = 40 ∨ (lg (B + 53) (ig (B + 49) 7).toInt.toNat).toInt = 45)))))))) := by
  refine MC.of (own := RX12) (by decide +kernel) rfl (Nat.le_of_ble_eq_true rfl) ?_
  intro p e s m args below meth c ls C hr hlk hnm hw hsz hl
  have hx := C.1.1
  have hb := C.1.2.1
  have hown := C.1.2.2.2.1
  have hts := C.1.2.2.2.2
  have hl : lv_has ls 1 [(0, .ref (B + 49))] := hl
  have hsh := hI.sh
  have hrm := hI.rm
  refine lv_aload_n hx hb dX12_isPart_0 rfl (lv_at hl 0 rfl) ?_
  refine r_get C hw (hsh 49 _ rfl) fl_X12_52 (oV_i rfl) dX12_isPart_1 (ti_c (ig (B + 49) 8).toInt rfl fun z1 hz1 => ?_)
  refine z_ne (tgt := 65) hx hb dX12_isPart_4 (by decide) (fun c4 => ?_) (fun c4 => ?_)
  · refine lv_iconst (v := 0) hx hb dX12_isPart_65 (by decide) (ti_c 0 (by decide) fun z2 hz2 => ?_)
    exact r_iret C hw hr hlk (nar_b (by omega)) (Nat.le_of_ble_eq_true rfl) (Nat.le_of_ble_eq_true rfl) dX12_isPart_66 ⟨rfl, rfl, rfl, rfl, hsz, ⟨_, rfl, by omega⟩⟩
  · refine lv_aload_n hx hb dX12_isPart_7 rfl (lv_at hl 0 rfl) ?_
    refine r_get C hw (hsh 49 _ rfl) fl_X12_32 (oV_r rfl (hrm (49, 4, 51) (by decide))) dX12_isPart_8 ?_
    refine lv_aload_n hx hb dX12_isPart_11 rfl (lv_at hl 0 rfl) ?_
    refine r_get C hw (hsh 49 _ rfl) fl_X12_49 (oV_i rfl) dX12_isPart_12 (ti_c (ig (B + 49) 7).toInt rfl fun z3 hz3 => ?_)
    have ezz3 : nEq z3.toInt.toNat (ig (B + 49) 7).toInt.toNat := by show _ = _; omega
    refine r_iald C hw (hsh 51 _ rfl) (by omega) (by omega) dX12_isPart_15 (ti_c (ig (B + 51) z3.toInt.toNat).toInt rfl fun z4 hz4 => ?_)
    rw [nEq.e ezz3] at hz4
    refine lv_iconst (v := 2) hx hb dX12_isPart_16 (by decide) (ti_c 2 (by decide) fun z6 hz6 => ?_)
    have J61 : ∀ (ls : Array Slot) (H : Heap) (locs : List Loc) , lv_has ls 1 [] → WD B D cA s.heap kd ig rg lg H locs → H.size = sz → ((ig (B + 49) 8).toInt = 0 ∧ ((ig (B + 51) (ig (B + 49) 7).toInt.toNat).toInt = 2 ∨ ((ig (B + 51) (ig (B + 49) 7).toInt.toNat).toInt = 1 ∧ 1 ≤ (lg (B + 53) (ig (B + 49) 7).toInt.toNat).toInt ∧ (lg (B + 53) (ig (B + 49) 7).toInt.toNat).toInt ≤ 12) ∨ ((ig (B + 51) (ig (B + 49) 7).toInt.toNat).toInt = 1 ∧ (lg (B + 53) (ig (B + 49) 7).toInt.toNat).toInt = 14431) ∨ ((ig (B + 51) (ig (B + 49) 7).toInt.toNat).toInt = 3 ∧ ((lg (B + 53) (ig (B + 49) 7).toInt.toNat).toInt = 36 ∨ (lg (B + 53) (ig (B + 49) 7).toInt.toNat).toInt = 40 ∨ (lg (B + 53) (ig (B + 49) 7).toInt.toNat).toInt = 45)))) → W p l e (rL 1 0 0) s m args below meth c H locs 0 0 (MQ below (QcW B D cA (Pu kd ig rg lg sz (fun r => ∃ z : Int32, r = some (.int z) ∧ ((z.toInt = 1 ∧ ((ig (B + 49) 8).toInt = 0 ∧ ((ig (B + 51) (ig (B + 49) 7).toInt.toNat).toInt = 2 ∨ ((ig (B + 51) (ig (B + 49) 7).toInt.toNat).toInt = 1 ∧ 1 ≤ (lg (B + 53) (ig (B + 49) 7).toInt.toNat).toInt ∧ (lg (B + 53) (ig (B + 49) 7).toInt.toNat).toInt ≤ 12) ∨ ((ig (B + 51) (ig (B + 49) 7).toInt.toNat).toInt = 1 ∧ (lg (B + 53) (ig (B + 49) 7).toInt.toNat).toInt = 14431) ∨ ((ig (B + 51) (ig (B + 49) 7).toInt.toNat).toInt = 3 ∧ ((lg (B + 53) (ig (B + 49) 7).toInt.toNat).toInt = 36 ∨ (lg (B + 53) (ig (B + 49) 7).toInt.toNat).toInt = 40 ∨ (lg (B + 53) (ig (B + 49) 7).toInt.toNat).toInt = 45))))) ∨ (z.toInt = 0 ∧ ¬ ((ig (B + 49) 8).toInt = 0 ∧ ((ig (B + 51) (ig (B + 49) 7).toInt.toNat).toInt = 2 ∨ ((ig (B + 51) (ig (B + 49) 7).toInt.toNat).toInt = 1 ∧ 1 ≤ (lg (B + 53) (ig (B + 49) 7).toInt.toNat).toInt ∧ (lg (B + 53) (ig (B + 49) 7).toInt.toNat).toInt ≤ 12) ∨ ((ig (B + 51) (ig (B + 49) 7).toInt.toNat).toInt = 1 ∧ (lg (B + 53) (ig (B + 49) 7).toInt.toNat).toInt = 14431) ∨ ((ig (B + 51) (ig (B + 49) 7).toInt.toNat).toInt = 3 ∧ ((lg (B + 53) (ig (B + 49) 7).toInt.toNat).toInt = 36 ∨ (lg (B + 53) (ig (B + 49) 7).toInt.toNat).toInt = 40 ∨ (lg (B + 53) (ig (B + 49) 7).toInt.toNat).toInt = 45))))))))) args s 0 0 (fun q => B ≤ q)) (F0 m 61 ls []) := by
      intro ls H locs  hl hw hsz g61_0
      refine lv_iconst (v := 1) hx hb dX12_isPart_61 (by decide) (ti_c 1 (by decide) fun z7 hz7 => ?_)
      refine lv_goto (tgt := 66) hx hb dX12_isPart_62 (by decide) ?_
      exact r_iret C hw hr hlk (nar_b (by omega)) (Nat.le_of_ble_eq_true rfl) (Nat.le_of_ble_eq_true rfl) dX12_isPart_66 ⟨rfl, rfl, rfl, rfl, hsz, ⟨_, rfl, by omega⟩⟩
    refine b_eq (tgt := 61) hx hb dX12_isPart_17 (by decide) (fun c17 => ?_) (fun c17 => ?_)
    · exact J61 ls s.heap [] (lv_sub hl [] rfl) hw hsz (by omega)
    · refine lv_aload_n hx hb dX12_isPart_20 rfl (lv_at hl 0 rfl) ?_
      refine r_callV (As := []) (rest := []) C hw (t_X12_isColumn l B D cA kd ig rg lg _  (by omega) hI) sv_X12_164 (hsh 49 _ rfl) rfl hl.1 rfl (Nat.le_of_ble_eq_true rfl) ⟨Nat.le_of_ble_eq_true rfl, Nat.le_of_ble_eq_true rfl⟩ ⟨Nat.le_of_ble_eq_true rfl, Nat.le_of_ble_eq_true rfl⟩ dX12_isPart_21 (fun r12 kd8 ig9 rg10 lg11 H locs hw hH hp13 => ?_)
      obtain ⟨rfl, rfl, rfl, rfl, hzhp13, hrhp13⟩ := hp13
      have hsz := hzhp13.trans hsz
      obtain ⟨z14, rfl, hz14⟩ := hrhp13
      refine z_ne (tgt := 61) hx hb dX12_isPart_24 (by decide) (fun c24 => ?_) (fun c24 => ?_)
      · exact J61 ls H locs (lv_sub hl [] rfl) hw hsz (by omega)
      · refine lv_aload_n hx hb dX12_isPart_27 rfl (lv_at hl 0 rfl) ?_
        refine r_callV (As := []) (rest := []) C hw (t_X12_isSum l B D cA kd ig rg lg _  (by omega) hI) sv_X12_168 (hsh 49 _ rfl) rfl hl.1 rfl (Nat.le_of_ble_eq_true rfl) ⟨Nat.le_of_ble_eq_true rfl, Nat.le_of_ble_eq_true rfl⟩ ⟨Nat.le_of_ble_eq_true rfl, Nat.le_of_ble_eq_true rfl⟩ dX12_isPart_28 (fun r19 kd15 ig16 rg17 lg18 H locs hw hH hp20 => ?_)
        obtain ⟨rfl, rfl, rfl, rfl, hzhp20, hrhp20⟩ := hp20
        have hsz := hzhp20.trans hsz
        obtain ⟨z21, rfl, hz21⟩ := hrhp20
        refine z_ne (tgt := 61) hx hb dX12_isPart_31 (by decide) (fun c31 => ?_) (fun c31 => ?_)
        · exact J61 ls H locs (lv_sub hl [] rfl) hw hsz (by omega)
        · refine lv_aload_n hx hb dX12_isPart_34 rfl (lv_at hl 0 rfl) ?_
          refine lv_bipush (v := 36) hx hb dX12_isPart_35 (by decide) (ti_c 36 (by decide) fun z22 hz22 => ?_)
          refine r_callV (As := [.int z22]) (rest := []) C hw (t_X12_isSign l B D cA kd ig rg lg _ z22 (by omega) hI) sv_X12_55 (hsh 49 _ rfl) rfl hl.1 rfl (Nat.le_of_ble_eq_true rfl) ⟨Nat.le_of_ble_eq_true rfl, Nat.le_of_ble_eq_true rfl⟩ ⟨Nat.le_of_ble_eq_true rfl, Nat.le_of_ble_eq_true rfl⟩ dX12_isPart_37 (fun r27 kd23 ig24 rg25 lg26 H locs hw hH hp28 => ?_)
          obtain ⟨rfl, rfl, rfl, rfl, hzhp28, hrhp28⟩ := hp28
          have hsz := hzhp28.trans hsz
          obtain ⟨z29, rfl, hz29⟩ := hrhp28
          simp only [SG] at hz29
          refine z_ne (tgt := 61) hx hb dX12_isPart_40 (by decide) (fun c40 => ?_) (fun c40 => ?_)
          · exact J61 ls H locs (lv_sub hl [] rfl) hw hsz (by omega)
          · refine lv_aload_n hx hb dX12_isPart_43 rfl (lv_at hl 0 rfl) ?_
            refine lv_bipush (v := 40) hx hb dX12_isPart_44 (by decide) (ti_c 40 (by decide) fun z30 hz30 => ?_)
            refine r_callV (As := [.int z30]) (rest := []) C hw (t_X12_isSign l B D cA kd ig rg lg _ z30 (by omega) hI) sv_X12_55 (hsh 49 _ rfl) rfl hl.1 rfl (Nat.le_of_ble_eq_true rfl) ⟨Nat.le_of_ble_eq_true rfl, Nat.le_of_ble_eq_true rfl⟩ ⟨Nat.le_of_ble_eq_true rfl, Nat.le_of_ble_eq_true rfl⟩ dX12_isPart_46 (fun r35 kd31 ig32 rg33 lg34 H locs hw hH hp36 => ?_)
            obtain ⟨rfl, rfl, rfl, rfl, hzhp36, hrhp36⟩ := hp36
            have hsz := hzhp36.trans hsz
            obtain ⟨z37, rfl, hz37⟩ := hrhp36
            simp only [SG] at hz37
            refine z_ne (tgt := 61) hx hb dX12_isPart_49 (by decide) (fun c49 => ?_) (fun c49 => ?_)
            · exact J61 ls H locs (lv_sub hl [] rfl) hw hsz (by omega)
            · refine lv_aload_n hx hb dX12_isPart_52 rfl (lv_at hl 0 rfl) ?_
              refine lv_bipush (v := 45) hx hb dX12_isPart_53 (by decide) (ti_c 45 (by decide) fun z38 hz38 => ?_)
              refine r_callV (As := [.int z38]) (rest := []) C hw (t_X12_isSign l B D cA kd ig rg lg _ z38 (by omega) hI) sv_X12_55 (hsh 49 _ rfl) rfl hl.1 rfl (Nat.le_of_ble_eq_true rfl) ⟨Nat.le_of_ble_eq_true rfl, Nat.le_of_ble_eq_true rfl⟩ ⟨Nat.le_of_ble_eq_true rfl, Nat.le_of_ble_eq_true rfl⟩ dX12_isPart_55 (fun r43 kd39 ig40 rg41 lg42 H locs hw hH hp44 => ?_)
              obtain ⟨rfl, rfl, rfl, rfl, hzhp44, hrhp44⟩ := hp44
              have hsz := hzhp44.trans hsz
              obtain ⟨z45, rfl, hz45⟩ := hrhp44
              simp only [SG] at hz45
              refine z_eq (tgt := 65) hx hb dX12_isPart_58 (by decide) (fun c58 => ?_) (fun c58 => ?_)
              · refine lv_iconst (v := 0) hx hb dX12_isPart_65 (by decide) (ti_c 0 (by decide) fun z46 hz46 => ?_)
                exact r_iret C hw hr hlk (nar_b (by omega)) (Nat.le_of_ble_eq_true rfl) (Nat.le_of_ble_eq_true rfl) dX12_isPart_66 ⟨rfl, rfl, rfl, rfl, hsz, ⟨_, rfl, by omega⟩⟩
              · exact J61 ls H locs (lv_sub hl [] rfl) hw hsz (by omega)

/-- the signs -/
def sgn (v : Int) : Prop := v = 40 ∨ v = 41 ∨ v = 43 ∨ v = 45 ∨ v = 42 ∨ v = 47 ∨ v = 58 ∨ v = 36
section SGK
variable {τ : Tp} {φ : Option Int} {B N : Nat} {τ : Tp} {ig : sI} {lg : sG} {x : Int32}
theorem SG.k (h : MT B N τ ig lg) (ha : 0 ≤ (ig (B + 49) 7).toInt ∧ (ig (B + 49) 7).toInt ≤ (N : Int)) (hs : SG B ig lg x) : tK τ (ig (B + 49) 7).toInt.toNat = x.toInt := by
  obtain ⟨-, h2, h3⟩ := hs
  have m := h.at ha
  unfold mtk at m
  omega
theorem SG.kn (h : MT B N τ ig lg) (ha : 0 ≤ (ig (B + 49) 7).toInt ∧ (ig (B + 49) 7).toInt ≤ (N : Int)) (hx : sgn x.toInt) (hf : (ig (B + 49) 8).toInt = 0) (hs : ¬ SG B ig lg x) : tK τ (ig (B + 49) 7).toInt.toNat ≠ x.toInt := fun q => hs (by
  have m := h.at ha
  unfold mtk at m
  unfold sgn at hx
  exact ⟨hf, by omega, by omega⟩)
theorem mt_col (h : MT B N τ ig lg) (ha : 0 ≤ (ig (B + 49) 7).toInt ∧ (ig (B + 49) 7).toInt ≤ (N : Int)) : ((ig (B + 51) (ig (B + 49) 7).toInt.toNat).toInt = 1 ∧ 1 ≤ (lg (B + 53) (ig (B + 49) 7).toInt.toNat).toInt ∧ (lg (B + 53) (ig (B + 49) 7).toInt.toNat).toInt ≤ 12) ↔ (tK τ (ig (B + 49) 7).toInt.toNat = 119 ∧ tV τ (ig (B + 49) 7).toInt.toNat < 12) := by
  have m := h.at ha
  unfold mtk at m
  omega
theorem mt_colv (h : MT B N τ ig lg) (ha : 0 ≤ (ig (B + 49) 7).toInt ∧ (ig (B + 49) 7).toInt ≤ (N : Int)) (hc : (ig (B + 51) (ig (B + 49) 7).toInt.toNat).toInt = 1 ∧ 1 ≤ (lg (B + 53) (ig (B + 49) 7).toInt.toNat).toInt ∧ (lg (B + 53) (ig (B + 49) 7).toInt.toNat).toInt ≤ 12) : (lg (B + 53) (ig (B + 49) 7).toInt.toNat).toInt = tV τ (ig (B + 49) 7).toInt.toNat + 1 := by
  have m := h.at ha
  unfold mtk at m
  omega
theorem mt_num (h : MT B N τ ig lg) (ha : 0 ≤ (ig (B + 49) 7).toInt ∧ (ig (B + 49) 7).toInt ≤ (N : Int)) : (ig (B + 51) (ig (B + 49) 7).toInt.toNat).toInt = 2 ↔ tK τ (ig (B + 49) 7).toInt.toNat = 110 := by
  have m := h.at ha
  unfold mtk at m
  omega
theorem mt_numv (h : MT B N τ ig lg) (ha : 0 ≤ (ig (B + 49) 7).toInt ∧ (ig (B + 49) 7).toInt ≤ (N : Int)) (hc : (ig (B + 51) (ig (B + 49) 7).toInt.toNat).toInt = 2) : (lg (B + 53) (ig (B + 49) 7).toInt.toNat).toInt = tV τ (ig (B + 49) 7).toInt.toNat := by
  have m := h.at ha
  unfold mtk at m
  omega
theorem mt_sum (h : MT B N τ ig lg) (ha : 0 ≤ (ig (B + 49) 7).toInt ∧ (ig (B + 49) 7).toInt ≤ (N : Int)) : ((ig (B + 51) (ig (B + 49) 7).toInt.toNat).toInt = 1 ∧ (lg (B + 53) (ig (B + 49) 7).toInt.toNat).toInt = 14431) ↔ (tK τ (ig (B + 49) 7).toInt.toNat = 119 ∧ tV τ (ig (B + 49) 7).toInt.toNat = 26) := by
  have m := h.at ha
  unfold mtk at m
  omega
theorem SG.eq {y : Int32} (h : SG B ig lg x) (e : y.toInt = x.toInt) : SG B ig lg y := ⟨h.1, h.2.1, by rw [e]; exact h.2.2⟩
theorem mt_end (h : MT B N τ ig lg) (ha : 0 ≤ (ig (B + 49) 7).toInt ∧ (ig (B + 49) 7).toInt ≤ (N : Int)) : (ig (B + 51) (ig (B + 49) 7).toInt.toNat).toInt = 0 ↔ tK τ (ig (B + 49) 7).toInt.toNat = 0 := by
  have m := h.at ha
  unfold mtk at m
  omega
theorem mt_part (h : MT B N τ ig lg) (ha : 0 ≤ (ig (B + 49) 7).toInt ∧ (ig (B + 49) 7).toInt ≤ (N : Int)) : ((ig (B + 51) (ig (B + 49) 7).toInt.toNat).toInt = 2 ∨ ((ig (B + 51) (ig (B + 49) 7).toInt.toNat).toInt = 1 ∧ 1 ≤ (lg (B + 53) (ig (B + 49) 7).toInt.toNat).toInt ∧ (lg (B + 53) (ig (B + 49) 7).toInt.toNat).toInt ≤ 12) ∨ ((ig (B + 51) (ig (B + 49) 7).toInt.toNat).toInt = 1 ∧ (lg (B + 53) (ig (B + 49) 7).toInt.toNat).toInt = 14431) ∨ ((ig (B + 51) (ig (B + 49) 7).toInt.toNat).toInt = 3 ∧ ((lg (B + 53) (ig (B + 49) 7).toInt.toNat).toInt = 36 ∨ (lg (B + 53) (ig (B + 49) 7).toInt.toNat).toInt = 40 ∨ (lg (B + 53) (ig (B + 49) 7).toInt.toNat).toInt = 45))) ↔ sPt (tK τ) (tV τ) (ig (B + 49) 7).toInt.toNat := by
  have m := h.at ha
  unfold mtk at m
  unfold sPt oCol sg
  omega
end SGK

set_option maxHeartbeats 4000000 in
set_option maxRecDepth 100000 in
theorem t_X12_hasSign {υ : Option Int} {τ : Tp} (l : Launch) (B : Nat) (D : va_G) (cA : Nat → ClassId) (kd : sK) (ig : sI) (rg : sR) (lg : sG) (sz : Nat) (x : Int32) (N : Nat) (hpv : PV B N ig) (hmt : MT B N τ ig lg) (hI : IM [] none υ B kd ig rg) : MC l B D cA yX12_hasSign cX12_hasSign 3 (some .boolean) (rL 1 0 0) [.ref (B + 49), .int x] kd ig rg lg sz (PM [] none υ B [49] kd ig rg lg (fun r ig' lg' => ∃ z : Int32, r = some (.int z) ∧ ((z.toInt = 0 ∨ z.toInt = 1) ∧ PV B N ig' ∧ PR B ig ig' ∧ ((z.toInt = 1 ∧ SG B ig lg x ∧ (ig' (B + 49) 7).toInt = (ig (B + 49) 7).toInt + 1) ∨ (z.toInt = 0 ∧ ¬ SG B ig lg x ∧ (ig' (B + 49) 7).toInt = (ig (B + 49) 7).toInt)) ∧ (ig' (B + 49) 8).toInt = (ig (B + 49) 8).toInt))) := by
  refine MC.of (own := RX12) (by decide +kernel) rfl (Nat.le_of_ble_eq_true rfl) ?_
  intro p e s m args below meth c ls C hr hlk hnm hw hsz hl
  have hx := C.1.1
  have hb := C.1.2.1
  have hown := C.1.2.2.2.1
  have hts := C.1.2.2.2.2
  have hl : lv_has ls 3 [(0, .ref (B + 49)), (1, .int x)] := hl
  have hF : Ft B [49] ig lg ig lg := Ft.rf
  have hsh := hI.sh
  have hrm := hI.rm
  have hpv0 := hpv
  obtain ⟨hps, hat, hfa, hit, hN⟩ := hpv
  refine lv_aload_n hx hb dX12_hasSign_0 rfl (lv_at hl 0 rfl) ?_
  refine lv_iload_n hx hb dX12_hasSign_1 rfl (lv_at hl 1 rfl) ?_
  refine r_callV (As := [.int x]) (rest := []) C hw (t_X12_isSign l B D cA kd ig rg lg _ x (by omega) hI) sv_X12_55 (hsh 49 _ rfl) rfl hl.1 rfl (Nat.le_of_ble_eq_true rfl) ⟨Nat.le_of_ble_eq_true rfl, Nat.le_of_ble_eq_true rfl⟩ ⟨Nat.le_of_ble_eq_true rfl, Nat.le_of_ble_eq_true rfl⟩ dX12_hasSign_2 (fun r5 kd1 ig2 rg3 lg4 H locs hw hH hp6 => ?_)
  obtain ⟨rfl, rfl, rfl, rfl, hzhp6, hrhp6⟩ := hp6
  obtain ⟨z7, rfl, hz7⟩ := hrhp6
  refine lv_istore_n (lv' := [(2, .int z7), (0, .ref (B + 49)), (1, .int x)]) hx hb dX12_hasSign_5 rfl hl (by decide) rfl (fun ls hl => ?_)
  refine lv_aload_n hx hb dX12_hasSign_6 rfl (lv_at hl 1 rfl) ?_
  refine lv_dup hx hb dX12_hasSign_7 rfl ?_
  refine r_get C hw (hsh 49 _ rfl) fl_X12_49 (oV_i rfl) dX12_hasSign_8 (ti_c (ig (B + 49) 7).toInt rfl fun z8 hz8 => ?_)
  refine lv_iload_n hx hb dX12_hasSign_11 rfl (lv_at hl 0 rfl) ?_
  refine z_eq (tgt := 19) hx hb dX12_hasSign_12 (by decide) (fun c12 => ?_) (fun c12 => ?_)
  · refine lv_iconst (v := 0) hx hb dX12_hasSign_19 (by decide) (ti_c 0 (by decide) fun z9 hz9 => ?_)
    refine lv_iadd hx hb dX12_hasSign_20 (tc_add fun z10 hz10 => ?_)
    first | replace hz10 := hz10 (by omega) | clear hz10
    refine r_puti C hw (hsh 49 _ rfl) fl_X12_49 rfl rfl rfl dX12_hasSign_21 (fun H locs hH hw => ?_)
    obtain ⟨ig11, eig11⟩ : ∃ f, f = up2 ig (B + 49) 7 z10 := ⟨_, rfl⟩
    rw [← eig11] at hw
    have hF : Ft B [49] ig lg ig11 lg := by rw [eig11]; exact hF.pi (by decide)
    have hI : IM [] none υ B kd ig11 rg := by rw [eig11]; exact hI.pi (by decide) (show okR none _ from trivial)
    have wig11 : (ig11 (B + 49) 7).toInt = z10.toInt := by rw [eig11, up2_eq]
    have wig11_49_8 : (ig11 (B + 49) 8).toInt = (ig (B + 49) 8).toInt := by rw [eig11, up2_j (by decide)]
    have pvr : PV B N ig11 ∧ PR B ig ig11 := by rw [eig11]; exact hpv0.at (by omega)
    refine lv_iload_n hx hb dX12_hasSign_24 rfl (lv_at hl 0 rfl) ?_
    exact r_iret C hw hr hlk (nar_b (by omega)) (Nat.le_of_ble_eq_true rfl) (Nat.le_of_ble_eq_true rfl) dX12_hasSign_25 ⟨rfl, rfl, hI, hF, ⟨_, rfl, ⟨by omega, pvr.1, pvr.2, Or.inr ⟨by omega, or_f hz7 (by omega), by omega⟩, by omega⟩⟩⟩
  · have sl := SG.lt hpv0 (or_t hz7 (by omega))
    refine lv_iconst (v := 1) hx hb dX12_hasSign_15 (by decide) (ti_c 1 (by decide) fun z12 hz12 => ?_)
    refine lv_goto (tgt := 20) hx hb dX12_hasSign_16 (by decide) ?_
    refine lv_iadd hx hb dX12_hasSign_20 (tc_add fun z13 hz13 => ?_)
    first | replace hz13 := hz13 (by omega) | clear hz13
    refine r_puti C hw (hsh 49 _ rfl) fl_X12_49 rfl rfl rfl dX12_hasSign_21 (fun H locs hH hw => ?_)
    obtain ⟨ig14, eig14⟩ : ∃ f, f = up2 ig (B + 49) 7 z13 := ⟨_, rfl⟩
    rw [← eig14] at hw
    have hF : Ft B [49] ig lg ig14 lg := by rw [eig14]; exact hF.pi (by decide)
    have hI : IM [] none υ B kd ig14 rg := by rw [eig14]; exact hI.pi (by decide) (show okR none _ from trivial)
    have wig14 : (ig14 (B + 49) 7).toInt = z13.toInt := by rw [eig14, up2_eq]
    have wig14_49_8 : (ig14 (B + 49) 8).toInt = (ig (B + 49) 8).toInt := by rw [eig14, up2_j (by decide)]
    have pvr : PV B N ig14 ∧ PR B ig ig14 := by rw [eig14]; exact hpv0.at (by omega)
    refine lv_iload_n hx hb dX12_hasSign_24 rfl (lv_at hl 0 rfl) ?_
    exact r_iret C hw hr hlk (nar_b (by omega)) (Nat.le_of_ble_eq_true rfl) (Nat.le_of_ble_eq_true rfl) dX12_hasSign_25 ⟨rfl, rfl, hI, hF, ⟨_, rfl, ⟨by omega, pvr.1, pvr.2, Or.inl ⟨by omega, or_t hz7 (by omega), by omega⟩, by omega⟩⟩⟩

set_option maxHeartbeats 4000000 in
set_option maxRecDepth 100000 in
theorem t_X12_takeSign {υ : Option Int} {τ : Tp} (l : Launch) (B : Nat) (D : va_G) (cA : Nat → ClassId) (kd : sK) (ig : sI) (rg : sR) (lg : sG) (sz : Nat) (x : Int32) (N : Nat) (hpv : PV B N ig) (hmt : MT B N τ ig lg) (hsx : sgn x.toInt) (hx36 : x.toInt ≠ 36) (hI : IM [] none υ B kd ig rg) : MC l B D cA yX12_takeSign cX12_takeSign 2 none (rL 1 0 0) [.ref (B + 49), .int x] kd ig rg lg sz (PM [] none υ B [49, 54, 55, 56, 57, 58] kd ig rg lg (fun r ig' lg' => (r = none ∧ (PV B N ig' ∧ PR B ig ig' ∧ ((ig' (B + 49) 8).toInt = 0 → (ig' (B + 49) 7).toInt = (ig (B + 49) 7).toInt + 1 ∧ TS B x ig ig') ∧ (SG B ig lg x → (ig' (B + 49) 8).toInt = 0) ∧ FS (pTk (tK τ) (tS τ) x.toInt) (ig (B + 49) 8).toInt (ig (B + 49) 7).toInt (ig' (B + 49) 8).toInt (ig' (B + 49) 7).toInt ∧ TRk B τ ig ig')))) := by
  refine MC.of (own := RX12) (by decide +kernel) rfl (Nat.le_of_ble_eq_true rfl) ?_
  intro p e s m args below meth c ls C hr hlk hnm hw hsz hl
  have hx := C.1.1
  have hb := C.1.2.1
  have hown := C.1.2.2.2.1
  have hts := C.1.2.2.2.2
  have hl : lv_has ls 2 [(0, .ref (B + 49)), (1, .int x)] := hl
  have hF : Ft B [49, 54, 55, 56, 57, 58] ig lg ig lg := Ft.rf
  have hsh := hI.sh
  have hrm := hI.rm
  have hpv0 := hpv
  obtain ⟨hps, hat, hfa, hit, hN⟩ := hpv
  refine lv_aload_n hx hb dX12_takeSign_0 rfl (lv_at hl 0 rfl) ?_
  refine lv_iload_n hx hb dX12_takeSign_1 rfl (lv_at hl 1 rfl) ?_
  refine r_callV (As := [.int x]) (rest := []) C hw (t_X12_isSign l B D cA kd ig rg lg _ x (by omega) hI) sv_X12_55 (hsh 49 _ rfl) rfl hl.1 rfl (Nat.le_of_ble_eq_true rfl) ⟨Nat.le_of_ble_eq_true rfl, Nat.le_of_ble_eq_true rfl⟩ ⟨Nat.le_of_ble_eq_true rfl, Nat.le_of_ble_eq_true rfl⟩ dX12_takeSign_2 (fun r5 kd1 ig2 rg3 lg4 H locs hw hH hp6 => ?_)
  obtain ⟨rfl, rfl, rfl, rfl, hzhp6, hrhp6⟩ := hp6
  obtain ⟨z7, rfl, hz7⟩ := hrhp6
  refine z_eq (tgt := 29) hx hb dX12_takeSign_5 (by decide) (fun c5 => ?_) (fun c5 => ?_)
  · refine lv_aload_n hx hb dX12_takeSign_29 rfl (lv_at hl 0 rfl) ?_
    refine lv_iconst (v := 1) hx hb dX12_takeSign_30 (by decide) (ti_c 1 (by decide) fun z8 hz8 => ?_)
    refine r_callV (As := [.int z8]) (rest := []) C hw (t_X12_wrong l B D cA kd ig rg lg _ z8 N hpv0 hmt (by omega) hI) sv_X12_147 (hsh 49 _ rfl) rfl hl.1 rfl (Nat.le_of_ble_eq_true rfl) ⟨Nat.le_of_ble_eq_true rfl, Nat.le_of_ble_eq_true rfl⟩ ⟨Nat.le_of_ble_eq_true rfl, Nat.le_of_ble_eq_true rfl⟩ dX12_takeSign_31 (fun r13 kd9 ig10 rg11 lg12 H locs hw hH hp14 => ?_)
    obtain ⟨rfl, rfl, hI, hchp14, hrhp14⟩ := hp14
    have hF : Ft B [49, 54, 55, 56, 57, 58] ig lg ig10 lg12 := Ft.tr hF hchp14 (by decide) (by decide)
    obtain ⟨rfl, hvhp14⟩ := hrhp14
    obtain ⟨w1, w2, w3, w4, w5, w6⟩ := hvhp14
    have fin : (PV B N ig10 ∧ PR B ig ig10 ∧ ((ig10 (B + 49) 8).toInt = 0 → (ig10 (B + 49) 7).toInt = (ig (B + 49) 7).toInt + 1 ∧ TS B x ig ig10) ∧ (SG B ig lg x → (ig10 (B + 49) 8).toInt = 0) ∧ FS (pTk (tK τ) (tS τ) x.toInt) (ig (B + 49) 8).toInt (ig (B + 49) 7).toInt (ig10 (B + 49) 8).toInt (ig10 (B + 49) 7).toInt ∧ TRk B τ ig ig10) := ⟨w1, w2, fun q => absurd q (by omega), fun q => absurd q (or_f hz7 (by omega)), ⟨fun q => ⟨0, Or.inr ⟨SG.kn hmt hat hsx q (or_f hz7 (by omega)), by rw [w4 q]; unfold fw; omega⟩, fun q => absurd q (by omega)⟩, w5⟩, TRk.no (NDr.ft hchp14 (by decide)) (by omega)⟩
    exact r_vret C hw hr hlk (Nat.le_of_ble_eq_true rfl) (Nat.le_of_ble_eq_true rfl) dX12_takeSign_34 ⟨rfl, rfl, hI, hF, ⟨rfl, fin⟩⟩
  · have sg := or_t hz7 (by omega)
    have sl := SG.lt hpv0 sg
    have sg0 := sg.1
    refine lv_aload_n hx hb dX12_takeSign_8 rfl (lv_at hl 0 rfl) ?_
    refine lv_dup hx hb dX12_takeSign_9 rfl ?_
    refine r_get C hw (hsh 49 _ rfl) fl_X12_49 (oV_i rfl) dX12_takeSign_10 (ti_c (ig (B + 49) 7).toInt rfl fun z15 hz15 => ?_)
    refine lv_iconst (v := 1) hx hb dX12_takeSign_13 (by decide) (ti_c 1 (by decide) fun z16 hz16 => ?_)
    refine lv_iadd hx hb dX12_takeSign_14 (tc_add fun z17 hz17 => ?_)
    first | replace hz17 := hz17 (by omega) | clear hz17
    refine r_puti C hw (hsh 49 _ rfl) fl_X12_49 rfl rfl rfl dX12_takeSign_15 (fun H locs hH hw => ?_)
    obtain ⟨ig18, eig18⟩ : ∃ f, f = up2 ig (B + 49) 7 z17 := ⟨_, rfl⟩
    rw [← eig18] at hw
    have hF : Ft B [49, 54, 55, 56, 57, 58] ig lg ig18 lg := by rw [eig18]; exact hF.pi (by decide)
    have hI : IM [] none υ B kd ig18 rg := by rw [eig18]; exact hI.pi (by decide) (show okR none _ from trivial)
    have wig18 : (ig18 (B + 49) 7).toInt = z17.toInt := by rw [eig18, up2_eq]
    have wig18_49_8 : (ig18 (B + 49) 8).toInt = (ig (B + 49) 8).toInt := by rw [eig18, up2_j (by decide)]
    have pvr : PV B N ig18 ∧ PR B ig ig18 := by rw [eig18]; exact hpv0.at (by omega)
    have e58 : ig18 (B + 58) 288 = ig (B + 58) 288 := by rw [eig18, up2_c (by decide)]
    have e58t := congrArg Int32.toInt e58
    have e5x : ∀ c k, 54 ≤ c → c ≤ 61 → ig18 (B + c) k = ig (B + c) k := fun c k a b => by rw [eig18, up2_c (by omega)]
    refine lv_aload_n hx hb dX12_takeSign_18 rfl (lv_at hl 0 rfl) ?_
    refine lv_iconst (v := 1) hx hb dX12_takeSign_19 (by decide) (ti_c 1 (by decide) fun z19 hz19 => ?_)
    refine lv_iload_n hx hb dX12_takeSign_20 rfl (lv_at hl 1 rfl) ?_
    refine lv_iconst (v := 0) hx hb dX12_takeSign_21 (by decide) (ti_c 0 (by decide) fun z20 hz20 => ?_)
    refine lv_iconst (v := 0) hx hb dX12_takeSign_22 (by decide) (ti_c 0 (by decide) fun z21 hz21 => ?_)
    refine r_callV (As := [.int z19, .int x, .int z20, .int z21]) (rest := []) C hw (t_X12_add l B D cA kd ig18 rg lg _ z19 x z20 z21 (by omega) hI) sv_X12_143 (hsh 49 _ rfl) rfl hl.1 rfl (Nat.le_of_ble_eq_true rfl) ⟨Nat.le_of_ble_eq_true rfl, Nat.le_of_ble_eq_true rfl⟩ ⟨Nat.le_of_ble_eq_true rfl, Nat.le_of_ble_eq_true rfl⟩ dX12_takeSign_23 (fun r26 kd22 ig23 rg24 lg25 H locs hw hH hp27 => ?_)
    obtain ⟨rfl, rfl, hI, hchp27, hrhp27⟩ := hp27
    have hF : Ft B [49, 54, 55, 56, 57, 58] ig lg ig23 lg25 := Ft.tr hF hchp27 (by decide) (by decide)
    obtain ⟨rfl, hvhp27⟩ := hrhp27
    have trk : TRk B τ ig ig23 := TRk.add hvhp27.1 hvhp27.2 (by omega) (fun c k a b => hchp27.i c k (fun q hq e => by have := hq; simp at this; omega)) (fun k => e5x 58 k (by decide) (by decide)) e5x (fun _ => ⟨fun q => absurd q (by omega), fun _ => by omega, fun q => absurd q (by omega)⟩) (fun q => ⟨sg0, fun h => Or.inr (Or.inl ⟨x.toInt, by rw [if_neg (by omega), if_neg (by omega)]; rw [show z19.toInt = 1 by omega], ⟨SG.k hmt hat sg, by unfold sgn at hsx; omega, by unfold sgn at hsx; omega⟩, ⟨by unfold sgn at hsx; omega, hx36⟩, by rw [congrArg Int32.toInt (hchp27.i 49 7 (by decide))]; omega⟩)⟩)
    have pvr2 : PV B N ig23 ∧ PR B ig ig23 := ⟨ADD.pv hvhp27.1 pvr.1 hchp27 (by omega) (by decide) (by decide) (by decide), pvr.2.tr (ADD.pr hvhp27.1 hchp27 (by omega) (by decide))⟩
    have ts := (ADD.ts hvhp27.1 (by omega)).at e58.symm
    have a7 := congrArg Int32.toInt (hchp27.i 49 7 (by decide))
    have a8 := congrArg Int32.toInt (hchp27.i 49 8 (by decide))
    have fin : (PV B N ig23 ∧ PR B ig ig23 ∧ ((ig23 (B + 49) 8).toInt = 0 → (ig23 (B + 49) 7).toInt = (ig (B + 49) 7).toInt + 1 ∧ TS B x ig ig23) ∧ (SG B ig lg x → (ig23 (B + 49) 8).toInt = 0) ∧ FS (pTk (tK τ) (tS τ) x.toInt) (ig (B + 49) 8).toInt (ig (B + 49) 7).toInt (ig23 (B + 49) 8).toInt (ig23 (B + 49) 7).toInt ∧ TRk B τ ig ig23) := ⟨pvr2.1, pvr2.2, fun _ => ⟨by omega, ts⟩, fun _ => by omega, ⟨fun _ => ⟨(ig (B + 49) 7).toInt.toNat + 1, Or.inl ⟨SG.k hmt hat sg, by omega, rfl⟩, fun _ => by omega⟩, fun q => absurd sg0 q⟩, trk⟩
    refine lv_goto (tgt := 34) hx hb dX12_takeSign_26 (by decide) ?_
    exact r_vret C hw hr hlk (Nat.le_of_ble_eq_true rfl) (Nat.le_of_ble_eq_true rfl) dX12_takeSign_34 ⟨rfl, rfl, hI, hF, ⟨rfl, fin⟩⟩
