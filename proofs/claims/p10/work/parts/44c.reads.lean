/-! THE REFERENCE: who reads whom -/
section HM
variable {f : Nat → Int64} {x y z8 z13 z18 : Int32} {x9 x14 x15 x16 x17 : Int64}
theorem hm_k (hx : 0 ≤ x.toInt ∧ x.toInt < 288) (hy : 0 ≤ y.toInt ∧ y.toInt < 288) (h8 : z8.toInt = 5 * x.toInt + y.toInt / 64) (h13 : z13.toInt = y.toInt % 64) (h9 : x9 = f z8.toInt.toNat) (h14 : x14 = x9 >>> (z13.toInt64 &&& 63)) (h15 : x15 = 1) (h16 : x16 = x14 &&& x15) (h17 : x17 = 1) (h18 : z18 = lg_cmp x16 x17) : z18.toInt = 0 ↔ bR f x.toInt.toNat y.toInt.toNat = true := by
  rw [h18, lg_cmp0, h17, h16, h15, Bt.end.2, h14, Bt.sshr ⟨by omega, by omega⟩, h9]
  unfold bR
  rw [show z8.toInt.toNat = 5 * x.toInt.toNat + y.toInt.toNat / 64 by omega, show z13.toInt.toNat = y.toInt.toNat % 64 by omega]
end HM
theorem plS_iff {t w u h q : Int} : q ∈ plS (t, w, u) h ↔ ∃ y x : Int, (rowv w h ≤ y ∧ y ≤ rowv u h) ∧ (colv w h ≤ x ∧ x ≤ colv u h) ∧ q = y * 12 + x := by
  constructor
  · intro hq
    obtain ⟨i, k, hi, hk, e⟩ := plF_mem hq
    unfold spH at hi
    unfold spW at hk
    exact ⟨_, _, ⟨by show rowv w h ≤ rowv w h + (i : Int); omega, by show rowv w h + (i : Int) ≤ rowv u h; have : ((rowv u h - rowv w h + 1).toNat : Int) > (i : Int) := (by exact Int.ofNat_lt.mpr hi); omega⟩, ⟨by show colv w h ≤ colv w h + (k : Int); omega, by show colv w h + (k : Int) ≤ colv u h; have : ((colv u h - colv w h + 1).toNat : Int) > (k : Int) := (by exact Int.ofNat_lt.mpr hk); omega⟩, e⟩
  · rintro ⟨y, x, ⟨a1, a2⟩, ⟨b1, b2⟩, e⟩
    have e2 : q = (rowv w h + (((y - rowv w h).toNat : Nat) : Int)) * 12 + (colv w h + (((x - colv w h).toNat : Nat) : Int)) := by omega
    rw [e2]
    exact plF_in (by unfold spH; show (y - rowv w h).toNat < (rowv u h - rowv w h + 1).toNat; omega) (by unfold spW; show (x - colv w h).toNat < (colv u h - colv w h + 1).toNat; omega)
/-- the places from one item's REF to another's -/
def rctI (B : Nat) (ig : sI) (i j : Nat) (q : Int) : Prop := ∃ y x : Int, ((ig (B + 56) i).toInt ≤ y ∧ y ≤ (ig (B + 56) j).toInt) ∧ ((ig (B + 55) i).toInt ≤ x ∧ x ≤ (ig (B + 55) j).toInt) ∧ q = y * 12 + x
def lastI (B : Nat) (ig : sI) (p k : Nat) : Nat := if 1 < k ∧ (ig (B + 54) (120 * p + k - 2)).toInt = 2 then 120 * p + k + 2 else 120 * p + k
def itRd (B : Nat) (ig : sI) (p n : Nat) (q : Int) : Prop := ∃ k : Nat, k < n ∧ (ig (B + 54) (120 * p + k)).toInt = 3 ∧ rctI B ig (120 * p + k) (lastI B ig p k) q
section ITR
variable {B p k : Nat} {ig : sI} {L : Fm} {q : Int}
def RfI (B : Nat) (ig : sI) (h : Int) (i : Nat) (w : Int) : Prop := colv w h = (ig (B + 55) i).toInt ∧ rowv w h = (ig (B + 56) i).toInt
theorem rct_S {t w u h : Int} {i j : Nat} (hw : RfI B ig h i w) (hu : RfI B ig h j u) : rctI B ig i j q ↔ q ∈ plS (t, w, u) h := by
  rw [plS_iff, hw.1, hw.2, hu.1, hu.2]
  exact Iff.rfl
theorem itm_3 {w : Int} {i : Nat} (hp : p < 288) (ho : itO B ig i) (hr : rOk B ig i) (hR : itR B ig (p : Int) i = (3, w)) : (ig (B + 54) i).toInt = 3 ∧ RfI B ig (p : Int) i w := by
  unfold itR at hR
  by_cases c : mK B ig i = 3
  · rw [if_pos c] at hR
    have h1 := ho.1 c
    have h2 := hr c
    have e : w = pkW (mF B ig i % 2) (mF B ig i / 2) (mA B ig i) (mB B ig i) (p : Int) := ((Prod.mk.inj hR).2).symm
    have k := pkW_ok (cf := mF B ig i % 2) (rf := mF B ig i / 2) (c := mA B ig i) (r := mB B ig i) (h := (p : Int)) h2.1 h2.2 ⟨by omega, by omega⟩ (by omega) (by omega)
    rw [← e] at k
    exact ⟨c, k.2.1, k.2.2⟩
  · rw [if_neg c] at hR
    split at hR
    · exact absurd (Prod.mk.inj hR).1 (by decide)
    · exact absurd (Prod.mk.inj hR).1 c
theorem itm_3r {i : Nat} (hp : p < 288) (ho : itO B ig i) (hr : rOk B ig i) (h3 : (ig (B + 54) i).toInt = 3) : ∃ w, itR B ig (p : Int) i = (3, w) ∧ RfI B ig (p : Int) i w := by
  have c : mK B ig i = 3 := h3
  have e : itR B ig (p : Int) i = (3, pkW (mF B ig i % 2) (mF B ig i / 2) (mA B ig i) (mB B ig i) (p : Int)) := if_pos c
  exact ⟨_, e, (itm_3 hp ho hr e).2⟩
theorem itm_2 {i : Nat} (h2 : (ig (B + 54) i).toInt = 2) {h : Int} : itR B ig h i = (2, 0) := by
  have c : mK B ig i = 2 := h2
  unfold itR
  rw [if_neg (by omega), if_pos c]
theorem itm_2r {i : Nat} {h : Int} (hR : itR B ig h i = (2, 0)) : (ig (B + 54) i).toInt = 2 := by
  unfold itR at hR
  by_cases c : mK B ig i = 3
  · rw [if_pos c] at hR
    exact absurd (Prod.mk.inj hR).1 (by decide)
  · rw [if_neg c] at hR
    by_cases d : mK B ig i = 2
    · exact d
    · rw [if_neg d] at hR
      exact absurd (Prod.mk.inj hR).1 d
/-- what the items of a row read is what the formula reads -/
theorem itRd_iff (hr : RowF B ig p (p : Int) L) (hg : ∀ k : Nat, (k : Int) < (ig (B + 58) p).toInt → gOk (mK B ig) (mA B ig) (120 * p + k) (120 * p + (ig (B + 58) p).toInt.toNat) ∧ rOk B ig (120 * p + k)) (hp : p < 288) (hf : fitL (p : Int) L) : itRd B ig p (ig (B + 58) p).toInt.toNat q ↔ ∃ s ∈ L, rdS s ∧ q ∈ plS s (p : Int) := by
  obtain ⟨⟨n, en, _, hE⟩, hO⟩ := hr
  have en2 : (ig (B + 58) p).toInt.toNat = n := by omega
  rw [en2] at hg ⊢
  have mi : ∀ k, k < n → mR B ig (p : Int) p k = itR B ig (p : Int) (120 * p + k) := fun k hk => mR_in (by omega) rfl
  have hA := iE.ok (g := fun w => q ∉ plS (1, w, w) (p : Int)) (h := fun w u => w = u ∨ q ∉ plS (2, w, u) (p : Int)) (fun w => Or.inl rfl) hE
  have hD := (iE.ok (g := inR (p : Int)) (h := orR (p : Int)) (fun w => ⟨Int.le_refl _, Int.le_refl _⟩) hE).mp hf
  have hB : okL (fun w => q ∉ plS (1, w, w) (p : Int)) (fun w u => w = u ∨ q ∉ plS (2, w, u) (p : Int)) L ↔ ∀ s ∈ L, rdS s → q ∉ plS s (p : Int) := by
    constructor
    · intro ok s hs r w
      obtain ⟨g1, _, h1⟩ := ok s hs r
      rcases h1 with e | h1
      · have e1 : plS s (p : Int) = plS (1, s.2.1, s.2.2) (p : Int) := rfl
        rw [← e] at e1
        rw [e1] at w
        exact g1 w
      · exact h1 w
    · intro ns s hs r
      have ne := ns s hs r
      obtain ⟨_, _, f1, f2⟩ := hf s hs r
      refine ⟨fun w => ne ?_, fun w => ne ?_, Or.inr fun w => ne w⟩
      · obtain ⟨y, x, a, b, e⟩ := plS_iff.mp w
        exact (plS_iff (t := s.1) (w := s.2.1) (u := s.2.2)).mpr ⟨y, x, by omega, by omega, e⟩
      · obtain ⟨y, x, a, b, e⟩ := plS_iff.mp w
        exact (plS_iff (t := s.1) (w := s.2.1) (u := s.2.2)).mpr ⟨y, x, by omega, by omega, e⟩
  have hC : okIs (mR B ig (p : Int) p) (fun w => q ∉ plS (1, w, w) (p : Int)) (fun w u => w = u ∨ q ∉ plS (2, w, u) (p : Int)) 0 n ↔ ¬ itRd B ig p n q := by
    constructor
    · rintro ok ⟨k, hk, h3, hrc⟩
      obtain ⟨w, e3, fw⟩ := itm_3r hp (hO k (by omega)) (hg k (by omega)).2 h3
      have o1 := (ok k (Nat.zero_le _) hk).1 w (by rw [mi k hk]; exact e3)
      unfold lastI at hrc
      split at hrc
      · rename_i c
        obtain ⟨i, rfl⟩ : ∃ i, k = i + 2 := ⟨k - 2, by omega⟩
        have e2 : 120 * p + (i + 2) - 2 = 120 * p + i := by omega
        rw [e2] at c
        obtain ⟨l1, l2, l3⟩ := (hg i (by omega)).1.1 c.2
        have hk4 : i + 4 < n := by omega
        obtain ⟨u, e4, fu⟩ := itm_3r hp (hO (i + 4) (by omega)) (hg (i + 4) (by omega)).2 (show (ig (B + 54) (120 * p + (i + 4))).toInt = 3 from l3)
        have o2 := (ok i (Nat.zero_le _) (by omega)).2 (by rw [mi i (by omega)]; exact itm_2 c.2) w u (by rw [mi (i + 2) hk]; exact e3) (by rw [mi (i + 4) hk4]; exact e4)
        have q1 : q ∈ plS (2, w, u) (p : Int) := (rct_S fw (show RfI B ig (p : Int) (120 * p + (i + 2) + 2) u from fu)).mp hrc
        rcases o2 with rfl | o2
        · exact o1 q1
        · exact o2 q1
      · exact o1 ((rct_S fw fw).mp hrc)
    · intro hn k _ hk
      refine ⟨fun w hw hq => ?_, fun h2 w u hw hu => Or.inr fun hq => ?_⟩
      · rw [mi k hk] at hw
        obtain ⟨h3, fw⟩ := itm_3 hp (hO k (by omega)) (hg k (by omega)).2 hw
        refine hn ⟨k, hk, h3, ?_⟩
        unfold lastI
        split
        · rename_i c
          obtain ⟨i, rfl⟩ : ∃ i, k = i + 2 := ⟨k - 2, by omega⟩
          have e2 : 120 * p + (i + 2) - 2 = 120 * p + i := by omega
          rw [e2] at c
          obtain ⟨l1, l2, l3⟩ := (hg i (by omega)).1.1 c.2
          have hk4 : i + 4 < n := by omega
          obtain ⟨u, e4, fu⟩ := itm_3r hp (hO (i + 4) (by omega)) (hg (i + 4) (by omega)).2 (show (ig (B + 54) (120 * p + (i + 4))).toInt = 3 from l3)
          obtain ⟨f1, f2⟩ := (hD i (Nat.zero_le _) (by omega)).2 (by rw [mi i (by omega)]; exact itm_2 c.2) w u (by rw [mi (i + 2) hk]; exact hw) (by rw [mi (i + 4) hk4]; exact e4)
          refine (rct_S (t := 2) fw (show RfI B ig (p : Int) (120 * p + (i + 2) + 2) u from fu)).mpr ?_
          obtain ⟨y, x, a, b, e⟩ := plS_iff.mp hq
          exact plS_iff.mpr ⟨y, x, by omega, by omega, e⟩
        · exact (rct_S (t := 1) fw fw).mpr hq
      · rw [mi k hk] at h2
        have c := itm_2r h2
        obtain ⟨l1, l2, l3⟩ := (hg k (by omega)).1.1 c
        have hk2 : k + 2 < n := by omega
        have hk4 : k + 4 < n := by omega
        rw [mi (k + 2) hk2] at hw
        rw [mi (k + 4) hk4] at hu
        obtain ⟨h3, fw⟩ := itm_3 hp (hO (k + 2) (by omega)) (hg (k + 2) (by omega)).2 hw
        obtain ⟨_, fu⟩ := itm_3 hp (hO (k + 4) (by omega)) (hg (k + 4) (by omega)).2 hu
        refine hn ⟨k + 2, hk2, h3, ?_⟩
        unfold lastI
        rw [if_pos ⟨by omega, by rw [show 120 * p + (k + 2) - 2 = 120 * p + k by omega]; exact c⟩]
        exact (rct_S fw (show RfI B ig (p : Int) (120 * p + (k + 2) + 2) u from fu)).mpr hq
  constructor
  · intro hx
    apply Classical.byContradiction
    intro hn
    exact hC.mp (hA.mp (hB.mpr fun s hs r w => hn ⟨s, hs, r, w⟩)) hx
  · rintro ⟨s, hs, r, w⟩
    apply Classical.byContradiction
    intro hn
    exact hB.mp (hA.mpr (hC.mpr hn)) s hs r w
end ITR
/-! the rows of reads, as far as they are filled -/
def RdP (B : Nat) (σ : Sg) (n : Nat) (lg : sG) : Prop := ∀ a b, a < 288 → b < 320 → (bR (lg (B + 64)) a b = true ↔ a < n ∧ Rd σ a b)
def RdK (B : Nat) (σ : Sg) (ig : sI) (p n : Nat) (lg : sG) : Prop := ∀ a b, a < 288 → b < 320 → (bR (lg (B + 64)) a b = true ↔ (a < p ∧ Rd σ a b) ∨ (a = p ∧ kdO (σ p) = 2 ∧ itRd B ig p n (b : Int)))
def rcY (B : Nat) (ig : sI) (i j : Nat) (y0 x0 q : Int) : Prop := ∃ y x : Int, ((ig (B + 56) i).toInt ≤ y ∧ y ≤ (ig (B + 56) j).toInt) ∧ ((ig (B + 55) i).toInt ≤ x ∧ x ≤ (ig (B + 55) j).toInt) ∧ (y < y0 ∨ (y = y0 ∧ x < x0)) ∧ q = y * 12 + x
def RdQ (B : Nat) (σ : Sg) (ig : sI) (p n i j : Nat) (y0 x0 : Int) (lg : sG) : Prop := ∀ a b, a < 288 → b < 320 → (bR (lg (B + 64)) a b = true ↔ (a < p ∧ Rd σ a b) ∨ (a = p ∧ kdO (σ p) = 2 ∧ (itRd B ig p n (b : Int) ∨ rcY B ig i j y0 x0 (b : Int))))
section RDQ
variable {B p n i j : Nat} {σ : Sg} {ig : sI} {lg lg' : sG} {y0 x0 : Int}
theorem RdP.zero (h : ∀ k, k < 1440 → lg (B + 64) k = 0) : RdP B σ 0 lg := fun a b ha hb => by
  rw [bR_z (fun w hw => h _ (by omega)) hb]
  simp
theorem RdP.ag (h : RdP B σ n lg) (e : ∀ k, lg' (B + 64) k = lg (B + 64) k) : RdP B σ n lg' := fun a b ha hb => by
  rw [show lg' (B + 64) = lg (B + 64) from funext e]; exact h a b ha hb
theorem RdK.zero (h : RdP B σ p lg) : RdK B σ ig p 0 lg := fun a b ha hb => by
  rw [h a b ha hb]
  exact ⟨Or.inl, fun w => w.elim id fun ⟨_, _, k, hk, _⟩ => absurd hk (Nat.not_lt_zero k)⟩
theorem RdK.no (h : RdK B σ ig p n lg) (h3 : (ig (B + 54) (120 * p + n)).toInt ≠ 3) : RdK B σ ig p (n + 1) lg := fun a b ha hb => by
  rw [h a b ha hb]
  refine or_congr Iff.rfl (and_congr_right fun _ => and_congr_right fun _ => ⟨fun ⟨k, hk, w⟩ => ⟨k, by omega, w⟩, fun ⟨k, hk, w⟩ => ?_⟩)
  by_cases c : k = n
  · subst c; exact (h3 w.1).elim
  · exact ⟨k, by omega, w⟩
theorem RdQ.init (h : RdK B σ ig p n lg) (hy : y0 ≤ (ig (B + 56) i).toInt) (hx : x0 ≤ (ig (B + 55) i).toInt) : RdQ B σ ig p n i j y0 x0 lg := fun a b ha hb => by
  rw [h a b ha hb]
  refine or_congr Iff.rfl (and_congr_right fun _ => and_congr_right fun _ => ⟨Or.inl, fun w => w.elim id fun ⟨y, x, q1, q2, q3, _⟩ => ?_⟩)
  omega
theorem RdQ.set (h : RdQ B σ ig p n i j y0 x0 lg) (hk : kdO (σ p) = 2) (hy : (ig (B + 56) i).toInt ≤ y0 ∧ y0 ≤ (ig (B + 56) j).toInt) (hx : (ig (B + 55) i).toInt ≤ x0 ∧ x0 ≤ (ig (B + 55) j).toInt) {b0 : Nat} (hb0 : (b0 : Int) = y0 * 12 + x0) (hs : SBt (lg (B + 64)) (lg' (B + 64)) p b0) : RdQ B σ ig p n i j y0 (x0 + 1) lg' := fun a b ha hb => by
  rw [hs a b hb, Bool.or_eq_true, h a b ha hb, Bool.and_eq_true, decide_eq_true_eq, decide_eq_true_eq]
  constructor
  · rintro ((w | ⟨w1, w2, w3 | ⟨y, x, q1, q2, q3, q4⟩⟩) | ⟨w1, w2⟩)
    · exact Or.inl w
    · exact Or.inr ⟨w1, w2, Or.inl w3⟩
    · exact Or.inr ⟨w1, w2, Or.inr ⟨y, x, q1, q2, by omega, q4⟩⟩
    · exact Or.inr ⟨w1, hk, Or.inr ⟨y0, x0, hy, hx, by omega, by omega⟩⟩
  · rintro (w | ⟨w1, w2, w3 | ⟨y, x, q1, q2, q3, q4⟩⟩)
    · exact Or.inl (Or.inl w)
    · exact Or.inl (Or.inr ⟨w1, w2, Or.inl w3⟩)
    · by_cases c : y = y0 ∧ x = x0
      · exact Or.inr ⟨w1, by omega⟩
      · exact Or.inl (Or.inr ⟨w1, w2, Or.inr ⟨y, x, q1, q2, by omega, q4⟩⟩)
theorem RdQ.row (h : RdQ B σ ig p n i j y0 x0 lg) (hx : (ig (B + 55) j).toInt < x0) : RdQ B σ ig p n i j (y0 + 1) (ig (B + 55) i).toInt lg := fun a b ha hb => by
  rw [h a b ha hb]
  refine or_congr Iff.rfl (and_congr_right fun _ => and_congr_right fun _ => or_congr Iff.rfl ⟨fun ⟨y, x, q1, q2, q3, q4⟩ => ⟨y, x, q1, q2, by omega, q4⟩, fun ⟨y, x, q1, q2, q3, q4⟩ => ⟨y, x, q1, q2, by omega, q4⟩⟩)
theorem RdQ.fin (h : RdQ B σ ig p n (120 * p + n) (lastI B ig p n) y0 x0 lg) (h3 : (ig (B + 54) (120 * p + n)).toInt = 3) (hy : (ig (B + 56) (lastI B ig p n)).toInt < y0) : RdK B σ ig p (n + 1) lg := fun a b ha hb => by
  rw [h a b ha hb]
  refine or_congr Iff.rfl (and_congr_right fun _ => and_congr_right fun _ => ⟨?_, ?_⟩)
  · rintro (⟨k, hk, w⟩ | ⟨y, x, q1, q2, q3, q4⟩)
    · exact ⟨k, by omega, w⟩
    · exact ⟨n, by omega, h3, y, x, q1, q2, q4⟩
  · rintro ⟨k, hk, w1, w2⟩
    by_cases c : k = n
    · subst c
      obtain ⟨y, x, q1, q2, q4⟩ := w2
      exact Or.inr ⟨y, x, q1, q2, by omega, q4⟩
    · exact Or.inl ⟨k, by omega, w1, w2⟩
theorem RdK.fin (h : RdK B σ ig p n lg) (hM : RowM B ig p (p : Int) (σ p)) (hg : kdO (σ p) = 2 → ∀ k : Nat, (k : Int) < (ig (B + 58) p).toInt → gOk (mK B ig) (mA B ig) (120 * p + k) (120 * p + (ig (B + 58) p).toInt.toNat) ∧ rOk B ig (120 * p + k)) (hp : p < 288) (hf : kdO (σ p) = 2 → fitL (p : Int) (fmO (σ p))) (hn : kdO (σ p) = 2 → n = (ig (B + 58) p).toInt.toNat) : RdP B σ (p + 1) lg := fun a b ha hb => by
  rw [h a b ha hb]
  constructor
  · rintro (w | ⟨rfl, w2, w3⟩)
    · exact ⟨by omega, w.2⟩
    · rw [hn w2] at w3
      exact ⟨by omega, hp, w2, (itRd_iff (hM.2.2.1 w2) (hg w2) hp (hf w2)).mp w3⟩
  · rintro ⟨w1, w2⟩
    by_cases c : a = p
    · subst c
      refine Or.inr ⟨rfl, w2.2.1, ?_⟩
      rw [hn w2.2.1]
      exact (itRd_iff (hM.2.2.1 w2.2.1) (hg w2.2.1) hp (hf w2.2.1)).mpr w2.2.2
    · exact Or.inl ⟨by omega, w2⟩
end RDQ
/-! ways of any length -/
def RcM (B : Nat) (lg : sG) : Rl := fun a b => a < 288 ∧ b < 288 ∧ bR (lg (B + 65)) a b = true
def ThM (B m n : Nat) (lg lg' : sG) : Prop := ∀ a b, a < 288 → b < 320 → (bR (lg' (B + 65)) a b = true ↔ bR (lg (B + 65)) a b = true ∨ (a < n ∧ bR (lg (B + 65)) a m = true ∧ bR (lg (B + 65)) m b = true))
def WsM (B : Nat) (σ : Sg) (n : Nat) (lg : sG) : Prop := Wsh (Rd σ) (fun k => k < n) (RcM B lg)
def RwM (B p x w : Nat) (lg lg' : sG) : Prop := RwO (B + 46) p x w lg lg'
section THM
variable {B m n p w i i2 : Nat} {σ : Sg} {lg lg' lg2 : sG} {v : Int64}
theorem RwM.zero : RwM B p m 0 lg lg := RwO.zero
theorem RwM.step (h : RwM B p m w lg lg') (hw : w < 5) (hi : i = 5 * p + w) (hi2 : i2 = 5 * m + w) (hv : v = lg' (B + 65) i ||| lg' (B + 65) i2) : RwM B p m (w + 1) lg (up2 lg' (B + 65) i v) := RwO.step (B := B + 46) h hw hi hi2 hv
theorem RwM.at (h : RwM B p m 5 lg lg') (a b : Nat) (hb : b < 320) : bR (lg' (B + 65)) a b = (bR (lg (B + 65)) a b || (decide (a = p) && bR (lg (B + 65)) m b)) := by
  have q : bR (lg' (B + 65)) a b = (bR (lg (B + 65)) a b || (decide (a = p) && decide (b < 64 * 5) && bR (lg (B + 65)) m b)) := h a b hb
  rw [q]
  have : b < 64 * 5 := by omega
  simp [this]
theorem ThM.zero : ThM B m 0 lg lg := fun a b ha hb => ⟨Or.inl, fun w => w.elim id fun w => absurd w.1 (Nat.not_lt_zero a)⟩
theorem ThM.mm (h : ThM B m n lg lg') (hm : m < 288) {b : Nat} (hb : b < 320) : bR (lg' (B + 65)) m b = true ↔ bR (lg (B + 65)) m b = true := by
  rw [h m b hm hb]
  exact ⟨fun w => w.elim id fun w => w.2.2, Or.inl⟩
theorem ThM.skip (h : ThM B m n lg lg') (hm : m < 288) (hn : n < 288) (hq : ¬ bR (lg' (B + 65)) n m = true) : ThM B m (n + 1) lg lg' := fun a b ha hb => by
  rw [h a b ha hb]
  refine or_congr Iff.rfl ⟨fun w => ⟨by omega, w.2⟩, fun w => ?_⟩
  by_cases c : a = n
  · subst c
    exact (hq ((h a m ha (by omega)).mpr (Or.inl w.2.1))).elim
  · exact ⟨by omega, w.2⟩
theorem ThM.put (h : ThM B m n lg lg') (hm : m < 288) (hn : n < 288) (hq : bR (lg' (B + 65)) n m = true) (ho : RwM B n m 5 lg' lg2) : ThM B m (n + 1) lg lg2 := fun a b ha hb => by
  have q0 : bR (lg (B + 65)) n m = true := by
    rcases (h n m hn (by omega)).mp hq with w | w
    · exact w
    · exact absurd w.1 (Nat.lt_irrefl n)
  rw [ho.at a b hb, Bool.or_eq_true, Bool.and_eq_true, decide_eq_true_eq, h a b ha hb, h.mm hm hb]
  constructor
  · rintro ((w | w) | ⟨rfl, w⟩)
    · exact Or.inl w
    · exact Or.inr ⟨by omega, w.2⟩
    · exact Or.inr ⟨by omega, q0, w⟩
  · rintro (w | w)
    · exact Or.inl (Or.inl w)
    · by_cases c : a = n
      · exact Or.inr ⟨c, w.2.2⟩
      · exact Or.inl (Or.inr ⟨by omega, w.2⟩)
theorem Rd.ltf (hf : ∀ p, p < 288 → kdO (σ p) = 2 → fitL (p : Int) (fmO (σ p))) {p q : Nat} (h : Rd σ p q) : q < 288 := by
  obtain ⟨h1, h2, s, hs, r, w⟩ := h
  have := plS_on (hf p h1 h2 s hs r) w
  omega
theorem WsM.zero (hP : RdP B σ 288 lg) (hf : ∀ p, p < 288 → kdO (σ p) = 2 → fitL (p : Int) (fmO (σ p))) (e : ∀ j, j < 1440 → lg (B + 65) j = lg (B + 64) j) : WsM B σ 0 lg := by
  have e1 : ∀ a b, a < 288 → b < 288 → bR (lg (B + 65)) a b = bR (lg (B + 64)) a b := fun a b ha hb => by unfold bR; rw [e _ (by omega)]
  refine Wsh.eq (Wsh.zero (R := Rd σ)) (fun k hk => absurd hk (Nat.not_lt_zero k)) fun a b => ?_
  constructor
  · rintro ⟨w1, w2, w3⟩
    rw [e1 a b w1 w2] at w3
    exact ((hP a b w1 (by omega)).mp w3).2
  · intro w
    have := w.ltf hf
    exact ⟨w.1, this, by rw [e1 a b w.1 this]; exact (hP a b w.1 (by omega)).mpr ⟨w.1, w⟩⟩
theorem WsM.turn (h : WsM B σ m lg) (hm : m < 288) (ht : ThM B m 288 lg lg') : WsM B σ (m + 1) lg' := by
  refine Wsh.eq (Wsh.turn (m := m) h) (fun k hk => ?_) fun a b => ?_
  · by_cases c : k = m
    · exact Or.inr c
    · exact Or.inl (by omega)
  · unfold thru RcM
    constructor
    · rintro ⟨w1, w2, w3⟩
      rcases (ht a b w1 (by omega)).mp w3 with w | w
      · exact Or.inl ⟨w1, w2, w⟩
      · exact Or.inr ⟨⟨w1, hm, w.2.1⟩, hm, w2, w.2.2⟩
    · rintro (⟨w1, w2, w3⟩ | ⟨⟨w1, _, w4⟩, _, w2, w5⟩)
      · exact ⟨w1, w2, (ht a b w1 (by omega)).mpr (Or.inl w3)⟩
      · exact ⟨w1, w2, (ht a b w1 (by omega)).mpr (Or.inr ⟨w1, w4, w5⟩)⟩
theorem WsM.free (h : WsM B σ m lg) (hk : kdO (σ m) ≠ 2) : WsM B σ (m + 1) lg := by
  refine Wsh.eq (Wsh.free (m := m) h (fun b w => hk w.2.1)) (fun k hk => ?_) fun a b => Iff.rfl
  by_cases c : k = m
  · exact Or.inr c
  · exact Or.inl (by omega)
theorem WsM.ag (h : WsM B σ n lg) (e : ∀ k, lg' (B + 65) k = lg (B + 65) k) : WsM B σ n lg' := by
  unfold WsM RcM
  rw [show lg' (B + 65) = lg (B + 65) from funext e]; exact h
/-- all ways -/
def RcA (B : Nat) (σ : Sg) (lg : sG) : Prop := ∀ a b, RcM B lg a b ↔ TG (Rd σ) a b
theorem WsM.all (h : WsM B σ 288 lg) : RcA B σ lg := fun a b => Wsh.all h (fun a b w => w.1)
end THM
theorem lastI_ag {B p k : Nat} {ig ig' : sI} (e : ∀ k, ig' (B + 54) k = ig (B + 54) k) : lastI B ig' p k = lastI B ig p k := by unfold lastI; rw [e]

set_option maxHeartbeats 4000000 in
set_option maxRecDepth 100000 in
theorem t_X12_hasE {υ : Option Int} {τ : Tp} {φ : Option Int} (l : Launch) (B : Nat) (D : va_G) (cA : Nat → ClassId) (kd : sK) (ig : sI) (rg : sR) (lg : sG) (sz : Nat) (c0 : Nat) (hc : isLm c0) (x : Int32) (y : Int32) (hx0 : 0 ≤ x.toInt ∧ x.toInt < 288) (hy0 : 0 ≤ y.toInt ∧ y.toInt < 288) (hI : IM τ φ υ B kd ig rg) : MC l B D cA yX12_has cX12_has 3 (some .boolean) (rL 0 0 0) [.ref (B + c0), .int x, .int y] kd ig rg lg sz (Pu kd ig rg lg sz (fun r => ∃ z : Int32, r = some (.int z) ∧ ((z.toInt = 1 ∧ bR (lg (B + c0)) x.toInt.toNat y.toInt.toNat = true) ∨ (z.toInt = 0 ∧ ¬ bR (lg (B + c0)) x.toInt.toNat y.toInt.toNat = true)))) := by
  refine MC.of (own := RX12) (by decide +kernel) rfl (Nat.le_of_ble_eq_true rfl) ?_
  intro p e s m args below meth c ls C hr hlk hnm hw hsz hl
  have hx := C.1.1
  have hb := C.1.2.1
  have hown := C.1.2.2.2.1
  have hts := C.1.2.2.2.2
  have hl : lv_has ls 3 [(0, .ref (B + c0)), (1, .int x), (2, .int y)] := hl
  have hsh := hI.sh
  have hrm := hI.rm
  refine lv_aload_n hx hb dX12_has_0 rfl (lv_at hl 0 rfl) ?_
  refine lv_iconst (v := 5) hx hb dX12_has_1 (by decide) (ti_c 5 (by decide) fun z1 hz1 => ?_)
  refine lv_iload_n hx hb dX12_has_2 rfl (lv_at hl 1 rfl) ?_
  refine lv_imul hx hb dX12_has_3 (tc_mulL 5 hz1 fun z2 hz2 => ?_)
  first | replace hz2 := hz2 (by omega) | clear hz2
  refine lv_iload_n hx hb dX12_has_4 rfl (lv_at hl 2 rfl) ?_
  refine lv_bipush (v := 64) hx hb dX12_has_5 (by decide) (ti_c 64 (by decide) fun z3 hz3 => ?_)
  refine lv_idiv hx hb dX12_has_7 (ne0_of (by omega)) (tc_div 64 hz3 (by decide) fun z4 bz4 hz4 => ?_)
  first | replace hz4 := hz4 (by omega) | clear hz4
  refine lv_iadd hx hb dX12_has_8 (tc_add fun z5 hz5 => ?_)
  first | replace hz5 := hz5 (by omega) | clear hz5
  refine r_lald C hw (isLm.k hc hsh) (by omega) (by omega) dX12_has_9 (lv_topl fun x6 hx6 => ?_)
  refine lv_iload_n hx hb dX12_has_10 rfl (lv_at hl 2 rfl) ?_
  refine lv_bipush (v := 64) hx hb dX12_has_11 (by decide) (ti_c 64 (by decide) fun z7 hz7 => ?_)
  refine lv_irem hx hb dX12_has_13 (ne0_of (by omega)) (tc_rem 64 hz7 (by decide) fun z8 bz8 hz8 => ?_)
  first | replace hz8 := hz8 (by omega) | clear hz8
  refine lv_lshr hx hb dX12_has_14 rfl (lv_topl fun x9 hx9 => ?_)
  refine lv_lconst (v := 1) hx hb dX12_has_15 (by decide) (lv_topl fun x10 hx10 => ?_)
  refine lv_land hx hb dX12_has_16 (lv_topl fun x11 hx11 => ?_)
  refine lv_lconst (v := 1) hx hb dX12_has_17 (by decide) (lv_topl fun x12 hx12 => ?_)
  refine W.lcmp hx hb dX12_has_18 (lv_topi fun z13 hz13 => ?_)
  refine z_ne (tgt := 26) hx hb dX12_has_19 (by decide) (fun c19 => ?_) (fun c19 => ?_)
  · refine lv_iconst (v := 0) hx hb dX12_has_26 (by decide) (ti_c 0 (by decide) fun z14 hz14 => ?_)
    exact r_iret C hw hr hlk (nar_b (by omega)) (Nat.le_of_ble_eq_true rfl) (Nat.le_of_ble_eq_true rfl) dX12_has_27 ⟨rfl, rfl, rfl, rfl, hsz, ⟨_, rfl, Or.inr ⟨by omega, fun w9 => absurd ((hm_k (f := lg (B + c0)) (z8 := z5) (z13 := z8) hx0 hy0 (by omega) (by omega) hx6 hx9 hx10 hx11 hx12 hz13).mpr w9) (by omega)⟩⟩⟩
  · refine lv_iconst (v := 1) hx hb dX12_has_22 (by decide) (ti_c 1 (by decide) fun z15 hz15 => ?_)
    refine lv_goto (tgt := 27) hx hb dX12_has_23 (by decide) ?_
    exact r_iret C hw hr hlk (nar_b (by omega)) (Nat.le_of_ble_eq_true rfl) (Nat.le_of_ble_eq_true rfl) dX12_has_27 ⟨rfl, rfl, rfl, rfl, hsz, ⟨_, rfl, Or.inl ⟨by omega, (hm_k (f := lg (B + c0)) (z8 := z5) (z13 := z8) hx0 hy0 (by omega) (by omega) hx6 hx9 hx10 hx11 hx12 hz13).mp (by omega)⟩⟩⟩

set_option maxHeartbeats 4000000 in
set_option maxRecDepth 100000 in
theorem t_X12_setsE {υ : Option Int} {τ : Tp} {φ : Option Int} (l : Launch) (B : Nat) (D : va_G) (cA : Nat → ClassId) (kd : sK) (ig : sI) (rg : sR) (lg : sG) (sz : Nat) (x : Int32) (y : Int32) (hx0 : 0 ≤ x.toInt ∧ x.toInt < 288) (hy0 : 0 ≤ y.toInt ∧ y.toInt < 288) (hI : IM τ φ υ B kd ig rg) : MC l B D cA yX12_sets cX12_sets 3 none (rL 0 0 0) [.ref (B + 64), .int x, .int y] kd ig rg lg sz (PM τ φ υ B [64] kd ig rg lg (fun r ig' lg' => (r = none ∧ SBt (lg (B + 64)) (lg' (B + 64)) x.toInt.toNat y.toInt.toNat))) := by
  refine MC.of (own := RX12) (by decide +kernel) rfl (Nat.le_of_ble_eq_true rfl) ?_
  intro p e s m args below meth c ls C hr hlk hnm hw hsz hl
  have hx := C.1.1
  have hb := C.1.2.1
  have hown := C.1.2.2.2.1
  have hts := C.1.2.2.2.2
  have hl : lv_has ls 3 [(0, .ref (B + 64)), (1, .int x), (2, .int y)] := hl
  have hF : Ft B [64] ig lg ig lg := Ft.rf
  have hsh := hI.sh
  have hrm := hI.rm
  refine lv_aload_n hx hb dX12_sets_0 rfl (lv_at hl 0 rfl) ?_
  refine lv_iconst (v := 5) hx hb dX12_sets_1 (by decide) (ti_c 5 (by decide) fun z1 hz1 => ?_)
  refine lv_iload_n hx hb dX12_sets_2 rfl (lv_at hl 1 rfl) ?_
  refine lv_imul hx hb dX12_sets_3 (tc_mulL 5 hz1 fun z2 hz2 => ?_)
  first | replace hz2 := hz2 (by omega) | clear hz2
  refine lv_iload_n hx hb dX12_sets_4 rfl (lv_at hl 2 rfl) ?_
  refine lv_bipush (v := 64) hx hb dX12_sets_5 (by decide) (ti_c 64 (by decide) fun z3 hz3 => ?_)
  refine lv_idiv hx hb dX12_sets_7 (ne0_of (by omega)) (tc_div 64 hz3 (by decide) fun z4 bz4 hz4 => ?_)
  first | replace hz4 := hz4 (by omega) | clear hz4
  refine lv_iadd hx hb dX12_sets_8 (tc_add fun z5 hz5 => ?_)
  first | replace hz5 := hz5 (by omega) | clear hz5
  refine lv_dup2_11 hx hb dX12_sets_9 rfl rfl ?_
  refine r_lald C hw (hsh 64 _ rfl) (by omega) (by omega) dX12_sets_10 (lv_topl fun x6 hx6 => ?_)
  refine lv_lconst (v := 1) hx hb dX12_sets_11 (by decide) (lv_topl fun x7 hx7 => ?_)
  refine lv_iload_n hx hb dX12_sets_12 rfl (lv_at hl 2 rfl) ?_
  refine lv_bipush (v := 64) hx hb dX12_sets_13 (by decide) (ti_c 64 (by decide) fun z8 hz8 => ?_)
  refine lv_irem hx hb dX12_sets_15 (ne0_of (by omega)) (tc_rem 64 hz8 (by decide) fun z9 bz9 hz9 => ?_)
  first | replace hz9 := hz9 (by omega) | clear hz9
  refine lv_lshl hx hb dX12_sets_16 rfl (lv_topl fun x10 hx10 => ?_)
  refine lv_lor hx hb dX12_sets_17 (lv_topl fun x11 hx11 => ?_)
  refine r_last C hw (hsh 64 _ rfl) (by omega) (by omega) dX12_sets_18 (fun H locs hH hw => ?_)
  obtain ⟨lg12, elg12⟩ : ∃ f, f = up2 lg (B + 64) z5.toInt.toNat x11 := ⟨_, rfl⟩
  rw [← elg12] at hw
  have hF : Ft B [64] ig lg ig lg12 := by rw [elg12]; exact hF.pl (by decide)
  exact r_vret C hw hr hlk (Nat.le_of_ble_eq_true rfl) (Nat.le_of_ble_eq_true rfl) dX12_sets_19 ⟨rfl, rfl, hI, hF, ⟨rfl, sb_k (x := x) (y := y) (f := lg (B + 64)) (g := lg12 (B + 64)) (z19 := z5) (z23 := z9) ⟨hx0, hy0⟩ (by omega) (by omega) hx6 hx7 hx10 hx11 (by rw [elg12, up2_eq]) (fun k hk => by rw [elg12, up2_j hk])⟩⟩

set_option maxHeartbeats 4000000 in
set_option maxRecDepth 100000 in
theorem t_X12_spanLastE {υ : Option Int} {τ : Tp} {φ : Option Int} (l : Launch) (B : Nat) (D : va_G) (cA : Nat → ClassId) (kd : sK) (ig : sI) (rg : sR) (lg : sG) (sz : Nat) (x : Int32) (y : Int32) (hx0 : 0 ≤ x.toInt ∧ x.toInt < 288) (hk0 : 0 ≤ y.toInt ∧ y.toInt < (ig (B + 58) x.toInt.toNat).toInt) (hkd : (ig (B + 59) x.toInt.toNat).toInt = 2) (h3 : (ig (B + 54) (120 * x.toInt + y.toInt).toNat).toInt = 3) (hI : IM τ φ υ B kd ig rg) : MC l B D cA yX12_spanLast cX12_spanLast 5 (some .int) (rL 0 0 0) [.ref (B + 49), .int x, .int y] kd ig rg lg sz (Pu kd ig rg lg sz (fun r => ∃ z : Int32, r = some (.int z) ∧ (((0 ≤ z.toInt ∧ z.toInt < 37080) ∧ ((0 ≤ (ig (B + 55) z.toInt.toNat).toInt ∧ (ig (B + 55) z.toInt.toNat).toInt < 12) ∧ 0 ≤ (ig (B + 56) z.toInt.toNat).toInt ∧ (ig (B + 56) z.toInt.toNat).toInt < 24)) ∧ z.toInt = (lastI B ig x.toInt.toNat y.toInt.toNat : Int)))) := by
  refine MC.of (own := RX12) (by decide +kernel) rfl (Nat.le_of_ble_eq_true rfl) ?_
  intro p e s m args below meth c ls C hr hlk hnm hw hsz hl
  have hx := C.1.1
  have hb := C.1.2.1
  have hown := C.1.2.2.2.1
  have hts := C.1.2.2.2.2
  have hl : lv_has ls 5 [(0, .ref (B + 49)), (1, .int x), (2, .int y)] := hl
  have hsh := hI.sh
  have hrm := hI.rm
  have kit := hI.its (j := x.toInt.toNat) (by omega)
  refine lv_bipush (v := 120) hx hb dX12_spanLast_0 (by decide) (ti_c 120 (by decide) fun z1 hz1 => ?_)
  refine lv_iload_n hx hb dX12_spanLast_2 rfl (lv_at hl 1 rfl) ?_
  refine lv_imul hx hb dX12_spanLast_3 (tc_mulL 120 hz1 fun z2 hz2 => ?_)
  first | replace hz2 := hz2 (by omega) | clear hz2
  refine lv_iload_n hx hb dX12_spanLast_4 rfl (lv_at hl 2 rfl) ?_
  refine lv_iadd hx hb dX12_spanLast_5 (tc_add fun z3 hz3 => ?_)
  first | replace hz3 := hz3 (by omega) | clear hz3
  refine lv_istore_n (lv' := [(3, .int z3), (0, .ref (B + 49)), (1, .int x), (2, .int y)]) hx hb dX12_spanLast_6 rfl hl (by decide) rfl (fun ls hl => ?_)
  refine lv_iload_n hx hb dX12_spanLast_7 rfl (lv_at hl 3 rfl) ?_
  refine lv_iconst (v := 1) hx hb dX12_spanLast_8 (by decide) (ti_c 1 (by decide) fun z4 hz4 => ?_)
  refine b_le (tgt := 28) hx hb dX12_spanLast_9 (by decide) (fun c9 => ?_) (fun c9 => ?_)
  · refine lv_iconst (v := 0) hx hb dX12_spanLast_28 (by decide) (ti_c 0 (by decide) fun z5 hz5 => ?_)
    refine lv_istore (lv' := [(4, .int z5), (3, .int z3), (0, .ref (B + 49)), (1, .int x), (2, .int y)]) hx hb dX12_spanLast_29 hl (by decide) rfl (fun ls hl => ?_)
    refine lv_iload hx hb dX12_spanLast_31 (lv_at hl 0 rfl) ?_
    refine z_eq (tgt := 42) hx hb dX12_spanLast_33 (by decide) (fun c33 => ?_) (fun c33 => ?_)
    · refine lv_iload_n hx hb dX12_spanLast_42 rfl (lv_at hl 1 rfl) ?_
      exact r_iret C hw hr hlk rfl (Nat.le_of_ble_eq_true rfl) (Nat.le_of_ble_eq_true rfl) dX12_spanLast_43 ⟨rfl, rfl, rfl, rfl, hsz, ⟨_, rfl, (by first | exact absurd c33 (by omega) | exact ⟨by first | exact absurd c33 (by omega) | exact ⟨by omega, IM.span2 hI hx0 (k := y) (by omega) (q := z3) (by omega) (by omega) hkd (by omega)⟩ | exact ⟨by omega, IM.ref hI hx0 hk0 (by omega) hkd (by rw [show z3.toInt.toNat = (120 * x.toInt + y.toInt).toNat by omega]; exact h3)⟩, by unfold lastI; rw [if_neg (by omega)]; omega⟩)⟩⟩
    · refine lv_iload_n hx hb dX12_spanLast_36 rfl (lv_at hl 1 rfl) ?_
      refine lv_iconst (v := 2) hx hb dX12_spanLast_37 (by decide) (ti_c 2 (by decide) fun z6 hz6 => ?_)
      refine lv_iadd hx hb dX12_spanLast_38 (tc_add fun z7 hz7 => ?_)
      first | replace hz7 := hz7 (by omega) | clear hz7
      refine lv_goto (tgt := 43) hx hb dX12_spanLast_39 (by decide) ?_
      exact r_iret C hw hr hlk rfl (Nat.le_of_ble_eq_true rfl) (Nat.le_of_ble_eq_true rfl) dX12_spanLast_43 ⟨rfl, rfl, rfl, rfl, hsz, ⟨_, rfl, (by first | exact absurd c33 (by omega) | exact ⟨by first | exact absurd c33 (by omega) | exact ⟨by omega, IM.span2 hI hx0 (k := y) (by omega) (q := z3) (by omega) (by omega) hkd (by omega)⟩ | exact ⟨by omega, IM.ref hI hx0 hk0 (by omega) hkd (by rw [show z3.toInt.toNat = (120 * x.toInt + y.toInt).toNat by omega]; exact h3)⟩, by unfold lastI; rw [if_neg (by omega)]; omega⟩)⟩⟩
  · refine lv_aload_n hx hb dX12_spanLast_12 rfl (lv_at hl 1 rfl) ?_
    refine r_get C hw (hsh 49 _ rfl) fl_X12_65 (oV_r rfl (hrm (49, 9, 54) (by decide))) dX12_spanLast_13 ?_
    refine lv_iload_n hx hb dX12_spanLast_16 rfl (lv_at hl 0 rfl) ?_
    refine lv_iconst (v := 2) hx hb dX12_spanLast_17 (by decide) (ti_c 2 (by decide) fun z8 hz8 => ?_)
    refine lv_isub hx hb dX12_spanLast_18 (tc_sub fun z9 hz9 => ?_)
    first | replace hz9 := hz9 (by omega) | clear hz9
    refine r_iald C hw (hsh 54 _ rfl) (by omega) (by omega) dX12_spanLast_19 (ti_c (ig (B + 54) z9.toInt.toNat).toInt rfl fun z10 hz10 => ?_)
    refine lv_iconst (v := 2) hx hb dX12_spanLast_20 (by decide) (ti_c 2 (by decide) fun z12 hz12 => ?_)
    refine b_ne (tgt := 28) hx hb dX12_spanLast_21 (by decide) (fun c21 => ?_) (fun c21 => ?_)
    · refine lv_iconst (v := 0) hx hb dX12_spanLast_28 (by decide) (ti_c 0 (by decide) fun z13 hz13 => ?_)
      refine lv_istore (lv' := [(4, .int z13), (3, .int z3), (0, .ref (B + 49)), (1, .int x), (2, .int y)]) hx hb dX12_spanLast_29 hl (by decide) rfl (fun ls hl => ?_)
      refine lv_iload hx hb dX12_spanLast_31 (lv_at hl 0 rfl) ?_
      refine z_eq (tgt := 42) hx hb dX12_spanLast_33 (by decide) (fun c33 => ?_) (fun c33 => ?_)
      · refine lv_iload_n hx hb dX12_spanLast_42 rfl (lv_at hl 1 rfl) ?_
        exact r_iret C hw hr hlk rfl (Nat.le_of_ble_eq_true rfl) (Nat.le_of_ble_eq_true rfl) dX12_spanLast_43 ⟨rfl, rfl, rfl, rfl, hsz, ⟨_, rfl, (by first | exact absurd c33 (by omega) | exact ⟨by first | exact absurd c33 (by omega) | exact ⟨by omega, IM.span2 hI hx0 (k := y) (by omega) (q := z9) (by omega) (by omega) hkd (by omega)⟩ | exact ⟨by omega, IM.ref hI hx0 hk0 (by omega) hkd (by rw [show z3.toInt.toNat = (120 * x.toInt + y.toInt).toNat by omega]; exact h3)⟩, by unfold lastI; rw [show 120 * x.toInt.toNat + y.toInt.toNat - 2 = z9.toInt.toNat by omega]; split <;> omega⟩)⟩⟩
      · refine lv_iload_n hx hb dX12_spanLast_36 rfl (lv_at hl 1 rfl) ?_
        refine lv_iconst (v := 2) hx hb dX12_spanLast_37 (by decide) (ti_c 2 (by decide) fun z14 hz14 => ?_)
        refine lv_iadd hx hb dX12_spanLast_38 (tc_add fun z15 hz15 => ?_)
        first | replace hz15 := hz15 (by omega) | clear hz15
        refine lv_goto (tgt := 43) hx hb dX12_spanLast_39 (by decide) ?_
        exact r_iret C hw hr hlk rfl (Nat.le_of_ble_eq_true rfl) (Nat.le_of_ble_eq_true rfl) dX12_spanLast_43 ⟨rfl, rfl, rfl, rfl, hsz, ⟨_, rfl, (by first | exact absurd c33 (by omega) | exact ⟨by first | exact absurd c33 (by omega) | exact ⟨by omega, IM.span2 hI hx0 (k := y) (by omega) (q := z9) (by omega) (by omega) hkd (by omega)⟩ | exact ⟨by omega, IM.ref hI hx0 hk0 (by omega) hkd (by rw [show z3.toInt.toNat = (120 * x.toInt + y.toInt).toNat by omega]; exact h3)⟩, by unfold lastI; rw [show 120 * x.toInt.toNat + y.toInt.toNat - 2 = z9.toInt.toNat by omega]; split <;> omega⟩)⟩⟩
    · refine lv_iconst (v := 1) hx hb dX12_spanLast_24 (by decide) (ti_c 1 (by decide) fun z16 hz16 => ?_)
      refine lv_goto (tgt := 29) hx hb dX12_spanLast_25 (by decide) ?_
      refine lv_istore (lv' := [(4, .int z16), (3, .int z3), (0, .ref (B + 49)), (1, .int x), (2, .int y)]) hx hb dX12_spanLast_29 hl (by decide) rfl (fun ls hl => ?_)
      refine lv_iload hx hb dX12_spanLast_31 (lv_at hl 0 rfl) ?_
      refine z_eq (tgt := 42) hx hb dX12_spanLast_33 (by decide) (fun c33 => ?_) (fun c33 => ?_)
      · refine lv_iload_n hx hb dX12_spanLast_42 rfl (lv_at hl 1 rfl) ?_
        exact r_iret C hw hr hlk rfl (Nat.le_of_ble_eq_true rfl) (Nat.le_of_ble_eq_true rfl) dX12_spanLast_43 ⟨rfl, rfl, rfl, rfl, hsz, ⟨_, rfl, (by first | exact absurd c33 (by omega) | exact ⟨by first | exact absurd c33 (by omega) | exact ⟨by omega, IM.span2 hI hx0 (k := y) (by omega) (q := z9) (by omega) (by omega) hkd (by omega)⟩ | exact ⟨by omega, IM.ref hI hx0 hk0 (by omega) hkd (by rw [show z3.toInt.toNat = (120 * x.toInt + y.toInt).toNat by omega]; exact h3)⟩, by unfold lastI; rw [show 120 * x.toInt.toNat + y.toInt.toNat - 2 = z9.toInt.toNat by omega]; split <;> omega⟩)⟩⟩
      · refine lv_iload_n hx hb dX12_spanLast_36 rfl (lv_at hl 1 rfl) ?_
        refine lv_iconst (v := 2) hx hb dX12_spanLast_37 (by decide) (ti_c 2 (by decide) fun z17 hz17 => ?_)
        refine lv_iadd hx hb dX12_spanLast_38 (tc_add fun z18 hz18 => ?_)
        first | replace hz18 := hz18 (by omega) | clear hz18
        refine lv_goto (tgt := 43) hx hb dX12_spanLast_39 (by decide) ?_
        exact r_iret C hw hr hlk rfl (Nat.le_of_ble_eq_true rfl) (Nat.le_of_ble_eq_true rfl) dX12_spanLast_43 ⟨rfl, rfl, rfl, rfl, hsz, ⟨_, rfl, (by first | exact absurd c33 (by omega) | exact ⟨by first | exact absurd c33 (by omega) | exact ⟨by omega, IM.span2 hI hx0 (k := y) (by omega) (q := z9) (by omega) (by omega) hkd (by omega)⟩ | exact ⟨by omega, IM.ref hI hx0 hk0 (by omega) hkd (by rw [show z3.toInt.toNat = (120 * x.toInt + y.toInt).toNat by omega]; exact h3)⟩, by unfold lastI; rw [show 120 * x.toInt.toNat + y.toInt.toNat - 2 = z9.toInt.toNat by omega]; split <;> omega⟩)⟩⟩

set_option maxHeartbeats 4000000 in
set_option maxRecDepth 100000 in
theorem t_X12_findReadsE {υ : Option Int} {τ : Tp} {φ : Option Int} (l : Launch) (B : Nat) (D : va_G) (cA : Nat → ClassId) (kd : sK) (ig : sI) (rg : sR) (lg : sG) (sz : Nat) (σ : Sg) (hM : ∀ p, p < 288 → RowM B ig p (p : Int) (σ p)) (hf : ∀ p, p < 288 → kdO (σ p) = 2 → fitL (p : Int) (fmO (σ p))) (hI : IM τ φ υ B kd ig rg) : MC l B D cA yX12_findReads cX12_findReads 7 none (rL 1 0 0) [.ref (B + 49)] kd ig rg lg sz (PM τ φ υ B [64, 65] kd ig rg lg (fun r ig' lg' => (r = none ∧ (RdP B σ 288 lg' ∧ RcA B σ lg')))) := by
  refine MC.of (own := RX12) (by decide +kernel) rfl (Nat.le_of_ble_eq_true rfl) ?_
  intro p e s m args below meth c ls C hr hlk hnm hw hsz hl
  have hx := C.1.1
  have hb := C.1.2.1
  have hown := C.1.2.2.2.1
  have hts := C.1.2.2.2.2
  have hl : lv_has ls 7 [(0, .ref (B + 49))] := hl
  have hF : Ft B [64, 65] ig lg ig lg := Ft.rf
  have hsh := hI.sh
  have hrm := hI.rm
  have hI0 := hI
  refine lv_iconst (v := 0) hx hb dX12_findReads_0 (by decide) (ti_c 0 (by decide) fun z1 hz1 => ?_)
  refine lv_istore_n (lv' := [(1, .int z1), (0, .ref (B + 49))]) hx hb dX12_findReads_1 rfl hl (by decide) rfl (fun ls hl => ?_)
  have L2 : ∀ (n : Nat) (ls : Array Slot) (H : Heap) (locs : List Loc) (ig3 : sI) (lg4 : sG) (v2 : Int32), lv_has ls 7 [(1, .int v2), (0, .ref (B + 49))] → WD B D cA s.heap kd ig3 rg lg4 H locs → IM τ φ υ B kd ig3 rg → Ft B [64, 65] ig lg ig3 lg4 → (0 ≤ v2.toInt) → (v2.toInt ≤ 1440) → (∀ j, j < v2.toInt.toNat → lg4 (B + 64) j = 0) → 1440 - v2.toInt < (n : Int) → W p l e (rL 1 0 0) s m args below meth c H locs 0 0 (MQ below (QcW B D cA (PM τ φ υ B [64, 65] kd ig rg lg (fun r ig' lg' => (r = none ∧ (RdP B σ 288 lg' ∧ RcA B σ lg'))))) args s 0 0 (fun q => B ≤ q)) (F0 m 2 ls []) := by
    intro n2
    induction n2 with
    | zero => intro ls H locs ig3 lg4 v2 hl hw hI hF g2_0 g2_1 g2_2 hmu; exact absurd hmu (by omega)
    | succ n2 ih2 =>
      intro ls H locs ig3 lg4 v2 hl hw hI hF g2_0 g2_1 g2_2 hmu
      refine lv_iload_n hx hb dX12_findReads_2 rfl (lv_at hl 0 rfl) ?_
      refine lv_sipush (v := 1440) hx hb dX12_findReads_3 (by decide) (ti_c 1440 (by decide) fun z5 hz5 => ?_)
      refine b_ge (tgt := 22) hx hb dX12_findReads_6 (by decide) (fun c6 => ?_) (fun c6 => ?_)
      · refine lv_iconst (v := 0) hx hb dX12_findReads_22 (by decide) (ti_c 0 (by decide) fun z6 hz6 => ?_)
        refine lv_istore_n (lv' := [(1, .int z6), (0, .ref (B + 49))]) hx hb dX12_findReads_23 rfl hl (by decide) rfl (fun ls hl => ?_)
        have L24 : ∀ (n : Nat) (ls : Array Slot) (H : Heap) (locs : List Loc) (ig8 : sI) (lg9 : sG) (v7 : Int32), lv_has ls 7 [(1, .int v7), (0, .ref (B + 49))] → WD B D cA s.heap kd ig8 rg lg9 H locs → IM τ φ υ B kd ig8 rg → Ft B [64, 65] ig lg ig8 lg9 → (0 ≤ v7.toInt) → (v7.toInt ≤ 288) → (RdP B σ v7.toInt.toNat lg9) → 288 - v7.toInt < (n : Int) → W p l e (rL 1 0 0) s m args below meth c H locs 0 0 (MQ below (QcW B D cA (PM τ φ υ B [64, 65] kd ig rg lg (fun r ig' lg' => (r = none ∧ (RdP B σ 288 lg' ∧ RcA B σ lg'))))) args s 0 0 (fun q => B ≤ q)) (F0 m 24 ls []) := by
          intro n24
          induction n24 with
          | zero => intro ls H locs ig8 lg9 v7 hl hw hI hF g24_0 g24_1 g24_2 hmu; exact absurd hmu (by omega)
          | succ n24 ih24 =>
            intro ls H locs ig8 lg9 v7 hl hw hI hF g24_0 g24_1 g24_2 hmu
            refine lv_iload_n hx hb dX12_findReads_24 rfl (lv_at hl 0 rfl) ?_
            refine lv_sipush (v := 288) hx hb dX12_findReads_25 (by decide) (ti_c 288 (by decide) fun z10 hz10 => ?_)
            refine b_ge (tgt := 158) hx hb dX12_findReads_28 (by decide) (fun c28 => ?_) (fun c28 => ?_)
            · refine lv_iconst (v := 0) hx hb dX12_findReads_158 (by decide) (ti_c 0 (by decide) fun z11 hz11 => ?_)
              refine lv_istore_n (lv' := [(1, .int z11), (0, .ref (B + 49))]) hx hb dX12_findReads_159 rfl hl (by decide) rfl (fun ls hl => ?_)
              have L160 : ∀ (n : Nat) (ls : Array Slot) (H : Heap) (locs : List Loc) (ig13 : sI) (lg14 : sG) (v12 : Int32), lv_has ls 7 [(1, .int v12), (0, .ref (B + 49))] → WD B D cA s.heap kd ig13 rg lg14 H locs → IM τ φ υ B kd ig13 rg → Ft B [64, 65] ig lg ig13 lg14 → (0 ≤ v12.toInt) → (v12.toInt ≤ 1440) → (RdP B σ 288 lg14) → (∀ j, j < v12.toInt.toNat → lg14 (B + 65) j = lg14 (B + 64) j) → 1440 - v12.toInt < (n : Int) → W p l e (rL 1 0 0) s m args below meth c H locs 0 0 (MQ below (QcW B D cA (PM τ φ υ B [64, 65] kd ig rg lg (fun r ig' lg' => (r = none ∧ (RdP B σ 288 lg' ∧ RcA B σ lg'))))) args s 0 0 (fun q => B ≤ q)) (F0 m 160 ls []) := by
                intro n160
                induction n160 with
                | zero => intro ls H locs ig13 lg14 v12 hl hw hI hF g160_0 g160_1 g160_2 g160_3 hmu; exact absurd hmu (by omega)
                | succ n160 ih160 =>
                  intro ls H locs ig13 lg14 v12 hl hw hI hF g160_0 g160_1 g160_2 g160_3 hmu
                  refine lv_iload_n hx hb dX12_findReads_160 rfl (lv_at hl 0 rfl) ?_
                  refine lv_sipush (v := 1440) hx hb dX12_findReads_161 (by decide) (ti_c 1440 (by decide) fun z15 hz15 => ?_)
                  refine b_ge (tgt := 185) hx hb dX12_findReads_164 (by decide) (fun c164 => ?_) (fun c164 => ?_)
                  · refine lv_iconst (v := 0) hx hb dX12_findReads_185 (by decide) (ti_c 0 (by decide) fun z16 hz16 => ?_)
                    refine lv_istore_n (lv' := [(1, .int z16), (0, .ref (B + 49))]) hx hb dX12_findReads_186 rfl hl (by decide) rfl (fun ls hl => ?_)
                    have L187 : ∀ (n : Nat) (ls : Array Slot) (H : Heap) (locs : List Loc) (ig18 : sI) (lg19 : sG) (v17 : Int32), lv_has ls 7 [(1, .int v17), (0, .ref (B + 49))] → WD B D cA s.heap kd ig18 rg lg19 H locs → IM τ φ υ B kd ig18 rg → Ft B [64, 65] ig lg ig18 lg19 → (0 ≤ v17.toInt) → (v17.toInt ≤ 288) → (RdP B σ 288 lg19) → (WsM B σ v17.toInt.toNat lg19) → 288 - v17.toInt < (n : Int) → W p l e (rL 1 0 0) s m args below meth c H locs 0 0 (MQ below (QcW B D cA (PM τ φ υ B [64, 65] kd ig rg lg (fun r ig' lg' => (r = none ∧ (RdP B σ 288 lg' ∧ RcA B σ lg'))))) args s 0 0 (fun q => B ≤ q)) (F0 m 187 ls []) := by
                      intro n187
                      induction n187 with
                      | zero => intro ls H locs ig18 lg19 v17 hl hw hI hF g187_0 g187_1 g187_2 g187_3 hmu; exact absurd hmu (by omega)
                      | succ n187 ih187 =>
                        intro ls H locs ig18 lg19 v17 hl hw hI hF g187_0 g187_1 g187_2 g187_3 hmu
                        obtain ⟨lgs, elgs⟩ : ∃ f, f = lg19 := ⟨_, rfl⟩
                        have ws9 : WsM B σ v17.toInt.toNat lgs := by rw [elgs]; exact g187_3
                        refine lv_iload_n hx hb dX12_findReads_187 rfl (lv_at hl 0 rfl) ?_
                        refine lv_sipush (v := 288) hx hb dX12_findReads_188 (by decide) (ti_c 288 (by decide) fun z20 hz20 => ?_)
                        refine b_ge (tgt := 273) hx hb dX12_findReads_191 (by decide) (fun c191 => ?_) (fun c191 => ?_)
                        · exact r_vret C hw hr hlk (Nat.le_of_ble_eq_true rfl) (Nat.le_of_ble_eq_true rfl) dX12_findReads_273 ⟨rfl, rfl, hI, hF, ⟨rfl, ⟨g187_2, (by have q9 := g187_3; rw [show v17.toInt.toNat = 288 by omega] at q9; exact q9.all)⟩⟩⟩
                        · refine lv_iconst (v := 0) hx hb dX12_findReads_194 (by decide) (ti_c 0 (by decide) fun z21 hz21 => ?_)
                          refine lv_istore_n (lv' := [(2, .int z21), (1, .int v17), (0, .ref (B + 49))]) hx hb dX12_findReads_195 rfl hl (by decide) rfl (fun ls hl => ?_)
                          have L196 : ∀ (n : Nat) (ls : Array Slot) (H : Heap) (locs : List Loc) (ig23 : sI) (lg24 : sG) (v22 : Int32), lv_has ls 7 [(2, .int v22), (1, .int v17), (0, .ref (B + 49))] → WD B D cA s.heap kd ig23 rg lg24 H locs → IM τ φ υ B kd ig23 rg → Ft B [64, 65] ig lg ig23 lg24 → (0 ≤ v22.toInt) → (v22.toInt ≤ 288) → (v17.toInt < 288) → (RdP B σ 288 lg24) → (ThM B v17.toInt.toNat v22.toInt.toNat lgs lg24) → (v22.toInt = 0 ∨ kdO (σ v17.toInt.toNat) = 2) → (v22.toInt = 0 → ∀ k, lg24 (B + 65) k = lgs (B + 65) k) → 288 - v22.toInt < (n : Int) → W p l e (rL 1 0 0) s m args below meth c H locs 0 0 (MQ below (QcW B D cA (PM τ φ υ B [64, 65] kd ig rg lg (fun r ig' lg' => (r = none ∧ (RdP B σ 288 lg' ∧ RcA B σ lg'))))) args s 0 0 (fun q => B ≤ q)) (F0 m 196 ls []) := by
                            intro n196
                            induction n196 with
                            | zero => intro ls H locs ig23 lg24 v22 hl hw hI hF g196_0 g196_1 g196_2 g196_3 g196_4 g196_5 g196_6 hmu; exact absurd hmu (by omega)
                            | succ n196 ih196 =>
                              intro ls H locs ig23 lg24 v22 hl hw hI hF g196_0 g196_1 g196_2 g196_3 g196_4 g196_5 g196_6 hmu
                              refine lv_iload_n hx hb dX12_findReads_196 rfl (lv_at hl 0 rfl) ?_
                              refine lv_sipush (v := 288) hx hb dX12_findReads_197 (by decide) (ti_c 288 (by decide) fun z25 hz25 => ?_)
                              refine b_ge (tgt := 267) hx hb dX12_findReads_200 (by decide) (fun c200 => ?_) (fun c200 => ?_)
                              · refine tc_inc hx hb dX12_findReads_267 hl (k := 1) rfl (by decide) (by decide) (fun z26 hz26 ls hl => ?_)
                                first | replace hz26 := hz26 (by omega) | clear hz26
                                have hl : lv_has ls 7 [(1, .int z26), (2, .int v22), (0, .ref (B + 49))] := hl
                                refine lv_goto (tgt := 187) hx hb dX12_findReads_270 (by decide) ?_
                                exact ih187 ls H locs ig23 lg24 z26 (lv_sub hl [0, 2] rfl) hw hI hF (by omega) (by omega) (g196_3) (by rw [show z26.toInt.toNat = v17.toInt.toNat + 1 by omega]; exact WsM.turn ws9 (by omega) (by have q9 := g196_4; rw [show v22.toInt.toNat = 288 by omega] at q9; exact q9)) (by omega)
                              · refine lv_aload_n hx hb dX12_findReads_203 rfl (lv_at hl 2 rfl) ?_
                                refine r_get C hw (hsh 49 _ rfl) fl_X12_80 (oV_r rfl (hrm (49, 15, 59) (by decide))) dX12_findReads_204 ?_
                                refine lv_iload_n hx hb dX12_findReads_207 rfl (lv_at hl 1 rfl) ?_
                                refine r_iald C hw (hsh 59 _ rfl) (by omega) (by omega) dX12_findReads_208 (ti_c (ig23 (B + 59) v17.toInt.toNat).toInt rfl fun z27 hz27 => ?_)
                                rw [Ft.i hF 59 _ (by decide)] at hz27
                                have kd9 : z27.toInt = kdO (σ v17.toInt.toNat) := by rw [hz27]; exact (hM _ (by omega)).1.1
                                refine lv_iconst (v := 2) hx hb dX12_findReads_209 (by decide) (ti_c 2 (by decide) fun z29 hz29 => ?_)
                                refine b_ne (tgt := 267) hx hb dX12_findReads_210 (by decide) (fun c210 => ?_) (fun c210 => ?_)
                                · refine tc_inc hx hb dX12_findReads_267 hl (k := 1) rfl (by decide) (by decide) (fun z30 hz30 ls hl => ?_)
                                  first | replace hz30 := hz30 (by omega) | clear hz30
                                  have hl : lv_has ls 7 [(1, .int z30), (2, .int v22), (0, .ref (B + 49))] := hl
                                  refine lv_goto (tgt := 187) hx hb dX12_findReads_270 (by decide) ?_
                                  exact ih187 ls H locs ig23 lg24 z30 (lv_sub hl [0, 2] rfl) hw hI hF (by omega) (by omega) (g196_3) (by rw [show z30.toInt.toNat = v17.toInt.toNat + 1 by omega]; exact WsM.ag (WsM.free ws9 (by omega)) (g196_6 (by omega))) (by omega)
                                · have hk9 : kdO (σ v17.toInt.toNat) = 2 := by omega
                                  refine lv_aload_n hx hb dX12_findReads_213 rfl (lv_at hl 2 rfl) ?_
                                  refine r_get C hw (hsh 49 _ rfl) fl_X12_99 (oV_r rfl (hrm (49, 22, 65) (by decide))) dX12_findReads_214 ?_
                                  refine lv_iload_n hx hb dX12_findReads_217 rfl (lv_at hl 0 rfl) ?_
                                  refine lv_iload_n hx hb dX12_findReads_218 rfl (lv_at hl 1 rfl) ?_
                                  refine r_callS (As := [.ref (B + 65), .int v22, .int v17]) (rest := []) C hw (t_X12_hasE l B D cA kd ig23 rg lg24 _ 65 (Or.inr rfl) v22 v17 (by omega) (by omega) hI) ss_X12_222 rfl hl.1 rfl (Nat.le_of_ble_eq_true rfl) ⟨Nat.le_of_ble_eq_true rfl, Nat.le_of_ble_eq_true rfl⟩ ⟨Nat.le_of_ble_eq_true rfl, Nat.le_of_ble_eq_true rfl⟩ dX12_findReads_219 (fun r35 kd31 ig32 rg33 lg34 H locs hw hH hp36 => ?_)
                                  obtain ⟨rfl, rfl, rfl, rfl, hzhp36, hrhp36⟩ := hp36
                                  obtain ⟨z37, rfl, hz37⟩ := hrhp36
                                  have J261 : ∀ (ls : Array Slot) (H : Heap) (locs : List Loc) (ig38 : sI) (lg39 : sG) , lv_has ls 7 [(2, .int v22), (1, .int v17), (0, .ref (B + 49))] → WD B D cA s.heap kd ig38 rg lg39 H locs → IM τ φ υ B kd ig38 rg → Ft B [64, 65] ig lg ig38 lg39 → (ThM B v17.toInt.toNat (v22.toInt.toNat + 1) lgs lg39) → (RdP B σ 288 lg39) → W p l e (rL 1 0 0) s m args below meth c H locs 0 0 (MQ below (QcW B D cA (PM τ φ υ B [64, 65] kd ig rg lg (fun r ig' lg' => (r = none ∧ (RdP B σ 288 lg' ∧ RcA B σ lg'))))) args s 0 0 (fun q => B ≤ q)) (F0 m 261 ls []) := by
                                    intro ls H locs ig38 lg39 hl hw hI hF g261_0 g261_1
                                    refine tc_inc hx hb dX12_findReads_261 hl (k := 0) rfl (by decide) (by decide) (fun z40 hz40 ls hl => ?_)
                                    first | replace hz40 := hz40 (by omega) | clear hz40
                                    have hl : lv_has ls 7 [(2, .int z40), (1, .int v17), (0, .ref (B + 49))] := hl
                                    refine lv_goto (tgt := 196) hx hb dX12_findReads_264 (by decide) ?_
                                    exact ih196 ls H locs ig38 lg39 z40 (lv_sub hl [0, 1, 2] rfl) hw hI hF (by omega) (by omega) (by omega) (g261_1) (by rw [show z40.toInt.toNat = v22.toInt.toNat + 1 by omega]; exact g261_0) (Or.inr hk9) (fun q9 => by omega) (by omega)
                                  refine z_eq (tgt := 261) hx hb dX12_findReads_222 (by decide) (fun c222 => ?_) (fun c222 => ?_)
                                  · exact J261 ls H locs ig23 lg24 (lv_sub hl [0, 1, 2] rfl) hw hI hF (ThM.skip g196_4 (by omega) (by omega) (by0 hz37 (by omega))) (g196_3)
                                  · obtain ⟨lgr, elgr⟩ : ∃ f, f = lg24 := ⟨_, rfl⟩
                                    have g196_4 : ThM B v17.toInt.toNat v22.toInt.toNat lgs lgr := by rw [elgr]; exact g196_4
                                    have hz37 := hz37
                                    rw [← elgr] at hz37
                                    refine lv_iconst (v := 0) hx hb dX12_findReads_225 (by decide) (ti_c 0 (by decide) fun z41 hz41 => ?_)
                                    refine lv_istore_n (lv' := [(3, .int z41), (2, .int v22), (1, .int v17), (0, .ref (B + 49))]) hx hb dX12_findReads_226 rfl hl (by decide) rfl (fun ls hl => ?_)
                                    have L227 : ∀ (n : Nat) (ls : Array Slot) (H : Heap) (locs : List Loc) (ig43 : sI) (lg44 : sG) (v42 : Int32), lv_has ls 7 [(3, .int v42), (2, .int v22), (1, .int v17), (0, .ref (B + 49))] → WD B D cA s.heap kd ig43 rg lg44 H locs → IM τ φ υ B kd ig43 rg → Ft B [64, 65] ig lg ig43 lg44 → (0 ≤ v42.toInt) → (v42.toInt ≤ 5) → (RwM B v22.toInt.toNat v17.toInt.toNat v42.toInt.toNat lgr lg44) → (RdP B σ 288 lg44) → 5 - v42.toInt < (n : Int) → W p l e (rL 1 0 0) s m args below meth c H locs 0 0 (MQ below (QcW B D cA (PM τ φ υ B [64, 65] kd ig rg lg (fun r ig' lg' => (r = none ∧ (RdP B σ 288 lg' ∧ RcA B σ lg'))))) args s 0 0 (fun q => B ≤ q)) (F0 m 227 ls []) := by
                                      intro n227
                                      induction n227 with
                                      | zero => intro ls H locs ig43 lg44 v42 hl hw hI hF g227_0 g227_1 g227_2 g227_3 hmu; exact absurd hmu (by omega)
                                      | succ n227 ih227 =>
                                        intro ls H locs ig43 lg44 v42 hl hw hI hF g227_0 g227_1 g227_2 g227_3 hmu
                                        refine lv_iload_n hx hb dX12_findReads_227 rfl (lv_at hl 0 rfl) ?_
                                        refine lv_iconst (v := 5) hx hb dX12_findReads_228 (by decide) (ti_c 5 (by decide) fun z45 hz45 => ?_)
                                        refine b_ge (tgt := 261) hx hb dX12_findReads_229 (by decide) (fun c229 => ?_) (fun c229 => ?_)
                                        · exact J261 ls H locs ig43 lg44 (lv_sub hl [1, 2, 3] rfl) hw hI hF (ThM.put g196_4 (by omega) (by omega) (by1 hz37 (by omega)) (by have q9 := g227_2; rw [show v42.toInt.toNat = 5 by omega] at q9; exact q9)) (g227_3)
                                        · refine lv_aload_n hx hb dX12_findReads_232 rfl (lv_at hl 3 rfl) ?_
                                          refine r_get C hw (hsh 49 _ rfl) fl_X12_99 (oV_r rfl (hrm (49, 22, 65) (by decide))) dX12_findReads_233 ?_
                                          refine lv_iconst (v := 5) hx hb dX12_findReads_236 (by decide) (ti_c 5 (by decide) fun z46 hz46 => ?_)
                                          refine lv_iload_n hx hb dX12_findReads_237 rfl (lv_at hl 1 rfl) ?_
                                          refine lv_imul hx hb dX12_findReads_238 (tc_mulL 5 hz46 fun z47 hz47 => ?_)
                                          first | replace hz47 := hz47 (by omega) | clear hz47
                                          refine lv_iload_n hx hb dX12_findReads_239 rfl (lv_at hl 0 rfl) ?_
                                          refine lv_iadd hx hb dX12_findReads_240 (tc_add fun z48 hz48 => ?_)
                                          first | replace hz48 := hz48 (by omega) | clear hz48
                                          refine lv_dup2_11 hx hb dX12_findReads_241 rfl rfl ?_
                                          refine r_lald C hw (hsh 65 _ rfl) (by omega) (by omega) dX12_findReads_242 (lv_topl fun x49 hx49 => ?_)
                                          refine lv_aload_n hx hb dX12_findReads_243 rfl (lv_at hl 3 rfl) ?_
                                          refine r_get C hw (hsh 49 _ rfl) fl_X12_99 (oV_r rfl (hrm (49, 22, 65) (by decide))) dX12_findReads_244 ?_
                                          refine lv_iconst (v := 5) hx hb dX12_findReads_247 (by decide) (ti_c 5 (by decide) fun z50 hz50 => ?_)
                                          refine lv_iload_n hx hb dX12_findReads_248 rfl (lv_at hl 2 rfl) ?_
                                          refine lv_imul hx hb dX12_findReads_249 (tc_mulL 5 hz50 fun z51 hz51 => ?_)
                                          first | replace hz51 := hz51 (by omega) | clear hz51
                                          refine lv_iload_n hx hb dX12_findReads_250 rfl (lv_at hl 0 rfl) ?_
                                          refine lv_iadd hx hb dX12_findReads_251 (tc_add fun z52 hz52 => ?_)
                                          first | replace hz52 := hz52 (by omega) | clear hz52
                                          refine r_lald C hw (hsh 65 _ rfl) (by omega) (by omega) dX12_findReads_252 (lv_topl fun x53 hx53 => ?_)
                                          refine lv_lor hx hb dX12_findReads_253 (lv_topl fun x54 hx54 => ?_)
                                          refine r_last C hw (hsh 65 _ rfl) (by omega) (by omega) dX12_findReads_254 (fun H locs hH hw => ?_)
                                          obtain ⟨lg55, elg55⟩ : ∃ f, f = up2 lg44 (B + 65) z48.toInt.toNat x54 := ⟨_, rfl⟩
                                          rw [← elg55] at hw
                                          have hF : Ft B [64, 65] ig lg ig43 lg55 := by rw [elg55]; exact hF.pl (by decide)
                                          have ro2 : RwM B v22.toInt.toNat v17.toInt.toNat (v42.toInt.toNat + 1) lgr lg55 := by rw [elg55]; exact g227_2.step (by omega) (i2 := z52.toInt.toNat) (by omega) (by omega) (by rw [hx54, hx49, hx53])
                                          have rp2 : RdP B σ 288 lg55 := by rw [elg55]; exact g227_3.ag (fun k => up2_a (by omega))
                                          refine tc_inc hx hb dX12_findReads_255 hl (k := 0) rfl (by decide) (by decide) (fun z56 hz56 ls hl => ?_)
                                          first | replace hz56 := hz56 (by omega) | clear hz56
                                          have hl : lv_has ls 7 [(3, .int z56), (2, .int v22), (1, .int v17), (0, .ref (B + 49))] := hl
                                          refine lv_goto (tgt := 227) hx hb dX12_findReads_258 (by decide) ?_
                                          exact ih227 ls H locs ig43 lg55 z56 (lv_sub hl [0, 1, 2, 3] rfl) hw hI hF (by omega) (by omega) (by rw [show z56.toInt.toNat = v42.toInt.toNat + 1 by omega]; exact ro2) (rp2) (by omega)
                                    exact L227 ((5 - z41.toInt) + 1).toNat ls H locs ig23 lg24 z41 (lv_sub hl [0, 1, 2, 3] rfl) hw hI hF (by omega) (by omega) (by rw [show z41.toInt.toNat = 0 by omega, elgr]; exact RwM.zero) (g196_3) (by omega)
                          exact L196 ((288 - z21.toInt) + 1).toNat ls H locs ig18 lg19 z21 (lv_sub hl [0, 1, 2] rfl) hw hI hF (by omega) (by omega) (by omega) (g187_2) (by rw [show z21.toInt.toNat = 0 by omega, elgs]; exact ThM.zero) (by omega) (fun _ k => by rw [elgs]) (by omega)
                    exact L187 ((288 - z16.toInt) + 1).toNat ls H locs ig13 lg14 z16 (lv_sub hl [0, 1] rfl) hw hI hF (by omega) (by omega) (g160_2) (by rw [show z16.toInt.toNat = 0 by omega]; exact WsM.zero g160_2 hf (fun j hj => g160_3 j (by omega))) (by omega)
                  · refine lv_aload_n hx hb dX12_findReads_167 rfl (lv_at hl 1 rfl) ?_
                    refine r_get C hw (hsh 49 _ rfl) fl_X12_99 (oV_r rfl (hrm (49, 22, 65) (by decide))) dX12_findReads_168 ?_
                    refine lv_iload_n hx hb dX12_findReads_171 rfl (lv_at hl 0 rfl) ?_
                    refine lv_aload_n hx hb dX12_findReads_172 rfl (lv_at hl 1 rfl) ?_
                    refine r_get C hw (hsh 49 _ rfl) fl_X12_96 (oV_r rfl (hrm (49, 21, 64) (by decide))) dX12_findReads_173 ?_
                    refine lv_iload_n hx hb dX12_findReads_176 rfl (lv_at hl 0 rfl) ?_
                    refine r_lald C hw (hsh 64 _ rfl) (by omega) (by omega) dX12_findReads_177 (lv_topl fun x57 hx57 => ?_)
                    refine r_last C hw (hsh 65 _ rfl) (by omega) (by omega) dX12_findReads_178 (fun H locs hH hw => ?_)
                    obtain ⟨lg58, elg58⟩ : ∃ f, f = up2 lg14 (B + 65) v12.toInt.toNat x57 := ⟨_, rfl⟩
                    rw [← elg58] at hw
                    have hF : Ft B [64, 65] ig lg ig13 lg58 := by rw [elg58]; exact hF.pl (by decide)
                    refine tc_inc hx hb dX12_findReads_179 hl (k := 0) rfl (by decide) (by decide) (fun z59 hz59 ls hl => ?_)
                    first | replace hz59 := hz59 (by omega) | clear hz59
                    have hl : lv_has ls 7 [(1, .int z59), (0, .ref (B + 49))] := hl
                    refine lv_goto (tgt := 160) hx hb dX12_findReads_182 (by decide) ?_
                    exact ih160 ls H locs ig13 lg58 z59 (lv_sub hl [0, 1] rfl) hw hI hF (by omega) (by omega) ((by rw [elg58]; exact g160_2.ag (fun k => up2_a (by omega)))) (fun j hj => by rw [elg58, up2_a (show B + 64 ≠ B + 65 by omega)]; by_cases c : j = v12.toInt.toNat; (rw [c, up2_eq]; exact hx57); (rw [up2_j c]; exact g160_3 j (by omega))) (by omega)
              exact L160 ((1440 - z11.toInt) + 1).toNat ls H locs ig8 lg9 z11 (lv_sub hl [0, 1] rfl) hw hI hF (by omega) (by omega) ((by have q9 := g24_2; rw [show v7.toInt.toNat = 288 by omega] at q9; exact q9)) (fun j hj => by omega) (by omega)
            · refine lv_iconst (v := 0) hx hb dX12_findReads_31 (by decide) (ti_c 0 (by decide) fun z60 hz60 => ?_)
              refine lv_istore_n (lv' := [(2, .int z60), (1, .int v7), (0, .ref (B + 49))]) hx hb dX12_findReads_32 rfl hl (by decide) rfl (fun ls hl => ?_)
              have L33 : ∀ (n : Nat) (ls : Array Slot) (H : Heap) (locs : List Loc) (ig62 : sI) (lg63 : sG) (v61 : Int32), lv_has ls 7 [(2, .int v61), (1, .int v7), (0, .ref (B + 49))] → WD B D cA s.heap kd ig62 rg lg63 H locs → IM τ φ υ B kd ig62 rg → Ft B [64, 65] ig lg ig62 lg63 → (0 ≤ v61.toInt) → (v61.toInt ≤ (ig (B + 58) v7.toInt.toNat).toInt) → (v7.toInt < 288) → (RdK B σ ig v7.toInt.toNat v61.toInt.toNat lg63) → (ig (B + 58) v7.toInt.toNat).toInt - v61.toInt < (n : Int) → W p l e (rL 1 0 0) s m args below meth c H locs 0 0 (MQ below (QcW B D cA (PM τ φ υ B [64, 65] kd ig rg lg (fun r ig' lg' => (r = none ∧ (RdP B σ 288 lg' ∧ RcA B σ lg'))))) args s 0 0 (fun q => B ≤ q)) (F0 m 33 ls []) := by
                intro n33
                induction n33 with
                | zero => intro ls H locs ig62 lg63 v61 hl hw hI hF g33_0 g33_1 g33_2 g33_3 hmu; exact absurd hmu (by omega)
                | succ n33 ih33 =>
                  intro ls H locs ig62 lg63 v61 hl hw hI hF g33_0 g33_1 g33_2 g33_3 hmu
                  have kit9 := hI0.its (j := v7.toInt.toNat) (by omega)
                  refine lv_iload_n hx hb dX12_findReads_33 rfl (lv_at hl 0 rfl) ?_
                  refine lv_aload_n hx hb dX12_findReads_34 rfl (lv_at hl 2 rfl) ?_
                  refine r_get C hw (hsh 49 _ rfl) fl_X12_77 (oV_r rfl (hrm (49, 13, 58) (by decide))) dX12_findReads_35 ?_
                  refine lv_iload_n hx hb dX12_findReads_38 rfl (lv_at hl 1 rfl) ?_
                  refine r_iald C hw (hsh 58 _ rfl) (by omega) (by omega) dX12_findReads_39 (ti_c (ig62 (B + 58) v7.toInt.toNat).toInt rfl fun z64 hz64 => ?_)
                  have k65 := hI.its (j := (v7.toInt.toNat)) (by omega)
                  rw [Ft.i hF 58 _ (by decide)] at hz64 k65
                  refine b_ge (tgt := 152) hx hb dX12_findReads_40 (by decide) (fun c40 => ?_) (fun c40 => ?_)
                  · refine tc_inc hx hb dX12_findReads_152 hl (k := 1) rfl (by decide) (by decide) (fun z66 hz66 ls hl => ?_)
                    first | replace hz66 := hz66 (by omega) | clear hz66
                    have hl : lv_has ls 7 [(1, .int z66), (2, .int v61), (0, .ref (B + 49))] := hl
                    refine lv_goto (tgt := 24) hx hb dX12_findReads_155 (by decide) ?_
                    exact ih24 ls H locs ig62 lg63 z66 (lv_sub hl [0, 2] rfl) hw hI hF (by omega) (by omega) (by rw [show z66.toInt.toNat = v7.toInt.toNat + 1 by omega]; exact RdK.fin g33_3 (hM _ (by omega)) (fun q9 k hk => hI0.at (p := v7.toInt.toNat) (k := k) (by omega) (by omega) (by rw [(hM _ (by omega)).1.1]; exact q9) hk) (by omega) (hf _ (by omega)) (fun q9 => by omega)) (by omega)
                  · refine lv_aload_n hx hb dX12_findReads_43 rfl (lv_at hl 2 rfl) ?_
                    refine r_get C hw (hsh 49 _ rfl) fl_X12_80 (oV_r rfl (hrm (49, 15, 59) (by decide))) dX12_findReads_44 ?_
                    refine lv_iload_n hx hb dX12_findReads_47 rfl (lv_at hl 1 rfl) ?_
                    refine r_iald C hw (hsh 59 _ rfl) (by omega) (by omega) dX12_findReads_48 (ti_c (ig62 (B + 59) v7.toInt.toNat).toInt rfl fun z67 hz67 => ?_)
                    rw [Ft.i hF 59 _ (by decide)] at hz67
                    have kd9 : z67.toInt = kdO (σ v7.toInt.toNat) := by rw [hz67]; exact (hM _ (by omega)).1.1
                    refine lv_iconst (v := 2) hx hb dX12_findReads_49 (by decide) (ti_c 2 (by decide) fun z69 hz69 => ?_)
                    refine b_ne (tgt := 152) hx hb dX12_findReads_50 (by decide) (fun c50 => ?_) (fun c50 => ?_)
                    · refine tc_inc hx hb dX12_findReads_152 hl (k := 1) rfl (by decide) (by decide) (fun z70 hz70 ls hl => ?_)
                      first | replace hz70 := hz70 (by omega) | clear hz70
                      have hl : lv_has ls 7 [(1, .int z70), (2, .int v61), (0, .ref (B + 49))] := hl
                      refine lv_goto (tgt := 24) hx hb dX12_findReads_155 (by decide) ?_
                      exact ih24 ls H locs ig62 lg63 z70 (lv_sub hl [0, 2] rfl) hw hI hF (by omega) (by omega) (by rw [show z70.toInt.toNat = v7.toInt.toNat + 1 by omega]; exact RdK.fin g33_3 (hM _ (by omega)) (fun q9 k hk => hI0.at (p := v7.toInt.toNat) (k := k) (by omega) (by omega) (by rw [(hM _ (by omega)).1.1]; exact q9) hk) (by omega) (hf _ (by omega)) (fun q9 => absurd q9 (by omega))) (by omega)
                    · have hk9 : kdO (σ v7.toInt.toNat) = 2 := by omega
                      refine lv_bipush (v := 120) hx hb dX12_findReads_53 (by decide) (ti_c 120 (by decide) fun z71 hz71 => ?_)
                      refine lv_iload_n hx hb dX12_findReads_55 rfl (lv_at hl 1 rfl) ?_
                      refine lv_imul hx hb dX12_findReads_56 (tc_mulL 120 hz71 fun z72 hz72 => ?_)
                      first | replace hz72 := hz72 (by omega) | clear hz72
                      refine lv_iload_n hx hb dX12_findReads_57 rfl (lv_at hl 0 rfl) ?_
                      refine lv_iadd hx hb dX12_findReads_58 (tc_add fun z73 hz73 => ?_)
                      first | replace hz73 := hz73 (by omega) | clear hz73
                      refine lv_istore_n (lv' := [(3, .int z73), (2, .int v61), (1, .int v7), (0, .ref (B + 49))]) hx hb dX12_findReads_59 rfl hl (by decide) rfl (fun ls hl => ?_)
                      refine lv_aload_n hx hb dX12_findReads_60 rfl (lv_at hl 3 rfl) ?_
                      refine r_get C hw (hsh 49 _ rfl) fl_X12_65 (oV_r rfl (hrm (49, 9, 54) (by decide))) dX12_findReads_61 ?_
                      refine lv_iload_n hx hb dX12_findReads_64 rfl (lv_at hl 0 rfl) ?_
                      refine r_iald C hw (hsh 54 _ rfl) (by omega) (by omega) dX12_findReads_65 (ti_c (ig62 (B + 54) z73.toInt.toNat).toInt rfl fun z74 hz74 => ?_)
                      rw [Ft.i hF 54 _ (by decide)] at hz74
                      refine lv_iconst (v := 3) hx hb dX12_findReads_66 (by decide) (ti_c 3 (by decide) fun z76 hz76 => ?_)
                      refine b_ne (tgt := 146) hx hb dX12_findReads_67 (by decide) (fun c67 => ?_) (fun c67 => ?_)
                      · refine tc_inc hx hb dX12_findReads_146 hl (k := 1) rfl (by decide) (by decide) (fun z77 hz77 ls hl => ?_)
                        first | replace hz77 := hz77 (by omega) | clear hz77
                        have hl : lv_has ls 7 [(2, .int z77), (3, .int z73), (1, .int v7), (0, .ref (B + 49))] := hl
                        refine lv_goto (tgt := 33) hx hb dX12_findReads_149 (by decide) ?_
                        exact ih33 ls H locs ig62 lg63 z77 (lv_sub hl [0, 2, 3] rfl) hw hI hF (by omega) (by omega) (by omega) (by rw [show z77.toInt.toNat = v61.toInt.toNat + 1 by omega]; exact g33_3.no (by rw [← show z73.toInt.toNat = 120 * v7.toInt.toNat + v61.toInt.toNat by omega]; omega)) (by omega)
                      · refine lv_aload_n hx hb dX12_findReads_70 rfl (lv_at hl 3 rfl) ?_
                        refine lv_iload_n hx hb dX12_findReads_71 rfl (lv_at hl 2 rfl) ?_
                        refine lv_iload_n hx hb dX12_findReads_72 rfl (lv_at hl 1 rfl) ?_
                        refine r_callV (As := [.int v7, .int v61]) (rest := []) C hw (t_X12_spanLastE l B D cA kd ig62 rg lg63 _ v7 v61 (by omega) (by rw [Ft.i hF 58 _ (by decide)]; omega) (by rw [Ft.i hF 59 _ (by decide)]; omega) (by rw [show (120 * v7.toInt + v61.toInt).toNat = z73.toInt.toNat by omega, Ft.i hF 54 _ (by decide)]; omega) hI) sv_X12_214 (hsh 49 _ rfl) rfl hl.1 rfl (Nat.le_of_ble_eq_true rfl) ⟨Nat.le_of_ble_eq_true rfl, Nat.le_of_ble_eq_true rfl⟩ ⟨Nat.le_of_ble_eq_true rfl, Nat.le_of_ble_eq_true rfl⟩ dX12_findReads_73 (fun r82 kd78 ig79 rg80 lg81 H locs hw hH hp83 => ?_)
                        obtain ⟨rfl, rfl, rfl, rfl, hzhp83, hrhp83⟩ := hp83
                        obtain ⟨z84, rfl, hz84⟩ := hrhp83
                        rw [Ft.i hF 55 _ (by decide), Ft.i hF 56 _ (by decide)] at hz84
                        have sl9 : z84.toInt = (lastI B ig v7.toInt.toNat v61.toInt.toNat : Int) := by have q9 := hz84.2; rw [lastI_ag (fun k => Ft.i hF 54 k (by decide))] at q9; exact q9
                        have hz84 := hz84.1
                        refine lv_istore (lv' := [(4, .int z84), (3, .int z73), (2, .int v61), (1, .int v7), (0, .ref (B + 49))]) hx hb dX12_findReads_76 hl (by decide) rfl (fun ls hl => ?_)
                        have rfi := IM.ref hI0 (p := v7) (k := v61) (i := z73) (by omega) (by omega) (by omega) (by omega) (by omega)
                        refine lv_aload_n hx hb dX12_findReads_78 rfl (lv_at hl 4 rfl) ?_
                        refine r_get C hw (hsh 49 _ rfl) fl_X12_71 (oV_r rfl (hrm (49, 11, 56) (by decide))) dX12_findReads_79 ?_
                        refine lv_iload_n hx hb dX12_findReads_82 rfl (lv_at hl 1 rfl) ?_
                        refine r_iald C hw (hsh 56 _ rfl) (by omega) (by omega) dX12_findReads_83 (ti_c (ig62 (B + 56) z73.toInt.toNat).toInt rfl fun z85 hz85 => ?_)
                        rw [Ft.i hF 56 _ (by decide)] at hz85
                        refine lv_istore (lv' := [(5, .int z85), (4, .int z84), (3, .int z73), (2, .int v61), (1, .int v7), (0, .ref (B + 49))]) hx hb dX12_findReads_84 hl (by decide) rfl (fun ls hl => ?_)
                        have L86 : ∀ (n : Nat) (ls : Array Slot) (H : Heap) (locs : List Loc) (ig88 : sI) (lg89 : sG) (v87 : Int32), lv_has ls 7 [(5, .int v87), (4, .int z84), (3, .int z73), (2, .int v61), (1, .int v7), (0, .ref (B + 49))] → WD B D cA s.heap kd ig88 rg lg89 H locs → IM τ φ υ B kd ig88 rg → Ft B [64, 65] ig lg ig88 lg89 → (0 ≤ v87.toInt) → (v87.toInt ≤ 24) → (RdQ B σ ig v7.toInt.toNat v61.toInt.toNat z73.toInt.toNat z84.toInt.toNat v87.toInt (ig (B + 55) z73.toInt.toNat).toInt lg89) → ((ig (B + 56) z73.toInt.toNat).toInt ≤ v87.toInt) → 24 - v87.toInt < (n : Int) → W p l e (rL 1 0 0) s m args below meth c H locs 0 0 (MQ below (QcW B D cA (PM τ φ υ B [64, 65] kd ig rg lg (fun r ig' lg' => (r = none ∧ (RdP B σ 288 lg' ∧ RcA B σ lg'))))) args s 0 0 (fun q => B ≤ q)) (F0 m 86 ls []) := by
                          intro n86
                          induction n86 with
                          | zero => intro ls H locs ig88 lg89 v87 hl hw hI hF g86_0 g86_1 g86_2 g86_3 hmu; exact absurd hmu (by omega)
                          | succ n86 ih86 =>
                            intro ls H locs ig88 lg89 v87 hl hw hI hF g86_0 g86_1 g86_2 g86_3 hmu
                            refine lv_iload hx hb dX12_findReads_86 (lv_at hl 0 rfl) ?_
                            refine lv_aload_n hx hb dX12_findReads_88 rfl (lv_at hl 5 rfl) ?_
                            refine r_get C hw (hsh 49 _ rfl) fl_X12_71 (oV_r rfl (hrm (49, 11, 56) (by decide))) dX12_findReads_89 ?_
                            refine lv_iload hx hb dX12_findReads_92 (lv_at hl 1 rfl) ?_
                            refine r_iald C hw (hsh 56 _ rfl) (by omega) (by omega) dX12_findReads_94 (ti_c (ig88 (B + 56) z84.toInt.toNat).toInt rfl fun z90 hz90 => ?_)
                            rw [Ft.i hF 56 _ (by decide)] at hz90
                            refine b_gt (tgt := 146) hx hb dX12_findReads_95 (by decide) (fun c95 => ?_) (fun c95 => ?_)
                            · refine tc_inc hx hb dX12_findReads_146 hl (k := 3) rfl (by decide) (by decide) (fun z92 hz92 ls hl => ?_)
                              first | replace hz92 := hz92 (by omega) | clear hz92
                              have hl : lv_has ls 7 [(2, .int z92), (5, .int v87), (4, .int z84), (3, .int z73), (1, .int v7), (0, .ref (B + 49))] := hl
                              refine lv_goto (tgt := 33) hx hb dX12_findReads_149 (by decide) ?_
                              exact ih33 ls H locs ig88 lg89 z92 (lv_sub hl [0, 4, 5] rfl) hw hI hF (by omega) (by omega) (by omega) (by rw [show z92.toInt.toNat = v61.toInt.toNat + 1 by omega]; exact RdQ.fin (by rw [← show z73.toInt.toNat = 120 * v7.toInt.toNat + v61.toInt.toNat by omega, ← show z84.toInt.toNat = lastI B ig v7.toInt.toNat v61.toInt.toNat by omega]; exact g86_2) (by rw [← show z73.toInt.toNat = 120 * v7.toInt.toNat + v61.toInt.toNat by omega]; omega) (by rw [← show z84.toInt.toNat = lastI B ig v7.toInt.toNat v61.toInt.toNat by omega]; omega)) (by omega)
                            · refine lv_aload_n hx hb dX12_findReads_98 rfl (lv_at hl 5 rfl) ?_
                              refine r_get C hw (hsh 49 _ rfl) fl_X12_68 (oV_r rfl (hrm (49, 10, 55) (by decide))) dX12_findReads_99 ?_
                              refine lv_iload_n hx hb dX12_findReads_102 rfl (lv_at hl 2 rfl) ?_
                              refine r_iald C hw (hsh 55 _ rfl) (by omega) (by omega) dX12_findReads_103 (ti_c (ig88 (B + 55) z73.toInt.toNat).toInt rfl fun z93 hz93 => ?_)
                              rw [Ft.i hF 55 _ (by decide)] at hz93
                              refine lv_istore (lv' := [(6, .int z93), (5, .int v87), (4, .int z84), (3, .int z73), (2, .int v61), (1, .int v7), (0, .ref (B + 49))]) hx hb dX12_findReads_104 hl (by decide) rfl (fun ls hl => ?_)
                              have L106 : ∀ (n : Nat) (ls : Array Slot) (H : Heap) (locs : List Loc) (ig96 : sI) (lg97 : sG) (v95 : Int32), lv_has ls 7 [(6, .int v95), (5, .int v87), (4, .int z84), (3, .int z73), (2, .int v61), (1, .int v7), (0, .ref (B + 49))] → WD B D cA s.heap kd ig96 rg lg97 H locs → IM τ φ υ B kd ig96 rg → Ft B [64, 65] ig lg ig96 lg97 → (0 ≤ v95.toInt) → (v95.toInt ≤ 12) → ((ig (B + 55) z73.toInt.toNat).toInt ≤ v95.toInt) → (RdQ B σ ig v7.toInt.toNat v61.toInt.toNat z73.toInt.toNat z84.toInt.toNat v87.toInt v95.toInt lg97) → 12 - v95.toInt < (n : Int) → W p l e (rL 1 0 0) s m args below meth c H locs 0 0 (MQ below (QcW B D cA (PM τ φ υ B [64, 65] kd ig rg lg (fun r ig' lg' => (r = none ∧ (RdP B σ 288 lg' ∧ RcA B σ lg'))))) args s 0 0 (fun q => B ≤ q)) (F0 m 106 ls []) := by
                                intro n106
                                induction n106 with
                                | zero => intro ls H locs ig96 lg97 v95 hl hw hI hF g106_0 g106_1 g106_2 g106_3 hmu; exact absurd hmu (by omega)
                                | succ n106 ih106 =>
                                  intro ls H locs ig96 lg97 v95 hl hw hI hF g106_0 g106_1 g106_2 g106_3 hmu
                                  refine lv_iload hx hb dX12_findReads_106 (lv_at hl 0 rfl) ?_
                                  refine lv_aload_n hx hb dX12_findReads_108 rfl (lv_at hl 6 rfl) ?_
                                  refine r_get C hw (hsh 49 _ rfl) fl_X12_68 (oV_r rfl (hrm (49, 10, 55) (by decide))) dX12_findReads_109 ?_
                                  refine lv_iload hx hb dX12_findReads_112 (lv_at hl 2 rfl) ?_
                                  refine r_iald C hw (hsh 55 _ rfl) (by omega) (by omega) dX12_findReads_114 (ti_c (ig96 (B + 55) z84.toInt.toNat).toInt rfl fun z98 hz98 => ?_)
                                  rw [Ft.i hF 55 _ (by decide)] at hz98
                                  refine b_gt (tgt := 140) hx hb dX12_findReads_115 (by decide) (fun c115 => ?_) (fun c115 => ?_)
                                  · refine tc_inc hx hb dX12_findReads_140 hl (k := 1) rfl (by decide) (by decide) (fun z100 hz100 ls hl => ?_)
                                    first | replace hz100 := hz100 (by omega) | clear hz100
                                    have hl : lv_has ls 7 [(5, .int z100), (6, .int v95), (4, .int z84), (3, .int z73), (2, .int v61), (1, .int v7), (0, .ref (B + 49))] := hl
                                    refine lv_goto (tgt := 86) hx hb dX12_findReads_143 (by decide) ?_
                                    exact ih86 ls H locs ig96 lg97 z100 (lv_sub hl [0, 2, 3, 4, 5, 6] rfl) hw hI hF (by omega) (by omega) (by rw [show z100.toInt = v87.toInt + 1 by omega]; exact RdQ.row g106_3 (by omega)) (by omega) (by omega)
                                  · refine lv_aload_n hx hb dX12_findReads_118 rfl (lv_at hl 6 rfl) ?_
                                    refine r_get C hw (hsh 49 _ rfl) fl_X12_96 (oV_r rfl (hrm (49, 21, 64) (by decide))) dX12_findReads_119 ?_
                                    refine lv_iload_n hx hb dX12_findReads_122 rfl (lv_at hl 5 rfl) ?_
                                    refine lv_bipush (v := 12) hx hb dX12_findReads_123 (by decide) (ti_c 12 (by decide) fun z101 hz101 => ?_)
                                    refine lv_iload hx hb dX12_findReads_125 (lv_at hl 1 rfl) ?_
                                    refine lv_imul hx hb dX12_findReads_127 (tc_mulL 12 hz101 fun z102 hz102 => ?_)
                                    first | replace hz102 := hz102 (by omega) | clear hz102
                                    refine lv_iload hx hb dX12_findReads_128 (lv_at hl 0 rfl) ?_
                                    refine lv_iadd hx hb dX12_findReads_130 (tc_add fun z103 hz103 => ?_)
                                    first | replace hz103 := hz103 (by omega) | clear hz103
                                    refine r_callS (As := [.ref (B + 64), .int v7, .int z103]) (rest := []) C hw (t_X12_setsE l B D cA kd ig96 rg lg97 _ v7 z103 (by omega) (by omega) hI) ss_X12_218 rfl hl.1 rfl (Nat.le_of_ble_eq_true rfl) ⟨Nat.le_of_ble_eq_true rfl, Nat.le_of_ble_eq_true rfl⟩ ⟨Nat.le_of_ble_eq_true rfl, Nat.le_of_ble_eq_true rfl⟩ dX12_findReads_131 (fun r108 kd104 ig105 rg106 lg107 H locs hw hH hp109 => ?_)
                                    obtain ⟨rfl, rfl, hI, hchp109, hrhp109⟩ := hp109
                                    have hF : Ft B [64, 65] ig lg ig105 lg107 := Ft.tr hF hchp109 (by decide) (by decide)
                                    obtain ⟨rfl, hvhp109⟩ := hrhp109
                                    have rq2 : RdQ B σ ig v7.toInt.toNat v61.toInt.toNat z73.toInt.toNat z84.toInt.toNat v87.toInt (v95.toInt + 1) lg107 := RdQ.set g106_3 hk9 (by omega) (by omega) (b0 := z103.toInt.toNat) (by omega) hvhp109
                                    refine tc_inc hx hb dX12_findReads_134 hl (k := 0) rfl (by decide) (by decide) (fun z110 hz110 ls hl => ?_)
                                    first | replace hz110 := hz110 (by omega) | clear hz110
                                    have hl : lv_has ls 7 [(6, .int z110), (5, .int v87), (4, .int z84), (3, .int z73), (2, .int v61), (1, .int v7), (0, .ref (B + 49))] := hl
                                    refine lv_goto (tgt := 106) hx hb dX12_findReads_137 (by decide) ?_
                                    exact ih106 ls H locs ig105 lg107 z110 (lv_sub hl [0, 1, 2, 3, 4, 5, 6] rfl) hw hI hF (by omega) (by omega) (by omega) (by rw [show z110.toInt = v95.toInt + 1 by omega]; exact rq2) (by omega)
                              exact L106 ((12 - z93.toInt) + 1).toNat ls H locs ig88 lg89 z93 (lv_sub hl [0, 1, 2, 3, 4, 5, 6] rfl) hw hI hF (by omega) (by omega) (by omega) (by rw [show z93.toInt = (ig (B + 55) z73.toInt.toNat).toInt by omega]; exact g86_2) (by omega)
                        exact L86 ((24 - z85.toInt) + 1).toNat ls H locs ig62 lg63 z85 (lv_sub hl [0, 1, 2, 3, 4, 5] rfl) hw hI hF (by omega) (by omega) (RdQ.init g33_3 (by omega) (by omega)) (by omega) (by omega)
              exact L33 (((ig (B + 58) v7.toInt.toNat).toInt - z60.toInt) + 1).toNat ls H locs ig8 lg9 z60 (lv_sub hl [0, 1, 2] rfl) hw hI hF (by omega) (by have q9 := hI0.its (j := v7.toInt.toNat) (by omega); omega) (by omega) (by rw [show z60.toInt.toNat = 0 by omega]; exact RdK.zero g24_2) (by omega)
        exact L24 ((288 - z6.toInt) + 1).toNat ls H locs ig3 lg4 z6 (lv_sub hl [0, 1] rfl) hw hI hF (by omega) (by omega) (by rw [show z6.toInt.toNat = 0 by omega]; exact RdP.zero (fun k hk => g2_2 k (by omega))) (by omega)
      · refine lv_aload_n hx hb dX12_findReads_9 rfl (lv_at hl 1 rfl) ?_
        refine r_get C hw (hsh 49 _ rfl) fl_X12_96 (oV_r rfl (hrm (49, 21, 64) (by decide))) dX12_findReads_10 ?_
        refine lv_iload_n hx hb dX12_findReads_13 rfl (lv_at hl 0 rfl) ?_
        refine lv_lconst (v := 0) hx hb dX12_findReads_14 (by decide) (lv_topl fun x111 hx111 => ?_)
        refine r_last C hw (hsh 64 _ rfl) (by omega) (by omega) dX12_findReads_15 (fun H locs hH hw => ?_)
        obtain ⟨lg112, elg112⟩ : ∃ f, f = up2 lg4 (B + 64) v2.toInt.toNat x111 := ⟨_, rfl⟩
        rw [← elg112] at hw
        have hF : Ft B [64, 65] ig lg ig3 lg112 := by rw [elg112]; exact hF.pl (by decide)
        refine tc_inc hx hb dX12_findReads_16 hl (k := 0) rfl (by decide) (by decide) (fun z113 hz113 ls hl => ?_)
        first | replace hz113 := hz113 (by omega) | clear hz113
        have hl : lv_has ls 7 [(1, .int z113), (0, .ref (B + 49))] := hl
        refine lv_goto (tgt := 2) hx hb dX12_findReads_19 (by decide) ?_
        exact ih2 ls H locs ig3 lg112 z113 (lv_sub hl [0, 1] rfl) hw hI hF (by omega) (by omega) (fun j hj => by rw [elg112]; by_cases c : j = v2.toInt.toNat; (rw [c, up2_eq]; exact hx111); (rw [up2_j c]; exact g2_2 j (by omega))) (by omega)
  exact L2 ((1440 - z1.toInt) + 1).toNat ls s.heap [] ig lg z1 (lv_sub hl [0, 1] rfl) hw hI hF (by omega) (by omega) (fun j hj => by omega) (by omega)

set_option maxHeartbeats 4000000 in
set_option maxRecDepth 100000 in
theorem t_X12_isRingE {υ : Option Int} {τ : Tp} {φ : Option Int} (l : Launch) (B : Nat) (D : va_G) (cA : Nat → ClassId) (kd : sK) (ig : sI) (rg : sR) (lg : sG) (sz : Nat) (x : Int32) (hx0 : 0 ≤ x.toInt ∧ x.toInt < 288) (σ : Sg) (hC : RcA B σ lg) (hI : IM τ φ υ B kd ig rg) : MC l B D cA yX12_isRing cX12_isRing 2 (some .boolean) (rL 1 0 0) [.ref (B + 49), .int x] kd ig rg lg sz (Pu kd ig rg lg sz (fun r => ∃ z : Int32, r = some (.int z) ∧ ((z.toInt = 1 ∧ Rg σ x.toInt.toNat) ∨ (z.toInt = 0 ∧ ¬ Rg σ x.toInt.toNat)))) := by
  refine MC.of (own := RX12) (by decide +kernel) rfl (Nat.le_of_ble_eq_true rfl) ?_
  intro p e s m args below meth c ls C hr hlk hnm hw hsz hl
  have hx := C.1.1
  have hb := C.1.2.1
  have hown := C.1.2.2.2.1
  have hts := C.1.2.2.2.2
  have hl : lv_has ls 2 [(0, .ref (B + 49)), (1, .int x)] := hl
  have hsh := hI.sh
  have hrm := hI.rm
  refine lv_aload_n hx hb dX12_isRing_0 rfl (lv_at hl 0 rfl) ?_
  refine r_get C hw (hsh 49 _ rfl) fl_X12_99 (oV_r rfl (hrm (49, 22, 65) (by decide))) dX12_isRing_1 ?_
  refine lv_iload_n hx hb dX12_isRing_4 rfl (lv_at hl 1 rfl) ?_
  refine lv_iload_n hx hb dX12_isRing_5 rfl (lv_at hl 1 rfl) ?_
  refine r_callS (As := [.ref (B + 65), .int x, .int x]) (rest := []) C hw (t_X12_hasE l B D cA kd ig rg lg _ 65 (Or.inr rfl) x x (by omega) (by omega) hI) ss_X12_222 rfl hl.1 rfl (Nat.le_of_ble_eq_true rfl) ⟨Nat.le_of_ble_eq_true rfl, Nat.le_of_ble_eq_true rfl⟩ ⟨Nat.le_of_ble_eq_true rfl, Nat.le_of_ble_eq_true rfl⟩ dX12_isRing_6 (fun r5 kd1 ig2 rg3 lg4 H locs hw hH hp6 => ?_)
  obtain ⟨rfl, rfl, rfl, rfl, hzhp6, hrhp6⟩ := hp6
  have hsz := hzhp6.trans hsz
  obtain ⟨z7, rfl, hz7⟩ := hrhp6
  exact r_iret C hw hr hlk (nar_b (by omega)) (Nat.le_of_ble_eq_true rfl) (Nat.le_of_ble_eq_true rfl) dX12_isRing_9 ⟨rfl, rfl, rfl, rfl, hsz, ⟨_, rfl, (by have ic9 := hC x.toInt.toNat x.toInt.toNat; rcases hz7 with ⟨q8, q9⟩ | ⟨q8, q9⟩; exact Or.inl ⟨q8, ic9.mp ⟨by omega, by omega, q9⟩⟩; exact Or.inr ⟨q8, fun w9 => q9 (ic9.mpr w9).2.2⟩)⟩⟩
