def Bt (w : Int64) (k : Nat) : Bool := w.toBitVec.getLsbD k
theorem Bt.or {x y : Int64} {j : Nat} : Bt (x ||| y) j = (Bt x j || Bt y j) := by
  unfold Bt
  rw [Int64.toBitVec_or, BitVec.getLsbD_or]
theorem Bt.and {x y : Int64} {j : Nat} : Bt (x &&& y) j = (Bt x j && Bt y j) := by
  unfold Bt
  rw [Int64.toBitVec_and, BitVec.getLsbD_and]
theorem Bt.z {j : Nat} : Bt 0 j = false := by
  unfold Bt
  simp
theorem Bt.ext {x y : Int64} (h : ∀ j, j < 64 → Bt x j = Bt y j) : x = y := by
  apply Int64.toBitVec_inj.mp
  exact BitVec.eq_of_getLsbD_eq (fun i hi => h i hi)
/-- an amount of a shift -/
theorem shN {y : Int32} (h : 0 ≤ y.toInt ∧ y.toInt < 64) : (y.toInt64 &&& 63).toBitVec.toNat = y.toInt.toNat := by
  have e : (y.toInt64).toBitVec.toNat = y.toInt.toNat := by
    have h1 : (y.toInt64).toInt = y.toInt := Int32.toInt_toInt64 y
    have h2 : (y.toInt64).toBitVec.toInt = y.toInt := h1
    have h3 := BitVec.toInt_eq_toNat_cond (y.toInt64).toBitVec
    rw [h2] at h3
    split at h3 <;> omega
  rw [Int64.toBitVec_and, BitVec.toNat_and, e]
  show y.toInt.toNat &&& 63 = _
  rw [show (63 : Nat) = 2 ^ 6 - 1 by decide, Nat.and_two_pow_sub_one_eq_mod]
  omega
theorem smod64 {v : BitVec 64} (h : v.toNat < 64) : (v.smod 64).toNat = v.toNat := by
  have m1 : v.msb = false := by rw [BitVec.msb_eq_decide]; simp; omega
  have m2 : (64 : BitVec 64).msb = false := by decide
  unfold BitVec.smod
  rw [m1, m2]
  show (v.umod 64).toNat = _
  rw [BitVec.umod_eq, BitVec.toNat_umod]
  exact Nat.mod_eq_of_lt h
theorem Bt.one {y : Int32} (h : 0 ≤ y.toInt ∧ y.toInt < 64) {j : Nat} (hj : j < 64) : Bt ((1 : Int64) <<< (y.toInt64 &&& 63)) j = decide (j = y.toInt.toNat) := by
  unfold Bt
  have e := shN h
  rw [Int64.toBitVec_shiftLeft, BitVec.shiftLeft_eq', smod64 (by omega), e, BitVec.getLsbD_shiftLeft]
  show (decide (j < 64) && !decide (j < y.toInt.toNat) && (1#64).getLsbD (j - y.toInt.toNat)) = _
  rw [BitVec.getLsbD_one]
  generalize y.toInt.toNat = d
  by_cases q : j = d
  · subst q; simp [hj]
  · by_cases q2 : j < d
    · simp [q, q2]
    · have : ¬ (j - d = 0) := by omega
      simp [q, q2, this]
theorem Bt.c1 {j : Nat} : Bt 1 j = decide (j = 0) := by
  show (1#64).getLsbD j = _
  rw [BitVec.getLsbD_one]
  simp
/-- the bit that a shift brings to the right end -/
theorem Bt.end {x : Int64} : (x &&& 1 = 0 ↔ Bt x 0 = false) ∧ (x &&& 1 = 1 ↔ Bt x 0 = true) := by
  have e : ∀ j, Bt (x &&& 1) j = (Bt x j && decide (j = 0)) := fun j => by rw [Bt.and, Bt.c1]
  refine ⟨⟨fun h => ?_, fun h => Bt.ext fun j hj => ?_⟩, ⟨fun h => ?_, fun h => Bt.ext fun j hj => ?_⟩⟩
  · have := e 0; rw [h, Bt.z] at this; simpa using this.symm
  · rw [e, Bt.z]
    by_cases q : j = 0
    · rw [q, h]; rfl
    · simp [q]
  · have := e 0; rw [h, Bt.c1] at this; simpa using this.symm
  · rw [e, Bt.c1]
    by_cases q : j = 0
    · rw [q, h]; rfl
    · simp [q]
theorem Bt.ushr {x : Int64} {y : Int32} (h : 0 ≤ y.toInt ∧ y.toInt < 64) : Bt ((x.toUInt64 >>> (y.toInt64.toUInt64 &&& Int64.toUInt64 63)).toInt64) 0 = Bt x y.toInt.toNat := by
  unfold Bt
  have e := shN h
  show (x.toUInt64 >>> (y.toInt64.toUInt64 &&& Int64.toUInt64 63)).toBitVec.getLsbD 0 = _
  rw [UInt64.toBitVec_shiftRight, BitVec.ushiftRight_eq']
  have e2 : ((y.toInt64.toUInt64 &&& Int64.toUInt64 63).toBitVec % 64).toNat = y.toInt.toNat := by
    rw [BitVec.toNat_umod]
    have : (y.toInt64.toUInt64 &&& Int64.toUInt64 63).toBitVec.toNat = y.toInt.toNat := e
    rw [this]
    show y.toInt.toNat % 64 = _
    omega
  rw [e2, BitVec.getLsbD_ushiftRight]
  rfl
theorem Bt.sshr {x : Int64} {y : Int32} (h : 0 ≤ y.toInt ∧ y.toInt < 64) : Bt (x >>> (y.toInt64 &&& 63)) 0 = Bt x y.toInt.toNat := by
  unfold Bt
  have e := shN h
  rw [Int64.toBitVec_shiftRight, BitVec.sshiftRight_eq', smod64 (by omega), e, BitVec.getLsbD_sshiftRight]
  have : y.toInt.toNat < 64 := by omega
  generalize y.toInt.toNat = d at *
  simp [this]
/-- how many of the first n hold -/
def cnt (f : Nat → Bool) : Nat → Nat
  | 0 => 0
  | n + 1 => cnt f n + (if f n then 1 else 0)
theorem cnt.add (f : Nat → Bool) (a b : Nat) : cnt f (a + b) = cnt f a + cnt (fun k => f (a + k)) b := by
  induction b with
  | zero => rfl
  | succ b ih =>
    show cnt f (a + b) + (if f (a + b) then 1 else 0) = cnt f a + (cnt (fun k => f (a + k)) b + (if f (a + b) then 1 else 0))
    rw [ih, Nat.add_assoc]
theorem cnt.cg {f g : Nat → Bool} {n : Nat} (h : ∀ k, k < n → f k = g k) : cnt f n = cnt g n := by
  induction n with
  | zero => rfl
  | succ n ih =>
    show cnt f n + _ = cnt g n + _
    rw [ih (fun k hk => h k (by omega)), h n (by omega)]
theorem cnt.le (f : Nat → Bool) (n : Nat) : cnt f n ≤ n := by
  induction n with
  | zero => exact Nat.le_refl 0
  | succ n ih =>
    show cnt f n + _ ≤ n + 1
    split <;> omega
theorem cnt.zero {f : Nat → Bool} {n : Nat} (h : ∀ k, k < n → f k = false) : cnt f n = 0 := by
  induction n with
  | zero => rfl
  | succ n ih =>
    show cnt f n + _ = 0
    rw [ih (fun k hk => h k (by omega)), h n (by omega)]; rfl
theorem cnt.of0 {f : Nat → Bool} {n : Nat} (h : cnt f n = 0) : ∀ k, k < n → f k = false := by
  induction n with
  | zero => intro k hk; omega
  | succ n ih =>
    intro k hk
    have h' : cnt f n + (if f n then 1 else 0) = 0 := h
    have hn : f n = false := by
      cases hf : f n with
      | false => rfl
      | true => rw [hf] at h'; simp at h'
    by_cases q : k = n
    · rw [q]; exact hn
    · exact ih (by omega) k (by omega)
/-- one that held is left out -/
theorem cnt.out {f g : Nat → Bool} {n j : Nat} (hj : j < n) (hf : f j = true) (hg : g j = false) (h : ∀ k, k ≠ j → g k = f k) : cnt f n = cnt g n + 1 := by
  induction n with
  | zero => omega
  | succ n ih =>
    show cnt f n + _ = cnt g n + _ + 1
    by_cases q : j = n
    · subst q
      rw [hf, hg, cnt.cg (f := f) (g := g) (fun k hk => (h k (by omega)).symm)]; rfl
    · rw [ih (by omega), h n (by omega)]; omega
theorem nt_add {b M k : Nat} (hb : b < 256) : (b + 256 * M).testBit k = if k < 8 then b.testBit k else M.testBit (k - 8) := by
  rw [Nat.add_comm, show (256 : Nat) = 2 ^ 8 from rfl]
  exact Nat.testBit_two_pow_mul_add M (by omega) k
/-- byte by byte: and -/
theorem by_and {b a M m : Nat} (hb : b < 256) (ha : a < 256) : (b + 256 * M) &&& (a + 256 * m) = (b &&& a) + 256 * (M &&& m) := by
  have hba : b &&& a < 256 := Nat.lt_of_le_of_lt Nat.and_le_left hb
  apply Nat.eq_of_testBit_eq
  intro k
  rw [Nat.testBit_and, nt_add hb, nt_add ha, nt_add hba]
  split
  · rw [Nat.testBit_and]
  · rw [Nat.testBit_and]
/-- byte by byte: a shift whose strange signs are masked -/
theorem by_sh {b a M m d : Nat} (hb : b < 256) (ha : a < 2 ^ (8 - d)) (hd : d < 8) : ((b + 256 * M) >>> d) &&& (a + 256 * m) = ((b >>> d) &&& a) + 256 * ((M >>> d) &&& m) := by
  have hle : 2 ^ (8 - d) ≤ 2 ^ 8 := Nat.pow_le_pow_right (by omega) (by omega)
  have ha' : a < 256 := Nat.lt_of_lt_of_le ha hle
  have hba : (b >>> d) &&& a < 256 := Nat.lt_of_le_of_lt Nat.and_le_right ha'
  apply Nat.eq_of_testBit_eq
  intro k
  rw [Nat.testBit_and, Nat.testBit_shiftRight, nt_add hb, nt_add ha', nt_add hba]
  by_cases q : k < 8
  · simp only [q, if_true]
    rw [Nat.testBit_and, Nat.testBit_shiftRight]
    by_cases q2 : d + k < 8
    · simp only [q2, if_true]
    · have : a.testBit k = false := by
        apply Nat.testBit_lt_two_pow
        exact Nat.lt_of_lt_of_le ha (Nat.pow_le_pow_right (by omega) (by omega))
      rw [this]; simp
  · have q2 : ¬ (d + k < 8) := by omega
    simp only [q, q2, if_false]
    rw [Nat.testBit_and, Nat.testBit_shiftRight, show d + k - 8 = d + (k - 8) by omega]
def mkB (v : Nat) : Nat → Nat
  | 0 => 0
  | n + 1 => v + 256 * mkB v n
def sB1 (n N : Nat) : Nat := N - ((N >>> 1) &&& mkB 0x55 n)
def sB2 (n N : Nat) : Nat := (N &&& mkB 0x33 n) + ((N >>> 2) &&& mkB 0x33 n)
def sB3 (n N : Nat) : Nat := (N + N >>> 4) &&& mkB 0x0f n
theorem sB1.go {n b M : Nat} (hb : b < 256) : sB1 (n + 1) (b + 256 * M) = sB1 1 b + 256 * sB1 n M := by
  unfold sB1
  show b + 256 * M - ((b + 256 * M) >>> 1 &&& 0x55 + 256 * mkB 0x55 n) = b - (b >>> 1 &&& 0x55 + 256 * 0) + 256 * (M - (M >>> 1 &&& mkB 0x55 n))
  rw [by_sh hb (by decide) (by decide)]
  have h1 : b >>> 1 &&& 0x55 ≤ b := Nat.le_trans Nat.and_le_left (by rw [Nat.shiftRight_eq_div_pow]; exact Nat.div_le_self _ _)
  have h2 : M >>> 1 &&& mkB 0x55 n ≤ M := Nat.le_trans Nat.and_le_left (by rw [Nat.shiftRight_eq_div_pow]; exact Nat.div_le_self _ _)
  generalize hu : M >>> 1 &&& mkB 0x55 n = u at *
  show _ = b - (b >>> 1 &&& 0x55) + _
  generalize hv : b >>> 1 &&& 0x55 = v at *
  omega
theorem sB2.go {n b M : Nat} (hb : b < 256) : sB2 (n + 1) (b + 256 * M) = sB2 1 b + 256 * sB2 n M := by
  unfold sB2
  show ((b + 256 * M) &&& 0x33 + 256 * mkB 0x33 n) + ((b + 256 * M) >>> 2 &&& 0x33 + 256 * mkB 0x33 n) = (b &&& 0x33) + (b >>> 2 &&& 0x33) + 256 * ((M &&& mkB 0x33 n) + (M >>> 2 &&& mkB 0x33 n))
  rw [by_sh hb (by decide) (by decide), by_and hb (by decide)]
  omega
theorem sB3.go {n b M : Nat} (hb : b ≤ 68) (hM : M % 16 ≤ 4) : sB3 (n + 1) (b + 256 * M) = sB3 1 b + 256 * sB3 n M := by
  unfold sB3
  show (b + 256 * M + (b + 256 * M) >>> 4) &&& 0x0f + 256 * mkB 0x0f n = ((b + b >>> 4) &&& 0x0f + 256 * 0) + 256 * ((M + M >>> 4) &&& mkB 0x0f n)
  have e : b + 256 * M + (b + 256 * M) >>> 4 = (b + b >>> 4 + 16 * (M % 16)) + 256 * (M + M >>> 4) := by
    simp only [Nat.shiftRight_eq_div_pow]
    omega
  have e2 : (b + b >>> 4) &&& 15 = (b + b >>> 4 + 16 * (M % 16)) &&& 15 := by
    rw [show (15 : Nat) = 2 ^ 4 - 1 by decide, Nat.and_two_pow_sub_one_eq_mod, Nat.and_two_pow_sub_one_eq_mod]
    omega
  have hb2 : b + b >>> 4 + 16 * (M % 16) < 256 := by
    simp only [Nat.shiftRight_eq_div_pow]
    omega
  rw [e, by_and hb2 (by decide)]
  show _ = ((b + b >>> 4) &&& 15) + _
  rw [e2]
set_option maxRecDepth 100000 in
theorem sB_byte : ∀ b : Fin 256, sB1 1 b < 256 ∧ sB2 1 (sB1 1 b) ≤ 68 ∧ sB2 1 (sB1 1 b) % 16 ≤ 4 ∧ sB3 1 (sB2 1 (sB1 1 b)) = cnt (fun k => b.val.testBit k) 8 := by decide +kernel
def sB (n N : Nat) : Nat := sB3 n (sB2 n (sB1 n N))
theorem sB.go {n b M : Nat} (hb : b < 256) (hM : M < 256 ^ n) : sB (n + 1) (b + 256 * M) = cnt (fun k => b.testBit k) 8 + 256 * sB n M := by
  have h := sB_byte ⟨b, hb⟩
  have hm : sB2 n (sB1 n M) % 16 ≤ 4 := by
    cases n with
    | zero => rw [show M = 0 by simpa using hM]; decide
    | succ n =>
      have h' := sB_byte ⟨M % 256, Nat.mod_lt _ (by decide)⟩
      have e : M = M % 256 + 256 * (M / 256) := (Nat.mod_add_div M 256).symm
      rw [e, sB1.go (Nat.mod_lt _ (by decide)), sB2.go h'.1]
      have := h'.2.2.1
      omega
  unfold sB
  rw [sB1.go hb, sB2.go h.1, sB3.go h.2.1 hm, h.2.2.2]
theorem sB.eight {N : Nat} (hN : N < 2 ^ 64) : ∃ c0 c1 c2 c3 c4 c5 c6 c7 : Nat, sB 8 N = c0 + 256 * (c1 + 256 * (c2 + 256 * (c3 + 256 * (c4 + 256 * (c5 + 256 * (c6 + 256 * c7)))))) ∧ c0 ≤ 8 ∧ c1 ≤ 8 ∧ c2 ≤ 8 ∧ c3 ≤ 8 ∧ c4 ≤ 8 ∧ c5 ≤ 8 ∧ c6 ≤ 8 ∧ c7 ≤ 8 ∧ c0 + c1 + c2 + c3 + c4 + c5 + c6 + c7 = cnt (fun k => N.testBit k) 64 := by
  have hs : ∀ {f : Nat → Bool} {n : Nat}, cnt f (8 + n) = cnt f 8 + cnt (fun k => f (8 + k)) n := fun {f n} => cnt.add f 8 n
  have ht : ∀ {N : Nat}, cnt (fun k => N.testBit k) 8 = cnt (fun k => (N % 256).testBit k) 8 := fun {N} => cnt.cg (fun k hk => by
    rw [show (256 : Nat) = 2 ^ 8 from rfl, Nat.testBit_mod_two_pow]; simp [hk])
  have hm : ∀ {N n : Nat}, cnt (fun k => N.testBit k) (8 + n) = cnt (fun k => (N % 256).testBit k) 8 + cnt (fun k => (N / 256).testBit k) n := fun {N n} => by
    rw [hs, ht]
    congr 1
    exact cnt.cg (fun k _ => by
      rw [show (256 : Nat) = 2 ^ 8 from rfl, ← Nat.shiftRight_eq_div_pow, Nat.testBit_shiftRight])
  have hg : ∀ {n N : Nat}, N / 256 < 256 ^ n → sB (n + 1) N = cnt (fun k => (N % 256).testBit k) 8 + 256 * sB n (N / 256) := fun {n N} hh => by
    have := sB.go (n := n) (b := N % 256) (M := N / 256) (Nat.mod_lt _ (by decide)) hh
    rw [Nat.mod_add_div] at this
    exact this
  refine ⟨cnt (fun k => (N % 256).testBit k) 8, cnt (fun k => ((N / 256) % 256).testBit k) 8, cnt (fun k => (((N / 256) / 256) % 256).testBit k) 8, cnt (fun k => ((((N / 256) / 256) / 256) % 256).testBit k) 8, cnt (fun k => (((((N / 256) / 256) / 256) / 256) % 256).testBit k) 8, cnt (fun k => ((((((N / 256) / 256) / 256) / 256) / 256) % 256).testBit k) 8, cnt (fun k => (((((((N / 256) / 256) / 256) / 256) / 256) / 256) % 256).testBit k) 8, cnt (fun k => ((((((((N / 256) / 256) / 256) / 256) / 256) / 256) / 256) % 256).testBit k) 8, ?_, cnt.le _ 8, cnt.le _ 8, cnt.le _ 8, cnt.le _ 8, cnt.le _ 8, cnt.le _ 8, cnt.le _ 8, cnt.le _ 8, ?_⟩
  · rw [hg (by omega), hg (by omega), hg (by omega), hg (by omega), hg (by omega), hg (by omega), hg (by omega), hg (by omega)]
    have : sB 0 (N / 256 / 256 / 256 / 256 / 256 / 256 / 256 / 256) = 0 := by
      have : N / 256 / 256 / 256 / 256 / 256 / 256 / 256 / 256 = 0 := by omega
      rw [this]; decide
    rw [this, Nat.mul_zero, Nat.add_zero]
  · rw [show (64 : Nat) = 8 + (8 + (8 + (8 + (8 + (8 + (8 + (8 + 0))))))) from rfl, hm, hm, hm, hm, hm, hm, hm, hm]
    show _ = _ + (_ + (_ + (_ + (_ + (_ + (_ + (_ + 0)))))))
    simp only [Nat.add_zero, Nat.add_assoc]

theorem sB.ar {a c0 c1 c2 c3 c4 c5 c6 c7 : Nat} (ea : a = c0 + 256 * (c1 + 256 * (c2 + 256 * (c3 + 256 * (c4 + 256 * (c5 + 256 * (c6 + 256 * c7))))))) (h0 : c0 ≤ 8) (h1 : c1 ≤ 8) (h2 : c2 ≤ 8) (h3 : c3 ≤ 8) (h4 : c4 ≤ 8) (h5 : c5 ≤ 8) (h6 : c6 ≤ 8) (h7 : c7 ≤ 8) :
    ∃ b c d g : Nat, (a + a / 2 ^ 8) = b ∧ b < 2 ^ 64 ∧ (b + b / 2 ^ 16) = c ∧ c < 2 ^ 64 ∧ (c + c / 2 ^ 32) = d ∧ d < 2 ^ 64 ∧ d = c0 + c1 + c2 + c3 + c4 + c5 + c6 + c7 + 256 * g := by
  have er : ∃ r1 r2 r3 r4 r5 r6 : Nat, a = c0 + 256 * r1 ∧ r1 = c1 + 256 * r2 ∧ r2 = c2 + 256 * r3 ∧ r3 = c3 + 256 * r4 ∧ r4 = c4 + 256 * r5 ∧ r5 = c5 + 256 * r6 ∧ r6 = c6 + 256 * c7 := ⟨_, _, _, _, _, _, ea, rfl, rfl, rfl, rfl, rfl, rfl⟩
  clear ea
  obtain ⟨r1, r2, r3, r4, r5, r6, e0, e1, e2, e3, e4, e5, e6⟩ := er
  have b6 : r6 ≤ 2056 := by omega
  have b5 : r5 ≤ 526344 := by clear e0 e1 e2 e3 e4; omega
  have b4 : r4 ≤ 134744072 := by clear e0 e1 e2 e3; omega
  have b3 : r3 ≤ 34494482440 := by clear e0 e1 e2 e5 e6; omega
  have b2 : r2 ≤ 8830587504648 := by clear e0 e1 e4 e5 e6; omega
  have b1 : r1 ≤ 2260630401189896 := by clear e0 e3 e4 e5 e6; omega
  have f1 : a / 2 ^ 8 = r1 := by clear e1 e2 e3 e4 e5 e6; omega
  refine ⟨a + r1, a + r1 + (r2 + r3), a + r1 + (r2 + r3) + (r4 + r5 + (r6 + c7)), ?_⟩
  have f2 : (a + r1) / 2 ^ 16 = r2 + r3 := by
    have : a + r1 = (c0 + c1) + 256 * ((c1 + c2) + 256 * (r2 + r3)) := by clear e3 e4 e5 e6; omega
    clear e0 e1 e2 e3 e4 e5 e6 f1
    omega
  have f3 : (a + r1 + (r2 + r3)) / 2 ^ 32 = r4 + r5 + (r6 + c7) := by
    have : a + r1 + (r2 + r3) = (c0 + c1 + c2 + c3) + 256 * ((c1 + c2 + c3 + c4) + 256 * ((c2 + c3 + c4 + c5) + 256 * ((c3 + c4 + c5 + c6) + 256 * (r4 + r5 + (r6 + c7))))) := by
      clear f1 f2; omega
    clear e0 e1 e2 e3 e4 e5 e6 f1 f2
    omega
  refine ⟨(c1 + c2 + c3 + c4) + 256 * ((c2 + c3 + c4 + c5) + 256 * ((c3 + c4 + c5 + c6) + 256 * (r4 + r5 + (r6 + c7)))) + (r5 + r6 + c7), by rw [f1], by clear e1 e2 e3 e4 e5 e6 f1 f2 f3; omega, by rw [f2], by clear e1 e2 e3 e4 e5 e6 f1 f2 f3; omega, by rw [f3], by clear e1 e2 e3 e4 e5 e6 f1 f2 f3; omega, ?_⟩
  clear f1 f2 f3 b1 b2 b3 b4 b5 b6
  omega
/-- the last four steps -/
theorem sB.fin {N : Nat} (hN : N < 2 ^ 64) : ∃ b c d g : Nat, (sB 8 N + sB 8 N / 2 ^ 8) = b ∧ b < 2 ^ 64 ∧ (b + b / 2 ^ 16) = c ∧ c < 2 ^ 64 ∧ (c + c / 2 ^ 32) = d ∧ d < 2 ^ 64 ∧ d = cnt (fun k => N.testBit k) 64 + 256 * g := by
  obtain ⟨c0, c1, c2, c3, c4, c5, c6, c7, e, h0, h1, h2, h3, h4, h5, h6, h7, hs⟩ := sB.eight hN
  obtain ⟨b, c, d, g, h⟩ := sB.ar e h0 h1 h2 h3 h4 h5 h6 h7
  rw [hs] at h
  exact ⟨b, c, d, g, h⟩

def uq (x : Int64) : Nat := x.toBitVec.toNat
theorem uq.lt (x : Int64) : uq x < 2 ^ 64 := x.toBitVec.isLt
theorem uq.and (x y : Int64) : uq (x &&& y) = uq x &&& uq y := by
  unfold uq; rw [Int64.toBitVec_and, BitVec.toNat_and]
theorem uq.add (x y : Int64) : uq (x + y) = (uq x + uq y) % 2 ^ 64 := by
  unfold uq; rw [Int64.toBitVec_add, BitVec.toNat_add]
theorem uq.sub (x y : Int64) (h : uq y ≤ uq x) : uq (x - y) = uq x - uq y := by
  unfold uq at *; rw [Int64.toBitVec_sub, BitVec.toNat_sub_of_le (BitVec.le_def.mpr h)]
theorem uq.ushr {x : Int64} {y : Int32} {d : Nat} (hy : y.toInt = d) (h : d < 64) : uq ((x.toUInt64 >>> (y.toInt64.toUInt64 &&& Int64.toUInt64 63)).toInt64) = uq x >>> d := by
  have e := shN (y := y) ⟨by omega, by omega⟩
  rw [show y.toInt.toNat = d by omega] at e
  unfold uq
  show (x.toUInt64 >>> (y.toInt64.toUInt64 &&& Int64.toUInt64 63)).toBitVec.toNat = _
  rw [UInt64.toBitVec_shiftRight, BitVec.ushiftRight_eq']
  have e2 : ((y.toInt64.toUInt64 &&& Int64.toUInt64 63).toBitVec % 64).toNat = d := by
    rw [BitVec.toNat_umod]
    have : (y.toInt64.toUInt64 &&& Int64.toUInt64 63).toBitVec.toNat = d := e
    rw [this]
    show d % 64 = _
    omega
  rw [e2, BitVec.toNat_ushiftRight]
  rfl
theorem uq.bt (x : Int64) (k : Nat) : (uq x).testBit k = Bt x k := rfl
theorem bc_i {x : Int64} {g n : Nat} (h : uq x = n + 256 * g) (hn : n < 128) {z w : Int32} (hz : z = x.toInt32) (hw : w.toInt = 127) : (z &&& w).toInt = n := by
  have hw' : w = 127 := by apply Int32.toInt_inj.mp; rw [hw]; decide
  subst hz hw'
  have e1 : (x.toInt32 &&& 127).toBitVec.toNat = n := by
    rw [Int32.toBitVec_and, BitVec.toNat_and]
    have : x.toInt32.toBitVec.toNat = uq x % 2 ^ 32 := by
      show (x.toBitVec.signExtend 32).toNat = _
      rw [BitVec.signExtend_eq_setWidth_of_le _ (by omega), BitVec.toNat_setWidth]
      rfl
    rw [this]
    show uq x % 2 ^ 32 &&& 127 = n
    rw [show (127 : Nat) = 2 ^ 7 - 1 by decide, Nat.and_two_pow_sub_one_eq_mod]
    omega
  show (x.toInt32 &&& 127).toBitVec.toInt = _
  rw [BitVec.toInt_eq_toNat_cond, e1]
  split <;> omega
theorem cnt.le64 (f : Nat → Bool) : cnt f 64 < 128 := by have := cnt.le f 64; omega
/-- Long.bitCount -/
theorem bc_ok {x x2 x3 x4 x5 x6 x7 x9 x10 x11 x12 x14 x15 x16 x17 x19 x20 x22 x23 x25 x26 : Int64} {z1 z8 z13 z18 z21 z24 z27 z28 : Int32} (hz1 : z1.toInt = 1) (hz8 : z8.toInt = 2) (hz13 : z13.toInt = 4) (hz18 : z18.toInt = 8) (hz21 : z21.toInt = 16) (hz24 : z24.toInt = 32) (hz28 : z28.toInt = 127)
    (hx2 : x2 = (x.toUInt64 >>> (z1.toInt64.toUInt64 &&& Int64.toUInt64 63)).toInt64) (hx3 : x3 = 6148914691236517205) (hx4 : x4 = x2 &&& x3) (hx5 : x5 = x - x4)
    (hx6 : x6 = 3689348814741910323) (hx7 : x7 = x5 &&& x6) (hx9 : x9 = (x5.toUInt64 >>> (z8.toInt64.toUInt64 &&& Int64.toUInt64 63)).toInt64) (hx10 : x10 = 3689348814741910323) (hx11 : x11 = x9 &&& x10) (hx12 : x12 = x7 + x11)
    (hx14 : x14 = (x12.toUInt64 >>> (z13.toInt64.toUInt64 &&& Int64.toUInt64 63)).toInt64) (hx15 : x15 = x12 + x14) (hx16 : x16 = 1085102592571150095) (hx17 : x17 = x15 &&& x16)
    (hx19 : x19 = (x17.toUInt64 >>> (z18.toInt64.toUInt64 &&& Int64.toUInt64 63)).toInt64) (hx20 : x20 = x17 + x19)
    (hx22 : x22 = (x20.toUInt64 >>> (z21.toInt64.toUInt64 &&& Int64.toUInt64 63)).toInt64) (hx23 : x23 = x20 + x22)
    (hx25 : x25 = (x23.toUInt64 >>> (z24.toInt64.toUInt64 &&& Int64.toUInt64 63)).toInt64) (hx26 : x26 = x23 + x25) (hz27 : z27 = x26.toInt32) : (z27 &&& z28).toInt = cnt (Bt x) 64 := by
  have hN := uq.lt x
  have e5 : uq x5 = sB1 8 (uq x) := by
    have e4 : uq x4 = (uq x >>> 1) &&& mkB 0x55 8 := by
      rw [hx4, uq.and, hx2, uq.ushr (d := 1) (by omega) (by omega), hx3]; rfl
    have : uq x4 ≤ uq x := by
      rw [e4]
      exact Nat.le_trans Nat.and_le_left (by rw [Nat.shiftRight_eq_div_pow]; exact Nat.div_le_self _ _)
    rw [hx5, uq.sub _ _ this, e4]; rfl
  have e12 : uq x12 = sB2 8 (uq x5) := by
    have a1 : uq x7 = uq x5 &&& mkB 0x33 8 := by rw [hx7, uq.and, hx6]; rfl
    have a2 : uq x11 = (uq x5 >>> 2) &&& mkB 0x33 8 := by rw [hx11, uq.and, hx9, uq.ushr (d := 2) (by omega) (by omega), hx10]; rfl
    have b1 : uq x7 ≤ mkB 0x33 8 := by rw [a1]; exact Nat.and_le_right
    have b2 : uq x11 ≤ mkB 0x33 8 := by rw [a2]; exact Nat.and_le_right
    have b3 : mkB 0x33 8 = 3689348814741910323 := by decide +kernel
    rw [hx12, uq.add, Nat.mod_eq_of_lt (by omega), a1, a2]; rfl
  have l12 : uq x12 ≤ 7378697629483820646 := by
    rw [e12]
    have b3 : mkB 0x33 8 = 3689348814741910323 := by decide +kernel
    have b1 : uq x5 &&& mkB 0x33 8 ≤ mkB 0x33 8 := Nat.and_le_right
    have b2 : (uq x5 >>> 2) &&& mkB 0x33 8 ≤ mkB 0x33 8 := Nat.and_le_right
    unfold sB2
    omega
  have e17 : uq x17 = sB 8 (uq x) := by
    have a1 : uq x14 = uq x12 >>> 4 := by rw [hx14, uq.ushr (d := 4) (by omega) (by omega)]
    have b1 : uq x12 >>> 4 ≤ uq x12 := by rw [Nat.shiftRight_eq_div_pow]; exact Nat.div_le_self _ _
    rw [hx17, uq.and, hx15, uq.add, a1, Nat.mod_eq_of_lt (by omega), hx16, e12, e5]; rfl
  obtain ⟨b, c, d, g, h1, h2, h3, h4, h5, h6, h7⟩ := sB.fin hN
  have e20 : uq x20 = b := by
    rw [hx20, uq.add, hx19, uq.ushr (d := 8) (by omega) (by omega), e17, Nat.shiftRight_eq_div_pow, h1, Nat.mod_eq_of_lt h2]
  have e23 : uq x23 = c := by
    rw [hx23, uq.add, hx22, uq.ushr (d := 16) (by omega) (by omega), e20, Nat.shiftRight_eq_div_pow, h3, Nat.mod_eq_of_lt h4]
  have e26 : uq x26 = d := by
    rw [hx26, uq.add, hx25, uq.ushr (d := 32) (by omega) (by omega), e23, Nat.shiftRight_eq_div_pow, h5, Nat.mod_eq_of_lt h6]
  exact bc_i (n := cnt (Bt x) 64) (by rw [e26, h7]; rfl) (cnt.le64 _) hz27 hz28
/-- of n + 1 places below n two are one -/
theorem pigeon : ∀ (n : Nat) (f : Nat → Nat), (∀ i, i ≤ n → f i < n) → ∃ i j, i < j ∧ j ≤ n ∧ f i = f j
  | 0, f, h => absurd (h 0 (Nat.le_refl 0)) (Nat.not_lt_zero _)
  | n + 1, f, h => by
    by_cases q : ∃ i, i ≤ n ∧ f i = f (n + 1)
    · obtain ⟨i, hi, e⟩ := q
      exact ⟨i, n + 1, by omega, Nat.le_refl _, e⟩
    · have hq : ∀ i, i ≤ n → f i ≠ f (n + 1) := fun i hi e => q ⟨i, hi, e⟩
      obtain ⟨i, j, hij, hj, e⟩ := pigeon n (fun i => if f i > f (n + 1) then f i - 1 else f i) (fun i hi => by
        have h1 := h i (by omega)
        have h2 := hq i hi
        have h3 := h (n + 1) (Nat.le_refl _)
        show (if f i > f (n + 1) then f i - 1 else f i) < n
        split <;> omega)
      refine ⟨i, j, hij, by omega, ?_⟩
      have h2 := hq i (by omega)
      have h3 := hq j hj
      have e' : (if f i > f (n + 1) then f i - 1 else f i) = (if f j > f (n + 1) then f j - 1 else f j) := e
      split at e' <;> split at e' <;> omega
abbrev Rl : Type := Nat → Nat → Prop
abbrev TG (R : Rl) : Rl := Relation.TransGen R
theorem TG.tr {R : Rl} {a b c : Nat} (h1 : TG R a b) (h2 : TG R b c) : TG R a c := by
  induction h2 with
  | single h => exact .tail h1 h
  | tail _ h ih => exact .tail ih h
theorem TG.mono {R S : Rl} (h : ∀ a b, R a b → S a b) {a b : Nat} (q : TG R a b) : TG S a b := by
  induction q with
  | single r => exact .single (h _ _ r)
  | tail _ r ih => exact .tail ih (h _ _ r)
/-- a relation that holds R and goes on holds all -/
theorem TG.in {R S : Rl} (h : ∀ a b, R a b → S a b) (t : ∀ a b c, S a b → S b c → S a c) {a b : Nat} (q : TG R a b) : S a b := by
  induction q with
  | single r => exact h _ _ r
  | tail _ r ih => exact t _ _ _ ih (h _ _ r)
/-- where each of some has one of them behind it, one is in a ring -/
theorem ring_ex {R : Rl} {S : Nat → Prop} {n x : Nat} (hS : ∀ a, S a → a < n ∧ ∃ b, S b ∧ R a b) (hx : S x) : ∃ p, S p ∧ TG R p p := by
  have hex : ∀ a : {a // S a}, ∃ b : {b // S b}, R a.1 b.1 := fun a => by
    obtain ⟨_, b, hb, r⟩ := hS a.1 a.2
    exact ⟨⟨b, hb⟩, r⟩
  let nx : {a // S a} → {a // S a} := fun a => Classical.choose (hex a)
  have hnx : ∀ a, R a.1 (nx a).1 := fun a => Classical.choose_spec (hex a)
  let f : Nat → {a // S a} := fun i => Nat.rec ⟨x, hx⟩ (fun _ a => nx a) i
  have hf : ∀ i, R (f i).1 (f (i + 1)).1 := fun i => hnx (f i)
  obtain ⟨i, j, hij, _, e⟩ := pigeon n (fun i => (f i).1) (fun i _ => (hS (f i).1 (f i).2).1)
  have hp : ∀ d, TG R (f i).1 (f (i + d + 1)).1 := fun d => by
    induction d with
    | zero => exact .single (hf i)
    | succ d ih => exact .tail ih (hf (i + d + 1))
  refine ⟨(f i).1, (f i).2, ?_⟩
  have := hp (j - i - 1)
  rw [show i + (j - i - 1) + 1 = j by omega] at this
  have e' : (f i).1 = (f j).1 := e
  rw [← e'] at this
  exact this
/-- the ring's own cells -/
theorem TG.ring {R : Rl} {W : Nat → Prop} (hW : ∀ a, TG R a a → W a) {a b : Nat} (h : TG R a b) : TG R b a → TG (fun x y => R x y ∧ W x ∧ W y) a b := by
  induction h with
  | single r => exact fun q => .single ⟨r, hW _ (.tr (.single r) q), hW _ (.tr q (.single r))⟩
  | tail t r ih => exact fun q => .tail (ih (.tr (.single r) q)) ⟨r, hW _ (.tr (.single r) (.tr q t)), hW _ (.tr q (.tail t r))⟩
/-- one turn of the closure: all ways through m -/
def thru (P : Rl) (m : Nat) : Rl := fun a b => P a b ∨ (P a m ∧ P m b)
/-- what a closure by middles up to now keeps: R is in it, it is in R's ways, and it goes on through the middles of M -/
def Wsh (R : Rl) (M : Nat → Prop) (P : Rl) : Prop := (∀ a b, R a b → P a b) ∧ (∀ a b, P a b → TG R a b) ∧ ∀ k, M k → ∀ a b, P a k → P k b → P a b
theorem Wsh.turn {R : Rl} {M : Nat → Prop} {P : Rl} {m : Nat} (h : Wsh R M P) : Wsh R (fun k => M k ∨ k = m) (thru P m) := by
  refine ⟨fun a b r => Or.inl (h.1 a b r), fun a b q => ?_, fun k hk a b q1 q2 => ?_⟩
  · rcases q with q | ⟨q1, q2⟩
    · exact h.2.1 a b q
    · exact (h.2.1 _ _ q1).tr (h.2.1 _ _ q2)
  · rcases hk with hk | rfl
    · rcases q1 with q1 | ⟨q1, q1'⟩
      · rcases q2 with q2 | ⟨q2, q2'⟩
        · exact Or.inl (h.2.2 k hk a b q1 q2)
        · exact Or.inr ⟨h.2.2 k hk a m q1 q2, q2'⟩
      · rcases q2 with q2 | ⟨q2, q2'⟩
        · exact Or.inr ⟨q1, h.2.2 k hk m b q1' q2⟩
        · exact Or.inr ⟨q1, q2'⟩
    · have h1 : P a k := by rcases q1 with q1 | ⟨q1, _⟩ <;> exact q1
      have h2 : P k b := by rcases q2 with q2 | ⟨_, q2⟩ <;> exact q2
      exact Or.inr ⟨h1, h2⟩
theorem Wsh.zero {R : Rl} : Wsh R (fun _ => False) R := ⟨fun _ _ r => r, fun _ _ r => .single r, fun _ h => h.elim⟩
/-- a middle out of which nothing goes need not be gone through -/
theorem Wsh.free {R : Rl} {M : Nat → Prop} {P : Rl} {m : Nat} (h : Wsh R M P) (hm : ∀ b, ¬ R m b) : Wsh R (fun k => M k ∨ k = m) P := by
  refine ⟨h.1, h.2.1, fun k hk a b q1 q2 => ?_⟩
  rcases hk with hk | rfl
  · exact h.2.2 k hk a b q1 q2
  · exfalso
    have hh : ∀ b, TG R k b → False := fun b t => by
      induction t with
      | single r => exact hm _ r
      | tail _ _ ih => exact ih
    exact hh b (h.2.1 k b q2)
theorem Wsh.all {R : Rl} {M : Nat → Prop} {P : Rl} (h : Wsh R M P) (hM : ∀ a b, R a b → M a) {a b : Nat} : P a b ↔ TG R a b := by
  refine ⟨h.2.1 a b, fun q => ?_⟩
  have : ∀ x y, TG R x y → M x := fun x y t => by
    induction t with
    | single r => exact hM _ _ r
    | tail _ _ ih => exact ih
  induction q with
  | single r => exact h.1 _ _ r
  | tail t r ih => exact h.2.2 _ (hM _ _ r) _ _ ih (h.1 _ _ r)
/-! VALUES: what a formula reads, and what it is worth -/
/-- the places of one row, of a span -/
def plR (y c : Int) (k : Nat) : List Int := (List.range k).map (fun i : Nat => y * 12 + (c + (i : Int)))
def plF (y c : Int) (W : Nat) (j : Nat) : List Int := (List.range j).flatMap (fun i : Nat => plR (y + (i : Int)) c W)
theorem plR_s {y c : Int} {k : Nat} : plR y c (k + 1) = plR y c k ++ [y * 12 + (c + (k : Int))] := by
  unfold plR; rw [List.range_succ, List.map_append]; rfl
theorem plF_s {y c : Int} {W j : Nat} : plF y c W (j + 1) = plF y c W j ++ plR (y + (j : Int)) c W := by
  unfold plF; rw [List.range_succ, List.flatMap_append]; simp
theorem plR_0 {y c : Int} : plR y c 0 = [] := rfl
theorem plF_0 {y c : Int} {W : Nat} : plF y c W 0 = [] := rfl
theorem plR_len {y c : Int} {k : Nat} : (plR y c k).length = k := by unfold plR; simp
theorem plF_len {y c : Int} {W j : Nat} : (plF y c W j).length = j * W := by
  induction j with
  | zero => simp [plF_0]
  | succ j ih => rw [plF_s, List.length_append, ih, plR_len, Nat.succ_mul]
theorem plR_mem {y c q : Int} {k : Nat} (h : q ∈ plR y c k) : ∃ i : Nat, i < k ∧ q = y * 12 + (c + (i : Int)) := by
  unfold plR at h
  obtain ⟨i, hi, e⟩ := List.mem_map.mp h
  exact ⟨i, List.mem_range.mp hi, e.symm⟩
theorem plF_mem {y c q : Int} {W j : Nat} (h : q ∈ plF y c W j) : ∃ i k : Nat, i < j ∧ k < W ∧ q = (y + (i : Int)) * 12 + (c + (k : Int)) := by
  unfold plF at h
  obtain ⟨i, hi, e⟩ := List.mem_flatMap.mp h
  obtain ⟨k, hk, e2⟩ := plR_mem e
  exact ⟨i, k, List.mem_range.mp hi, hk, e2⟩
theorem plF_in {y c : Int} {W j i k : Nat} (hi : i < j) (hk : k < W) : (y + (i : Int)) * 12 + (c + (k : Int)) ∈ plF y c W j := by
  unfold plF plR
  exact List.mem_flatMap.mpr ⟨i, List.mem_range.mpr hi, List.mem_map.mpr ⟨k, List.mem_range.mpr hk, rfl⟩⟩
def spW (s : St) (h : Int) : Nat := (colv s.2.2 h - colv s.2.1 h + 1).toNat
def spH (s : St) (h : Int) : Nat := (rowv s.2.2 h - rowv s.2.1 h + 1).toNat
/-- the places that a step reads -/
def plS (s : St) (h : Int) : List Int := plF (rowv s.2.1 h) (colv s.2.1 h) (spW s h) (spH s h)
theorem plS_on {s : St} {h q : Int} (hf : fitS h s) (hq : q ∈ plS s h) : 0 ≤ q ∧ q < 288 := by
  obtain ⟨i, k, hi, hk, e⟩ := plF_mem hq
  obtain ⟨⟨⟨a1, a2⟩, a3, a4⟩, ⟨⟨b1, b2⟩, b3, b4⟩, c1, c2⟩ := hf
  unfold spH at hi; unfold spW at hk
  omega
/-- p's formula reads q -/
def Rd (σ : Sg) (p q : Nat) : Prop := p < 288 ∧ kdO (σ p) = 2 ∧ ∃ s ∈ fmO (σ p), rdS s ∧ (q : Int) ∈ plS s (p : Int)
def Rg (σ : Sg) (p : Nat) : Prop := TG (Rd σ) p p
abbrev Vl : Type := Nat → Int32
/-- one place is met: the sum, the first error -/
def mtS (v e : Vl) (a : Int32 × Int32) (q : Int) : Int32 × Int32 := (a.1 + v q.toNat, if a.2 = 0 then e q.toNat else a.2)
def spS (v e : Vl) (m : Int32) (s : St) (h : Int) : Int32 × Int32 := (plS s h).foldl (mtS v e) (0, m)
abbrev Ev : Type := List Int32 × Int32
def opV (o : Int) (x y : Int32) : Int32 := if o = 5 then x + y else if o = 6 then x - y else if o = 7 then x * y else if y = 0 then 0 else x / y
def opM (o : Int) (y m : Int32) : Int32 := if (o ≠ 5 ∧ o ≠ 6 ∧ o ≠ 7) ∧ y = 0 ∧ m = 0 then 1 else m
def evS (v e : Vl) (h : Int) (a : Ev) (s : St) : Ev :=
  if s.1 = 0 then (Int32.ofInt s.2.1 :: a.1, a.2)
  else if s.1 = 1 ∨ s.1 = 2 then ((spS v e a.2 s h).1 :: a.1, (spS v e a.2 s h).2)
  else if s.1 = 3 then a
  else if s.1 = 4 then (match a.1 with
    | [] => a
    | x :: k => (-x :: k, a.2))
  else (match a.1 with
    | y :: x :: k => (opV s.1 x y :: k, opM s.1 y a.2)
    | _ => a)
def ev (v e : Vl) (h : Int) (a : Ev) (L : Fm) : Ev := L.foldl (evS v e h) a
theorem ev_app (v e : Vl) (h : Int) (a : Ev) (x y : Fm) : ev v e h a (x ++ y) = ev v e h (ev v e h a x) y := List.foldl_append
theorem ev_one (v e : Vl) (h : Int) (a : Ev) (s : St) : ev v e h a [s] = evS v e h a s := rfl
/-- the first error stays -/
theorem spS_m {v e : Vl} {m : Int32} {s : St} {h : Int} (hm : m ≠ 0) : (spS v e m s h).2 = m := by
  unfold spS
  have : ∀ (l : List Int) (a : Int32 × Int32), a.2 = m → (l.foldl (mtS v e) a).2 = m := fun l => by
    induction l with
    | nil => intro a ha; exact ha
    | cons q l ih => intro a ha; exact ih _ (by unfold mtS; rw [if_neg (by rw [ha]; exact hm)]; exact ha)
  exact this _ _ rfl
theorem evS_m {v e : Vl} {h : Int} {a : Ev} {s : St} (hm : a.2 ≠ 0) : (evS v e h a s).2 = a.2 := by
  unfold evS
  split
  · rfl
  · split
    · exact spS_m hm
    · split
      · rfl
      · split
        · split <;> rfl
        · split
          · unfold opM; rw [if_neg (fun q => hm q.2.2)]
          · rfl
theorem ev_m {v e : Vl} {h : Int} : ∀ {L : Fm} {a : Ev}, a.2 ≠ 0 → (ev v e h a L).2 = a.2
  | [], _, _ => rfl
  | s :: L, a, hm => by
    have h1 := evS_m (v := v) (e := e) (h := h) (s := s) hm
    have h2 := ev_m (v := v) (e := e) (h := h) (L := L) (a := evS v e h a s) (by rw [h1]; exact hm)
    exact h2.trans h1
def fst0 (k : List Int32) : Int32 := match k with
  | [] => 0
  | x :: _ => x
/-- what a formula is worth, and its error -/
def rsV (v e : Vl) (h : Int) (L : Fm) : Int32 × Int32 := if (ev v e h ([], 0) L).2 = 0 then (fst0 (ev v e h ([], 0) L).1, 0) else (0, (ev v e h ([], 0) L).2)
theorem foldl_cg {α β : Type} {f g : α → β → α} : ∀ (l : List β) (a : α), (∀ q ∈ l, ∀ a, f a q = g a q) → l.foldl f a = l.foldl g a
  | [], _, _ => rfl
  | q :: l, a, h => by
    show l.foldl f (f a q) = l.foldl g (g a q)
    rw [h q (List.mem_cons_self ..) a]
    exact foldl_cg l _ (fun q hq => h q (List.mem_cons_of_mem _ hq))
theorem rsV_cg {v e v' e' : Vl} {h : Int} {L : Fm} (hL : fitL h L) (hq : ∀ q : Nat, (∃ s ∈ L, rdS s ∧ (q : Int) ∈ plS s h) → v q = v' q ∧ e q = e' q) : rsV v e h L = rsV v' e' h L := by
  have hs : ∀ s ∈ L, ∀ a, evS v e h a s = evS v' e' h a s := fun s hs a => by
    by_cases r : rdS s
    · have hsp : ∀ m, spS v e m s h = spS v' e' m s h := fun m => foldl_cg _ _ (fun q hq2 a => by
        have ho := plS_on (hL s hs r) hq2
        have := hq q.toNat ⟨s, hs, r, by rw [show ((q.toNat : Nat) : Int) = q by omega]; exact hq2⟩
        unfold mtS; rw [this.1, this.2])
      unfold evS
      rw [hsp]
    · unfold evS
      unfold rdS at r
      rw [if_neg r, if_neg r]
  unfold rsV ev
  rw [foldl_cg L ([], 0) hs]
/-- the sheet's values -/
def VOk (σ : Sg) (v e : Vl) : Prop := ∀ p, p < 288 → (kdO (σ p) ≠ 2 → v p = Int32.ofInt (σ p).1.2 ∧ e p = 0) ∧ (kdO (σ p) = 2 → Rg σ p → v p = 0 ∧ e p = 2) ∧ (kdO (σ p) = 2 → ¬ Rg σ p → (v p, e p) = rsV v e (p : Int) (fmO (σ p)))
theorem VOk.det {σ : Sg} {π : Ps} {v e v' e' : Vl} (hW : WS σ π) (h1 : VOk σ v e) (h2 : VOk σ v' e') : ∀ p, p < 288 → v p = v' p ∧ e p = e' p := by
  have key : ∀ x, ¬ (x < 288 ∧ ¬ (v x = v' x ∧ e x = e' x)) := fun x hx => by
    obtain ⟨p, hp, t⟩ := ring_ex (R := Rd σ) (S := fun x => x < 288 ∧ ¬ (v x = v' x ∧ e x = e' x)) (n := 288) (fun a ha => by
      refine ⟨ha.1, ?_⟩
      obtain ⟨a1, a2, a3⟩ := h1 a ha.1
      obtain ⟨b1, b2, b3⟩ := h2 a ha.1
      by_cases k : kdO (σ a) = 2
      · by_cases r : Rg σ a
        · exact absurd ⟨(a2 k r).1.trans (b2 k r).1.symm, (a2 k r).2.trans (b2 k r).2.symm⟩ ha.2
        · apply Classical.byContradiction
          intro hn
          have hc := rsV_cg (v := v) (e := e) (v' := v') (e' := e') (h := (a : Int)) (L := fmO (σ a)) ((hW.1 a ha.1).1 k).1 (fun q hq => by
            apply Classical.byContradiction
            intro hd
            have hq2 : q < 288 := by
              obtain ⟨s, hs, r, m⟩ := hq
              have := plS_on (((hW.1 a ha.1).1 k).1 s hs r) m
              omega
            exact hn ⟨q, ⟨hq2, hd⟩, ha.1, k, hq⟩)
          have e1 := (a3 k r).trans (hc.trans (b3 k r).symm)
          injection e1 with e2 e3
          exact ha.2 ⟨e2, e3⟩
      · exact absurd ⟨(a1 k).1.trans (b1 k).1.symm, (a1 k).2.trans (b1 k).2.symm⟩ ha.2) hx
    obtain ⟨a1, a2, a3⟩ := h1 p hp.1
    obtain ⟨b1, b2, b3⟩ := h2 p hp.1
    have k : kdO (σ p) = 2 := by
      have : ∀ x y, TG (Rd σ) x y → kdO (σ x) = 2 := fun x y t => by
        induction t with
        | single r => exact r.2.1
        | tail _ _ ih => exact ih
      exact this p p t
    exact hp.2 ⟨(a2 k t).1.trans (b2 k t).1.symm, (a2 k t).2.trans (b2 k t).2.symm⟩
  exact fun p hp => Classical.byContradiction fun hn => key p ⟨hp, hn⟩
/-! how many operands wait -/
def hgS (N : Nat) (a : Option Nat) (s : St) : Option Nat := a.bind fun h =>
  if s.1 = 0 ∨ s.1 = 1 ∨ s.1 = 2 then (if h < N then some (h + 1) else none) else if s.1 = 3 ∨ s.1 = 4 then (if 0 < h then some h else none) else if 1 < h then some (h - 1) else none
def HgP (n : Nat) (x : Fm) : Prop := ∀ h N, h + n ≤ N → x.foldl (hgS N) (some h) = some (h + 1)
theorem HgP.mono {n m : Nat} {x : Fm} (h : HgP n x) (hm : n ≤ m) : HgP m x := fun k N hk => h k N (by omega)
theorem HgP.push {s : St} (hs : s.1 = 0 ∨ s.1 = 1 ∨ s.1 = 2) : HgP 1 [s] := fun h N hN => by
  show hgS N (some h) s = _
  unfold hgS
  simp only [Option.bind_some]
  rw [if_pos hs, if_pos (by omega)]
theorem HgP.keep {n : Nat} {x : Fm} {s : St} (h : HgP n x) (hs : s.1 = 3 ∨ s.1 = 4) : HgP n (x ++ [s]) := fun k N hN => by
  rw [List.foldl_append, h k N hN]
  show hgS N (some (k + 1)) s = _
  unfold hgS
  simp only [Option.bind_some]
  rw [if_neg (by omega), if_pos hs, if_pos (by omega)]
theorem HgP.turn {n : Nat} {x y : Fm} {o : Int} (hx : HgP (n + 1) x) (hy : HgP n y) : HgP (n + 1) (x ++ (y ++ [(opS o, 0, 0)])) := fun k N hN => by
  rw [List.foldl_append, hx k N hN, List.foldl_append, hy (k + 1) N (by omega)]
  show hgS N (some (k + 1 + 1)) (opS o, 0, 0) = _
  have := opS_n (o := o)
  unfold hgS
  simp only [Option.bind_some]
  rw [if_neg (by omega), if_neg (by omega), if_pos (by omega)]
  rfl
theorem hCt.hg {P : Nat → Nat → Fm → Prop} {s : Nat → Int → Prop} {k : Nat} (hP : ∀ a e y, P a e y → HgP k y) : ∀ n acc b c x, HgP (k + 1) acc → hCt P s n acc b c x → HgP (k + 1) x
  | 0, acc, b, c, x, ha, h => by rw [h.2.2]; exact ha
  | n + 1, acc, b, c, x, ha, h => by
    obtain ⟨o, m, y, _, q2, q3⟩ := h
    exact hCt.hg hP n _ m c x (ha.turn (hP _ _ _ q2)) q3
theorem hCh.hg {P : Nat → Nat → Fm → Prop} {s : Nat → Int → Prop} {k a c : Nat} {x : Fm} (hP : ∀ a e y, P a e y → HgP k y) (h : hCh P s a c x) : HgP (k + 1) x := by
  obtain ⟨n, m, y, q1, q2⟩ := h
  exact hCt.hg hP n y m c x ((hP _ _ _ q1).mono (by omega)) q2
theorem hPart.hg {nu : Nat → Int → Prop} {si : Int → Nat → Prop} {rf : Nat → Nat → Int → Prop} {sm : Nat → Prop} : ∀ d a c x, hPart nu si rf sm d a c x → HgP (2 * d - 1) x
  | 0, _, _, _, h => h.elim
  | d + 1, a, c, x, h => by
    have ih := hPart.hg (nu := nu) (si := si) (rf := rf) (sm := sm) d
    rcases h with ⟨v, p1, p2, p3⟩ | ⟨w, u, p1, p2⟩ | ⟨p1, z, p2, p3⟩ | ⟨p1, e, z, p2, p3, p4, p5⟩ | ⟨w, p1, p2⟩
    · rw [p3]; exact (HgP.push (Or.inl rfl)).mono (by omega)
    · rw [p2]; exact (HgP.push (Or.inr (Or.inr rfl))).mono (by omega)
    · rw [p3]; exact ((ih _ _ _ p2).mono (by omega)).keep (Or.inr rfl)
    · rw [p5]
      cases d with
      | zero =>
        obtain ⟨_, _, _, ⟨_, _, _, q, _⟩, _⟩ := p2
        exact q.elim
      | succ d =>
        have h2 : HgP (2 * (d + 1) - 1 + 1 + 1) z := hCh.hg (fun a e y q => hCh.hg (fun a e y q => ih a e y q) q) p2
        exact (h2.mono (by omega)).keep (Or.inl rfl)
    · rw [p2]; exact (HgP.push (Or.inr (Or.inl rfl))).mono (by omega)
theorem hE.hg {nu : Nat → Int → Prop} {si : Int → Nat → Prop} {rf : Nat → Nat → Int → Prop} {sm : Nat → Prop} {a c : Nat} {x : Fm} (h : hE nu si rf sm 8 a c x) : HgP 17 x :=
  hCh.hg (k := 16) (fun a e y q => hCh.hg (k := 15) (fun a e y q => hPart.hg 8 a e y q) q) h
/-- never more than n operands, never one too few -/
def HgL (L : Fm) : Prop := L.foldl (hgS 32) (some 0) = some 1
theorem HgP.L {L : Fm} (h : HgP 17 L) : HgL L := h 0 32 (by omega)
theorem hgS_none (N : Nat) : ∀ L : Fm, L.foldl (hgS N) none = none
  | [] => rfl
  | _ :: L => hgS_none N L
/-- how many wait before a step -/
def hgA (L : Fm) (i : Nat) : Option Nat := (L.take i).foldl (hgS 32) (some 0)
theorem HgL.at {L : Fm} (h : HgL L) {i : Nat} : ∃ n, hgA L i = some n := by
  unfold HgL at h
  unfold hgA
  have e : L = L.take i ++ L.drop i := (List.take_append_drop i L).symm
  rw [e, List.foldl_append] at h
  cases q : (L.take i).foldl (hgS 32) (some 0) with
  | some n => exact ⟨n, rfl⟩
  | none => rw [q, hgS_none] at h; cases h
theorem hgA_s {L : Fm} {i : Nat} (hi : i < L.length) : hgA L (i + 1) = hgS 32 (hgA L i) L[i] := by
  unfold hgA
  rw [List.take_succ_eq_append_getElem hi, List.foldl_append]; rfl
theorem HgL.end {L : Fm} (h : HgL L) : hgA L L.length = some 1 := by unfold hgA; rw [List.take_length]; exact h
theorem hgA_le {L : Fm} (hL : HgL L) : ∀ i, i ≤ L.length → ∀ n, hgA L i = some n → n ≤ 32
  | 0, _, n, hn => by cases hn; decide
  | i + 1, hi, n, hn => by
    obtain ⟨m, hm⟩ := hL.at (i := i)
    have ih := hgA_le hL i (by omega) m hm
    rw [hgA_s (by omega), hm] at hn
    unfold hgS at hn
    simp only [Option.bind_some] at hn
    split at hn
    · split at hn
      · cases hn; omega
      · cases hn
    · split at hn
      · split at hn
        · cases hn; exact ih
        · cases hn
      · split at hn
        · cases hn; omega
        · cases hn
/-! the working-out as far as step i -/
def evA (v e : Vl) (h : Int) (L : Fm) (i : Nat) : Ev := ev v e h ([], 0) (L.take i)
theorem evA_s {v e : Vl} {h : Int} {L : Fm} {i : Nat} (hi : i < L.length) : evA v e h L (i + 1) = evS v e h (evA v e h L i) L[i] := by
  unfold evA
  rw [List.take_succ_eq_append_getElem hi, ev_app]; rfl
theorem evA_0 {v e : Vl} {h : Int} {L : Fm} : evA v e h L 0 = ([], 0) := rfl
theorem evA_end {v e : Vl} {h : Int} {L : Fm} : evA v e h L L.length = ev v e h ([], 0) L := by unfold evA; rw [List.take_length]
/-- the operands that wait are as many -/
theorem evS_len {v e : Vl} {h : Int} {a : Ev} {s : St} {n m : Nat} (ha : a.1.length = n) (hs : hgS 32 (some n) s = some m) : (evS v e h a s).1.length = m := by
  unfold hgS at hs
  simp only [Option.bind_some] at hs
  unfold evS
  by_cases c0 : s.1 = 0
  · rw [if_pos c0]
    rw [if_pos (Or.inl c0)] at hs
    split at hs
    · cases hs; show (_ :: a.1).length = _; rw [List.length_cons, ha]
    · cases hs
  · rw [if_neg c0]
    by_cases c1 : s.1 = 1 ∨ s.1 = 2
    · rw [if_pos c1]
      rw [if_pos (Or.inr c1)] at hs
      split at hs
      · cases hs; show (_ :: a.1).length = _; rw [List.length_cons, ha]
      · cases hs
    · rw [if_neg c1]
      rw [if_neg (by omega)] at hs
      by_cases c3 : s.1 = 3
      · rw [if_pos c3]
        rw [if_pos (Or.inl c3)] at hs
        split at hs
        · cases hs; exact ha
        · cases hs
      · rw [if_neg c3]
        by_cases c4 : s.1 = 4
        · rw [if_pos c4]
          rw [if_pos (Or.inr c4)] at hs
          split at hs
          · cases hs
            split
            · exact ha
            · rename_i x k q; show (_ :: k).length = _; rw [q] at ha; exact ha
          · cases hs
        · rw [if_neg c4]
          rw [if_neg (by omega)] at hs
          split at hs
          · cases hs
            split
            · rename_i y x k q; show (_ :: k).length = _; rw [q] at ha; simp only [List.length_cons] at ha ⊢; omega
            · rename_i q
              exfalso
              rcases hq : a.1 with _ | ⟨y, _ | ⟨x, k⟩⟩
              · rw [hq] at ha; simp at ha; omega
              · rw [hq] at ha; simp at ha; omega
              · exact q y x k hq
          · cases hs
theorem evA_len {v e : Vl} {h : Int} {L : Fm} (hL : HgL L) : ∀ i, i ≤ L.length → ∀ n, hgA L i = some n → (evA v e h L i).1.length = n
  | 0, _, n, hn => by cases hn; rfl
  | i + 1, hi, n, hn => by
    obtain ⟨m, hm⟩ := hL.at (i := i)
    rw [hgA_s (by omega), hm] at hn
    rw [evA_s (by omega)]
    exact evS_len (evA_len hL i (by omega) m hm) hn
/-! one operand more, by the grammar -/
def EvP (v e : Vl) (h : Int) (x : Fm) (m : Int32) (w m2 : Int32) : Prop := ∀ k, ev v e h (k, m) x = (w :: k, m2)
section EVP
variable {v e : Vl} {h : Int} {x y : Fm} {m m1 m2 w w1 w2 : Int32} {o a b : Int}
theorem EvP.turn (hx : EvP v e h x m w1 m1) (hy : EvP v e h y m1 w2 m2) : EvP v e h (x ++ (y ++ [(opS o, 0, 0)])) m (opV (opS o) w1 w2) (opM (opS o) w2 m2) := fun k => by
  rw [ev_app, ev_app, hx, hy, ev_one]
  have := opS_n (o := o)
  unfold evS
  rw [if_neg (by omega), if_neg (by omega), if_neg (by omega), if_neg (by omega)]
theorem EvP.num : EvP v e h [(0, a, 0)] m (Int32.ofInt a) m := fun k => rfl
theorem EvP.rd {s : Int} (hs : s = 1 ∨ s = 2) : EvP v e h [(s, a, b)] m (spS v e m (s, a, b) h).1 (spS v e m (s, a, b) h).2 := fun k => by
  rw [ev_one]; unfold evS
  rw [if_neg (by show s ≠ 0; omega), if_pos (show s = 1 ∨ s = 2 from hs)]
theorem EvP.neg (hx : EvP v e h x m w m1) : EvP v e h (x ++ [(4, 0, 0)]) m (-w) m1 := fun k => by
  rw [ev_app, hx, ev_one]; rfl
theorem EvP.par (hx : EvP v e h x m w m1) : EvP v e h (x ++ [(3, 0, 0)]) m w m1 := fun k => by
  rw [ev_app, hx, ev_one]; rfl
theorem EvP.rs (hx : EvP v e h x 0 w m1) : rsV v e h x = if m1 = 0 then (w, 0) else (0, m1) := by
  unfold rsV
  rw [hx []]
  rfl
end EVP
/-- a span of one cell -/
theorem plS_one {s a h : Int} : plS (s, a, a) h = [rowv a h * 12 + colv a h] := by
  unfold plS spW spH
  rw [show (colv (s, a, a).2.2 h - colv (s, a, a).2.1 h + 1).toNat = 1 by show (colv a h - colv a h + 1).toNat = 1; omega, show (rowv (s, a, a).2.2 h - rowv (s, a, a).2.1 h + 1).toNat = 1 by show (rowv a h - rowv a h + 1).toNat = 1; omega]
  rw [plF_s, plF_0, plR_s, plR_0]
  simp
