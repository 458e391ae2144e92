/-! the tape's bytes and the model's are the same -/
theorem by_255 : ∀ q : Fin 32, ¬ q.val < 8 → (255#32)[q.val] = false := by decide
theorem by_bits (v : BitVec 64) (n : Nat) (h : n + 8 ≤ 64) : (v >>> n).signExtend 32 &&& 255#32 = (v.sshiftRight n).signExtend 32 &&& 255#32 := by
  rw [BitVec.signExtend_eq_setWidth_of_le _ (by decide), BitVec.signExtend_eq_setWidth_of_le _ (by decide)]
  ext j hj
  simp only [BitVec.getElem_and, BitVec.getElem_setWidth, BitVec.getLsbD_ushiftRight, BitVec.getLsbD_sshiftRight]
  by_cases h8 : j < 8
  · have h1 : n + j < 64 := by omega
    have h2 : ¬ 64 ≤ j := by omega
    simp [h1, h2]
  · have h3 : (255#32)[j] = false := by_255 ⟨j, hj⟩ h8
    simp [h3]
theorem by_one (x : Int64) (i n : Nat) (h : n + 8 ≤ 64) (e1 : (sh8 i).toInt64.toUInt64 &&& Int64.toUInt64 63 = UInt64.ofNat n) (e2 : (sh8 i).toInt64 &&& 63 = Int64.ofNat n) (f1 : (UInt64.ofNat n % 64).toBitVec.toNat = n) (f2 : ((Int64.ofNat n).toBitVec.smod 64).toNat = n) : by8 x i = byM x i := by
  apply Int32.toBitVec_inj.mp
  unfold by8 byM
  rw [e1, e2]
  have a1 : ((x.toUInt64 >>> UInt64.ofNat n).toInt64.toInt32 &&& 255).toBitVec = (x.toBitVec >>> (UInt64.ofNat n % 64).toBitVec.toNat).signExtend 32 &&& 255#32 := by
    have b1 : (x.toUInt64 >>> UInt64.ofNat n).toBitVec = x.toBitVec >>> (UInt64.ofNat n % 64).toBitVec.toNat := by first | rfl | exact UInt64.toBitVec_shiftRight _ _ | (simp; done)
    have b2 : ∀ u : UInt64, (u.toInt64.toInt32 &&& 255).toBitVec = u.toBitVec.signExtend 32 &&& 255#32 := fun u => by first | rfl | (simp; done)
    rw [b2, b1]
  have a2 : ((x >>> Int64.ofNat n).toInt32 &&& 255).toBitVec = (x.toBitVec.sshiftRight ((Int64.ofNat n).toBitVec.smod 64).toNat).signExtend 32 &&& 255#32 := rfl
  rw [a1, a2, f1, f2]
  exact by_bits x.toBitVec n h
theorem by8_eq (x : Int64) (i : Nat) (h : i < 8) : by8 x i = byM x i := by
  have hi : i = 0 ∨ i = 1 ∨ i = 2 ∨ i = 3 ∨ i = 4 ∨ i = 5 ∨ i = 6 ∨ i = 7 := by omega
  rcases hi with rfl | rfl | rfl | rfl | rfl | rfl | rfl | rfl
  · exact by_one x 0 56 (by decide) (by decide +kernel) (by decide +kernel) (by decide +kernel) (by decide +kernel)
  · exact by_one x 1 48 (by decide) (by decide +kernel) (by decide +kernel) (by decide +kernel) (by decide +kernel)
  · exact by_one x 2 40 (by decide) (by decide +kernel) (by decide +kernel) (by decide +kernel) (by decide +kernel)
  · exact by_one x 3 32 (by decide) (by decide +kernel) (by decide +kernel) (by decide +kernel) (by decide +kernel)
  · exact by_one x 4 24 (by decide) (by decide +kernel) (by decide +kernel) (by decide +kernel) (by decide +kernel)
  · exact by_one x 5 16 (by decide) (by decide +kernel) (by decide +kernel) (by decide +kernel) (by decide +kernel)
  · exact by_one x 6 8 (by decide) (by decide +kernel) (by decide +kernel) (by decide +kernel) (by decide +kernel)
  · exact by_one x 7 0 (by decide) (by decide +kernel) (by decide +kernel) (by decide +kernel) (by decide +kernel)
theorem cn_eq {f g : Nat → Int32} : ∀ n : Nat, (∀ i, i < n → f i = g i) → cn f n = cn g n := by
  intro n
  induction n with
  | zero => intro _; rfl
  | succ k ih => intro h; simp only [cn, ih (fun i hi => h i (by omega)), h k (by omega)]
theorem cn_by (x : Int64) : cn (by8 x) 8 = cn (byM x) 8 := cn_eq 8 (fun i hi => by8_eq x i hi)
