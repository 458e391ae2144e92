/-! small rows -/
theorem z0 {x : Int32} (h : x = 0) : x.toInt = 0 := by rw [h]; rfl
theorem zm1 {x : Int32} (h : x = -1) : x.toInt = -1 := by rw [h]; rfl
theorem eq0 {v : Int32} (h : v.toInt = 0) : v = 0 := i32_inj (h.trans rfl)
theorem eqm1 {v : Int32} (h : v.toInt = -1) : v = -1 := i32_inj (h.trans rfl)
theorem fill1 {ig : sI} {a : Nat} {i v w : Int32} (h : ∀ j : Nat, (j : Int) < i.toInt → ig a j = w) (hi : 0 ≤ i.toInt) (hv : v = w) : ∀ j : Nat, (j : Int) < i.toInt + 1 → up2 ig a i.toInt.toNat v a j = w := by
  intro j hj
  by_cases e1 : j = i.toInt.toNat
  · subst e1; rw [up2_eq]; exact hv
  · rw [up2_j e1]; exact h j (by omega)
theorem dfX0 : ∀ j, j < 6 → defaultValue (tyX0 j) = if isRf 0 j = true then .null else .int 0 := by decide +kernel
theorem dfX4 : ∀ j, j < 3 → defaultValue (tyX4 j) = if isRf 4 j = true then .null else .int 0 := by decide +kernel
