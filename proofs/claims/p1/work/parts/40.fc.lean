/-! the class's world behind both constructors -/
theorem iv_row {c : Nat} (h : ∀ x ∈ vsl, x.1 ≠ c) (j : Nat) : iv c j = 0 := by
  unfold iv
  exact if_neg (fun h9 => h (c, j) h9 rfl)
theorem fc_of {B : Nat} {kd : sK} {ig : sI} {rg : sR} {lg : sG} (hsh : Sh B kd) (h1 : Rs B rg) (h2 : ∀ c j, 1 ≤ c → c < 49 → ig (B + c) j = iv c j) (h3 : ∀ j, j < 288 → rg (B + 11) j = some (B + 10)) (h4 : rg (B + 10) 2 = none) (h5 : ∀ j, lg (B + 18) j = 0) : FC B kd ig rg lg := by
  refine ⟨⟨hsh, h1, h3, h4, fun j => ?_, fun j => ?_, fun j => ?_⟩, ?_, ?_, ?_, ?_, ?_, ?_, ?_, ?_, ?_, h5⟩
  · rw [h2 10 j (by decide) (by decide)]; exact iv_row (by decide) j
  · rw [h2 9 j (by decide) (by decide)]; exact iv_row (by decide) j
  · rw [h2 12 j (by decide) (by decide)]; exact iv_row (by decide) j
  all_goals (rw [h2 _ _ (by decide) (by decide)]; decide)
