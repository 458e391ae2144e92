/-! the classes at the law's entry -/
theorem kn_cl {A : Array Value} {s : State} (hts : ∀ w ∈ TBg, w.before A s = true) : ∃ D : va_G, ∀ (c : Nat) (q : vw_C), vwCl[c]? = some q → u_Kn s q.1 q.2.1 q.2.2 (D.1 c) (D.2 c) := by
  have hk : ∀ c : Nat, ∃ (cC : ClassId) (iS : Nat → Nat), ∀ q : vw_C, vwCl[c]? = some q → u_Kn s q.1 q.2.1 q.2.2 cC iS := by
    intro c
    match c with
    | 0 =>
      obtain ⟨a, b, h⟩ := u_known hts inT0 (hts _ it_0)
      exact ⟨a, b, fun q hq => by cases hq; exact h⟩
    | 1 =>
      obtain ⟨a, b, h⟩ := u_known hts inT1 (hts _ it_1)
      exact ⟨a, b, fun q hq => by cases hq; exact h⟩
    | 2 =>
      obtain ⟨a, b, h⟩ := u_known hts inT2 (hts _ it_2)
      exact ⟨a, b, fun q hq => by cases hq; exact h⟩
    | 3 =>
      obtain ⟨a, b, h⟩ := u_known hts inT3 (hts _ it_3)
      exact ⟨a, b, fun q hq => by cases hq; exact h⟩
    | 4 =>
      obtain ⟨a, b, h⟩ := u_known hts inT4 (hts _ it_4)
      exact ⟨a, b, fun q hq => by cases hq; exact h⟩
    | 5 =>
      obtain ⟨a, b, h⟩ := u_known hts inT5 (hts _ it_5)
      exact ⟨a, b, fun q hq => by cases hq; exact h⟩
    | 6 =>
      obtain ⟨a, b, h⟩ := u_known hts inT6 (hts _ it_6)
      exact ⟨a, b, fun q hq => by cases hq; exact h⟩
    | 7 =>
      obtain ⟨a, b, h⟩ := u_known hts inT7 (hts _ it_7)
      exact ⟨a, b, fun q hq => by cases hq; exact h⟩
    | 8 =>
      obtain ⟨a, b, h⟩ := u_known hts inT8 (hts _ it_8)
      exact ⟨a, b, fun q hq => by cases hq; exact h⟩
    | 9 =>
      obtain ⟨a, b, h⟩ := u_known hts inT9 (hts _ it_9)
      exact ⟨a, b, fun q hq => by cases hq; exact h⟩
    | 10 =>
      obtain ⟨a, b, h⟩ := u_known hts inT10 (hts _ it_10)
      exact ⟨a, b, fun q hq => by cases hq; exact h⟩
    | 11 =>
      obtain ⟨a, b, h⟩ := u_known hts inT11 (hts _ it_11)
      exact ⟨a, b, fun q hq => by cases hq; exact h⟩
    | 12 =>
      obtain ⟨a, b, h⟩ := u_known hts inT12 (hts _ it_12)
      exact ⟨a, b, fun q hq => by cases hq; exact h⟩
    | n + 13 =>
      obtain ⟨a, b, h⟩ := u_known hts inT0 (hts _ it_0)
      exact ⟨a, b, fun q hq => by cases hq⟩
  exact ⟨(fun c => (hk c).choose, fun c => (hk c).choose_spec.choose), fun c q hq => (hk c).choose_spec.choose_spec q hq⟩
