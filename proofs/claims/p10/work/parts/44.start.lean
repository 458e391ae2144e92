/-! what the throw needs, at the law's entry -/
set_option maxRecDepth 100000 in
theorem NSw_in : ∀ w ∈ NSw ++ [Cond.stringRef RX11 179 "no such cell, or nothing of that number to tell", Cond.laysStatic Bundle.tN "UNASSIGNED_STACK" Bundle.steD, Cond.laysStatic Bundle.tN "SUPPRESSED_SENTINEL" Bundle.listD, Cond.initialized Bundle.tN], w ∈ lw_tbl := by decide +kernel
theorem kx_start {A : Array Value} {s : State} (hts : ∀ w ∈ lw_tbl, w.before A s = true) (hg : (Jvm.Cond.and given_1 narrow_1).before A s = true) : ∃ sa, KX s.heap.size sa s := by
  have hs := flat_of_before _ hg
  have h1 : (Cond.isRef (.static Bundle.tN "UNASSIGNED_STACK" Bundle.steD)).before A s = true := hs _ (by decide +kernel)
  have h2 : (Cond.isRef (.static Bundle.tN "SUPPRESSED_SENTINEL" Bundle.listD)).before A s = true := hs _ (by decide +kernel)
  have h3 : (Cond.exactly (.string RX11 179) "java/lang/String").before A s = true := hs _ (by decide +kernel)
  have hA : ∀ a : Nat, a < s.heap.size → ¬ s.heap.size ≤ a := fun a h => Nat.not_le.mpr h
  obtain ⟨sa, -, -, -, hsa, -⟩ := Cond.exactly_spec h3
  exact ⟨sa, fun w hw => va_Nw.of (NSw_t w hw) (hts w (NSw_in w (List.mem_append_left _ hw))), vk_R.of (hts _ (NSw_in _ (by simp))) hsa, vx_Zqof (hts _ (NSw_in _ (by simp))) (hts _ (NSw_in _ (by simp))) h1 hA, vx_Zqof (hts _ (NSw_in _ (by simp))) (hts _ (NSw_in _ (by simp))) h2 hA⟩
/-! the classes at the law's entry -/
theorem kn_cl {A : Array Value} {s : State} (hts : ∀ w ∈ TBg, w.before A s = true) : ∃ D : va_G, ∀ (c : Nat) (q : vw_C), vwCl[c]? = some q → u_Kn s q.1 q.2.1 q.2.2 (D.1 c) (D.2 c) := by
  have hk : ∀ c : Nat, ∃ (cC : ClassId) (iS : Nat → Nat), ∀ q : vw_C, vwCl[c]? = some q → u_Kn s q.1 q.2.1 q.2.2 cC iS := by
    intro c
    match c with
    | 0 =>
      obtain ⟨a, b, h⟩ := u_known hts inT0 (hts _ it_0)
      exact ⟨a, b, fun q hq => by cases hq; exact h⟩
    | 1 =>
      obtain ⟨a, b, h⟩ := u_known hts inT1 (hts _ it_1)
      exact ⟨a, b, fun q hq => by cases hq; exact h⟩
    | 2 =>
      obtain ⟨a, b, h⟩ := u_known hts inT2 (hts _ it_2)
      exact ⟨a, b, fun q hq => by cases hq; exact h⟩
    | 3 =>
      obtain ⟨a, b, h⟩ := u_known hts inT3 (hts _ it_3)
      exact ⟨a, b, fun q hq => by cases hq; exact h⟩
    | 4 =>
      obtain ⟨a, b, h⟩ := u_known hts inT4 (hts _ it_4)
      exact ⟨a, b, fun q hq => by cases hq; exact h⟩
    | 5 =>
      obtain ⟨a, b, h⟩ := u_known hts inT5 (hts _ it_5)
      exact ⟨a, b, fun q hq => by cases hq; exact h⟩
    | 6 =>
      obtain ⟨a, b, h⟩ := u_known hts inT6 (hts _ it_6)
      exact ⟨a, b, fun q hq => by cases hq; exact h⟩
    | 7 =>
      obtain ⟨a, b, h⟩ := u_known hts inT7 (hts _ it_7)
      exact ⟨a, b, fun q hq => by cases hq; exact h⟩
    | 8 =>
      obtain ⟨a, b, h⟩ := u_known hts inT8 (hts _ it_8)
      exact ⟨a, b, fun q hq => by cases hq; exact h⟩
    | 9 =>
      obtain ⟨a, b, h⟩ := u_known hts inT9 (hts _ it_9)
      exact ⟨a, b, fun q hq => by cases hq; exact h⟩
    | 10 =>
      obtain ⟨a, b, h⟩ := u_known hts inT10 (hts _ it_10)
      exact ⟨a, b, fun q hq => by cases hq; exact h⟩
    | 11 =>
      obtain ⟨a, b, h⟩ := u_known hts inT11 (hts _ it_11)
      exact ⟨a, b, fun q hq => by cases hq; exact h⟩
    | 12 =>
      obtain ⟨a, b, h⟩ := u_known hts inT12 (hts _ it_12)
      exact ⟨a, b, fun q hq => by cases hq; exact h⟩
    | n + 13 =>
      obtain ⟨a, b, h⟩ := u_known hts inT0 (hts _ it_0)
      exact ⟨a, b, fun q hq => by cases hq⟩
  exact ⟨(fun c => (hk c).choose, fun c => (hk c).choose_spec.choose), fun c q hq => (hk c).choose_spec.choose_spec q hq⟩
/-! the arrays' classes at the law's entry, and all of KN -/
set_option maxRecDepth 100000 in
theorem arr_in : ∀ w ∈ [Cond.arrayClass .int, Cond.arrayClass .char, Cond.arrayClass .boolean, Cond.arrayClass .long, Cond.arrayOver (.object "SheetDoctor$Cell")] ++ NWs ++ [Cond.stringRef RX7 96 skT, Cond.laysStatic "java/lang/String" "COMPACT_STRINGS" "Z", Cond.initialized "java/lang/String", Cond.castable "[I" "java/lang/Cloneable"], w ∈ lw_tbl := by decide +kernel
set_option maxRecDepth 100000 in
theorem NWs_t : ∀ w ∈ NWs, w.onTables = true := by decide +kernel
theorem kn_arr {A : Array Value} {s : State} (k30 k31 : Nat) (hts : ∀ w ∈ lw_tbl, w.before A s = true) : ∃ cA : Nat → ClassId, (cA 30 = k30 ∧ cA 31 = k31) ∧ ∀ (k : Nat) (q : ClassId × FieldType), (tysA cA)[k]? = some q → ArrOfT s q.1 q.2 ∧ va_RA s q.1 q.2 := by
  obtain ⟨c0, k0, p0, a0, b0, d0⟩ := Cond.arrayClass_spec (hts (.arrayClass .int) (arr_in _ (by simp)))
  obtain ⟨c1, k1, p1, a1, b1, d1⟩ := Cond.arrayClass_spec (hts (.arrayClass .char) (arr_in _ (by simp)))
  obtain ⟨c2, k2, p2, a2, b2, d2⟩ := Cond.arrayClass_spec (hts (.arrayClass .boolean) (arr_in _ (by simp)))
  obtain ⟨c3, k3, p3, a3, b3, d3⟩ := Cond.arrayClass_spec (hts (.arrayClass .long) (arr_in _ (by simp)))
  obtain ⟨p4, c4, k4, e4, -, b4, d4, a4⟩ := Cond.arrayOver_spec (hts (.arrayOver (.object "SheetDoctor$Cell")) (arr_in _ (by simp)))
  refine ⟨fun n => if n = 20 then c0 else if n = 21 then c1 else if n = 22 then c2 else if n = 23 then c3 else if n = 30 then k30 else if n = 31 then k31 else c4, ⟨rfl, rfl⟩, fun k q hq => ?_⟩
  match k with
  | 0 => cases hq; exact ⟨fun N z => ⟨(fun k h => by cases h), k0, b0, p0, d0⟩, a0⟩
  | 1 => cases hq; exact ⟨fun N z => ⟨(fun k h => by cases h), k1, b1, p1, d1⟩, a1⟩
  | 2 => cases hq; exact ⟨fun N z => ⟨(fun k h => by cases h), k2, b2, p2, d2⟩, a2⟩
  | 3 => cases hq; exact ⟨fun N z => ⟨(fun k h => by cases h), k3, b3, p3, d3⟩, a3⟩
  | 4 => cases hq; exact ⟨fun N z => ⟨(fun k h => by cases h), k4, b4, p4, d4⟩, ⟨k4, p4, b4, d4, e4, a4⟩⟩
  | n + 5 => cases hq
set_option maxRecDepth 100000 in
theorem ks_start {A : Array Value} {s : State} (hg : (Jvm.Cond.and given_1 narrow_1).before A s = true) : ∃ k30 k31 : Nat, vk_S 1 [8] [[40, 41, 43, 45, 42, 47, 58, 36]] (fun _ => k30) (fun _ => k31) (fun q => s.heap.size ≤ q) s s.heap ∧ (Term.string RX7 96).eval A s none [] s = some (.ref k30) := by
  have hs := flat_of_before _ hg
  have hA : ∀ a : Nat, a < s.heap.size → ¬ s.heap.size ≤ a := fun a h => Nat.not_le.mpr h
  have h1 : (Cond.exactly (.string RX7 96) "java/lang/String").before A s = true := hs _ (by decide +kernel)
  have h2 : (Cond.eq (.field (.string RX7 96) "java/lang/String" "coder" "B") (.int 0)).before A s = true := hs _ (by decide +kernel)
  have h3 : (Cond.arrayOf (.field (.string RX7 96) "java/lang/String" "value" "[B") .byte).before A s = true := hs _ (by decide +kernel)
  have h4 : (Cond.eq (.length (.field (.string RX7 96) "java/lang/String" "value" "[B")) (.int (Int32.ofNat 8))).before A s = true := hs _ (by decide +kernel)
  have h5 : ∀ j : Nat, j < 8 → (Cond.eq (.elem (.field (.string RX7 96) "java/lang/String" "value" "[B") (.int (Int32.ofNat j))) (.int (([40, 41, 43, 45, 42, 47, 58, 36] : List Int32).getD j 0))).before A s = true := by
    intro j hj
    rcases (show j = 0 ∨ j = 1 ∨ j = 2 ∨ j = 3 ∨ j = 4 ∨ j = 5 ∨ j = 6 ∨ j = 7 by omega) with rfl | rfl | rfl | rfl | rfl | rfl | rfl | rfl
    all_goals exact hs _ (by decide +kernel)
  have e0 : ∀ i : Nat, i < 1 → i = 0 := fun i h => by omega
  obtain ⟨adK, adV, g1, g2⟩ := vk_Sof (args := A) (s := s) (N := 1) (tm := fun _ => .string RX7 96) (len := [8]) (byt := [[40, 41, 43, 45, 42, 47, 58, 36]]) (A := fun q => s.heap.size ≤ q) (fun i hi => by rw [e0 i hi]; decide) (fun i _ => h1) (fun i _ => h2) (fun i _ => h3) (fun i hi => by rw [e0 i hi]; exact h4) (fun i hi j hj => by rw [e0 i hi] at hj ⊢; exact h5 j hj) (fun i j hi hj hne => absurd ((e0 i hi).trans (e0 j hj).symm) hne) hA
  refine ⟨adK 0, adV 0, ?_, g2 0 (by decide)⟩
  exact ⟨fun i hi => by have h := g1.1 0 (by decide); rw [e0 i hi]; exact h, fun i j hi hj _ => (e0 i hi).trans (e0 j hj).symm⟩
theorem kn_start {A : Array Value} {s : State} (hts : ∀ w ∈ lw_tbl, w.before A s = true) (hg : (Jvm.Cond.and given_1 narrow_1).before A s = true) : ∃ (D : va_G) (cA : Nat → ClassId), KN s.heap.size D cA s := by
  obtain ⟨D, h1⟩ := kn_cl (fun w hw => hts w (TBg_tbl hw))
  obtain ⟨k30, k31, q1, q2⟩ := ks_start hg
  obtain ⟨cA, ⟨e1, e2⟩, h2⟩ := kn_arr k30 k31 hts
  have hA : ∀ a : Nat, a < s.heap.size → ¬ s.heap.size ≤ a := fun a h => Nat.not_le.mpr h
  have hs := flat_of_before _ hg
  have hc : (Cond.eq (.static "java/lang/String" "COMPACT_STRINGS" "Z") (.int 1)).before A s = true := hs _ (by decide +kernel)
  subst e1 e2
  exact ⟨D, cA, ⟨h1, h2⟩, fun w hw => va_Nw.of (NWs_t w hw) (hts w (arr_in w (by simp [hw]))), va_AO.of (hts _ (arr_in _ (by simp [RX0]))), kx_start hts hg, ⟨vk_R.of (hts _ (arr_in _ (by simp))) q2, q1, va_Zof (hts _ (arr_in _ (by simp))) (hts _ (arr_in _ (by simp))) (va_eqt hc) hA⟩, va_Nw.of rfl (hts _ (arr_in _ (by simp)))⟩
