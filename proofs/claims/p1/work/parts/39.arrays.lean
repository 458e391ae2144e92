/-! the arrays' classes at the law's entry, and all of KN -/
set_option maxRecDepth 100000 in
theorem arr_in : ∀ w ∈ [Cond.arrayClass .int, Cond.arrayClass .char, Cond.arrayClass .boolean, Cond.arrayClass .long, Cond.arrayOver (.object "SheetDoctor$Cell")] ++ NWs, w ∈ lw_tbl := by decide +kernel
set_option maxRecDepth 100000 in
theorem NWs_t : ∀ w ∈ NWs, w.onTables = true := by decide +kernel
theorem kn_arr {A : Array Value} {s : State} (hts : ∀ w ∈ lw_tbl, w.before A s = true) : ∃ cA : Nat → ClassId, ∀ (k : Nat) (q : ClassId × FieldType), (tysA cA)[k]? = some q → ArrOfT s q.1 q.2 ∧ va_RA s q.1 q.2 := by
  obtain ⟨c0, k0, p0, a0, b0, d0⟩ := Cond.arrayClass_spec (hts (.arrayClass .int) (arr_in _ (by simp)))
  obtain ⟨c1, k1, p1, a1, b1, d1⟩ := Cond.arrayClass_spec (hts (.arrayClass .char) (arr_in _ (by simp)))
  obtain ⟨c2, k2, p2, a2, b2, d2⟩ := Cond.arrayClass_spec (hts (.arrayClass .boolean) (arr_in _ (by simp)))
  obtain ⟨c3, k3, p3, a3, b3, d3⟩ := Cond.arrayClass_spec (hts (.arrayClass .long) (arr_in _ (by simp)))
  obtain ⟨p4, c4, k4, e4, -, b4, d4, a4⟩ := Cond.arrayOver_spec (hts (.arrayOver (.object "SheetDoctor$Cell")) (arr_in _ (by simp)))
  refine ⟨fun n => if n = 20 then c0 else if n = 21 then c1 else if n = 22 then c2 else if n = 23 then c3 else c4, fun k q hq => ?_⟩
  match k with
  | 0 => cases hq; exact ⟨fun N z => ⟨(fun k h => by cases h), k0, b0, p0, d0⟩, a0⟩
  | 1 => cases hq; exact ⟨fun N z => ⟨(fun k h => by cases h), k1, b1, p1, d1⟩, a1⟩
  | 2 => cases hq; exact ⟨fun N z => ⟨(fun k h => by cases h), k2, b2, p2, d2⟩, a2⟩
  | 3 => cases hq; exact ⟨fun N z => ⟨(fun k h => by cases h), k3, b3, p3, d3⟩, a3⟩
  | 4 => cases hq; exact ⟨fun N z => ⟨(fun k h => by cases h), k4, b4, p4, d4⟩, ⟨k4, p4, b4, d4, e4, a4⟩⟩
  | n + 5 => cases hq
theorem kn_start {A : Array Value} {s : State} (hts : ∀ w ∈ lw_tbl, w.before A s = true) : ∃ (D : va_G) (cA : Nat → ClassId), KN D cA s := by
  obtain ⟨D, h1⟩ := kn_cl (fun w hw => hts w (TBg_tbl hw))
  obtain ⟨cA, h2⟩ := kn_arr hts
  exact ⟨D, cA, ⟨h1, h2⟩, fun w hw => va_Nw.of (NWs_t w hw) (hts w (arr_in w (List.mem_append_right _ hw))), va_AO.of (hts _ (arr_in _ (by simp [RX0])))⟩
