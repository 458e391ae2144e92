/-! what the throw needs, at the law's entry -/
set_option maxRecDepth 100000 in
theorem NSw_in : ∀ w ∈ NSw ++ [Cond.stringRef RX11 179 "no such cell, or nothing of that number to tell", Cond.laysStatic Bundle.tN "UNASSIGNED_STACK" Bundle.steD, Cond.laysStatic Bundle.tN "SUPPRESSED_SENTINEL" Bundle.listD, Cond.initialized Bundle.tN], w ∈ lw_tbl := by decide +kernel
theorem kx_start {A : Array Value} {s : State} (hts : ∀ w ∈ lw_tbl, w.before A s = true) (hg : (Jvm.Cond.and given_1 narrow_1).before A s = true) : ∃ sa, KX s.heap.size sa s := by
  have hs := flat_of_before _ hg
  have h1 : (Cond.isRef (.static Bundle.tN "UNASSIGNED_STACK" Bundle.steD)).before A s = true := hs _ (by decide +kernel)
  have h2 : (Cond.isRef (.static Bundle.tN "SUPPRESSED_SENTINEL" Bundle.listD)).before A s = true := hs _ (by decide +kernel)
  have h3 : (Cond.exactly (.string RX11 179) "java/lang/String").before A s = true := hs _ (by decide +kernel)
  have hA : ∀ a : Nat, a < s.heap.size → ¬ s.heap.size ≤ a := fun a h => Nat.not_le.mpr h
  obtain ⟨sa, -, -, -, hsa, -⟩ := Cond.exactly_spec h3
  exact ⟨sa, fun w hw => va_Nw.of (NSw_t w hw) (hts w (NSw_in w (List.mem_append_left _ hw))), vk_R.of (hts _ (NSw_in _ (by simp))) hsa, vx_Zqof (hts _ (NSw_in _ (by simp))) (hts _ (NSw_in _ (by simp))) h1 hA, vx_Zqof (hts _ (NSw_in _ (by simp))) (hts _ (NSw_in _ (by simp))) h2 hA⟩
