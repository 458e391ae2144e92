/-! the law's loop -/
theorem l_sw {p : Program} {l : Launch} {e : Env} {s : State} {m : MethodId} {below : List Frame} {meth : Method} {c : Code} {H : Heap} {locs : List Loc} {ls : Array Slot} {b L cells slots : Nat} {xs : Nat → Int32} {D : va_G} {cA : Nat → ClassId} {kd : sK} {ig : sI} {rg : sR} {lg : sG} {i : Int32} {τ : Tp} {σ : Sg} {π : Ps} {ν κ : Nat} (hst : l.stackTraces = false) (A : LA p s m meth c b L xs D cA) (hi : In L i) (hQ : St7 s.heap.size τ σ π ν kd ig rg lg) (hν : ν ≤ κ) (hκ : κ ≤ 512) (hw : WD s.heap.size D cA s.heap kd ig rg lg H locs) (hl : lv_has ls 7 [(0, .ref b), (1, .ref (s.heap.size + 0)), (2, .ref (s.heap.size + 49)), (3, .ref (s.heap.size + 79)), (4, .int i)]) (hf : Rm6 cells slots) (kk : LN p l e s m below meth c b D cA i cells slots κ) : LW p l e s m below meth c b H locs cells slots (F0 m 33 ls []) := by
  obtain ⟨C, hX, hbl, hr, hlk, hL⟩ := id A
  have hx := C.1.1
  have hb := C.1.2.1
  have hi2 := hi
  unfold In at hi2
  refine lv_aload_n hx hb dL_law_33 rfl (lv_at hl 0 rfl) ?_
  refine lv_iload hx hb dL_law_34 (lv_at hl 4 rfl) ?_
  refine va_sld hx hb hX hbl (Nat.not_le.mpr hbl) hw.2.2.1 (in_of hi2.1 (by omega)) dL_law_36 ?_
  refine lv_bipush (v := 15) hx hb dL_law_37 (by decide) ?_
  refine lv_iand hx hb dL_law_39 (lv_topi fun v hv => ?_)
  have hv2 := and15 (xs i.toNatClampNeg)
  rw [← hv] at hv2
  have hc : v.toInt = 0 ∨ v.toInt = 1 ∨ v.toInt = 2 ∨ v.toInt = 3 ∨ v.toInt = 4 ∨ v.toInt = 5 ∨ v.toInt = 6 ∨ v.toInt = 7 ∨ v.toInt = 8 ∨ v.toInt = 9 ∨ v.toInt = 10 ∨ v.toInt = 11 ∨ v.toInt = 12 ∨ v.toInt = 13 ∨ v.toInt = 14 ∨ v.toInt = 15 := by omega
  rcases hc with h | h | h | h | h | h | h | h | h | h | h | h | h | h | h | h
  · exact lv_tableIn (off := 80) (tgt := 120) hx hb dL_law_40 (by omega) (by omega) (by rw [h]; rfl) (by decide) (l_c0 hst A hi hQ hν hκ hw hl hf kk)
  · exact lv_tableIn (off := 227) (tgt := 267) hx hb dL_law_40 (by omega) (by omega) (by rw [h]; rfl) (by decide) (l_c1 hst A hi hQ hν hκ hw hl hf kk)
  · exact lv_tableIn (off := 252) (tgt := 292) hx hb dL_law_40 (by omega) (by omega) (by rw [h]; rfl) (by decide) (l_c2 hst A hi hQ hν hκ hw hl hf kk)
  · exact lv_tableIn (off := 289) (tgt := 329) hx hb dL_law_40 (by omega) (by omega) (by rw [h]; rfl) (by decide) (l_c3 hst A hi hQ hν hκ hw hl hf kk)
  · exact lv_tableIn (off := 314) (tgt := 354) hx hb dL_law_40 (by omega) (by omega) (by rw [h]; rfl) (by decide) (l_c4 hst A hi hQ hν hκ hw hl hf kk)
  · exact lv_tableIn (off := 351) (tgt := 391) hx hb dL_law_40 (by omega) (by omega) (by rw [h]; rfl) (by decide) (l_c5 hst A hi hQ hν hκ hw hl hf kk)
  · exact lv_tableIn (off := 412) (tgt := 452) hx hb dL_law_40 (by omega) (by omega) (by rw [h]; rfl) (by decide) (l_c6 hst A hi hQ hν hκ hw hl hf kk)
  · exact lv_tableIn (off := 465) (tgt := 505) hx hb dL_law_40 (by omega) (by omega) (by rw [h]; rfl) (by decide) (l_c7 hst A hi hQ hν hκ hw hl hf kk)
  · exact lv_tableIn (off := 478) (tgt := 518) hx hb dL_law_40 (by omega) (by omega) (by rw [h]; rfl) (by decide) (l_c8 hst A hi hQ hν hκ hw hl hf kk)
  · exact lv_tableIn (off := 515) (tgt := 555) hx hb dL_law_40 (by omega) (by omega) (by rw [h]; rfl) (by decide) (l_c9 hst A hi hQ hν hκ hw hl hf kk)
  · exact lv_tableIn (off := 540) (tgt := 580) hx hb dL_law_40 (by omega) (by omega) (by rw [h]; rfl) (by decide) (l_c10 hst A hi hQ hν hκ hw hl hf kk)
  · exact lv_tableIn (off := 577) (tgt := 617) hx hb dL_law_40 (by omega) (by omega) (by rw [h]; rfl) (by decide) (l_c11 hst A hi hQ hν hκ hw hl hf kk)
  · exact lv_tableIn (off := 614) (tgt := 654) hx hb dL_law_40 (by omega) (by omega) (by rw [h]; rfl) (by decide) (l_c12 hst A hi hQ hν hκ hw hl hf kk)
  · exact lv_tableIn (off := 627) (tgt := 667) hx hb dL_law_40 (by omega) (by omega) (by rw [h]; rfl) (by decide) (l_c13 hst A hi hQ hν hκ hw hl hf kk)
  · exact lv_tableIn (off := 667) (tgt := 707) hx hb dL_law_40 (by omega) (by omega) (by rw [h]; rfl) (by decide) (l_c14 hst A hi hQ hν hκ hw hl hf kk)
  · exact lv_tableIn (off := 704) (tgt := 744) hx hb dL_law_40 (by omega) (by omega) (by rw [h]; rfl) (by decide) (l_c15 hst A hi hQ hν hκ hw hl hf kk)
theorem l_loop {p : Program} {l : Launch} {e : Env} {s : State} {m : MethodId} {below : List Frame} {meth : Method} {c : Code} {b L : Nat} {xs : Nat → Int32} {D : va_G} {cA : Nat → ClassId} (hst : l.stackTraces = false) (A : LA p s m meth c b L xs D cA) : ∀ (n k : Nat) (i : Int32) (τ : Tp) (σ : Sg) (π : Ps) (ν : Nat) (ls : Array Slot) (H : Heap) (locs : List Loc) (kd : sK) (ig : sI) (rg : sR) (lg : sG), i.toInt = 7 * (k : Int) → k ≤ 512 → L ≤ 7 * k + 7 * n → St7 s.heap.size τ σ π ν kd ig rg lg → ν ≤ k → WD s.heap.size D cA s.heap kd ig rg lg H locs → lv_has ls 7 [(0, .ref b), (1, .ref (s.heap.size + 0)), (2, .ref (s.heap.size + 49)), (3, .ref (s.heap.size + 79)), (4, .int i)] → LW p l e s m below meth c b H locs (80 + 6 * k) (257976 + 370 * k) (F0 m 23 ls []) := by
  have hL := A.2.2.2.2.2
  have hx := A.1.1.1
  have hb := A.1.1.2.1
  intro n
  induction n with
  | zero =>
    intro k i τ σ π ν ls H locs kd ig rg lg hk hk5 hn hQ hν hw hl
    exact l_head A hw (lv_at hl 0 rfl) (lv_at hl 4 rfl) (fun _ => l_end A hw (by omega) (by omega)) (fun h => absurd h (by omega))
  | succ n ih =>
    intro k i τ σ π ν ls H locs kd ig rg lg hk hk5 hn hQ hν hw hl
    refine l_head A hw (lv_at hl 0 rfl) (lv_at hl 4 rfl) (fun _ => l_end A hw (by omega) (by omega)) (fun h => ?_)
    refine l_sw hst A (by unfold In; omega) hQ hν hk5 hw hl (by unfold Rm6; omega) ?_
    intro τ σ π ν ls H locs kd ig rg lg hQ hν hw hl
    refine ti_inc (k := 4) (x := i) hx hb dL_law_769 hl rfl (by decide) (by decide) (by omega) (fun z hz ls hl => ?_)
    have hl : lv_has ls 7 [(4, .int z), (0, .ref b), (1, .ref (s.heap.size + 0)), (2, .ref (s.heap.size + 49)), (3, .ref (s.heap.size + 79))] := hl
    refine lv_goto (tgt := 23) hx hb dL_law_772 (by decide) ?_
    refine W.widen (k := 80 + 6 * (k + 1)) (n := 257976 + 370 * (k + 1)) (by omega) (by omega) ?_
    exact ih (k + 1) z τ σ π ν ls H locs kd ig rg lg (by omega) (by omega) (by omega) hQ hν hw (lv_sub hl [1, 2, 3, 4, 0] rfl)
