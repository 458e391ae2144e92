/-! what count() tells -/
def CnR (τ : Tp) (σ : Sg) (π : Ps) (x z : Int) : Prop := (x = 0 → CQ (fun p => kdO (σ p) = 1) 288 z) ∧ (x = 1 → CQ (fun p => kdO (σ p) = 2) 288 z) ∧ (x = 2 → CQ (isEl σ) 288 z) ∧ (x = 3 → ∃ v e : Vl, VOk σ v e ∧ CQ (fun p => (e p).toInt ≠ 0) 288 z) ∧ (x = 4 → z = (τ.length : Int)) ∧ (x = 5 → z = (π.length : Int)) ∧ (¬ (0 ≤ x ∧ x ≤ 5) → z = -1)
section CNR
variable {τ : Tp} {σ : Sg} {π : Ps} {x z y : Int}
theorem CnR.c0 (h : x = 0) (k : CQ (fun p => kdO (σ p) = 1) 288 z) : CnR τ σ π x z := ⟨fun _ => k, fun w => absurd w (by omega), fun w => absurd w (by omega), fun w => absurd w (by omega), fun w => absurd w (by omega), fun w => absurd w (by omega), fun w => absurd h (by omega)⟩
theorem CnR.c1 (h : x = 1) (k : CQ (fun p => kdO (σ p) = 2) 288 z) : CnR τ σ π x z := ⟨fun w => absurd w (by omega), fun _ => k, fun w => absurd w (by omega), fun w => absurd w (by omega), fun w => absurd w (by omega), fun w => absurd w (by omega), fun w => absurd h (by omega)⟩
theorem CnR.c2 (h : x = 2) (k : CQ (isEl σ) 288 z) : CnR τ σ π x z := ⟨fun w => absurd w (by omega), fun w => absurd w (by omega), fun _ => k, fun w => absurd w (by omega), fun w => absurd w (by omega), fun w => absurd w (by omega), fun w => absurd h (by omega)⟩
theorem CnR.c3 (h : x = 3) (k : ∃ v e : Vl, VOk σ v e ∧ CQ (fun p => (e p).toInt ≠ 0) 288 z) : CnR τ σ π x z := ⟨fun w => absurd w (by omega), fun w => absurd w (by omega), fun w => absurd w (by omega), fun _ => k, fun w => absurd w (by omega), fun w => absurd w (by omega), fun w => absurd h (by omega)⟩
theorem CnR.c4 (h : x = 4) (k : z = (τ.length : Int)) : CnR τ σ π x z := ⟨fun w => absurd w (by omega), fun w => absurd w (by omega), fun w => absurd w (by omega), fun w => absurd w (by omega), fun _ => k, fun w => absurd w (by omega), fun w => absurd h (by omega)⟩
theorem CnR.c5 (h : x = 5) (k : z = (π.length : Int)) : CnR τ σ π x z := ⟨fun w => absurd w (by omega), fun w => absurd w (by omega), fun w => absurd w (by omega), fun w => absurd w (by omega), fun w => absurd w (by omega), fun _ => k, fun w => absurd h (by omega)⟩
theorem CnR.cd (h : ¬ (0 ≤ x ∧ x ≤ 5)) (k : z = -1) : CnR τ σ π x z := ⟨fun w => absurd w (by omega), fun w => absurd w (by omega), fun w => absurd w (by omega), fun w => absurd w (by omega), fun w => absurd w (by omega), fun w => absurd w (by omega), fun _ => k⟩
theorem CnR.det (hW : WS σ π) (h1 : CnR τ σ π x z) (h2 : CnR τ σ π x y) : z = y := by
  obtain ⟨a0, a1, a2, a3, a4, a5, a6⟩ := h1
  obtain ⟨b0, b1, b2, b3, b4, b5, b6⟩ := h2
  by_cases c0 : x = 0
  · exact (a0 c0).det (b0 c0)
  by_cases c1 : x = 1
  · exact (a1 c1).det (b1 c1)
  by_cases c2 : x = 2
  · exact (a2 c2).det (b2 c2)
  by_cases c3 : x = 3
  · obtain ⟨v, e, a7, a8⟩ := a3 c3
    obtain ⟨w, d, b7, b8⟩ := b3 c3
    have k := VOk.det hW a7 b7
    exact CQ.det (a8.cg (J := fun p => (d p).toInt ≠ 0) (fun p hp => by show (e p).toInt ≠ 0 ↔ (d p).toInt ≠ 0; rw [(k p hp).2])) b8
  by_cases c4 : x = 4
  · rw [a4 c4, b4 c4]
  by_cases c5 : x = 5
  · rw [a5 c5, b5 c5]
  · rw [a6 (by omega), b6 (by omega)]
end CNR
/-! errors are never below 0 -/
theorem mtS_n2 {v e : Vl} : ∀ (l : List Int) (a : Int32 × Int32), (∀ q ∈ l, 0 ≤ (e q.toNat).toInt) → 0 ≤ a.2.toInt → 0 ≤ (l.foldl (mtS v e) a).2.toInt
  | [], _, _, ha => ha
  | q :: l, a, hl, ha => mtS_n2 l _ (fun q hq => hl q (List.mem_cons_of_mem _ hq)) (by
    unfold mtS
    show 0 ≤ (if a.2 = 0 then e q.toNat else a.2).toInt
    split
    · exact hl q (List.mem_cons_self ..)
    · exact ha)
theorem evS_n2 {v e : Vl} {h : Int} {a : Ev} {s : St} (hf : rdS s → ∀ q ∈ plS s h, 0 ≤ (e q.toNat).toInt) (ha : 0 ≤ a.2.toInt) : 0 ≤ (evS v e h a s).2.toInt := by
  unfold evS
  split
  · exact ha
  · split
    · rename_i r
      exact mtS_n2 _ _ (hf r) ha
    · split
      · exact ha
      · split
        · split
          · exact ha
          · exact ha
        · split
          · unfold opM
            show 0 ≤ (if _ then (1 : Int32) else a.2).toInt
            split
            · decide
            · exact ha
          · exact ha
theorem ev_n2 {v e : Vl} {h : Int} : ∀ (L : Fm) (a : Ev), (∀ s ∈ L, rdS s → ∀ q ∈ plS s h, 0 ≤ (e q.toNat).toInt) → 0 ≤ a.2.toInt → 0 ≤ (ev v e h a L).2.toInt
  | [], _, _, ha => ha
  | s :: L, a, hf, ha => ev_n2 L _ (fun s hs => hf s (List.mem_cons_of_mem _ hs)) (evS_n2 (hf s (List.mem_cons_self ..)) ha)
theorem VOk.nn {σ : Sg} {v e : Vl} (hf : ∀ p, p < 288 → kdO (σ p) = 2 → fitL (p : Int) (fmO (σ p))) (h : VOk σ v e) : ∀ p, p < 288 → 0 ≤ (e p).toInt := by
  have key : ∀ x, ¬ (x < 288 ∧ (e x).toInt < 0) := fun x hx => by
    obtain ⟨p, hp, t⟩ := ring_ex (R := Rd σ) (S := fun x => x < 288 ∧ (e x).toInt < 0) (n := 288) (fun a ha => by
      refine ⟨ha.1, ?_⟩
      obtain ⟨a1, a2, a3⟩ := h a ha.1
      have hn := ha.2
      by_cases k : kdO (σ a) = 2
      · by_cases r : Rg σ a
        · rw [(a2 k r).2] at hn; exact absurd hn (by decide)
        · apply Classical.byContradiction
          intro w
          have ee := a3 k r
          have e2 : e a = (rsV v e (a : Int) (fmO (σ a))).2 := by rw [← ee]
          have nn := ev_n2 (v := v) (e := e) (h := (a : Int)) (fmO (σ a)) ([], 0) (fun s hs r2 q hq => by
            apply Classical.byContradiction
            intro w2
            have ho := plS_on (hf a ha.1 k s hs r2) hq
            exact w ⟨q.toNat, ⟨by omega, by omega⟩, ha.1, k, s, hs, r2, by rw [show ((q.toNat : Nat) : Int) = q by omega]; exact hq⟩) (by decide)
          have e3 : 0 ≤ (rsV v e (a : Int) (fmO (σ a))).2.toInt := by
            unfold rsV
            split
            · show 0 ≤ (0 : Int32).toInt; decide
            · exact nn
          rw [← e2] at e3
          omega
      · rw [(a1 k).2] at hn; exact absurd hn (by decide)) hx
    obtain ⟨a1, a2, a3⟩ := h p hp.1
    have k : kdO (σ p) = 2 := by
      have : ∀ x y, TG (Rd σ) x y → kdO (σ x) = 2 := fun x y t => by
        induction t with
        | single r => exact r.2.1
        | tail _ _ ih => exact ih
      exact this p p t
    have hn := hp.2
    rw [(a2 k t).2] at hn
    exact absurd hn (by decide)
  intro p hp
  have := key p
  omega
set_option maxHeartbeats 4000000 in
set_option maxRecDepth 100000 in
theorem t_X6_cellsOfKindE {τ : Tp} (l : Launch) (B : Nat) (D : va_G) (cA : Nat → ClassId) (kd : sK) (ig : sI) (rg : sR) (lg : sG) (sz : Nat) (x : Int32) (σ : Sg) (π : Ps) (ν : Nat) (hS : SCh B σ π ν kd ig rg) (hI : IC τ B kd ig rg) : MC l B D cA yX6_cellsOfKind cX6_cellsOfKind 4 (some .int) (rL 0 0 0) [.ref (B + 9), .int x] kd ig rg lg sz (Pu kd ig rg lg sz (fun r => ∃ z : Int32, r = some (.int z) ∧ CQ (fun p => kdO (σ p) = x.toInt) 288 z.toInt)) := by
  refine MC.of (own := RX6) (by decide +kernel) rfl (Nat.le_of_ble_eq_true rfl) ?_
  intro p e s m args below meth c ls C hr hlk hnm hw hsz hl
  have hx := C.1.1
  have hb := C.1.2.1
  have hown := C.1.2.2.2.1
  have hts := C.1.2.2.2.2
  have hl : lv_has ls 4 [(0, .ref (B + 9)), (1, .int x)] := hl
  have hsh := hI.sh
  have hrs := hI.rs
  refine lv_iconst (v := 0) hx hb dX6_cellsOfKind_0 (by decide) (ti_c 0 (by decide) fun z1 hz1 => ?_)
  refine lv_istore_n (lv' := [(2, .int z1), (0, .ref (B + 9)), (1, .int x)]) hx hb dX6_cellsOfKind_1 rfl hl (by decide) rfl (fun ls hl => ?_)
  refine lv_iconst (v := 0) hx hb dX6_cellsOfKind_2 (by decide) (ti_c 0 (by decide) fun z2 hz2 => ?_)
  refine lv_istore_n (lv' := [(3, .int z2), (2, .int z1), (0, .ref (B + 9)), (1, .int x)]) hx hb dX6_cellsOfKind_3 rfl hl (by decide) rfl (fun ls hl => ?_)
  have L4 : ∀ (n : Nat) (ls : Array Slot) (H : Heap) (locs : List Loc) (v3 : Int32) (v4 : Int32), lv_has ls 4 [(3, .int v3), (2, .int v4), (0, .ref (B + 9)), (1, .int x)] → WD B D cA s.heap kd ig rg lg H locs → H.size = sz → (0 ≤ v3.toInt) → (v3.toInt ≤ 288) → (0 ≤ v4.toInt) → (v4.toInt ≤ v3.toInt) → (CQ (fun p => kdO (σ p) = x.toInt) v3.toInt.toNat v4.toInt) → 288 - v3.toInt < (n : Int) → W p l e (rL 0 0 0) s m args below meth c H locs 0 0 (MQ below (QcW B D cA (Pu kd ig rg lg sz (fun r => ∃ z : Int32, r = some (.int z) ∧ CQ (fun p => kdO (σ p) = x.toInt) 288 z.toInt))) args s 0 0 (fun q => B ≤ q)) (F0 m 4 ls []) := by
    intro n4
    induction n4 with
    | zero => intro ls H locs v3 v4 hl hw hsz g4_0 g4_1 g4_2 g4_3 g4_4 hmu; exact absurd hmu (by omega)
    | succ n4 ih4 =>
      intro ls H locs v3 v4 hl hw hsz g4_0 g4_1 g4_2 g4_3 g4_4 hmu
      refine lv_iload_n hx hb dX6_cellsOfKind_4 rfl (lv_at hl 0 rfl) ?_
      refine lv_sipush (v := 288) hx hb dX6_cellsOfKind_5 (by decide) (ti_c 288 (by decide) fun z5 hz5 => ?_)
      refine b_ge (tgt := 33) hx hb dX6_cellsOfKind_8 (by decide) (fun c8 => ?_) (fun c8 => ?_)
      · refine lv_iload_n hx hb dX6_cellsOfKind_33 rfl (lv_at hl 1 rfl) ?_
        exact r_iret C hw hr hlk rfl (Nat.le_of_ble_eq_true rfl) (Nat.le_of_ble_eq_true rfl) dX6_cellsOfKind_34 ⟨rfl, rfl, rfl, rfl, hsz, ⟨_, rfl, CQ.at g4_4 (by omega)⟩⟩
      · refine lv_aload_n hx hb dX6_cellsOfKind_11 rfl (lv_at hl 2 rfl) ?_
        refine r_get C hw (hsh 9 _ rfl) fl_X6_20 (oV_r rfl (hrs (9, 1, 11) (by decide))) dX6_cellsOfKind_12 ?_
        refine lv_iload_n hx hb dX6_cellsOfKind_15 rfl (lv_at hl 0 rfl) ?_
        obtain ⟨q6, nq6, rq6, kq6⟩ := hI.cell (j := v3.toInt.toNat) (by omega)
        refine r_aald C hw (hsh 11 _ rfl) (by omega) (by omega) (by rw [rq6]) dX6_cellsOfKind_16 ?_
        have hcq6 := hS.at (x := v3.toInt) (by omega) rq6
        refine r_get C hw kq6 fl_X6_46 (oV_i rfl) dX6_cellsOfKind_17 (ti_c (ig q6 0).toInt rfl fun z7 hz7 => ?_)
        have hfz7 : z7.toInt = (atC σ v3.toInt).1.1 := hz7.trans hcq6.2.2.1.1
        refine lv_iload_n hx hb dX6_cellsOfKind_20 rfl (lv_at hl 3 rfl) ?_
        refine b_ne (tgt := 27) hx hb dX6_cellsOfKind_21 (by decide) (fun c21 => ?_) (fun c21 => ?_)
        · refine tc_inc hx hb dX6_cellsOfKind_27 hl (k := 0) rfl (by decide) (by decide) (fun z8 hz8 ls hl => ?_)
          first | replace hz8 := hz8 (by omega) | clear hz8
          have hl : lv_has ls 4 [(3, .int z8), (2, .int v4), (0, .ref (B + 9)), (1, .int x)] := hl
          refine lv_goto (tgt := 4) hx hb dX6_cellsOfKind_30 (by decide) ?_
          exact ih4 ls H locs z8 v4 (lv_sub hl [0, 1, 2, 3] rfl) hw hsz (by omega) (by omega) (by omega) (by omega) (by rw [show z8.toInt.toNat = v3.toInt.toNat + 1 by omega]; exact CQ.non g4_4 (show ¬ kdO (σ v3.toInt.toNat) = x.toInt by rw [← atC_on (σ := σ) (x := v3.toInt) (by omega)]; show ¬ (atC σ v3.toInt).1.1 = x.toInt; omega) (by omega)) (by omega)
        · refine tc_inc hx hb dX6_cellsOfKind_24 hl (k := 1) rfl (by decide) (by decide) (fun z9 hz9 ls hl => ?_)
          first | replace hz9 := hz9 (by omega) | clear hz9
          have hl : lv_has ls 4 [(2, .int z9), (3, .int v3), (0, .ref (B + 9)), (1, .int x)] := hl
          refine tc_inc hx hb dX6_cellsOfKind_27 hl (k := 1) rfl (by decide) (by decide) (fun z10 hz10 ls hl => ?_)
          first | replace hz10 := hz10 (by omega) | clear hz10
          have hl : lv_has ls 4 [(3, .int z10), (2, .int z9), (0, .ref (B + 9)), (1, .int x)] := hl
          refine lv_goto (tgt := 4) hx hb dX6_cellsOfKind_30 (by decide) ?_
          exact ih4 ls H locs z10 z9 (lv_sub hl [0, 1, 2, 3] rfl) hw hsz (by omega) (by omega) (by omega) (by omega) (by rw [show z10.toInt.toNat = v3.toInt.toNat + 1 by omega]; exact CQ.inc g4_4 (show kdO (σ v3.toInt.toNat) = x.toInt by rw [← atC_on (σ := σ) (x := v3.toInt) (by omega)]; show (atC σ v3.toInt).1.1 = x.toInt; omega) (by omega)) (by omega)
  exact L4 ((288 - z2.toInt) + 1).toNat ls s.heap [] z2 z1 (lv_sub hl [0, 1, 2, 3] rfl) hw hsz (by omega) (by omega) (by omega) (by omega) (by rw [show z2.toInt.toNat = 0 by omega]; exact CQ.zero (by omega)) (by omega)

set_option maxHeartbeats 4000000 in
set_option maxRecDepth 100000 in
theorem t_X10_errorsE {τ : Tp} (l : Launch) (B : Nat) (D : va_G) (cA : Nat → ClassId) (kd : sK) (ig : sI) (rg : sR) (lg : sG) (sz : Nat)  (hI : IC τ B kd ig rg) : MC l B D cA yX10_errors cX10_errors 3 (some .int) (rL 0 0 0) [.ref (B + 24)] kd ig rg lg sz (Pu kd ig rg lg sz (fun r => ∃ z : Int32, r = some (.int z) ∧ CQ (fun p => (ig (B + 26) p).toInt ≠ 0) 288 z.toInt)) := by
  refine MC.of (own := RX10) (by decide +kernel) rfl (Nat.le_of_ble_eq_true rfl) ?_
  intro p e s m args below meth c ls C hr hlk hnm hw hsz hl
  have hx := C.1.1
  have hb := C.1.2.1
  have hown := C.1.2.2.2.1
  have hts := C.1.2.2.2.2
  have hl : lv_has ls 3 [(0, .ref (B + 24))] := hl
  have hsh := hI.sh
  have hrs := hI.rs
  refine lv_iconst (v := 0) hx hb dX10_errors_0 (by decide) (ti_c 0 (by decide) fun z1 hz1 => ?_)
  refine lv_istore_n (lv' := [(1, .int z1), (0, .ref (B + 24))]) hx hb dX10_errors_1 rfl hl (by decide) rfl (fun ls hl => ?_)
  refine lv_iconst (v := 0) hx hb dX10_errors_2 (by decide) (ti_c 0 (by decide) fun z2 hz2 => ?_)
  refine lv_istore_n (lv' := [(2, .int z2), (1, .int z1), (0, .ref (B + 24))]) hx hb dX10_errors_3 rfl hl (by decide) rfl (fun ls hl => ?_)
  have L4 : ∀ (n : Nat) (ls : Array Slot) (H : Heap) (locs : List Loc) (v3 : Int32) (v4 : Int32), lv_has ls 3 [(2, .int v3), (1, .int v4), (0, .ref (B + 24))] → WD B D cA s.heap kd ig rg lg H locs → H.size = sz → (0 ≤ v3.toInt) → (v3.toInt ≤ 288) → (0 ≤ v4.toInt) → (v4.toInt ≤ v3.toInt) → (CQ (fun p => (ig (B + 26) p).toInt ≠ 0) v3.toInt.toNat v4.toInt) → 288 - v3.toInt < (n : Int) → W p l e (rL 0 0 0) s m args below meth c H locs 0 0 (MQ below (QcW B D cA (Pu kd ig rg lg sz (fun r => ∃ z : Int32, r = some (.int z) ∧ CQ (fun p => (ig (B + 26) p).toInt ≠ 0) 288 z.toInt))) args s 0 0 (fun q => B ≤ q)) (F0 m 4 ls []) := by
    intro n4
    induction n4 with
    | zero => intro ls H locs v3 v4 hl hw hsz g4_0 g4_1 g4_2 g4_3 g4_4 hmu; exact absurd hmu (by omega)
    | succ n4 ih4 =>
      intro ls H locs v3 v4 hl hw hsz g4_0 g4_1 g4_2 g4_3 g4_4 hmu
      refine lv_iload_n hx hb dX10_errors_4 rfl (lv_at hl 0 rfl) ?_
      refine lv_sipush (v := 288) hx hb dX10_errors_5 (by decide) (ti_c 288 (by decide) fun z5 hz5 => ?_)
      refine b_ge (tgt := 29) hx hb dX10_errors_8 (by decide) (fun c8 => ?_) (fun c8 => ?_)
      · refine lv_iload_n hx hb dX10_errors_29 rfl (lv_at hl 1 rfl) ?_
        exact r_iret C hw hr hlk rfl (Nat.le_of_ble_eq_true rfl) (Nat.le_of_ble_eq_true rfl) dX10_errors_30 ⟨rfl, rfl, rfl, rfl, hsz, ⟨_, rfl, CQ.at g4_4 (by omega)⟩⟩
      · refine lv_aload_n hx hb dX10_errors_11 rfl (lv_at hl 2 rfl) ?_
        refine r_get C hw (hsh 24 _ rfl) fl_X10_23 (oV_r rfl (hrs (24, 3, 26) (by decide))) dX10_errors_12 ?_
        refine lv_iload_n hx hb dX10_errors_15 rfl (lv_at hl 0 rfl) ?_
        refine r_iald C hw (hsh 26 _ rfl) (by omega) (by omega) dX10_errors_16 (ti_c (ig (B + 26) v3.toInt.toNat).toInt rfl fun z6 hz6 => ?_)
        refine z_eq (tgt := 23) hx hb dX10_errors_17 (by decide) (fun c17 => ?_) (fun c17 => ?_)
        · refine tc_inc hx hb dX10_errors_23 hl (k := 0) rfl (by decide) (by decide) (fun z7 hz7 ls hl => ?_)
          first | replace hz7 := hz7 (by omega) | clear hz7
          have hl : lv_has ls 3 [(2, .int z7), (1, .int v4), (0, .ref (B + 24))] := hl
          refine lv_goto (tgt := 4) hx hb dX10_errors_26 (by decide) ?_
          exact ih4 ls H locs z7 v4 (lv_sub hl [0, 1, 2] rfl) hw hsz (by omega) (by omega) (by omega) (by omega) (by rw [show z7.toInt.toNat = v3.toInt.toNat + 1 by omega]; exact CQ.non g4_4 (show ¬ ((ig (B + 26) v3.toInt.toNat).toInt ≠ 0) by omega) (by omega)) (by omega)
        · refine tc_inc hx hb dX10_errors_20 hl (k := 1) rfl (by decide) (by decide) (fun z8 hz8 ls hl => ?_)
          first | replace hz8 := hz8 (by omega) | clear hz8
          have hl : lv_has ls 3 [(1, .int z8), (2, .int v3), (0, .ref (B + 24))] := hl
          refine tc_inc hx hb dX10_errors_23 hl (k := 1) rfl (by decide) (by decide) (fun z9 hz9 ls hl => ?_)
          first | replace hz9 := hz9 (by omega) | clear hz9
          have hl : lv_has ls 3 [(2, .int z9), (1, .int z8), (0, .ref (B + 24))] := hl
          refine lv_goto (tgt := 4) hx hb dX10_errors_26 (by decide) ?_
          exact ih4 ls H locs z9 z8 (lv_sub hl [0, 1, 2] rfl) hw hsz (by omega) (by omega) (by omega) (by omega) (by rw [show z9.toInt.toNat = v3.toInt.toNat + 1 by omega]; exact CQ.inc g4_4 (show (ig (B + 26) v3.toInt.toNat).toInt ≠ 0 by omega) (by omega)) (by omega)
  exact L4 ((288 - z2.toInt) + 1).toNat ls s.heap [] z2 z1 (lv_sub hl [0, 1, 2] rfl) hw hsz (by omega) (by omega) (by omega) (by omega) (by rw [show z2.toInt.toNat = 0 by omega]; exact CQ.zero (by omega)) (by omega)

set_option maxHeartbeats 4000000 in
set_option maxRecDepth 100000 in
theorem t_X11_countC {τ : Tp} (l : Launch) (B : Nat) (D : va_G) (cA : Nat → ClassId) (kd : sK) (ig : sI) (rg : sR) (lg : sG) (sz : Nat) (x : Int32) (σ : Sg) (π : Ps) (ν : Nat) (hS : SCh B σ π ν kd ig rg) (hV : FV B σ ν ig) (hν : ν < 1000000) (hLv : LV B σ ν ig lg) (hVv : VV B σ ν ig) (hW : WS σ π) (hHt : HtS σ) (hI : IC τ B kd ig rg) : MC l B D cA yX11_count cX11_count 2 (some .int) (rL 7 0 0) [.ref (B + 0), .int x] kd ig rg lg sz (PI 994 τ B none kd ig rg lg (fun r kd' ig' rg' lg' => ∃ z : Int32, r = some (.int z) ∧ ((SCh B σ π ν kd' ig' rg' ∧ FV B σ ν ig' ∧ LV B σ ν ig' lg' ∧ VV B σ ν ig') ∧ CnR τ σ π x.toInt z.toInt))) := by
  refine MC.of (own := RX11) (by decide +kernel) rfl (Nat.le_of_ble_eq_true rfl) ?_
  intro p e s m args below meth c ls C hr hlk hnm hw hsz hl
  have hx := C.1.1
  have hb := C.1.2.1
  have hown := C.1.2.2.2.1
  have hts := C.1.2.2.2.2
  have hl : lv_has ls 2 [(0, .ref (B + 0)), (1, .int x)] := hl
  have hN : Nx 994 B none kd ig rg lg kd ig rg lg := Nx.rf
  have hsh := hI.sh
  have hrs := hI.rs
  refine lv_iload_n hx hb dX11_count_0 rfl (lv_at hl 1 rfl) ?_
  by_cases s1_0 : x.toInt = 0
  · refine lv_tableIn hx hb dX11_count_1 (by omega) (by omega) (off := 39) (by rw [s1_0]; rfl) (tgt := 40) (by decide) ?_
    refine lv_aload_n hx hb dX11_count_40 rfl (lv_at hl 0 rfl) ?_
    refine r_get C hw (hsh 0 _ rfl) fl_X11_19 (oV_r rfl (hrs (0, 1, 9) (by decide))) dX11_count_41 ?_
    refine lv_iconst (v := 1) hx hb dX11_count_44 (by decide) (ti_c 1 (by decide) fun z1 hz1 => ?_)
    refine r_callV (As := [.int z1]) (rest := []) C hw (t_X6_cellsOfKindE l B D cA kd ig rg lg _ z1 σ π ν hS hI) sv_X11_212 (hsh 9 _ rfl) rfl hl.1 rfl (Nat.le_of_ble_eq_true rfl) ⟨Nat.le_of_ble_eq_true rfl, Nat.le_of_ble_eq_true rfl⟩ ⟨Nat.le_of_ble_eq_true rfl, Nat.le_of_ble_eq_true rfl⟩ dX11_count_45 (fun r6 kd2 ig3 rg4 lg5 H locs hw hH hp7 => ?_)
    obtain ⟨rfl, rfl, rfl, rfl, hzhp7, hrhp7⟩ := hp7
    obtain ⟨z8, rfl, hz8⟩ := hrhp7
    exact r_iret C hw hr hlk rfl (Nat.le_of_ble_eq_true rfl) (Nat.le_of_ble_eq_true rfl) dX11_count_48 ⟨hI, hN, ⟨_, rfl, ⟨⟨hS, hV, hLv, hVv⟩, CnR.c0 (by omega) (by have q9 := hz8; rw [hz1] at q9; exact q9)⟩⟩⟩
  by_cases s1_1 : x.toInt = 1
  · refine lv_tableIn hx hb dX11_count_1 (by omega) (by omega) (off := 48) (by rw [s1_1]; rfl) (tgt := 49) (by decide) ?_
    refine lv_aload_n hx hb dX11_count_49 rfl (lv_at hl 0 rfl) ?_
    refine r_get C hw (hsh 0 _ rfl) fl_X11_19 (oV_r rfl (hrs (0, 1, 9) (by decide))) dX11_count_50 ?_
    refine lv_iconst (v := 2) hx hb dX11_count_53 (by decide) (ti_c 2 (by decide) fun z9 hz9 => ?_)
    refine r_callV (As := [.int z9]) (rest := []) C hw (t_X6_cellsOfKindE l B D cA kd ig rg lg _ z9 σ π ν hS hI) sv_X11_212 (hsh 9 _ rfl) rfl hl.1 rfl (Nat.le_of_ble_eq_true rfl) ⟨Nat.le_of_ble_eq_true rfl, Nat.le_of_ble_eq_true rfl⟩ ⟨Nat.le_of_ble_eq_true rfl, Nat.le_of_ble_eq_true rfl⟩ dX11_count_54 (fun r14 kd10 ig11 rg12 lg13 H locs hw hH hp15 => ?_)
    obtain ⟨rfl, rfl, rfl, rfl, hzhp15, hrhp15⟩ := hp15
    obtain ⟨z16, rfl, hz16⟩ := hrhp15
    exact r_iret C hw hr hlk rfl (Nat.le_of_ble_eq_true rfl) (Nat.le_of_ble_eq_true rfl) dX11_count_57 ⟨hI, hN, ⟨_, rfl, ⟨⟨hS, hV, hLv, hVv⟩, CnR.c1 (by omega) (by have q9 := hz16; rw [hz9] at q9; exact q9)⟩⟩⟩
  by_cases s1_2 : x.toInt = 2
  · refine lv_tableIn hx hb dX11_count_1 (by omega) (by omega) (off := 57) (by rw [s1_2]; rfl) (tgt := 58) (by decide) ?_
    refine lv_aload_n hx hb dX11_count_58 rfl (lv_at hl 0 rfl) ?_
    refine r_get C hw (hsh 0 _ rfl) fl_X11_44 (oV_r rfl (hrs (0, 4, 29) (by decide))) dX11_count_59 ?_
    refine r_callV (As := []) (rest := []) C hw (t_X2_settleE l B D cA kd ig rg lg _  σ π ν hS hV hI) sv_X11_140 (hsh 29 _ rfl) rfl hl.1 rfl (Nat.le_of_ble_eq_true rfl) ⟨Nat.le_of_ble_eq_true rfl, Nat.le_of_ble_eq_true rfl⟩ ⟨Nat.le_of_ble_eq_true rfl, Nat.le_of_ble_eq_true rfl⟩ dX11_count_62 (fun r21 kd17 ig18 rg19 lg20 H locs hw hH hp22 => ?_)
    obtain ⟨hI, hchp22, hrhp22⟩ := hp22
    have hN := hN.tr hchp22
    have hsh := hI.sh
    have hrs := hI.rs
    have hV := FV.of hrhp22.2.1 hrhp22.2.2
    have hS := SCh.nx hS hchp22
    have hLv := LV.nx hLv hchp22
    have hVv := VV.nx hVv hchp22
    obtain ⟨rfl, hvhp22⟩ := hrhp22
    refine lv_aload_n hx hb dX11_count_65 rfl (lv_at hl 0 rfl) ?_
    refine r_get C hw (hsh 0 _ rfl) fl_X11_44 (oV_r rfl (hrs (0, 4, 29) (by decide))) dX11_count_66 ?_
    refine r_get C hw (hsh 29 _ rfl) fl_X11_215 (oV_i rfl) dX11_count_69 (ti_c (ig18 (B + 29) 3).toInt rfl fun z23 hz23 => ?_)
    have k24 : 0 ≤ (ig18 (B + 29) 3).toInt ∧ (ig18 (B + 29) 3).toInt ≤ 288 := hI.i 29 3 (by decide)
    exact r_iret C hw hr hlk rfl (Nat.le_of_ble_eq_true rfl) (Nat.le_of_ble_eq_true rfl) dX11_count_72 ⟨hI, hN, ⟨_, rfl, ⟨⟨hS, hV, hLv, hVv⟩, CnR.c2 (by omega) (by rw [hz23]; exact (hvhp22).2.2)⟩⟩⟩
  by_cases s1_3 : x.toInt = 3
  · refine lv_tableIn hx hb dX11_count_1 (by omega) (by omega) (off := 72) (by rw [s1_3]; rfl) (tgt := 73) (by decide) ?_
    refine lv_aload_n hx hb dX11_count_73 rfl (lv_at hl 0 rfl) ?_
    refine r_get C hw (hsh 0 _ rfl) fl_X11_37 (oV_r rfl (hrs (0, 3, 24) (by decide))) dX11_count_74 ?_
    refine r_callV (As := []) (rest := []) C hw (t_X10_settleE l B D cA kd ig rg lg _  σ π ν hS hLv hVv hW hHt hI) sv_X11_159 (hsh 24 _ rfl) rfl hl.1 rfl (Nat.le_of_ble_eq_true rfl) ⟨Nat.le_of_ble_eq_true rfl, Nat.le_of_ble_eq_true rfl⟩ ⟨Nat.le_of_ble_eq_true rfl, Nat.le_of_ble_eq_true rfl⟩ dX11_count_77 (fun r29 kd25 ig26 rg27 lg28 H locs hw hH hp30 => ?_)
    obtain ⟨hI, hchp30, hrhp30⟩ := hp30
    have hN := hN.tr hchp30
    have hsh := hI.sh
    have hrs := hI.rs
    have hLv := hrhp30.2.1.2.2
    have hVk := hrhp30.2.1.1
    have hVv := VV.of hrhp30.2.1.1 hrhp30.2.1.2.1
    have hS := SCh.nx hS hchp30
    have hV := FV.nx hV hchp30
    obtain ⟨rfl, hvhp30⟩ := hrhp30
    refine lv_aload_n hx hb dX11_count_80 rfl (lv_at hl 0 rfl) ?_
    refine r_get C hw (hsh 0 _ rfl) fl_X11_37 (oV_r rfl (hrs (0, 3, 24) (by decide))) dX11_count_81 ?_
    refine r_callV (As := []) (rest := []) C hw (t_X10_errorsE l B D cA kd25 ig26 rg27 lg28 _   hI) sv_X11_218 (hsh 24 _ rfl) rfl hl.1 rfl (Nat.le_of_ble_eq_true rfl) ⟨Nat.le_of_ble_eq_true rfl, Nat.le_of_ble_eq_true rfl⟩ ⟨Nat.le_of_ble_eq_true rfl, Nat.le_of_ble_eq_true rfl⟩ dX11_count_84 (fun r35 kd31 ig32 rg33 lg34 H locs hw hH hp36 => ?_)
    obtain ⟨rfl, rfl, rfl, rfl, hzhp36, hrhp36⟩ := hp36
    obtain ⟨z37, rfl, hz37⟩ := hrhp36
    exact r_iret C hw hr hlk rfl (Nat.le_of_ble_eq_true rfl) (Nat.le_of_ble_eq_true rfl) dX11_count_87 ⟨hI, hN, ⟨_, rfl, ⟨⟨hS, hV, hLv, hVv⟩, CnR.c3 (by omega) ⟨_, _, hVk, hz37⟩⟩⟩⟩
  by_cases s1_4 : x.toInt = 4
  · refine lv_tableIn hx hb dX11_count_1 (by omega) (by omega) (off := 87) (by rw [s1_4]; rfl) (tgt := 88) (by decide) ?_
    refine lv_aload_n hx hb dX11_count_88 rfl (lv_at hl 0 rfl) ?_
    refine r_get C hw (hsh 0 _ rfl) fl_X11_12 (oV_r rfl (hrs (0, 0, 1) (by decide))) dX11_count_89 ?_
    refine r_get C hw (hsh 1 _ rfl) fl_X11_84 (oV_i rfl) dX11_count_92 (ti_c (ig (B + 1) 1).toInt rfl fun z38 hz38 => ?_)
    have k39 : 0 ≤ (ig (B + 1) 1).toInt ∧ (ig (B + 1) 1).toInt ≤ 120 := hI.i 1 1 (by decide)
    exact r_iret C hw hr hlk rfl (Nat.le_of_ble_eq_true rfl) (Nat.le_of_ble_eq_true rfl) dX11_count_95 ⟨hI, hN, ⟨_, rfl, ⟨⟨hS, hV, hLv, hVv⟩, CnR.c4 (by omega) (by rw [hz38]; exact hI.2.1)⟩⟩⟩
  by_cases s1_5 : x.toInt = 5
  · refine lv_tableIn hx hb dX11_count_1 (by omega) (by omega) (off := 95) (by rw [s1_5]; rfl) (tgt := 96) (by decide) ?_
    refine lv_aload_n hx hb dX11_count_96 rfl (lv_at hl 0 rfl) ?_
    refine r_get C hw (hsh 0 _ rfl) fl_X11_19 (oV_r rfl (hrs (0, 1, 9) (by decide))) dX11_count_97 ?_
    refine r_get C hw (hsh 9 _ rfl) fl_X11_171 (oV_i rfl) dX11_count_100 (ti_c (ig (B + 9) 5).toInt rfl fun z40 hz40 => ?_)
    have k41 : 0 ≤ (ig (B + 9) 5).toInt ∧ (ig (B + 9) 5).toInt ≤ 20 := hI.i 9 5 (by decide)
    exact r_iret C hw hr hlk rfl (Nat.le_of_ble_eq_true rfl) (Nat.le_of_ble_eq_true rfl) dX11_count_103 ⟨hI, hN, ⟨_, rfl, ⟨⟨hS, hV, hLv, hVv⟩, CnR.c5 (by omega) (by have q9 := hS.len; omega)⟩⟩⟩
  refine lv_tableOut hx hb dX11_count_1 (by omega) (tgt := 104) (by decide) ?_
  refine lv_iconst (v := (-1)) hx hb dX11_count_104 (by decide) (ti_c (-1) (by decide) fun z42 hz42 => ?_)
  exact r_iret C hw hr hlk rfl (Nat.le_of_ble_eq_true rfl) (Nat.le_of_ble_eq_true rfl) dX11_count_105 ⟨hI, hN, ⟨_, rfl, ⟨⟨hS, hV, hLv, hVv⟩, CnR.cd (by omega) (by omega)⟩⟩⟩
