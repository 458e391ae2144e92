set_option maxHeartbeats 4000000 in
set_option maxRecDepth 100000 in
theorem t_X4_referenceE {τ : Tp} (l : Launch) (B : Nat) (D : va_G) (cA : Nat → ClassId) (kd : sK) (ig : sI) (rg : sR) (lg : sG) (sz : Nat) (x : Int32) (y : Int32) (u : Int32) (w : Int32) (hy : y.toInt = 0 ∨ y.toInt = 1) (hu : u.toInt = 0 ∨ u.toInt = 1) (hx0 : 0 ≤ x.toInt ∧ x.toInt < 288) (hw0 : 0 ≤ w.toInt ∧ w.toInt < 288) (hI : IC τ B kd ig rg) : MC l B D cA yX4_reference cX4_reference 7 (some .int) (rL 0 0 0) [.int x, .int y, .int u, .int w] kd ig rg lg sz (Pu kd ig rg lg sz (fun r => ∃ z : Int32, r = some (.int z) ∧ (0 ≤ z.toInt ∧ colv z.toInt w.toInt = x.toInt % 12 ∧ rowv z.toInt w.toInt = x.toInt / 12))) := by
  refine MC.of (own := RX4) (by decide +kernel) rfl (Nat.le_of_ble_eq_true rfl) ?_
  intro p e s m args below meth c ls C hr hlk hnm hw hsz hl
  have hx := C.1.1
  have hb := C.1.2.1
  have hown := C.1.2.2.2.1
  have hts := C.1.2.2.2.2
  have hl : lv_has ls 7 [(0, .int x), (1, .int y), (2, .int u), (3, .int w)] := hl
  have hsh := hI.sh
  have hrs := hI.rs
  refine lv_iload_n hx hb dX4_reference_0 rfl (lv_at hl 0 rfl) ?_
  refine lv_bipush (v := 12) hx hb dX4_reference_1 (by decide) (ti_c 12 (by decide) fun z1 hz1 => ?_)
  refine lv_irem hx hb dX4_reference_3 (ne0_of (by omega)) (tc_rem 12 hz1 (by decide) fun z2 bz2 hz2 => ?_)
  first | replace hz2 := hz2 (by omega) | clear hz2
  refine lv_istore (lv' := [(4, .int z2), (0, .int x), (1, .int y), (2, .int u), (3, .int w)]) hx hb dX4_reference_4 hl (by decide) rfl (fun ls hl => ?_)
  refine lv_iload_n hx hb dX4_reference_6 rfl (lv_at hl 1 rfl) ?_
  refine lv_bipush (v := 12) hx hb dX4_reference_7 (by decide) (ti_c 12 (by decide) fun z3 hz3 => ?_)
  refine lv_idiv hx hb dX4_reference_9 (ne0_of (by omega)) (tc_div 12 hz3 (by decide) fun z4 bz4 hz4 => ?_)
  first | replace hz4 := hz4 (by omega) | clear hz4
  refine lv_istore (lv' := [(5, .int z4), (4, .int z2), (0, .int x), (1, .int y), (2, .int u), (3, .int w)]) hx hb dX4_reference_10 hl (by decide) rfl (fun ls hl => ?_)
  refine lv_iconst (v := 0) hx hb dX4_reference_12 (by decide) (ti_c 0 (by decide) fun z5 hz5 => ?_)
  refine lv_istore (lv' := [(6, .int z5), (5, .int z4), (4, .int z2), (0, .int x), (1, .int y), (2, .int u), (3, .int w)]) hx hb dX4_reference_13 hl (by decide) rfl (fun ls hl => ?_)
  refine lv_iload hx hb dX4_reference_15 (lv_at hl 0 rfl) ?_
  refine lv_iload_n hx hb dX4_reference_17 rfl (lv_at hl 4 rfl) ?_
  have J48 : ∀ (ls : Array Slot) (H : Heap) (locs : List Loc) (u6 : Int32), lv_has ls 7 [(5, .int z4), (2, .int u), (3, .int w)] → WD B D cA s.heap kd ig rg lg H locs → H.size = sz → ((y.toInt = 1 ∧ u6.toInt = 8192 + 128 * (x.toInt % 12)) ∨ (y.toInt = 0 ∧ u6.toInt = 128 * (x.toInt % 12 - w.toInt % 12 + 32))) → W p l e (rL 0 0 0) s m args below meth c H locs 0 0 (MQ below (QcW B D cA (Pu kd ig rg lg sz (fun r => ∃ z : Int32, r = some (.int z) ∧ (0 ≤ z.toInt ∧ colv z.toInt w.toInt = x.toInt % 12 ∧ rowv z.toInt w.toInt = x.toInt / 12)))) args s 0 0 (fun q => B ≤ q)) (F0 m 48 ls [.int u6, .int z5]) := by
    intro ls H locs u6 hl hw hsz g48_0
    refine lv_iadd hx hb dX4_reference_48 (tc_add fun z7 hz7 => ?_)
    first | replace hz7 := hz7 (by omega) | clear hz7
    refine lv_istore (lv' := [(6, .int z7), (5, .int z4), (2, .int u), (3, .int w)]) hx hb dX4_reference_49 hl (by decide) rfl (fun ls hl => ?_)
    refine lv_iload hx hb dX4_reference_51 (lv_at hl 0 rfl) ?_
    refine lv_iload_n hx hb dX4_reference_53 rfl (lv_at hl 2 rfl) ?_
    have J75 : ∀ (ls : Array Slot) (H : Heap) (locs : List Loc) (u8 : Int32), lv_has ls 7 [] → WD B D cA s.heap kd ig rg lg H locs → H.size = sz → ((u.toInt = 1 ∧ u8.toInt = 64 + x.toInt / 12) ∨ (u.toInt = 0 ∧ u8.toInt = x.toInt / 12 - w.toInt / 12 + 32)) → W p l e (rL 0 0 0) s m args below meth c H locs 0 0 (MQ below (QcW B D cA (Pu kd ig rg lg sz (fun r => ∃ z : Int32, r = some (.int z) ∧ (0 ≤ z.toInt ∧ colv z.toInt w.toInt = x.toInt % 12 ∧ rowv z.toInt w.toInt = x.toInt / 12)))) args s 0 0 (fun q => B ≤ q)) (F0 m 75 ls [.int u8, .int z7]) := by
      intro ls H locs u8 hl hw hsz g75_0
      refine lv_iadd hx hb dX4_reference_75 (tc_add fun z9 hz9 => ?_)
      first | replace hz9 := hz9 (by omega) | clear hz9
      refine lv_istore (lv' := [(6, .int z9)]) hx hb dX4_reference_76 hl (by decide) rfl (fun ls hl => ?_)
      refine lv_iload hx hb dX4_reference_78 (lv_at hl 0 rfl) ?_
      exact r_iret C hw hr hlk rfl (Nat.le_of_ble_eq_true rfl) (Nat.le_of_ble_eq_true rfl) dX4_reference_80 ⟨rfl, rfl, rfl, rfl, hsz, ⟨_, rfl, pk_ok (by omega) (by omega) g48_0 g75_0 (by omega)⟩⟩
    refine z_eq (tgt := 65) hx hb dX4_reference_54 (by decide) (fun c54 => ?_) (fun c54 => ?_)
    · refine lv_iload hx hb dX4_reference_65 (lv_at hl 1 rfl) ?_
      refine lv_iload_n hx hb dX4_reference_67 rfl (lv_at hl 3 rfl) ?_
      refine lv_bipush (v := 12) hx hb dX4_reference_68 (by decide) (ti_c 12 (by decide) fun z10 hz10 => ?_)
      refine lv_idiv hx hb dX4_reference_70 (ne0_of (by omega)) (tc_div 12 hz10 (by decide) fun z11 bz11 hz11 => ?_)
      first | replace hz11 := hz11 (by omega) | clear hz11
      refine lv_isub hx hb dX4_reference_71 (tc_sub fun z12 hz12 => ?_)
      first | replace hz12 := hz12 (by omega) | clear hz12
      refine lv_bipush (v := 32) hx hb dX4_reference_72 (by decide) (ti_c 32 (by decide) fun z13 hz13 => ?_)
      refine lv_iadd hx hb dX4_reference_74 (tc_add fun z14 hz14 => ?_)
      first | replace hz14 := hz14 (by omega) | clear hz14
      exact J75 ls H locs z14 (lv_sub hl [] rfl) hw hsz (by omega)
    · refine lv_bipush (v := 64) hx hb dX4_reference_57 (by decide) (ti_c 64 (by decide) fun z15 hz15 => ?_)
      refine lv_iload hx hb dX4_reference_59 (lv_at hl 1 rfl) ?_
      refine lv_iadd hx hb dX4_reference_61 (tc_add fun z16 hz16 => ?_)
      first | replace hz16 := hz16 (by omega) | clear hz16
      refine lv_goto (tgt := 75) hx hb dX4_reference_62 (by decide) ?_
      exact J75 ls H locs z16 (lv_sub hl [] rfl) hw hsz (by omega)
  refine z_eq (tgt := 34) hx hb dX4_reference_18 (by decide) (fun c18 => ?_) (fun c18 => ?_)
  · refine lv_iload hx hb dX4_reference_34 (lv_at hl 2 rfl) ?_
    refine lv_iload_n hx hb dX4_reference_36 rfl (lv_at hl 6 rfl) ?_
    refine lv_bipush (v := 12) hx hb dX4_reference_37 (by decide) (ti_c 12 (by decide) fun z17 hz17 => ?_)
    refine lv_irem hx hb dX4_reference_39 (ne0_of (by omega)) (tc_rem 12 hz17 (by decide) fun z18 bz18 hz18 => ?_)
    first | replace hz18 := hz18 (by omega) | clear hz18
    refine lv_isub hx hb dX4_reference_40 (tc_sub fun z19 hz19 => ?_)
    first | replace hz19 := hz19 (by omega) | clear hz19
    refine lv_bipush (v := 32) hx hb dX4_reference_41 (by decide) (ti_c 32 (by decide) fun z20 hz20 => ?_)
    refine lv_iadd hx hb dX4_reference_43 (tc_add fun z21 hz21 => ?_)
    first | replace hz21 := hz21 (by omega) | clear hz21
    refine lv_sipush (v := 128) hx hb dX4_reference_44 (by decide) (ti_c 128 (by decide) fun z22 hz22 => ?_)
    refine lv_imul hx hb dX4_reference_47 (tc_mulR 128 hz22 fun z23 hz23 => ?_)
    first | replace hz23 := hz23 (by omega) | clear hz23
    exact J48 ls s.heap [] z23 (lv_sub hl [1, 5, 6] rfl) hw hsz (by omega)
  · refine lv_sipush (v := 8192) hx hb dX4_reference_21 (by decide) (ti_c 8192 (by decide) fun z24 hz24 => ?_)
    refine lv_iload hx hb dX4_reference_24 (lv_at hl 2 rfl) ?_
    refine lv_sipush (v := 128) hx hb dX4_reference_26 (by decide) (ti_c 128 (by decide) fun z25 hz25 => ?_)
    refine lv_imul hx hb dX4_reference_29 (tc_mulR 128 hz25 fun z26 hz26 => ?_)
    first | replace hz26 := hz26 (by omega) | clear hz26
    refine lv_iadd hx hb dX4_reference_30 (tc_add fun z27 hz27 => ?_)
    first | replace hz27 := hz27 (by omega) | clear hz27
    refine lv_goto (tgt := 48) hx hb dX4_reference_31 (by decide) ?_
    exact J48 ls s.heap [] z27 (lv_sub hl [1, 5, 6] rfl) hw hsz (by omega)

set_option maxHeartbeats 4000000 in
set_option maxRecDepth 100000 in
theorem t_X4_columnOfE {τ : Tp} (l : Launch) (B : Nat) (D : va_G) (cA : Nat → ClassId) (kd : sK) (ig : sI) (rg : sR) (lg : sG) (sz : Nat) (x : Int32) (y : Int32) (hx0 : 0 ≤ x.toInt) (hy0 : 0 ≤ y.toInt ∧ y.toInt < 288) (hI : IC τ B kd ig rg) : MC l B D cA yX4_columnOf cX4_columnOf 3 (some .int) (rL 0 0 0) [.int x, .int y] kd ig rg lg sz (Pu kd ig rg lg sz (fun r => ∃ z : Int32, r = some (.int z) ∧ z.toInt = colv x.toInt y.toInt)) := by
  refine MC.of (own := RX4) (by decide +kernel) rfl (Nat.le_of_ble_eq_true rfl) ?_
  intro p e s m args below meth c ls C hr hlk hnm hw hsz hl
  have hx := C.1.1
  have hb := C.1.2.1
  have hown := C.1.2.2.2.1
  have hts := C.1.2.2.2.2
  have hl : lv_has ls 3 [(0, .int x), (1, .int y)] := hl
  have hsh := hI.sh
  have hrs := hI.rs
  refine lv_iload_n hx hb dX4_columnOf_0 rfl (lv_at hl 0 rfl) ?_
  refine lv_sipush (v := 128) hx hb dX4_columnOf_1 (by decide) (ti_c 128 (by decide) fun z1 hz1 => ?_)
  refine lv_idiv hx hb dX4_columnOf_4 (ne0_of (by omega)) (tc_div 128 hz1 (by decide) fun z2 bz2 hz2 => ?_)
  first | replace hz2 := hz2 (by omega) | clear hz2
  refine lv_bipush (v := 64) hx hb dX4_columnOf_5 (by decide) (ti_c 64 (by decide) fun z3 hz3 => ?_)
  refine lv_irem hx hb dX4_columnOf_7 (ne0_of (by omega)) (tc_rem 64 hz3 (by decide) fun z4 bz4 hz4 => ?_)
  first | replace hz4 := hz4 (by omega) | clear hz4
  refine lv_istore_n (lv' := [(2, .int z4), (0, .int x), (1, .int y)]) hx hb dX4_columnOf_8 rfl hl (by decide) rfl (fun ls hl => ?_)
  refine lv_iload_n hx hb dX4_columnOf_9 rfl (lv_at hl 1 rfl) ?_
  refine lv_sipush (v := 8192) hx hb dX4_columnOf_10 (by decide) (ti_c 8192 (by decide) fun z5 hz5 => ?_)
  have J29 : ∀ (ls : Array Slot) (H : Heap) (locs : List Loc) (u6 : Int32), lv_has ls 3 [] → WD B D cA s.heap kd ig rg lg H locs → H.size = sz → ((8192 ≤ x.toInt ∧ u6.toInt = x.toInt / 128 % 64) ∨ (x.toInt < 8192 ∧ u6.toInt = x.toInt / 128 % 64 - 32 + y.toInt % 12)) → W p l e (rL 0 0 0) s m args below meth c H locs 0 0 (MQ below (QcW B D cA (Pu kd ig rg lg sz (fun r => ∃ z : Int32, r = some (.int z) ∧ z.toInt = colv x.toInt y.toInt))) args s 0 0 (fun q => B ≤ q)) (F0 m 29 ls [.int u6]) := by
    intro ls H locs u6 hl hw hsz g29_0
    exact r_iret C hw hr hlk rfl (Nat.le_of_ble_eq_true rfl) (Nat.le_of_ble_eq_true rfl) dX4_columnOf_29 ⟨rfl, rfl, rfl, rfl, hsz, ⟨_, rfl, by unfold colv; split <;> omega⟩⟩
  refine b_lt (tgt := 20) hx hb dX4_columnOf_13 (by decide) (fun c13 => ?_) (fun c13 => ?_)
  · refine lv_iload_n hx hb dX4_columnOf_20 rfl (lv_at hl 0 rfl) ?_
    refine lv_bipush (v := 32) hx hb dX4_columnOf_21 (by decide) (ti_c 32 (by decide) fun z7 hz7 => ?_)
    refine lv_isub hx hb dX4_columnOf_23 (tc_sub fun z8 hz8 => ?_)
    first | replace hz8 := hz8 (by omega) | clear hz8
    refine lv_iload_n hx hb dX4_columnOf_24 rfl (lv_at hl 2 rfl) ?_
    refine lv_bipush (v := 12) hx hb dX4_columnOf_25 (by decide) (ti_c 12 (by decide) fun z9 hz9 => ?_)
    refine lv_irem hx hb dX4_columnOf_27 (ne0_of (by omega)) (tc_rem 12 hz9 (by decide) fun z10 bz10 hz10 => ?_)
    first | replace hz10 := hz10 (by omega) | clear hz10
    refine lv_iadd hx hb dX4_columnOf_28 (tc_add fun z11 hz11 => ?_)
    first | replace hz11 := hz11 (by omega) | clear hz11
    exact J29 ls s.heap [] z11 (lv_sub hl [] rfl) hw hsz (by omega)
  · refine lv_iload_n hx hb dX4_columnOf_16 rfl (lv_at hl 0 rfl) ?_
    refine lv_goto (tgt := 29) hx hb dX4_columnOf_17 (by decide) ?_
    exact J29 ls s.heap [] z4 (lv_sub hl [] rfl) hw hsz (by omega)

set_option maxHeartbeats 4000000 in
set_option maxRecDepth 100000 in
theorem t_X4_rowOfE {τ : Tp} (l : Launch) (B : Nat) (D : va_G) (cA : Nat → ClassId) (kd : sK) (ig : sI) (rg : sR) (lg : sG) (sz : Nat) (x : Int32) (y : Int32) (hx0 : 0 ≤ x.toInt) (hy0 : 0 ≤ y.toInt ∧ y.toInt < 288) (hI : IC τ B kd ig rg) : MC l B D cA yX4_rowOf cX4_rowOf 3 (some .int) (rL 0 0 0) [.int x, .int y] kd ig rg lg sz (Pu kd ig rg lg sz (fun r => ∃ z : Int32, r = some (.int z) ∧ z.toInt = rowv x.toInt y.toInt)) := by
  refine MC.of (own := RX4) (by decide +kernel) rfl (Nat.le_of_ble_eq_true rfl) ?_
  intro p e s m args below meth c ls C hr hlk hnm hw hsz hl
  have hx := C.1.1
  have hb := C.1.2.1
  have hown := C.1.2.2.2.1
  have hts := C.1.2.2.2.2
  have hl : lv_has ls 3 [(0, .int x), (1, .int y)] := hl
  have hsh := hI.sh
  have hrs := hI.rs
  refine lv_iload_n hx hb dX4_rowOf_0 rfl (lv_at hl 0 rfl) ?_
  refine lv_bipush (v := 64) hx hb dX4_rowOf_1 (by decide) (ti_c 64 (by decide) fun z1 hz1 => ?_)
  refine lv_irem hx hb dX4_rowOf_3 (ne0_of (by omega)) (tc_rem 64 hz1 (by decide) fun z2 bz2 hz2 => ?_)
  first | replace hz2 := hz2 (by omega) | clear hz2
  refine lv_istore_n (lv' := [(2, .int z2), (0, .int x), (1, .int y)]) hx hb dX4_rowOf_4 rfl hl (by decide) rfl (fun ls hl => ?_)
  refine lv_iload_n hx hb dX4_rowOf_5 rfl (lv_at hl 1 rfl) ?_
  refine lv_bipush (v := 64) hx hb dX4_rowOf_6 (by decide) (ti_c 64 (by decide) fun z3 hz3 => ?_)
  refine lv_idiv hx hb dX4_rowOf_8 (ne0_of (by omega)) (tc_div 64 hz3 (by decide) fun z4 bz4 hz4 => ?_)
  first | replace hz4 := hz4 (by omega) | clear hz4
  refine lv_iconst (v := 2) hx hb dX4_rowOf_9 (by decide) (ti_c 2 (by decide) fun z5 hz5 => ?_)
  refine lv_irem hx hb dX4_rowOf_10 (ne0_of (by omega)) (tc_rem 2 hz5 (by decide) fun z6 bz6 hz6 => ?_)
  first | replace hz6 := hz6 (by omega) | clear hz6
  refine lv_iconst (v := 1) hx hb dX4_rowOf_11 (by decide) (ti_c 1 (by decide) fun z7 hz7 => ?_)
  have J28 : ∀ (ls : Array Slot) (H : Heap) (locs : List Loc) (u8 : Int32), lv_has ls 3 [] → WD B D cA s.heap kd ig rg lg H locs → H.size = sz → ((x.toInt / 64 % 2 = 1 ∧ u8.toInt = x.toInt % 64) ∨ (¬ x.toInt / 64 % 2 = 1 ∧ u8.toInt = x.toInt % 64 - 32 + y.toInt / 12)) → W p l e (rL 0 0 0) s m args below meth c H locs 0 0 (MQ below (QcW B D cA (Pu kd ig rg lg sz (fun r => ∃ z : Int32, r = some (.int z) ∧ z.toInt = rowv x.toInt y.toInt))) args s 0 0 (fun q => B ≤ q)) (F0 m 28 ls [.int u8]) := by
    intro ls H locs u8 hl hw hsz g28_0
    exact r_iret C hw hr hlk rfl (Nat.le_of_ble_eq_true rfl) (Nat.le_of_ble_eq_true rfl) dX4_rowOf_28 ⟨rfl, rfl, rfl, rfl, hsz, ⟨_, rfl, by unfold rowv; split <;> omega⟩⟩
  refine b_ne (tgt := 19) hx hb dX4_rowOf_12 (by decide) (fun c12 => ?_) (fun c12 => ?_)
  · refine lv_iload_n hx hb dX4_rowOf_19 rfl (lv_at hl 0 rfl) ?_
    refine lv_bipush (v := 32) hx hb dX4_rowOf_20 (by decide) (ti_c 32 (by decide) fun z9 hz9 => ?_)
    refine lv_isub hx hb dX4_rowOf_22 (tc_sub fun z10 hz10 => ?_)
    first | replace hz10 := hz10 (by omega) | clear hz10
    refine lv_iload_n hx hb dX4_rowOf_23 rfl (lv_at hl 2 rfl) ?_
    refine lv_bipush (v := 12) hx hb dX4_rowOf_24 (by decide) (ti_c 12 (by decide) fun z11 hz11 => ?_)
    refine lv_idiv hx hb dX4_rowOf_26 (ne0_of (by omega)) (tc_div 12 hz11 (by decide) fun z12 bz12 hz12 => ?_)
    first | replace hz12 := hz12 (by omega) | clear hz12
    refine lv_iadd hx hb dX4_rowOf_27 (tc_add fun z13 hz13 => ?_)
    first | replace hz13 := hz13 (by omega) | clear hz13
    exact J28 ls s.heap [] z13 (lv_sub hl [] rfl) hw hsz (by omega)
  · refine lv_iload_n hx hb dX4_rowOf_15 rfl (lv_at hl 0 rfl) ?_
    refine lv_goto (tgt := 28) hx hb dX4_rowOf_16 (by decide) ?_
    exact J28 ls s.heap [] z2 (lv_sub hl [] rfl) hw hsz (by omega)
