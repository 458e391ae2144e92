theorem l_shr0 (k : Int64) : (0 : Int64) >>> k = 0 := by
  apply Int64.toBitVec_inj.mp
  simp
theorem hascmp {a b c d e : Int64} {z : Int32} {k : Int64} (h1 : a = 0) (h2 : b = a >>> k) (h3 : c = b &&& d) (h4 : e = 1) (h5 : z = lg_cmp c e) : ¬ z.toInt = 0 := by
  have q : c = 0 := by rw [h3, h2, h1, l_shr0]; simp
  rw [h5, q, h4]
  decide

set_option maxHeartbeats 4000000 in
set_option maxRecDepth 100000 in
theorem t_X12_has (l : Launch) (B : Nat) (D : va_G) (cA : Nat → ClassId) (kd : sK) (ig : sI) (rg : sR) (lg : sG) (sz : Nat) (x y : Int32) (hsh : Sh B kd) (hx0 : (0 ≤ x.toInt ∧ x.toInt < 288)) (hy0 : (0 ≤ y.toInt ∧ y.toInt < 288)) (hl0 : ∀ j, lg (B + 64) j = 0) : MC l B D cA yX12_has cX12_has 3 (some .boolean) (rL 0 0 0) [.ref (B + 64), .int x, .int y] kd ig rg lg sz (Pu kd ig rg lg sz (fun r => ∃ z : Int32, r = some (.int z) ∧ z.toInt = 0)) := by
  refine MC.of (own := RX12) (by decide +kernel) rfl (Nat.le_of_ble_eq_true rfl) ?_
  intro p e s m args below meth c ls C hr hlk hnm hw hsz hl
  have hx := C.1.1
  have hb := C.1.2.1
  have hown := C.1.2.2.2.1
  have hts := C.1.2.2.2.2
  have hl : lv_has ls 3 [(0, .ref (B + 64)), (1, .int x), (2, .int y)] := hl
  refine lv_aload_n hx hb dX12_has_0 rfl (lv_at hl 0 rfl) ?_
  refine lv_iconst (v := 5) hx hb dX12_has_1 (by decide) (ti_c 5 (by decide) fun z1 hz1 => ?_)
  refine lv_iload_n hx hb dX12_has_2 rfl (lv_at hl 1 rfl) ?_
  refine lv_imul hx hb dX12_has_3 (ti_mulL 5 hz1 (by omega) fun z2 hz2 => ?_)
  refine lv_iload_n hx hb dX12_has_4 rfl (lv_at hl 2 rfl) ?_
  refine lv_bipush (v := 64) hx hb dX12_has_5 (by decide) (ti_c 64 (by decide) fun z3 hz3 => ?_)
  refine lv_idiv hx hb dX12_has_7 (ne0_of (by omega)) (ti_div 64 hz3 (by omega) (by decide) fun z4 hz4 => ?_)
  refine lv_iadd hx hb dX12_has_8 (ti_add (by omega) fun z5 hz5 => ?_)
  refine r_lald C hw (hsh 64 _ rfl) (by omega) (by omega) dX12_has_9 (lv_topl fun x6 hx6 => ?_)
  have klast := hl0 (z5.toInt.toNat)
  refine lv_iload_n hx hb dX12_has_10 rfl (lv_at hl 2 rfl) ?_
  refine lv_bipush (v := 64) hx hb dX12_has_11 (by decide) (ti_c 64 (by decide) fun z7 hz7 => ?_)
  refine lv_irem hx hb dX12_has_13 (ne0_of (by omega)) (ti_rem 64 hz7 (by omega) (by decide) fun z8 hz8 => ?_)
  refine lv_lshr hx hb dX12_has_14 rfl (lv_topl fun x9 hx9 => ?_)
  refine lv_lconst (v := 1) hx hb dX12_has_15 (by decide) (lv_topl fun x10 hx10 => ?_)
  refine lv_land hx hb dX12_has_16 (lv_topl fun x11 hx11 => ?_)
  refine lv_lconst (v := 1) hx hb dX12_has_17 (by decide) (lv_topl fun x12 hx12 => ?_)
  refine W.lcmp hx hb dX12_has_18 (lv_topi fun z13 hz13 => ?_)
  have hcmp := hascmp (hx6.trans klast) hx9 hx11 hx12 hz13
  refine z_ne (tgt := 26) hx hb dX12_has_19 (by decide) (fun c19 => ?_) (fun c19 => ?_)
  · refine lv_iconst (v := 0) hx hb dX12_has_26 (by decide) (ti_c 0 (by decide) fun z14 hz14 => ?_)
    exact r_iret C hw hr hlk (nar_b (by omega)) (Nat.le_of_ble_eq_true rfl) (Nat.le_of_ble_eq_true rfl) dX12_has_27 ⟨rfl, rfl, rfl, rfl, hsz, _, rfl, by omega⟩
  · exact absurd c19 hcmp

set_option maxHeartbeats 4000000 in
set_option maxRecDepth 100000 in
theorem t_X12_readMany (l : Launch) (B : Nat) (D : va_G) (cA : Nat → ClassId) (kd : sK) (ig : sI) (rg : sR) (lg : sG) (sz : Nat) (x : Int32) (hx0 : (0 ≤ x.toInt ∧ x.toInt < 288)) (hsh : Sh B kd) (hrm : Rm B rg) (hl0 : ∀ j, lg (B + 64) j = 0) : MC l B D cA yX12_readMany cX12_readMany 4 (some .int) (rL 1 0 0) [.ref (B + 49), .int x] kd ig rg lg sz (Pu kd ig rg lg sz (fun r => ∃ z : Int32, r = some (.int z) ∧ z.toInt = 0)) := by
  refine MC.of (own := RX12) (by decide +kernel) rfl (Nat.le_of_ble_eq_true rfl) ?_
  intro p e s m args below meth c ls C hr hlk hnm hw hsz hl
  have hx := C.1.1
  have hb := C.1.2.1
  have hown := C.1.2.2.2.1
  have hts := C.1.2.2.2.2
  have hl : lv_has ls 4 [(0, .ref (B + 49)), (1, .int x)] := hl
  refine lv_iconst (v := 0) hx hb dX12_readMany_0 (by decide) (ti_c 0 (by decide) fun z1 hz1 => ?_)
  refine lv_istore_n (lv' := [(2, .int z1), (0, .ref (B + 49)), (1, .int x)]) hx hb dX12_readMany_1 rfl hl (by decide) rfl (fun ls hl => ?_)
  refine lv_iconst (v := 0) hx hb dX12_readMany_2 (by decide) (ti_c 0 (by decide) fun z2 hz2 => ?_)
  refine lv_istore_n (lv' := [(3, .int z2), (2, .int z1), (0, .ref (B + 49)), (1, .int x)]) hx hb dX12_readMany_3 rfl hl (by decide) rfl (fun ls hl => ?_)
  have L4 : ∀ (n : Nat) (ls : Array Slot) (H : Heap) (locs : List Loc) (v3 : Int32) (v4 : Int32), lv_has ls 4 [(3, .int v3), (2, .int v4), (0, .ref (B + 49)), (1, .int x)] → WD B D cA s.heap kd ig rg lg H locs → H.size = sz → (0 ≤ v3.toInt) → (v3.toInt ≤ 288) → (v4.toInt = 0) → 288 - v3.toInt < (n : Int) → W p l e (rL 1 0 0) s m args below meth c H locs 0 0 (MQ below (QcW B D cA (Pu kd ig rg lg sz (fun r => ∃ z : Int32, r = some (.int z) ∧ z.toInt = 0))) args s 0 0 (fun q => B ≤ q)) (F0 m 4 ls []) := by
    intro n4
    induction n4 with
    | zero => intro ls H locs v3 v4 hl hw hsz g4_0 g4_1 g4_2 hmu; exact absurd hmu (by omega)
    | succ n4 ih4 =>
      intro ls H locs v3 v4 hl hw hsz g4_0 g4_1 g4_2 hmu
      refine lv_iload_n hx hb dX12_readMany_4 rfl (lv_at hl 0 rfl) ?_
      refine lv_sipush (v := 288) hx hb dX12_readMany_5 (by decide) (ti_c 288 (by decide) fun z5 hz5 => ?_)
      refine b_ge (tgt := 37) hx hb dX12_readMany_8 (by decide) (fun c8 => ?_) (fun c8 => ?_)
      · refine lv_iload_n hx hb dX12_readMany_37 rfl (lv_at hl 1 rfl) ?_
        exact r_iret C hw hr hlk rfl (Nat.le_of_ble_eq_true rfl) (Nat.le_of_ble_eq_true rfl) dX12_readMany_38 ⟨rfl, rfl, rfl, rfl, hsz, _, rfl, by omega⟩
      · refine lv_iload_n hx hb dX12_readMany_11 rfl (lv_at hl 1 rfl) ?_
        refine lv_aload_n hx hb dX12_readMany_12 rfl (lv_at hl 2 rfl) ?_
        refine r_get C hw (hsh 49 _ rfl) fl_X12_96 (oV_r rfl (hrm (49, 21, 64) (by decide))) dX12_readMany_13 ?_
        refine lv_iload_n hx hb dX12_readMany_16 rfl (lv_at hl 3 rfl) ?_
        refine lv_iload_n hx hb dX12_readMany_17 rfl (lv_at hl 0 rfl) ?_
        refine r_callS (As := [.ref (B + 64), .int x, .int v3]) (rest := [.int v4]) C hw (t_X12_has l B D cA kd ig rg lg _ x v3 hsh (by omega) (by omega) hl0) ss_X12_222 rfl hl.1 rfl (Nat.le_of_ble_eq_true rfl) ⟨Nat.le_of_ble_eq_true rfl, Nat.le_of_ble_eq_true rfl⟩ ⟨Nat.le_of_ble_eq_true rfl, Nat.le_of_ble_eq_true rfl⟩ dX12_readMany_18 (fun r11 kd7 ig8 rg9 lg10 H locs hw hH hp12 => ?_)
        obtain ⟨rfl, rfl, rfl, rfl, hzz6, z6, rfl, hz6⟩ := hp12
        have hsz := hzz6.trans hsz
        refine z_eq (tgt := 28) hx hb dX12_readMany_21 (by decide) (fun c21 => ?_) (fun c21 => ?_)
        · refine lv_iconst (v := 0) hx hb dX12_readMany_28 (by decide) (ti_c 0 (by decide) fun z13 hz13 => ?_)
          refine lv_iadd hx hb dX12_readMany_29 (ti_add (by omega) fun z14 hz14 => ?_)
          refine lv_istore_n (lv' := [(2, .int z14), (3, .int v3), (0, .ref (B + 49)), (1, .int x)]) hx hb dX12_readMany_30 rfl hl (by decide) rfl (fun ls hl => ?_)
          refine ti_inc hx hb dX12_readMany_31 hl (k := 1) rfl (by decide) (by decide) (by omega) (fun z15 hz15 ls hl => ?_)
          have hl : lv_has ls 4 [(3, .int z15), (2, .int z14), (0, .ref (B + 49)), (1, .int x)] := hl
          refine lv_goto (tgt := 4) hx hb dX12_readMany_34 (by decide) ?_
          exact ih4 ls H locs z15 z14 (lv_sub hl [0, 1, 2, 3] rfl) hw hsz (by omega) (by omega) (by omega) (by omega)
        · exact absurd c21 (by omega)
  exact L4 ((288 - z2.toInt) + 1).toNat ls s.heap [] z2 z1 (lv_sub hl [0, 1, 2, 3] rfl) hw hsz (by omega) (by omega) (by omega) (by omega)

set_option maxHeartbeats 4000000 in
set_option maxRecDepth 100000 in
theorem t_X12_readers (l : Launch) (B : Nat) (D : va_G) (cA : Nat → ClassId) (kd : sK) (ig : sI) (rg : sR) (lg : sG) (sz : Nat) (x : Int32) (hx0 : (0 ≤ x.toInt ∧ x.toInt < 288)) (hsh : Sh B kd) (hrm : Rm B rg) (hl0 : ∀ j, lg (B + 64) j = 0) : MC l B D cA yX12_readers cX12_readers 4 (some .int) (rL 1 0 0) [.ref (B + 49), .int x] kd ig rg lg sz (Pu kd ig rg lg sz (fun r => ∃ z : Int32, r = some (.int z) ∧ z.toInt = 0)) := by
  refine MC.of (own := RX12) (by decide +kernel) rfl (Nat.le_of_ble_eq_true rfl) ?_
  intro p e s m args below meth c ls C hr hlk hnm hw hsz hl
  have hx := C.1.1
  have hb := C.1.2.1
  have hown := C.1.2.2.2.1
  have hts := C.1.2.2.2.2
  have hl : lv_has ls 4 [(0, .ref (B + 49)), (1, .int x)] := hl
  refine lv_iconst (v := 0) hx hb dX12_readers_0 (by decide) (ti_c 0 (by decide) fun z1 hz1 => ?_)
  refine lv_istore_n (lv' := [(2, .int z1), (0, .ref (B + 49)), (1, .int x)]) hx hb dX12_readers_1 rfl hl (by decide) rfl (fun ls hl => ?_)
  refine lv_iconst (v := 0) hx hb dX12_readers_2 (by decide) (ti_c 0 (by decide) fun z2 hz2 => ?_)
  refine lv_istore_n (lv' := [(3, .int z2), (2, .int z1), (0, .ref (B + 49)), (1, .int x)]) hx hb dX12_readers_3 rfl hl (by decide) rfl (fun ls hl => ?_)
  have L4 : ∀ (n : Nat) (ls : Array Slot) (H : Heap) (locs : List Loc) (v3 : Int32) (v4 : Int32), lv_has ls 4 [(3, .int v3), (2, .int v4), (0, .ref (B + 49)), (1, .int x)] → WD B D cA s.heap kd ig rg lg H locs → H.size = sz → (0 ≤ v3.toInt) → (v3.toInt ≤ 288) → (v4.toInt = 0) → 288 - v3.toInt < (n : Int) → W p l e (rL 1 0 0) s m args below meth c H locs 0 0 (MQ below (QcW B D cA (Pu kd ig rg lg sz (fun r => ∃ z : Int32, r = some (.int z) ∧ z.toInt = 0))) args s 0 0 (fun q => B ≤ q)) (F0 m 4 ls []) := by
    intro n4
    induction n4 with
    | zero => intro ls H locs v3 v4 hl hw hsz g4_0 g4_1 g4_2 hmu; exact absurd hmu (by omega)
    | succ n4 ih4 =>
      intro ls H locs v3 v4 hl hw hsz g4_0 g4_1 g4_2 hmu
      refine lv_iload_n hx hb dX12_readers_4 rfl (lv_at hl 0 rfl) ?_
      refine lv_sipush (v := 288) hx hb dX12_readers_5 (by decide) (ti_c 288 (by decide) fun z5 hz5 => ?_)
      refine b_ge (tgt := 37) hx hb dX12_readers_8 (by decide) (fun c8 => ?_) (fun c8 => ?_)
      · refine lv_iload_n hx hb dX12_readers_37 rfl (lv_at hl 1 rfl) ?_
        exact r_iret C hw hr hlk rfl (Nat.le_of_ble_eq_true rfl) (Nat.le_of_ble_eq_true rfl) dX12_readers_38 ⟨rfl, rfl, rfl, rfl, hsz, _, rfl, by omega⟩
      · refine lv_iload_n hx hb dX12_readers_11 rfl (lv_at hl 1 rfl) ?_
        refine lv_aload_n hx hb dX12_readers_12 rfl (lv_at hl 2 rfl) ?_
        refine r_get C hw (hsh 49 _ rfl) fl_X12_96 (oV_r rfl (hrm (49, 21, 64) (by decide))) dX12_readers_13 ?_
        refine lv_iload_n hx hb dX12_readers_16 rfl (lv_at hl 0 rfl) ?_
        refine lv_iload_n hx hb dX12_readers_17 rfl (lv_at hl 3 rfl) ?_
        refine r_callS (As := [.ref (B + 64), .int v3, .int x]) (rest := [.int v4]) C hw (t_X12_has l B D cA kd ig rg lg _ v3 x hsh (by omega) (by omega) hl0) ss_X12_222 rfl hl.1 rfl (Nat.le_of_ble_eq_true rfl) ⟨Nat.le_of_ble_eq_true rfl, Nat.le_of_ble_eq_true rfl⟩ ⟨Nat.le_of_ble_eq_true rfl, Nat.le_of_ble_eq_true rfl⟩ dX12_readers_18 (fun r11 kd7 ig8 rg9 lg10 H locs hw hH hp12 => ?_)
        obtain ⟨rfl, rfl, rfl, rfl, hzz6, z6, rfl, hz6⟩ := hp12
        have hsz := hzz6.trans hsz
        refine z_eq (tgt := 28) hx hb dX12_readers_21 (by decide) (fun c21 => ?_) (fun c21 => ?_)
        · refine lv_iconst (v := 0) hx hb dX12_readers_28 (by decide) (ti_c 0 (by decide) fun z13 hz13 => ?_)
          refine lv_iadd hx hb dX12_readers_29 (ti_add (by omega) fun z14 hz14 => ?_)
          refine lv_istore_n (lv' := [(2, .int z14), (3, .int v3), (0, .ref (B + 49)), (1, .int x)]) hx hb dX12_readers_30 rfl hl (by decide) rfl (fun ls hl => ?_)
          refine ti_inc hx hb dX12_readers_31 hl (k := 1) rfl (by decide) (by decide) (by omega) (fun z15 hz15 ls hl => ?_)
          have hl : lv_has ls 4 [(3, .int z15), (2, .int z14), (0, .ref (B + 49)), (1, .int x)] := hl
          refine lv_goto (tgt := 4) hx hb dX12_readers_34 (by decide) ?_
          exact ih4 ls H locs z15 z14 (lv_sub hl [0, 1, 2, 3] rfl) hw hsz (by omega) (by omega) (by omega) (by omega)
        · exact absurd c21 (by omega)
  exact L4 ((288 - z2.toInt) + 1).toNat ls s.heap [] z2 z1 (lv_sub hl [0, 1, 2, 3] rfl) hw hsz (by omega) (by omega) (by omega) (by omega)

set_option maxHeartbeats 4000000 in
set_option maxRecDepth 100000 in
theorem t_X12_oddBy (l : Launch) (B : Nat) (D : va_G) (cA : Nat → ClassId) (kd : sK) (ig : sI) (rg : sR) (lg : sG) (sz : Nat) (x : Int32) (hx0 : (0 ≤ x.toInt ∧ x.toInt < 288)) (hsh : Sh B kd) (hrm : Rm B rg) (hk0 : ∀ j, j < 309 → ig (B + 59) j = 0) : MC l B D cA yX12_oddBy cX12_oddBy 6 (some .int) (rL 0 0 0) [.ref (B + 49), .int x] kd ig rg lg sz (Pu kd ig rg lg sz (fun r => ∃ z : Int32, r = some (.int z) ∧ z.toInt = -1)) := by
  refine MC.of (own := RX12) (by decide +kernel) rfl (Nat.le_of_ble_eq_true rfl) ?_
  intro p e s m args below meth c ls C hr hlk hnm hw hsz hl
  have hx := C.1.1
  have hb := C.1.2.1
  have hown := C.1.2.2.2.1
  have hts := C.1.2.2.2.2
  have hl : lv_has ls 6 [(0, .ref (B + 49)), (1, .int x)] := hl
  refine lv_aload_n hx hb dX12_oddBy_0 rfl (lv_at hl 0 rfl) ?_
  refine r_get C hw (hsh 49 _ rfl) fl_X12_80 (oV_r rfl (hrm (49, 15, 59) (by decide))) dX12_oddBy_1 ?_
  refine lv_iload_n hx hb dX12_oddBy_4 rfl (lv_at hl 1 rfl) ?_
  refine r_iald C hw (hsh 59 _ rfl) (by omega) (by omega) dX12_oddBy_5 (ti_c (ig (B + 59) x.toInt.toNat).toInt rfl fun z1 hz1 => ?_)
  have k2 := z0 (hk0 (x.toInt.toNat) (by omega))
  refine z_ne (tgt := 11) hx hb dX12_oddBy_6 (by decide) (fun c6 => ?_) (fun c6 => ?_)
  · exact absurd c6 (by omega)
  · refine lv_iconst (v := (-1)) hx hb dX12_oddBy_9 (by decide) (ti_c (-1) (by decide) fun z3 hz3 => ?_)
    exact r_iret C hw hr hlk rfl (Nat.le_of_ble_eq_true rfl) (Nat.le_of_ble_eq_true rfl) dX12_oddBy_10 ⟨rfl, rfl, rfl, rfl, hsz, _, rfl, by omega⟩

set_option maxHeartbeats 4000000 in
set_option maxRecDepth 100000 in
theorem t_X12_findReads (l : Launch) (B : Nat) (D : va_G) (cA : Nat → ClassId) (kd : sK) (ig : sI) (rg : sR) (lg : sG) (sz : Nat) (hki : KI B ig) (hsh : Sh B kd) (hrm : Rm B rg) : MC l B D cA yX12_findReads cX12_findReads 7 none (rL 1 0 0) [.ref (B + 49)] kd ig rg lg sz (fun r kd' ig' rg' lg' n => kd = kd' ∧ rg = rg' ∧ True ∧ n = sz ∧ (r = none) ∧ ig = ig') := by
  refine MC.of (own := RX12) (by decide +kernel) rfl (Nat.le_of_ble_eq_true rfl) ?_
  intro p e s m args below meth c ls C hr hlk hnm hw hsz hl
  have hx := C.1.1
  have hb := C.1.2.1
  have hown := C.1.2.2.2.1
  have hts := C.1.2.2.2.2
  have hl : lv_has ls 7 [(0, .ref (B + 49))] := hl
  refine lv_iconst (v := 0) hx hb dX12_findReads_0 (by decide) (ti_c 0 (by decide) fun z1 hz1 => ?_)
  refine lv_istore_n (lv' := [(1, .int z1), (0, .ref (B + 49))]) hx hb dX12_findReads_1 rfl hl (by decide) rfl (fun ls hl => ?_)
  have L2 : ∀ (n : Nat) (ls : Array Slot) (H : Heap) (locs : List Loc) (lg3 : sG) (v2 : Int32), lv_has ls 7 [(1, .int v2), (0, .ref (B + 49))] → WD B D cA s.heap kd ig rg lg3 H locs → H.size = sz → (0 ≤ v2.toInt) → (v2.toInt ≤ 1440) → 1440 - v2.toInt < (n : Int) → W p l e (rL 1 0 0) s m args below meth c H locs 0 0 (MQ below (QcW B D cA (fun r kd' ig' rg' lg' n => kd = kd' ∧ rg = rg' ∧ True ∧ n = sz ∧ (r = none) ∧ ig = ig')) args s 0 0 (fun q => B ≤ q)) (F0 m 2 ls []) := by
    intro n2
    induction n2 with
    | zero => intro ls H locs lg3 v2 hl hw hsz g2_0 g2_1 hmu; exact absurd hmu (by omega)
    | succ n2 ih2 =>
      intro ls H locs lg3 v2 hl hw hsz g2_0 g2_1 hmu
      refine lv_iload_n hx hb dX12_findReads_2 rfl (lv_at hl 0 rfl) ?_
      refine lv_sipush (v := 1440) hx hb dX12_findReads_3 (by decide) (ti_c 1440 (by decide) fun z4 hz4 => ?_)
      refine b_ge (tgt := 22) hx hb dX12_findReads_6 (by decide) (fun c6 => ?_) (fun c6 => ?_)
      · refine lv_iconst (v := 0) hx hb dX12_findReads_22 (by decide) (ti_c 0 (by decide) fun z5 hz5 => ?_)
        refine lv_istore_n (lv' := [(1, .int z5), (0, .ref (B + 49))]) hx hb dX12_findReads_23 rfl hl (by decide) rfl (fun ls hl => ?_)
        have L24 : ∀ (n : Nat) (ls : Array Slot) (H : Heap) (locs : List Loc) (v6 : Int32), lv_has ls 7 [(1, .int v6), (0, .ref (B + 49))] → WD B D cA s.heap kd ig rg lg3 H locs → H.size = sz → (0 ≤ v6.toInt) → (v6.toInt ≤ 288) → 288 - v6.toInt < (n : Int) → W p l e (rL 1 0 0) s m args below meth c H locs 0 0 (MQ below (QcW B D cA (fun r kd' ig' rg' lg' n => kd = kd' ∧ rg = rg' ∧ True ∧ n = sz ∧ (r = none) ∧ ig = ig')) args s 0 0 (fun q => B ≤ q)) (F0 m 24 ls []) := by
          intro n24
          induction n24 with
          | zero => intro ls H locs v6 hl hw hsz g24_0 g24_1 hmu; exact absurd hmu (by omega)
          | succ n24 ih24 =>
            intro ls H locs v6 hl hw hsz g24_0 g24_1 hmu
            refine lv_iload_n hx hb dX12_findReads_24 rfl (lv_at hl 0 rfl) ?_
            refine lv_sipush (v := 288) hx hb dX12_findReads_25 (by decide) (ti_c 288 (by decide) fun z7 hz7 => ?_)
            refine b_ge (tgt := 158) hx hb dX12_findReads_28 (by decide) (fun c28 => ?_) (fun c28 => ?_)
            · refine lv_iconst (v := 0) hx hb dX12_findReads_158 (by decide) (ti_c 0 (by decide) fun z8 hz8 => ?_)
              refine lv_istore_n (lv' := [(1, .int z8), (0, .ref (B + 49))]) hx hb dX12_findReads_159 rfl hl (by decide) rfl (fun ls hl => ?_)
              have L160 : ∀ (n : Nat) (ls : Array Slot) (H : Heap) (locs : List Loc) (lg10 : sG) (v9 : Int32), lv_has ls 7 [(1, .int v9), (0, .ref (B + 49))] → WD B D cA s.heap kd ig rg lg10 H locs → H.size = sz → (0 ≤ v9.toInt) → (v9.toInt ≤ 1440) → 1440 - v9.toInt < (n : Int) → W p l e (rL 1 0 0) s m args below meth c H locs 0 0 (MQ below (QcW B D cA (fun r kd' ig' rg' lg' n => kd = kd' ∧ rg = rg' ∧ True ∧ n = sz ∧ (r = none) ∧ ig = ig')) args s 0 0 (fun q => B ≤ q)) (F0 m 160 ls []) := by
                intro n160
                induction n160 with
                | zero => intro ls H locs lg10 v9 hl hw hsz g160_0 g160_1 hmu; exact absurd hmu (by omega)
                | succ n160 ih160 =>
                  intro ls H locs lg10 v9 hl hw hsz g160_0 g160_1 hmu
                  refine lv_iload_n hx hb dX12_findReads_160 rfl (lv_at hl 0 rfl) ?_
                  refine lv_sipush (v := 1440) hx hb dX12_findReads_161 (by decide) (ti_c 1440 (by decide) fun z11 hz11 => ?_)
                  refine b_ge (tgt := 185) hx hb dX12_findReads_164 (by decide) (fun c164 => ?_) (fun c164 => ?_)
                  · refine lv_iconst (v := 0) hx hb dX12_findReads_185 (by decide) (ti_c 0 (by decide) fun z12 hz12 => ?_)
                    refine lv_istore_n (lv' := [(1, .int z12), (0, .ref (B + 49))]) hx hb dX12_findReads_186 rfl hl (by decide) rfl (fun ls hl => ?_)
                    have L187 : ∀ (n : Nat) (ls : Array Slot) (H : Heap) (locs : List Loc) (v13 : Int32), lv_has ls 7 [(1, .int v13), (0, .ref (B + 49))] → WD B D cA s.heap kd ig rg lg10 H locs → H.size = sz → (0 ≤ v13.toInt) → (v13.toInt ≤ 288) → 288 - v13.toInt < (n : Int) → W p l e (rL 1 0 0) s m args below meth c H locs 0 0 (MQ below (QcW B D cA (fun r kd' ig' rg' lg' n => kd = kd' ∧ rg = rg' ∧ True ∧ n = sz ∧ (r = none) ∧ ig = ig')) args s 0 0 (fun q => B ≤ q)) (F0 m 187 ls []) := by
                      intro n187
                      induction n187 with
                      | zero => intro ls H locs v13 hl hw hsz g187_0 g187_1 hmu; exact absurd hmu (by omega)
                      | succ n187 ih187 =>
                        intro ls H locs v13 hl hw hsz g187_0 g187_1 hmu
                        refine lv_iload_n hx hb dX12_findReads_187 rfl (lv_at hl 0 rfl) ?_
                        refine lv_sipush (v := 288) hx hb dX12_findReads_188 (by decide) (ti_c 288 (by decide) fun z14 hz14 => ?_)
                        refine b_ge (tgt := 273) hx hb dX12_findReads_191 (by decide) (fun c191 => ?_) (fun c191 => ?_)
                        · exact r_vret C hw hr hlk (Nat.le_of_ble_eq_true rfl) (Nat.le_of_ble_eq_true rfl) dX12_findReads_273 ⟨rfl, rfl, trivial, hsz, rfl, rfl⟩
                        · refine lv_iconst (v := 0) hx hb dX12_findReads_194 (by decide) (ti_c 0 (by decide) fun z15 hz15 => ?_)
                          refine lv_istore_n (lv' := [(2, .int z15), (1, .int v13), (0, .ref (B + 49))]) hx hb dX12_findReads_195 rfl hl (by decide) rfl (fun ls hl => ?_)
                          refine lv_iload_n hx hb dX12_findReads_196 rfl (lv_at hl 0 rfl) ?_
                          refine lv_sipush (v := 288) hx hb dX12_findReads_197 (by decide) (ti_c 288 (by decide) fun z16 hz16 => ?_)
                          refine b_ge (tgt := 267) hx hb dX12_findReads_200 (by decide) (fun c200 => ?_) (fun c200 => ?_)
                          · refine ti_inc hx hb dX12_findReads_267 hl (k := 1) rfl (by decide) (by decide) (by omega) (fun z17 hz17 ls hl => ?_)
                            have hl : lv_has ls 7 [(1, .int z17), (2, .int z15), (0, .ref (B + 49))] := hl
                            refine lv_goto (tgt := 187) hx hb dX12_findReads_270 (by decide) ?_
                            exact ih187 ls H locs z17 (lv_sub hl [0, 2] rfl) hw hsz (by omega) (by omega) (by omega)
                          · refine lv_aload_n hx hb dX12_findReads_203 rfl (lv_at hl 2 rfl) ?_
                            refine r_get C hw (hsh 49 _ rfl) fl_X12_80 (oV_r rfl (hrm (49, 15, 59) (by decide))) dX12_findReads_204 ?_
                            refine lv_iload_n hx hb dX12_findReads_207 rfl (lv_at hl 1 rfl) ?_
                            refine r_iald C hw (hsh 59 _ rfl) (by omega) (by omega) dX12_findReads_208 (ti_c (ig (B + 59) v13.toInt.toNat).toInt rfl fun z18 hz18 => ?_)
                            have k19 := (show KI B ig from hki).1 (v13.toInt.toNat) (by omega)
                            refine lv_iconst (v := 2) hx hb dX12_findReads_209 (by decide) (ti_c 2 (by decide) fun z20 hz20 => ?_)
                            refine b_ne (tgt := 267) hx hb dX12_findReads_210 (by decide) (fun c210 => ?_) (fun c210 => ?_)
                            · refine ti_inc hx hb dX12_findReads_267 hl (k := 1) rfl (by decide) (by decide) (by omega) (fun z21 hz21 ls hl => ?_)
                              have hl : lv_has ls 7 [(1, .int z21), (2, .int z15), (0, .ref (B + 49))] := hl
                              refine lv_goto (tgt := 187) hx hb dX12_findReads_270 (by decide) ?_
                              exact ih187 ls H locs z21 (lv_sub hl [0, 2] rfl) hw hsz (by omega) (by omega) (by omega)
                            · exact absurd c210 (by omega)
                    exact L187 ((288 - z12.toInt) + 1).toNat ls H locs z12 (lv_sub hl [0, 1] rfl) hw hsz (by omega) (by omega) (by omega)
                  · refine lv_aload_n hx hb dX12_findReads_167 rfl (lv_at hl 1 rfl) ?_
                    refine r_get C hw (hsh 49 _ rfl) fl_X12_99 (oV_r rfl (hrm (49, 22, 65) (by decide))) dX12_findReads_168 ?_
                    refine lv_iload_n hx hb dX12_findReads_171 rfl (lv_at hl 0 rfl) ?_
                    refine lv_aload_n hx hb dX12_findReads_172 rfl (lv_at hl 1 rfl) ?_
                    refine r_get C hw (hsh 49 _ rfl) fl_X12_96 (oV_r rfl (hrm (49, 21, 64) (by decide))) dX12_findReads_173 ?_
                    refine lv_iload_n hx hb dX12_findReads_176 rfl (lv_at hl 0 rfl) ?_
                    refine r_lald C hw (hsh 64 _ rfl) (by omega) (by omega) dX12_findReads_177 (lv_topl fun x22 hx22 => ?_)
                    refine r_last C hw (hsh 65 _ rfl) (by omega) (by omega) dX12_findReads_178 (fun H locs hH hw => ?_)
                    obtain ⟨lg23, elg23⟩ : ∃ f, f = up2 lg10 (B + 65) v9.toInt.toNat x22 := ⟨_, rfl⟩
                    rw [← elg23] at hw
                    have hsz := hH.trans hsz
                    refine ti_inc hx hb dX12_findReads_179 hl (k := 0) rfl (by decide) (by decide) (by omega) (fun z24 hz24 ls hl => ?_)
                    have hl : lv_has ls 7 [(1, .int z24), (0, .ref (B + 49))] := hl
                    refine lv_goto (tgt := 160) hx hb dX12_findReads_182 (by decide) ?_
                    exact ih160 ls H locs lg23 z24 (lv_sub hl [0, 1] rfl) hw hsz (by omega) (by omega) (by omega)
              exact L160 ((1440 - z8.toInt) + 1).toNat ls H locs lg3 z8 (lv_sub hl [0, 1] rfl) hw hsz (by omega) (by omega) (by omega)
            · refine lv_iconst (v := 0) hx hb dX12_findReads_31 (by decide) (ti_c 0 (by decide) fun z25 hz25 => ?_)
              refine lv_istore_n (lv' := [(2, .int z25), (1, .int v6), (0, .ref (B + 49))]) hx hb dX12_findReads_32 rfl hl (by decide) rfl (fun ls hl => ?_)
              refine lv_iload_n hx hb dX12_findReads_33 rfl (lv_at hl 0 rfl) ?_
              refine lv_aload_n hx hb dX12_findReads_34 rfl (lv_at hl 2 rfl) ?_
              refine r_get C hw (hsh 49 _ rfl) fl_X12_77 (oV_r rfl (hrm (49, 13, 58) (by decide))) dX12_findReads_35 ?_
              refine lv_iload_n hx hb dX12_findReads_38 rfl (lv_at hl 1 rfl) ?_
              refine r_iald C hw (hsh 58 _ rfl) (by omega) (by omega) dX12_findReads_39 (ti_c (ig (B + 58) v6.toInt.toNat).toInt rfl fun z26 hz26 => ?_)
              have k27 := z0 ((show KI B ig from hki).2 (v6.toInt.toNat) (by omega))
              refine b_ge (tgt := 152) hx hb dX12_findReads_40 (by decide) (fun c40 => ?_) (fun c40 => ?_)
              · refine ti_inc hx hb dX12_findReads_152 hl (k := 1) rfl (by decide) (by decide) (by omega) (fun z28 hz28 ls hl => ?_)
                have hl : lv_has ls 7 [(1, .int z28), (2, .int z25), (0, .ref (B + 49))] := hl
                refine lv_goto (tgt := 24) hx hb dX12_findReads_155 (by decide) ?_
                exact ih24 ls H locs z28 (lv_sub hl [0, 2] rfl) hw hsz (by omega) (by omega) (by omega)
              · exact absurd c40 (by omega)
        exact L24 ((288 - z5.toInt) + 1).toNat ls H locs z5 (lv_sub hl [0, 1] rfl) hw hsz (by omega) (by omega) (by omega)
      · refine lv_aload_n hx hb dX12_findReads_9 rfl (lv_at hl 1 rfl) ?_
        refine r_get C hw (hsh 49 _ rfl) fl_X12_96 (oV_r rfl (hrm (49, 21, 64) (by decide))) dX12_findReads_10 ?_
        refine lv_iload_n hx hb dX12_findReads_13 rfl (lv_at hl 0 rfl) ?_
        refine lv_lconst (v := 0) hx hb dX12_findReads_14 (by decide) (lv_topl fun x29 hx29 => ?_)
        refine r_last C hw (hsh 64 _ rfl) (by omega) (by omega) dX12_findReads_15 (fun H locs hH hw => ?_)
        obtain ⟨lg30, elg30⟩ : ∃ f, f = up2 lg3 (B + 64) v2.toInt.toNat x29 := ⟨_, rfl⟩
        rw [← elg30] at hw
        have hsz := hH.trans hsz
        refine ti_inc hx hb dX12_findReads_16 hl (k := 0) rfl (by decide) (by decide) (by omega) (fun z31 hz31 ls hl => ?_)
        have hl : lv_has ls 7 [(1, .int z31), (0, .ref (B + 49))] := hl
        refine lv_goto (tgt := 2) hx hb dX12_findReads_19 (by decide) ?_
        exact ih2 ls H locs lg30 z31 (lv_sub hl [0, 1] rfl) hw hsz (by omega) (by omega) (by omega)
  exact L2 ((1440 - z1.toInt) + 1).toNat ls s.heap [] lg z1 (lv_sub hl [0, 1] rfl) hw hsz (by omega) (by omega) (by omega)

set_option maxHeartbeats 4000000 in
set_option maxRecDepth 100000 in
theorem t_X12_findFamilies (l : Launch) (B : Nat) (D : va_G) (cA : Nat → ClassId) (kd : sK) (ig : sI) (rg : sR) (lg : sG) (sz : Nat) (hki : KI B ig) (hsh : Sh B kd) (hrm : Rm B rg) : MC l B D cA yX12_findFamilies cX12_findFamilies 3 none (rL 0 0 0) [.ref (B + 49)] kd ig rg lg sz (fun r kd' ig' rg' lg' n => kd = kd' ∧ rg = rg' ∧ lg = lg' ∧ n = sz ∧ (r = none) ∧ True) := by
  refine MC.of (own := RX12) (by decide +kernel) rfl (Nat.le_of_ble_eq_true rfl) ?_
  intro p e s m args below meth c ls C hr hlk hnm hw hsz hl
  have hx := C.1.1
  have hb := C.1.2.1
  have hown := C.1.2.2.2.1
  have hts := C.1.2.2.2.2
  have hl : lv_has ls 3 [(0, .ref (B + 49))] := hl
  have oig : Off B 71 72 ig ig := Off.rf
  refine lv_iconst (v := 0) hx hb dX12_findFamilies_0 (by decide) (ti_c 0 (by decide) fun z1 hz1 => ?_)
  refine lv_istore_n (lv' := [(1, .int z1), (0, .ref (B + 49))]) hx hb dX12_findFamilies_1 rfl hl (by decide) rfl (fun ls hl => ?_)
  have L2 : ∀ (n : Nat) (ls : Array Slot) (H : Heap) (locs : List Loc) (ig3 : sI) (v2 : Int32), lv_has ls 3 [(1, .int v2), (0, .ref (B + 49))] → WD B D cA s.heap kd ig3 rg lg H locs → H.size = sz → (0 ≤ v2.toInt) → (v2.toInt ≤ 288) → (Off B 71 72 ig3 ig) → 288 - v2.toInt < (n : Int) → W p l e (rL 0 0 0) s m args below meth c H locs 0 0 (MQ below (QcW B D cA (fun r kd' ig' rg' lg' n => kd = kd' ∧ rg = rg' ∧ lg = lg' ∧ n = sz ∧ (r = none) ∧ True)) args s 0 0 (fun q => B ≤ q)) (F0 m 2 ls []) := by
    intro n2
    induction n2 with
    | zero => intro ls H locs ig3 v2 hl hw hsz g2_0 g2_1 g2_2 hmu; exact absurd hmu (by omega)
    | succ n2 ih2 =>
      intro ls H locs ig3 v2 hl hw hsz g2_0 g2_1 g2_2 hmu
      have oig := g2_2
      have hki := KI.off hki oig (by decide)
      refine lv_iload_n hx hb dX12_findFamilies_2 rfl (lv_at hl 0 rfl) ?_
      refine lv_sipush (v := 288) hx hb dX12_findFamilies_3 (by decide) (ti_c 288 (by decide) fun z4 hz4 => ?_)
      refine b_ge (tgt := 95) hx hb dX12_findFamilies_6 (by decide) (fun c6 => ?_) (fun c6 => ?_)
      · exact r_vret C hw hr hlk (Nat.le_of_ble_eq_true rfl) (Nat.le_of_ble_eq_true rfl) dX12_findFamilies_95 ⟨rfl, rfl, rfl, hsz, rfl, trivial⟩
      · refine lv_aload_n hx hb dX12_findFamilies_9 rfl (lv_at hl 1 rfl) ?_
        refine r_get C hw (hsh 49 _ rfl) fl_X12_117 (oV_r rfl (hrm (49, 28, 71) (by decide))) dX12_findFamilies_10 ?_
        refine lv_iload_n hx hb dX12_findFamilies_13 rfl (lv_at hl 0 rfl) ?_
        refine lv_iconst (v := (-1)) hx hb dX12_findFamilies_14 (by decide) (ti_c (-1) (by decide) fun z5 hz5 => ?_)
        refine r_iast C hw (hsh 71 _ rfl) (by omega) (by omega) dX12_findFamilies_15 (fun H locs hH hw => ?_)
        obtain ⟨ig6, eig6⟩ : ∃ f, f = up2 ig3 (B + 71) v2.toInt.toNat z5 := ⟨_, rfl⟩
        rw [← eig6] at hw
        have hsz := hH.trans hsz
        have oig : Off B 71 72 ig6 ig := fun a j h => by rw [eig6]; exact (up2_a (by omega)).trans (oig a j h)
        refine lv_iconst (v := 0) hx hb dX12_findFamilies_16 (by decide) (ti_c 0 (by decide) fun z7 hz7 => ?_)
        refine lv_istore_n (lv' := [(2, .int z7), (1, .int v2), (0, .ref (B + 49))]) hx hb dX12_findFamilies_17 rfl hl (by decide) rfl (fun ls hl => ?_)
        refine lv_iload_n hx hb dX12_findFamilies_18 rfl (lv_at hl 0 rfl) ?_
        refine lv_iload_n hx hb dX12_findFamilies_19 rfl (lv_at hl 1 rfl) ?_
        have J89 : ∀ (ls : Array Slot) (H : Heap) (locs : List Loc) , lv_has ls 3 [(1, .int v2), (0, .ref (B + 49))] → WD B D cA s.heap kd ig6 rg lg H locs → H.size = sz → W p l e (rL 0 0 0) s m args below meth c H locs 0 0 (MQ below (QcW B D cA (fun r kd' ig' rg' lg' n => kd = kd' ∧ rg = rg' ∧ lg = lg' ∧ n = sz ∧ (r = none) ∧ True)) args s 0 0 (fun q => B ≤ q)) (F0 m 89 ls []) := by
          intro ls H locs  hl hw hsz 
          refine ti_inc hx hb dX12_findFamilies_89 hl (k := 0) rfl (by decide) (by decide) (by omega) (fun z8 hz8 ls hl => ?_)
          have hl : lv_has ls 3 [(1, .int z8), (0, .ref (B + 49))] := hl
          refine lv_goto (tgt := 2) hx hb dX12_findFamilies_92 (by decide) ?_
          exact ih2 ls H locs ig6 z8 (lv_sub hl [0, 1] rfl) hw hsz (by omega) (by omega) oig (by omega)
        refine b_gt (tgt := 89) hx hb dX12_findFamilies_20 (by decide) (fun c20 => ?_) (fun c20 => ?_)
        · exact J89 ls H locs  (lv_sub hl [1, 2] rfl) hw hsz 
        · refine lv_aload_n hx hb dX12_findFamilies_23 rfl (lv_at hl 2 rfl) ?_
          refine r_get C hw (hsh 49 _ rfl) fl_X12_117 (oV_r rfl (hrm (49, 28, 71) (by decide))) dX12_findFamilies_24 ?_
          refine lv_iload_n hx hb dX12_findFamilies_27 rfl (lv_at hl 1 rfl) ?_
          refine r_iald C hw (hsh 71 _ rfl) (by omega) (by omega) dX12_findFamilies_28 (ti_c (ig6 (B + 71) v2.toInt.toNat).toInt rfl fun z9 hz9 => ?_)
          refine z_ge (tgt := 89) hx hb dX12_findFamilies_29 (by decide) (fun c29 => ?_) (fun c29 => ?_)
          · exact J89 ls H locs  (lv_sub hl [1, 2] rfl) hw hsz 
          · refine lv_aload_n hx hb dX12_findFamilies_32 rfl (lv_at hl 2 rfl) ?_
            refine r_get C hw (hsh 49 _ rfl) fl_X12_80 (oV_r rfl (hrm (49, 15, 59) (by decide))) dX12_findFamilies_33 ?_
            refine lv_iload_n hx hb dX12_findFamilies_36 rfl (lv_at hl 1 rfl) ?_
            refine r_iald C hw (hsh 59 _ rfl) (by omega) (by omega) dX12_findFamilies_37 (ti_c (ig6 (B + 59) v2.toInt.toNat).toInt rfl fun z10 hz10 => ?_)
            have k11 := (show KI B ig6 from by rw [eig6]; exact (KI.o hki (by decide))).1 (v2.toInt.toNat) (by omega)
            refine lv_iconst (v := 2) hx hb dX12_findFamilies_38 (by decide) (ti_c 2 (by decide) fun z12 hz12 => ?_)
            refine b_ne (tgt := 89) hx hb dX12_findFamilies_39 (by decide) (fun c39 => ?_) (fun c39 => ?_)
            · exact J89 ls H locs  (lv_sub hl [1, 2] rfl) hw hsz 
            · exact absurd c39 (by omega)
  exact L2 ((288 - z1.toInt) + 1).toNat ls s.heap [] ig z1 (lv_sub hl [0, 1] rfl) hw hsz (by omega) (by omega) oig (by omega)

set_option maxHeartbeats 4000000 in
set_option maxRecDepth 100000 in
theorem t_X12_works (l : Launch) (B : Nat) (D : va_G) (cA : Nat → ClassId) (kd : sK) (ig : sI) (rg : sR) (lg : sG) (sz : Nat) (hki : KI B ig) (hsh : Sh B kd) (hrm : Rm B rg) : MC l B D cA yX12_works cX12_works 3 none (rL 2 0 0) [.ref (B + 49)] kd ig rg lg sz (fun r kd' ig' rg' lg' n => kd = kd' ∧ rg = rg' ∧ True ∧ n = sz ∧ (r = none) ∧ True) := by
  refine MC.of (own := RX12) (by decide +kernel) rfl (Nat.le_of_ble_eq_true rfl) ?_
  intro p e s m args below meth c ls C hr hlk hnm hw hsz hl
  have hx := C.1.1
  have hb := C.1.2.1
  have hown := C.1.2.2.2.1
  have hts := C.1.2.2.2.2
  have hl : lv_has ls 3 [(0, .ref (B + 49))] := hl
  have oig : Off B 66 74 ig ig := Off.rf
  refine lv_aload_n hx hb dX12_works_0 rfl (lv_at hl 0 rfl) ?_
  refine r_callV (As := []) (rest := []) C hw (t_X12_findReads l B D cA kd ig rg lg _ hki hsh hrm) sv_X12_226 (hsh 49 _ rfl) rfl hl.1 rfl (Nat.le_of_ble_eq_true rfl) ⟨Nat.le_of_ble_eq_true rfl, Nat.le_of_ble_eq_true rfl⟩ ⟨Nat.le_of_ble_eq_true rfl, Nat.le_of_ble_eq_true rfl⟩ dX12_works_1 (fun r6 kd2 ig3 rg4 lg5 H locs hw hH hp7 => ?_)
  obtain ⟨rfl, rfl, ht1, hq1, rfl, rfl⟩ := hp7
  have hsz := hq1.trans hsz
  refine lv_iconst (v := 0) hx hb dX12_works_4 (by decide) (ti_c 0 (by decide) fun z8 hz8 => ?_)
  refine lv_istore_n (lv' := [(1, .int z8), (0, .ref (B + 49))]) hx hb dX12_works_5 rfl hl (by decide) rfl (fun ls hl => ?_)
  have L6 : ∀ (n : Nat) (ls : Array Slot) (H : Heap) (locs : List Loc) (ig10 : sI) (v9 : Int32), lv_has ls 3 [(1, .int v9), (0, .ref (B + 49))] → WD B D cA s.heap kd ig10 rg lg5 H locs → H.size = sz → (0 ≤ v9.toInt) → (v9.toInt ≤ 288) → (KI B ig10) → (∀ j : Nat, (j : Int) < v9.toInt → ig10 (B + 73) j = 1) → (Off B 66 74 ig10 ig) → 288 - v9.toInt < (n : Int) → W p l e (rL 2 0 0) s m args below meth c H locs 0 0 (MQ below (QcW B D cA (fun r kd' ig' rg' lg' n => kd = kd' ∧ rg = rg' ∧ True ∧ n = sz ∧ (r = none) ∧ True)) args s 0 0 (fun q => B ≤ q)) (F0 m 6 ls []) := by
    intro n6
    induction n6 with
    | zero => intro ls H locs ig10 v9 hl hw hsz g6_0 g6_1 g6_2 g6_3 g6_4 hmu; exact absurd hmu (by omega)
    | succ n6 ih6 =>
      intro ls H locs ig10 v9 hl hw hsz g6_0 g6_1 g6_2 g6_3 g6_4 hmu
      have oig := g6_4
      have hki := g6_2
      have hdn := g6_3
      refine lv_iload_n hx hb dX12_works_6 rfl (lv_at hl 0 rfl) ?_
      refine lv_sipush (v := 288) hx hb dX12_works_7 (by decide) (ti_c 288 (by decide) fun z11 hz11 => ?_)
      refine b_ge (tgt := 164) hx hb dX12_works_10 (by decide) (fun c10 => ?_) (fun c10 => ?_)
      · refine lv_iconst (v := 1) hx hb dX12_works_164 (by decide) (ti_c 1 (by decide) fun z12 hz12 => ?_)
        refine lv_istore_n (lv' := [(1, .int z12), (0, .ref (B + 49))]) hx hb dX12_works_165 rfl hl (by decide) rfl (fun ls hl => ?_)
        have L166 : ∀ (n : Nat) (ls : Array Slot) (H : Heap) (locs : List Loc) (v13 : Int32), lv_has ls 3 [(1, .int v13), (0, .ref (B + 49))] → WD B D cA s.heap kd ig10 rg lg5 H locs → H.size = sz → (v13.toInt = 0 ∨ v13.toInt = 1) → v13.toInt < (n : Int) → W p l e (rL 2 0 0) s m args below meth c H locs 0 0 (MQ below (QcW B D cA (fun r kd' ig' rg' lg' n => kd = kd' ∧ rg = rg' ∧ True ∧ n = sz ∧ (r = none) ∧ True)) args s 0 0 (fun q => B ≤ q)) (F0 m 166 ls []) := by
          intro n166
          induction n166 with
          | zero => intro ls H locs v13 hl hw hsz g166_0 hmu; exact absurd hmu (by omega)
          | succ n166 ih166 =>
            intro ls H locs v13 hl hw hsz g166_0 hmu
            refine lv_iload_n hx hb dX12_works_166 rfl (lv_at hl 0 rfl) ?_
            refine z_eq (tgt := 221) hx hb dX12_works_167 (by decide) (fun c167 => ?_) (fun c167 => ?_)
            · refine lv_aload_n hx hb dX12_works_221 rfl (lv_at hl 1 rfl) ?_
              refine r_callV (As := []) (rest := []) C hw (t_X12_findFamilies l B D cA kd ig10 rg lg5 _ hki hsh hrm) sv_X12_238 (hsh 49 _ rfl) rfl hl.1 rfl (Nat.le_of_ble_eq_true rfl) ⟨Nat.le_of_ble_eq_true rfl, Nat.le_of_ble_eq_true rfl⟩ ⟨Nat.le_of_ble_eq_true rfl, Nat.le_of_ble_eq_true rfl⟩ dX12_works_222 (fun r19 kd15 ig16 rg17 lg18 H locs hw hH hp20 => ?_)
              obtain ⟨rfl, rfl, rfl, hq14, rfl, ht14⟩ := hp20
              have hsz := hq14.trans hsz
              exact r_vret C hw hr hlk (Nat.le_of_ble_eq_true rfl) (Nat.le_of_ble_eq_true rfl) dX12_works_225 ⟨rfl, rfl, trivial, hsz, rfl, trivial⟩
            · refine lv_iconst (v := 0) hx hb dX12_works_170 (by decide) (ti_c 0 (by decide) fun z21 hz21 => ?_)
              refine lv_istore_n (lv' := [(1, .int z21), (0, .ref (B + 49))]) hx hb dX12_works_171 rfl hl (by decide) rfl (fun ls hl => ?_)
              refine lv_iconst (v := 0) hx hb dX12_works_172 (by decide) (ti_c 0 (by decide) fun z22 hz22 => ?_)
              refine lv_istore_n (lv' := [(2, .int z22), (1, .int z21), (0, .ref (B + 49))]) hx hb dX12_works_173 rfl hl (by decide) rfl (fun ls hl => ?_)
              have L174 : ∀ (n : Nat) (ls : Array Slot) (H : Heap) (locs : List Loc) (v23 : Int32), lv_has ls 3 [(2, .int v23), (1, .int z21), (0, .ref (B + 49))] → WD B D cA s.heap kd ig10 rg lg5 H locs → H.size = sz → (0 ≤ v23.toInt) → (v23.toInt ≤ 288) → (z21.toInt = 0) → 288 - v23.toInt < (n : Int) → W p l e (rL 2 0 0) s m args below meth c H locs 0 0 (MQ below (QcW B D cA (fun r kd' ig' rg' lg' n => kd = kd' ∧ rg = rg' ∧ True ∧ n = sz ∧ (r = none) ∧ True)) args s 0 0 (fun q => B ≤ q)) (F0 m 174 ls []) := by
                intro n174
                induction n174 with
                | zero => intro ls H locs v23 hl hw hsz g174_0 g174_1 g174_2 hmu; exact absurd hmu (by omega)
                | succ n174 ih174 =>
                  intro ls H locs v23 hl hw hsz g174_0 g174_1 g174_2 hmu
                  refine lv_iload_n hx hb dX12_works_174 rfl (lv_at hl 0 rfl) ?_
                  refine lv_sipush (v := 288) hx hb dX12_works_175 (by decide) (ti_c 288 (by decide) fun z24 hz24 => ?_)
                  refine b_ge (tgt := 218) hx hb dX12_works_178 (by decide) (fun c178 => ?_) (fun c178 => ?_)
                  · refine lv_goto (tgt := 166) hx hb dX12_works_218 (by decide) ?_
                    exact ih166 ls H locs z21 (lv_sub hl [1, 2] rfl) hw hsz (by omega) (by omega)
                  · refine lv_aload_n hx hb dX12_works_181 rfl (lv_at hl 2 rfl) ?_
                    refine r_get C hw (hsh 49 _ rfl) fl_X12_124 (oV_r rfl (hrm (49, 30, 73) (by decide))) dX12_works_182 ?_
                    refine lv_iload_n hx hb dX12_works_185 rfl (lv_at hl 0 rfl) ?_
                    refine r_zald C hw (hsh 73 _ rfl) (by omega) (by omega) dX12_works_186 (ti_c (ig10 (B + 73) v23.toInt.toNat).toInt rfl fun z25 hz25 => ?_)
                    have k26 := zz1 (hdn (v23.toInt.toNat) (by omega))
                    refine z_ne (tgt := 212) hx hb dX12_works_187 (by decide) (fun c187 => ?_) (fun c187 => ?_)
                    · refine ti_inc hx hb dX12_works_212 hl (k := 0) rfl (by decide) (by decide) (by omega) (fun z27 hz27 ls hl => ?_)
                      have hl : lv_has ls 3 [(2, .int z27), (1, .int z21), (0, .ref (B + 49))] := hl
                      refine lv_goto (tgt := 174) hx hb dX12_works_215 (by decide) ?_
                      exact ih174 ls H locs z27 (lv_sub hl [0, 1, 2] rfl) hw hsz (by omega) (by omega) (by omega) (by omega)
                    · exact absurd c187 (by omega)
              exact L174 ((288 - z22.toInt) + 1).toNat ls H locs z22 (lv_sub hl [0, 1, 2] rfl) hw hsz (by omega) (by omega) (by omega) (by omega)
        exact L166 ((z12.toInt) + 1).toNat ls H locs z12 (lv_sub hl [0, 1] rfl) hw hsz (by omega) (by omega)
      · refine lv_aload_n hx hb dX12_works_13 rfl (lv_at hl 1 rfl) ?_
        refine r_get C hw (hsh 49 _ rfl) fl_X12_124 (oV_r rfl (hrm (49, 30, 73) (by decide))) dX12_works_14 ?_
        refine lv_iload_n hx hb dX12_works_17 rfl (lv_at hl 0 rfl) ?_
        refine lv_aload_n hx hb dX12_works_18 rfl (lv_at hl 1 rfl) ?_
        refine r_get C hw (hsh 49 _ rfl) fl_X12_80 (oV_r rfl (hrm (49, 15, 59) (by decide))) dX12_works_19 ?_
        refine lv_iload_n hx hb dX12_works_22 rfl (lv_at hl 0 rfl) ?_
        refine r_iald C hw (hsh 59 _ rfl) (by omega) (by omega) dX12_works_23 (ti_c (ig10 (B + 59) v9.toInt.toNat).toInt rfl fun z28 hz28 => ?_)
        have k29 := (show KI B ig10 from hki).1 (v9.toInt.toNat) (by omega)
        refine lv_iconst (v := 2) hx hb dX12_works_24 (by decide) (ti_c 2 (by decide) fun z30 hz30 => ?_)
        refine b_ne (tgt := 36) hx hb dX12_works_25 (by decide) (fun c25 => ?_) (fun c25 => ?_)
        · refine lv_iconst (v := 1) hx hb dX12_works_36 (by decide) (ti_c 1 (by decide) fun z31 hz31 => ?_)
          refine lv_goto (tgt := 41) hx hb dX12_works_37 (by decide) ?_
          refine r_zast C hw (hsh 73 _ rfl) (by omega) (by omega) (nar_b (by omega)) dX12_works_41 (fun H locs hH hw => ?_)
          obtain ⟨ig32, eig32⟩ : ∃ f, f = up2 ig10 (B + 73) v9.toInt.toNat z31 := ⟨_, rfl⟩
          rw [← eig32] at hw
          have hsz := hH.trans hsz
          have oig : Off B 66 74 ig32 ig := fun a j h => by rw [eig32]; exact (up2_a (by omega)).trans (oig a j h)
          refine lv_aload_n hx hb dX12_works_42 rfl (lv_at hl 1 rfl) ?_
          refine r_get C hw (hsh 49 _ rfl) fl_X12_102 (oV_r rfl (hrm (49, 23, 66) (by decide))) dX12_works_43 ?_
          refine lv_iload_n hx hb dX12_works_46 rfl (lv_at hl 0 rfl) ?_
          refine lv_aload_n hx hb dX12_works_47 rfl (lv_at hl 1 rfl) ?_
          refine r_get C hw (hsh 49 _ rfl) fl_X12_80 (oV_r rfl (hrm (49, 15, 59) (by decide))) dX12_works_48 ?_
          refine lv_iload_n hx hb dX12_works_51 rfl (lv_at hl 0 rfl) ?_
          refine r_iald C hw (hsh 59 _ rfl) (by omega) (by omega) dX12_works_52 (ti_c (ig32 (B + 59) v9.toInt.toNat).toInt rfl fun z33 hz33 => ?_)
          have k34 := (show KI B ig32 from by rw [eig32]; exact (KI.o hki (by decide))).1 (v9.toInt.toNat) (by omega)
          refine lv_iconst (v := 1) hx hb dX12_works_53 (by decide) (ti_c 1 (by decide) fun z35 hz35 => ?_)
          have J67 : ∀ (ls : Array Slot) (H : Heap) (locs : List Loc) (u36 : Int32), lv_has ls 3 [(1, .int v9), (0, .ref (B + 49))] → WD B D cA s.heap kd ig32 rg lg5 H locs → H.size = sz → W p l e (rL 2 0 0) s m args below meth c H locs 0 0 (MQ below (QcW B D cA (fun r kd' ig' rg' lg' n => kd = kd' ∧ rg = rg' ∧ True ∧ n = sz ∧ (r = none) ∧ True)) args s 0 0 (fun q => B ≤ q)) (F0 m 67 ls [.int u36, .int v9, .ref (B + 66)]) := by
            intro ls H locs u36 hl hw hsz 
            refine r_iast C hw (hsh 66 _ rfl) (by omega) (by omega) dX12_works_67 (fun H locs hH hw => ?_)
            obtain ⟨ig37, eig37⟩ : ∃ f, f = up2 ig32 (B + 66) v9.toInt.toNat u36 := ⟨_, rfl⟩
            rw [← eig37] at hw
            have hsz := hH.trans hsz
            have oig : Off B 66 74 ig37 ig := fun a j h => by rw [eig37]; exact (up2_a (by omega)).trans (oig a j h)
            refine lv_aload_n hx hb dX12_works_68 rfl (lv_at hl 1 rfl) ?_
            refine r_get C hw (hsh 49 _ rfl) fl_X12_105 (oV_r rfl (hrm (49, 24, 67) (by decide))) dX12_works_69 ?_
            refine lv_iload_n hx hb dX12_works_72 rfl (lv_at hl 0 rfl) ?_
            refine lv_aload_n hx hb dX12_works_73 rfl (lv_at hl 1 rfl) ?_
            refine r_get C hw (hsh 49 _ rfl) fl_X12_80 (oV_r rfl (hrm (49, 15, 59) (by decide))) dX12_works_74 ?_
            refine lv_iload_n hx hb dX12_works_77 rfl (lv_at hl 0 rfl) ?_
            refine r_iald C hw (hsh 59 _ rfl) (by omega) (by omega) dX12_works_78 (ti_c (ig37 (B + 59) v9.toInt.toNat).toInt rfl fun z38 hz38 => ?_)
            have k39 := (show KI B ig37 from by rw [eig37, eig32]; exact (KI.o (KI.o hki (by decide)) (by decide))).1 (v9.toInt.toNat) (by omega)
            refine lv_iconst (v := 2) hx hb dX12_works_79 (by decide) (ti_c 2 (by decide) fun z40 hz40 => ?_)
            refine b_ne (tgt := 95) hx hb dX12_works_80 (by decide) (fun c80 => ?_) (fun c80 => ?_)
            · refine lv_iconst (v := 0) hx hb dX12_works_95 (by decide) (ti_c 0 (by decide) fun z41 hz41 => ?_)
              refine r_iast C hw (hsh 67 _ rfl) (by omega) (by omega) dX12_works_96 (fun H locs hH hw => ?_)
              obtain ⟨ig42, eig42⟩ : ∃ f, f = up2 ig37 (B + 67) v9.toInt.toNat z41 := ⟨_, rfl⟩
              rw [← eig42] at hw
              have hsz := hH.trans hsz
              have oig : Off B 66 74 ig42 ig := fun a j h => by rw [eig42]; exact (up2_a (by omega)).trans (oig a j h)
              refine lv_aload_n hx hb dX12_works_97 rfl (lv_at hl 1 rfl) ?_
              refine r_get C hw (hsh 49 _ rfl) fl_X12_111 (oV_r rfl (hrm (49, 26, 69) (by decide))) dX12_works_98 ?_
              refine lv_iload_n hx hb dX12_works_101 rfl (lv_at hl 0 rfl) ?_
              refine lv_iconst (v := 0) hx hb dX12_works_102 (by decide) (ti_c 0 (by decide) fun z43 hz43 => ?_)
              refine r_zast C hw (hsh 69 _ rfl) (by omega) (by omega) (nar_b (by omega)) dX12_works_103 (fun H locs hH hw => ?_)
              obtain ⟨ig44, eig44⟩ : ∃ f, f = up2 ig42 (B + 69) v9.toInt.toNat z43 := ⟨_, rfl⟩
              rw [← eig44] at hw
              have hsz := hH.trans hsz
              have oig : Off B 66 74 ig44 ig := fun a j h => by rw [eig44]; exact (up2_a (by omega)).trans (oig a j h)
              refine lv_aload_n hx hb dX12_works_104 rfl (lv_at hl 1 rfl) ?_
              refine r_get C hw (hsh 49 _ rfl) fl_X12_114 (oV_r rfl (hrm (49, 27, 70) (by decide))) dX12_works_105 ?_
              refine lv_iload_n hx hb dX12_works_108 rfl (lv_at hl 0 rfl) ?_
              refine lv_iconst (v := 0) hx hb dX12_works_109 (by decide) (ti_c 0 (by decide) fun z45 hz45 => ?_)
              refine r_zast C hw (hsh 70 _ rfl) (by omega) (by omega) (nar_b (by omega)) dX12_works_110 (fun H locs hH hw => ?_)
              obtain ⟨ig46, eig46⟩ : ∃ f, f = up2 ig44 (B + 70) v9.toInt.toNat z45 := ⟨_, rfl⟩
              rw [← eig46] at hw
              have hsz := hH.trans hsz
              have oig : Off B 66 74 ig46 ig := fun a j h => by rw [eig46]; exact (up2_a (by omega)).trans (oig a j h)
              refine lv_iconst (v := 0) hx hb dX12_works_111 (by decide) (ti_c 0 (by decide) fun z47 hz47 => ?_)
              refine lv_istore_n (lv' := [(2, .int z47), (1, .int v9), (0, .ref (B + 49))]) hx hb dX12_works_112 rfl hl (by decide) rfl (fun ls hl => ?_)
              have L113 : ∀ (n : Nat) (ls : Array Slot) (H : Heap) (locs : List Loc) (ig49 : sI) (v48 : Int32), lv_has ls 3 [(2, .int v48), (1, .int v9), (0, .ref (B + 49))] → WD B D cA s.heap kd ig49 rg lg5 H locs → H.size = sz → (0 ≤ v48.toInt) → (v48.toInt ≤ 3) → (KI B ig49) → (∀ j : Nat, (j : Int) < (v9.toInt + 1) → ig49 (B + 73) j = 1) → (Off B 66 74 ig49 ig) → 3 - v48.toInt < (n : Int) → W p l e (rL 2 0 0) s m args below meth c H locs 0 0 (MQ below (QcW B D cA (fun r kd' ig' rg' lg' n => kd = kd' ∧ rg = rg' ∧ True ∧ n = sz ∧ (r = none) ∧ True)) args s 0 0 (fun q => B ≤ q)) (F0 m 113 ls []) := by
                intro n113
                induction n113 with
                | zero => intro ls H locs ig49 v48 hl hw hsz g113_0 g113_1 g113_2 g113_3 g113_4 hmu; exact absurd hmu (by omega)
                | succ n113 ih113 =>
                  intro ls H locs ig49 v48 hl hw hsz g113_0 g113_1 g113_2 g113_3 g113_4 hmu
                  have oig := g113_4
                  have hki := g113_2
                  have hdn2 := g113_3
                  refine lv_iload_n hx hb dX12_works_113 rfl (lv_at hl 0 rfl) ?_
                  refine lv_iconst (v := 3) hx hb dX12_works_114 (by decide) (ti_c 3 (by decide) fun z50 hz50 => ?_)
                  refine b_ge (tgt := 158) hx hb dX12_works_115 (by decide) (fun c115 => ?_) (fun c115 => ?_)
                  · refine ti_inc hx hb dX12_works_158 hl (k := 1) rfl (by decide) (by decide) (by omega) (fun z51 hz51 ls hl => ?_)
                    have hl : lv_has ls 3 [(1, .int z51), (2, .int v48), (0, .ref (B + 49))] := hl
                    refine lv_goto (tgt := 6) hx hb dX12_works_161 (by decide) ?_
                    exact ih6 ls H locs ig49 z51 (lv_sub hl [0, 2] rfl) hw hsz (by omega) (by omega) (hki) (fun j hj => hdn2 j (by omega)) oig (by omega)
                  · refine lv_aload_n hx hb dX12_works_118 rfl (lv_at hl 2 rfl) ?_
                    refine r_get C hw (hsh 49 _ rfl) fl_X12_108 (oV_r rfl (hrm (49, 25, 68) (by decide))) dX12_works_119 ?_
                    refine lv_iconst (v := 3) hx hb dX12_works_122 (by decide) (ti_c 3 (by decide) fun z52 hz52 => ?_)
                    refine lv_iload_n hx hb dX12_works_123 rfl (lv_at hl 1 rfl) ?_
                    refine lv_imul hx hb dX12_works_124 (ti_mulL 3 hz52 (by omega) fun z53 hz53 => ?_)
                    refine lv_iload_n hx hb dX12_works_125 rfl (lv_at hl 0 rfl) ?_
                    refine lv_iadd hx hb dX12_works_126 (ti_add (by omega) fun z54 hz54 => ?_)
                    refine lv_aload_n hx hb dX12_works_127 rfl (lv_at hl 2 rfl) ?_
                    refine r_get C hw (hsh 49 _ rfl) fl_X12_80 (oV_r rfl (hrm (49, 15, 59) (by decide))) dX12_works_128 ?_
                    refine lv_iload_n hx hb dX12_works_131 rfl (lv_at hl 1 rfl) ?_
                    refine r_iald C hw (hsh 59 _ rfl) (by omega) (by omega) dX12_works_132 (ti_c (ig49 (B + 59) v9.toInt.toNat).toInt rfl fun z55 hz55 => ?_)
                    have k56 := (show KI B ig49 from hki).1 (v9.toInt.toNat) (by omega)
                    refine lv_iconst (v := 1) hx hb dX12_works_133 (by decide) (ti_c 1 (by decide) fun z57 hz57 => ?_)
                    have J151 : ∀ (ls : Array Slot) (H : Heap) (locs : List Loc) (u58 : Int32), lv_has ls 3 [(2, .int v48), (1, .int v9), (0, .ref (B + 49))] → WD B D cA s.heap kd ig49 rg lg5 H locs → H.size = sz → W p l e (rL 2 0 0) s m args below meth c H locs 0 0 (MQ below (QcW B D cA (fun r kd' ig' rg' lg' n => kd = kd' ∧ rg = rg' ∧ True ∧ n = sz ∧ (r = none) ∧ True)) args s 0 0 (fun q => B ≤ q)) (F0 m 151 ls [.int u58, .int z54, .ref (B + 68)]) := by
                      intro ls H locs u58 hl hw hsz 
                      refine r_iast C hw (hsh 68 _ rfl) (by omega) (by omega) dX12_works_151 (fun H locs hH hw => ?_)
                      obtain ⟨ig59, eig59⟩ : ∃ f, f = up2 ig49 (B + 68) z54.toInt.toNat u58 := ⟨_, rfl⟩
                      rw [← eig59] at hw
                      have hsz := hH.trans hsz
                      have oig : Off B 66 74 ig59 ig := fun a j h => by rw [eig59]; exact (up2_a (by omega)).trans (oig a j h)
                      refine ti_inc hx hb dX12_works_152 hl (k := 0) rfl (by decide) (by decide) (by omega) (fun z60 hz60 ls hl => ?_)
                      have hl : lv_has ls 3 [(2, .int z60), (1, .int v9), (0, .ref (B + 49))] := hl
                      refine lv_goto (tgt := 113) hx hb dX12_works_155 (by decide) ?_
                      exact ih113 ls H locs ig59 z60 (lv_sub hl [0, 1, 2] rfl) hw hsz (by omega) (by omega) (by rw [eig59]; exact (KI.o hki (by decide))) (by intro j hj; rw [eig59, up2_a (by omega)]; exact hdn2 j hj) oig (by omega)
                    refine b_ne (tgt := 150) hx hb dX12_works_134 (by decide) (fun c134 => ?_) (fun c134 => ?_)
                    · refine lv_iconst (v := 0) hx hb dX12_works_150 (by decide) (ti_c 0 (by decide) fun z61 hz61 => ?_)
                      exact J151 ls H locs z61 (lv_sub hl [0, 1, 2] rfl) hw hsz 
                    · refine lv_aload_n hx hb dX12_works_137 rfl (lv_at hl 2 rfl) ?_
                      refine r_get C hw (hsh 49 _ rfl) fl_X12_86 (oV_r rfl (hrm (49, 17, 61) (by decide))) dX12_works_138 ?_
                      refine lv_iconst (v := 3) hx hb dX12_works_141 (by decide) (ti_c 3 (by decide) fun z62 hz62 => ?_)
                      refine lv_iload_n hx hb dX12_works_142 rfl (lv_at hl 1 rfl) ?_
                      refine lv_imul hx hb dX12_works_143 (ti_mulL 3 hz62 (by omega) fun z63 hz63 => ?_)
                      refine lv_iload_n hx hb dX12_works_144 rfl (lv_at hl 0 rfl) ?_
                      refine lv_iadd hx hb dX12_works_145 (ti_add (by omega) fun z64 hz64 => ?_)
                      refine r_iald C hw (hsh 61 _ rfl) (by omega) (by omega) dX12_works_146 (ti_c (ig49 (B + 61) z64.toInt.toNat).toInt rfl fun z65 hz65 => ?_)
                      refine lv_goto (tgt := 151) hx hb dX12_works_147 (by decide) ?_
                      exact J151 ls H locs z65 (lv_sub hl [0, 1, 2] rfl) hw hsz 
              exact L113 ((3 - z47.toInt) + 1).toNat ls H locs ig46 z47 (lv_sub hl [0, 1, 2] rfl) hw hsz (by omega) (by omega) (by rw [eig46, eig44, eig42, eig37, eig32]; exact (KI.o (KI.o (KI.o (KI.o (KI.o hki (by decide)) (by decide)) (by decide)) (by decide)) (by decide))) (by intro j hj; rw [eig46, up2_a (by omega), eig44, up2_a (by omega), eig42, up2_a (by omega), eig37, up2_a (by omega), eig32]; exact fill1 hdn (by omega) (eq1 (by omega)) j (by omega)) oig (by omega)
            · exact absurd c80 (by omega)
          refine b_ne (tgt := 66) hx hb dX12_works_54 (by decide) (fun c54 => ?_) (fun c54 => ?_)
          · refine lv_iconst (v := 0) hx hb dX12_works_66 (by decide) (ti_c 0 (by decide) fun z66 hz66 => ?_)
            exact J67 ls H locs z66 (lv_sub hl [0, 1] rfl) hw hsz 
          · refine lv_aload_n hx hb dX12_works_57 rfl (lv_at hl 1 rfl) ?_
            refine r_get C hw (hsh 49 _ rfl) fl_X12_83 (oV_r rfl (hrm (49, 16, 60) (by decide))) dX12_works_58 ?_
            refine lv_iload_n hx hb dX12_works_61 rfl (lv_at hl 0 rfl) ?_
            refine r_iald C hw (hsh 60 _ rfl) (by omega) (by omega) dX12_works_62 (ti_c (ig32 (B + 60) v9.toInt.toNat).toInt rfl fun z67 hz67 => ?_)
            refine lv_goto (tgt := 67) hx hb dX12_works_63 (by decide) ?_
            exact J67 ls H locs z67 (lv_sub hl [0, 1] rfl) hw hsz 
        · exact absurd c25 (by omega)
  exact L6 ((288 - z8.toInt) + 1).toNat ls H locs ig z8 (lv_sub hl [0, 1] rfl) hw hsz (by omega) (by omega) (hki) (fun j hj => absurd hj (by omega)) oig (by omega)

set_option maxHeartbeats 4000000 in
set_option maxRecDepth 100000 in
theorem t_X12_puts (l : Launch) (B : Nat) (D : va_G) (cA : Nat → ClassId) (kd : sK) (ig : sI) (rg : sR) (lg : sG) (sz : Nat) (x : Int32) (hx0 : (0 ≤ x.toInt ∧ x.toInt < 288)) (hu : ig (B + 49) 19 = 0) (hki : KI B ig) (hsh : Sh B kd) (hrm : Rm B rg) : MC l B D cA yX12_puts cX12_puts 3 none (rL 3 0 0) [.ref (B + 49), .int x] kd ig rg lg sz (fun r kd' ig' rg' lg' n => kd = kd' ∧ rg = rg' ∧ True ∧ n = sz ∧ (r = none) ∧ True) := by
  refine MC.of (own := RX12) (by decide +kernel) rfl (Nat.le_of_ble_eq_true rfl) ?_
  intro p e s m args below meth c ls C hr hlk hnm hw hsz hl
  have hx := C.1.1
  have hb := C.1.2.1
  have hown := C.1.2.2.2.1
  have hts := C.1.2.2.2.2
  have hl : lv_has ls 3 [(0, .ref (B + 49)), (1, .int x)] := hl
  have oig0 : Off B 58 62 ig ig := Off.rf
  refine lv_aload_n hx hb dX12_puts_0 rfl (lv_at hl 0 rfl) ?_
  refine r_get C hw (hsh 49 _ rfl) fl_X12_188 (oV_i rfl) dX12_puts_1 (ti_c (ig (B + 49) 19).toInt rfl fun z1 hz1 => ?_)
  have k2 : (ig (B + 49) 19).toInt = 0 := z0 ((oig0 (B + 49) 19 (by omega)).trans hu)
  refine lv_bipush (v := 20) hx hb dX12_puts_4 (by decide) (ti_c 20 (by decide) fun z3 hz3 => ?_)
  refine b_ne (tgt := 61) hx hb dX12_puts_6 (by decide) (fun c6 => ?_) (fun c6 => ?_)
  · refine lv_aload_n hx hb dX12_puts_61 rfl (lv_at hl 0 rfl) ?_
    refine lv_iload_n hx hb dX12_puts_62 rfl (lv_at hl 1 rfl) ?_
    refine lv_sipush (v := 289) hx hb dX12_puts_63 (by decide) (ti_c 289 (by decide) fun z4 hz4 => ?_)
    refine lv_aload_n hx hb dX12_puts_66 rfl (lv_at hl 0 rfl) ?_
    refine r_get C hw (hsh 49 _ rfl) fl_X12_188 (oV_i rfl) dX12_puts_67 (ti_c (ig (B + 49) 19).toInt rfl fun z5 hz5 => ?_)
    have k6 : (ig (B + 49) 19).toInt = 0 := z0 ((oig0 (B + 49) 19 (by omega)).trans hu)
    refine lv_iadd hx hb dX12_puts_70 (ti_add (by omega) fun z7 hz7 => ?_)
    refine r_callV (As := [.int x, .int z7]) (rest := []) C hw (t_X12_copyRow l B D cA kd ig rg lg _ x z7 (by omega) (by omega) (hki) hsh hrm) sv_X12_191 (hsh 49 _ rfl) rfl hl.1 rfl (Nat.le_of_ble_eq_true rfl) ⟨Nat.le_of_ble_eq_true rfl, Nat.le_of_ble_eq_true rfl⟩ ⟨Nat.le_of_ble_eq_true rfl, Nat.le_of_ble_eq_true rfl⟩ dX12_puts_71 (fun r13 kd9 ig10 rg11 lg12 H locs hw hH hp14 => ?_)
    obtain ⟨rfl, rfl, rfl, hq8, rfl, oa8, hki⟩ := hp14
    have hsz := hq8.trans hsz
    have oig0 := oa8
    refine lv_aload_n hx hb dX12_puts_74 rfl (lv_at hl 0 rfl) ?_
    refine r_get C hw (hsh 49 _ rfl) fl_X12_93 (oV_r rfl (hrm (49, 20, 63) (by decide))) dX12_puts_75 ?_
    refine lv_aload_n hx hb dX12_puts_78 rfl (lv_at hl 0 rfl) ?_
    refine r_get C hw (hsh 49 _ rfl) fl_X12_188 (oV_i rfl) dX12_puts_79 (ti_c (ig10 (B + 49) 19).toInt rfl fun z15 hz15 => ?_)
    have k16 : (ig10 (B + 49) 19).toInt = 0 := z0 ((oig0 (B + 49) 19 (by omega)).trans hu)
    refine lv_iload_n hx hb dX12_puts_82 rfl (lv_at hl 1 rfl) ?_
    refine r_iast C hw (hsh 63 _ rfl) (by omega) (by omega) dX12_puts_83 (fun H locs hH hw => ?_)
    obtain ⟨ig17, eig17⟩ : ∃ f, f = up2 ig10 (B + 63) z15.toInt.toNat x := ⟨_, rfl⟩
    rw [← eig17] at hw
    have hsz := hH.trans hsz
    refine lv_aload_n hx hb dX12_puts_84 rfl (lv_at hl 0 rfl) ?_
    refine lv_dup hx hb dX12_puts_85 rfl ?_
    refine r_get C hw (hsh 49 _ rfl) fl_X12_188 (oV_i rfl) dX12_puts_86 (ti_c (ig17 (B + 49) 19).toInt rfl fun z18 hz18 => ?_)
    have k19 : (ig17 (B + 49) 19).toInt = 0 := by rw [eig17, up2_a (by omega)]; exact z0 ((oig0 (B + 49) 19 (by omega)).trans hu)
    refine lv_iconst (v := 1) hx hb dX12_puts_89 (by decide) (ti_c 1 (by decide) fun z20 hz20 => ?_)
    refine lv_iadd hx hb dX12_puts_90 (ti_add (by omega) fun z21 hz21 => ?_)
    refine r_puti C hw (hsh 49 _ rfl) fl_X12_188 rfl rfl rfl dX12_puts_91 (fun H locs hH hw => ?_)
    obtain ⟨ig22, eig22⟩ : ∃ f, f = up2 ig17 (B + 49) 19 z21 := ⟨_, rfl⟩
    rw [← eig22] at hw
    have hsz := hH.trans hsz
    refine lv_aload_n hx hb dX12_puts_94 rfl (lv_at hl 0 rfl) ?_
    refine lv_sipush (v := 288) hx hb dX12_puts_95 (by decide) (ti_c 288 (by decide) fun z23 hz23 => ?_)
    refine lv_iload_n hx hb dX12_puts_98 rfl (lv_at hl 1 rfl) ?_
    refine r_callV (As := [.int z23, .int x]) (rest := []) C hw (t_X12_copyRow l B D cA kd ig22 rg lg _ z23 x (by omega) (by omega) (by rw [eig22, eig17]; exact (KI.o (KI.o hki (by decide)) (by decide))) hsh hrm) sv_X12_191 (hsh 49 _ rfl) rfl hl.1 rfl (Nat.le_of_ble_eq_true rfl) ⟨Nat.le_of_ble_eq_true rfl, Nat.le_of_ble_eq_true rfl⟩ ⟨Nat.le_of_ble_eq_true rfl, Nat.le_of_ble_eq_true rfl⟩ dX12_puts_99 (fun r29 kd25 ig26 rg27 lg28 H locs hw hH hp30 => ?_)
    obtain ⟨rfl, rfl, rfl, hq24, rfl, oa24, hki⟩ := hp30
    have hsz := hq24.trans hsz
    have oig0 := oa24
    refine lv_aload_n hx hb dX12_puts_102 rfl (lv_at hl 0 rfl) ?_
    refine r_callV (As := []) (rest := []) C hw (t_X12_works l B D cA kd ig26 rg lg _ (hki) hsh hrm) sv_X12_195 (hsh 49 _ rfl) rfl hl.1 rfl (Nat.le_of_ble_eq_true rfl) ⟨Nat.le_of_ble_eq_true rfl, Nat.le_of_ble_eq_true rfl⟩ ⟨Nat.le_of_ble_eq_true rfl, Nat.le_of_ble_eq_true rfl⟩ dX12_puts_103 (fun r36 kd32 ig33 rg34 lg35 H locs hw hH hp37 => ?_)
    obtain ⟨rfl, rfl, ht31, hq31, rfl, hu31⟩ := hp37
    have hsz := hq31.trans hsz
    exact r_vret C hw hr hlk (Nat.le_of_ble_eq_true rfl) (Nat.le_of_ble_eq_true rfl) dX12_puts_106 ⟨rfl, rfl, trivial, hsz, rfl, trivial⟩
  · exact absurd c6 (by omega)

set_option maxHeartbeats 4000000 in
set_option maxRecDepth 100000 in
theorem t_X12_makesCopy (l : Launch) (B : Nat) (D : va_G) (cA : Nat → ClassId) (kd : sK) (ig : sI) (rg : sR) (lg : sG) (sz : Nat) (x y : Int32) (hx0 : (0 ≤ x.toInt ∧ x.toInt < 288)) (hy0 : (0 ≤ y.toInt ∧ y.toInt < 288)) (hki : KI B ig) (hsh : Sh B kd) (hrm : Rm B rg) : MC l B D cA yX12_makesCopy cX12_makesCopy 8 (some .boolean) (rL 1 0 0) [.ref (B + 49), .int x, .int y] kd ig rg lg sz (fun r kd' ig' rg' lg' n => kd = kd' ∧ rg = rg' ∧ lg = lg' ∧ n = sz ∧ (∃ z : Int32, r = some (.int z) ∧ z.toInt = 1) ∧ Off B 58 62 ig' ig ∧ KI B ig') := by
  refine MC.of (own := RX12) (by decide +kernel) rfl (Nat.le_of_ble_eq_true rfl) ?_
  intro p e s m args below meth c ls C hr hlk hnm hw hsz hl
  have hx := C.1.1
  have hb := C.1.2.1
  have hown := C.1.2.2.2.1
  have hts := C.1.2.2.2.2
  have hl : lv_has ls 8 [(0, .ref (B + 49)), (1, .int x), (2, .int y)] := hl
  have oig : Off B 58 62 ig ig := Off.rf
  refine lv_aload_n hx hb dX12_makesCopy_0 rfl (lv_at hl 0 rfl) ?_
  refine lv_iload_n hx hb dX12_makesCopy_1 rfl (lv_at hl 1 rfl) ?_
  refine lv_sipush (v := 288) hx hb dX12_makesCopy_2 (by decide) (ti_c 288 (by decide) fun z1 hz1 => ?_)
  refine r_callV (As := [.int x, .int z1]) (rest := []) C hw (t_X12_copyRow l B D cA kd ig rg lg _ x z1 (by omega) (by omega) (hki) hsh hrm) sv_X12_191 (hsh 49 _ rfl) rfl hl.1 rfl (Nat.le_of_ble_eq_true rfl) ⟨Nat.le_of_ble_eq_true rfl, Nat.le_of_ble_eq_true rfl⟩ ⟨Nat.le_of_ble_eq_true rfl, Nat.le_of_ble_eq_true rfl⟩ dX12_makesCopy_5 (fun r7 kd3 ig4 rg5 lg6 H locs hw hH hp8 => ?_)
  obtain ⟨rfl, rfl, rfl, hq2, rfl, oa2, hki⟩ := hp8
  have hsz := hq2.trans hsz
  have oig := Off.tr (lo := 58) (hi := 62) oa2 oig (by decide) (by decide)
  refine lv_iconst (v := 0) hx hb dX12_makesCopy_8 (by decide) (ti_c 0 (by decide) fun z9 hz9 => ?_)
  refine lv_istore_n (lv' := [(3, .int z9), (0, .ref (B + 49)), (1, .int x), (2, .int y)]) hx hb dX12_makesCopy_9 rfl hl (by decide) rfl (fun ls hl => ?_)
  have L10 : ∀ (n : Nat) (ls : Array Slot) (H : Heap) (locs : List Loc) (ig11 : sI) (v10 : Int32), lv_has ls 8 [(3, .int v10), (0, .ref (B + 49)), (1, .int x), (2, .int y)] → WD B D cA s.heap kd ig11 rg lg H locs → H.size = sz → (0 ≤ v10.toInt) → (v10.toInt ≤ 3) → (KI B ig11) → (Off B 58 62 ig11 ig) → 3 - v10.toInt < (n : Int) → W p l e (rL 1 0 0) s m args below meth c H locs 0 0 (MQ below (QcW B D cA (fun r kd' ig' rg' lg' n => kd = kd' ∧ rg = rg' ∧ lg = lg' ∧ n = sz ∧ (∃ z : Int32, r = some (.int z) ∧ z.toInt = 1) ∧ Off B 58 62 ig' ig ∧ KI B ig')) args s 0 0 (fun q => B ≤ q)) (F0 m 10 ls []) := by
    intro n10
    induction n10 with
    | zero => intro ls H locs ig11 v10 hl hw hsz g10_0 g10_1 g10_2 g10_3 hmu; exact absurd hmu (by omega)
    | succ n10 ih10 =>
      intro ls H locs ig11 v10 hl hw hsz g10_0 g10_1 g10_2 g10_3 hmu
      have oig := g10_3
      have hki := g10_2
      refine lv_iload_n hx hb dX12_makesCopy_10 rfl (lv_at hl 0 rfl) ?_
      refine lv_iconst (v := 3) hx hb dX12_makesCopy_11 (by decide) (ti_c 3 (by decide) fun z12 hz12 => ?_)
      refine b_ge (tgt := 32) hx hb dX12_makesCopy_12 (by decide) (fun c12 => ?_) (fun c12 => ?_)
      · refine lv_iload_n hx hb dX12_makesCopy_32 rfl (lv_at hl 3 rfl) ?_
        refine lv_bipush (v := 12) hx hb dX12_makesCopy_33 (by decide) (ti_c 12 (by decide) fun z13 hz13 => ?_)
        refine lv_irem hx hb dX12_makesCopy_35 (ne0_of (by omega)) (ti_rem 12 hz13 (by omega) (by decide) fun z14 hz14 => ?_)
        refine lv_iload_n hx hb dX12_makesCopy_36 rfl (lv_at hl 2 rfl) ?_
        refine lv_bipush (v := 12) hx hb dX12_makesCopy_37 (by decide) (ti_c 12 (by decide) fun z15 hz15 => ?_)
        refine lv_irem hx hb dX12_makesCopy_39 (ne0_of (by omega)) (ti_rem 12 hz15 (by omega) (by decide) fun z16 hz16 => ?_)
        refine lv_isub hx hb dX12_makesCopy_40 (ti_sub (by omega) fun z17 hz17 => ?_)
        refine lv_istore_n (lv' := [(3, .int z17), (0, .ref (B + 49)), (1, .int x), (2, .int y)]) hx hb dX12_makesCopy_41 rfl hl (by decide) rfl (fun ls hl => ?_)
        refine lv_iload_n hx hb dX12_makesCopy_42 rfl (lv_at hl 3 rfl) ?_
        refine lv_bipush (v := 12) hx hb dX12_makesCopy_43 (by decide) (ti_c 12 (by decide) fun z18 hz18 => ?_)
        refine lv_idiv hx hb dX12_makesCopy_45 (ne0_of (by omega)) (ti_div 12 hz18 (by omega) (by decide) fun z19 hz19 => ?_)
        refine lv_iload_n hx hb dX12_makesCopy_46 rfl (lv_at hl 2 rfl) ?_
        refine lv_bipush (v := 12) hx hb dX12_makesCopy_47 (by decide) (ti_c 12 (by decide) fun z20 hz20 => ?_)
        refine lv_idiv hx hb dX12_makesCopy_49 (ne0_of (by omega)) (ti_div 12 hz20 (by omega) (by decide) fun z21 hz21 => ?_)
        refine lv_isub hx hb dX12_makesCopy_50 (ti_sub (by omega) fun z22 hz22 => ?_)
        refine lv_istore (lv' := [(4, .int z22), (3, .int z17), (0, .ref (B + 49)), (1, .int x), (2, .int y)]) hx hb dX12_makesCopy_51 hl (by decide) rfl (fun ls hl => ?_)
        refine lv_iconst (v := 1) hx hb dX12_makesCopy_53 (by decide) (ti_c 1 (by decide) fun z23 hz23 => ?_)
        refine lv_istore (lv' := [(5, .int z23), (4, .int z22), (3, .int z17), (0, .ref (B + 49)), (1, .int x), (2, .int y)]) hx hb dX12_makesCopy_54 hl (by decide) rfl (fun ls hl => ?_)
        refine lv_iconst (v := 0) hx hb dX12_makesCopy_56 (by decide) (ti_c 0 (by decide) fun z24 hz24 => ?_)
        refine lv_istore (lv' := [(6, .int z24), (5, .int z23), (4, .int z22), (3, .int z17), (0, .ref (B + 49)), (1, .int x), (2, .int y)]) hx hb dX12_makesCopy_57 hl (by decide) rfl (fun ls hl => ?_)
        refine lv_iload hx hb dX12_makesCopy_59 (lv_at hl 0 rfl) ?_
        refine lv_aload_n hx hb dX12_makesCopy_61 rfl (lv_at hl 4 rfl) ?_
        refine r_get C hw (hsh 49 _ rfl) fl_X12_77 (oV_r rfl (hrm (49, 13, 58) (by decide))) dX12_makesCopy_62 ?_
        refine lv_sipush (v := 288) hx hb dX12_makesCopy_65 (by decide) (ti_c 288 (by decide) fun z25 hz25 => ?_)
        refine r_iald C hw (hsh 58 _ rfl) (by omega) (by omega) dX12_makesCopy_68 (ti_c (ig11 (B + 58) z25.toInt.toNat).toInt rfl fun z26 hz26 => ?_)
        have k27 := z0 ((show KI B ig11 from hki).2 (z25.toInt.toNat) (by omega))
        refine b_ge (tgt := 209) hx hb dX12_makesCopy_69 (by decide) (fun c69 => ?_) (fun c69 => ?_)
        · refine lv_iconst (v := 0) hx hb dX12_makesCopy_209 (by decide) (ti_c 0 (by decide) fun z28 hz28 => ?_)
          refine lv_istore (lv' := [(6, .int z28), (5, .int z23), (4, .int z22), (3, .int z17), (0, .ref (B + 49)), (1, .int x), (2, .int y)]) hx hb dX12_makesCopy_210 hl (by decide) rfl (fun ls hl => ?_)
          refine lv_iload hx hb dX12_makesCopy_212 (lv_at hl 0 rfl) ?_
          refine lv_aload_n hx hb dX12_makesCopy_214 rfl (lv_at hl 4 rfl) ?_
          refine r_get C hw (hsh 49 _ rfl) fl_X12_77 (oV_r rfl (hrm (49, 13, 58) (by decide))) dX12_makesCopy_215 ?_
          refine lv_sipush (v := 288) hx hb dX12_makesCopy_218 (by decide) (ti_c 288 (by decide) fun z29 hz29 => ?_)
          refine r_iald C hw (hsh 58 _ rfl) (by omega) (by omega) dX12_makesCopy_221 (ti_c (ig11 (B + 58) z29.toInt.toNat).toInt rfl fun z30 hz30 => ?_)
          have k31 := z0 ((show KI B ig11 from hki).2 (z29.toInt.toNat) (by omega))
          refine b_ge (tgt := 303) hx hb dX12_makesCopy_222 (by decide) (fun c222 => ?_) (fun c222 => ?_)
          · refine lv_iload hx hb dX12_makesCopy_303 (lv_at hl 1 rfl) ?_
            exact r_iret C hw hr hlk (nar_b (by omega)) (Nat.le_of_ble_eq_true rfl) (Nat.le_of_ble_eq_true rfl) dX12_makesCopy_305 ⟨rfl, rfl, rfl, hsz, ⟨_, rfl, by omega⟩, oig, hki⟩
          · exact absurd c222 (by omega)
        · exact absurd c69 (by omega)
      · refine lv_aload_n hx hb dX12_makesCopy_15 rfl (lv_at hl 1 rfl) ?_
        refine r_get C hw (hsh 49 _ rfl) fl_X12_86 (oV_r rfl (hrm (49, 17, 61) (by decide))) dX12_makesCopy_16 ?_
        refine lv_sipush (v := 864) hx hb dX12_makesCopy_19 (by decide) (ti_c 864 (by decide) fun z32 hz32 => ?_)
        refine lv_iload_n hx hb dX12_makesCopy_22 rfl (lv_at hl 0 rfl) ?_
        refine lv_iadd hx hb dX12_makesCopy_23 (ti_add (by omega) fun z33 hz33 => ?_)
        refine lv_iconst (v := 0) hx hb dX12_makesCopy_24 (by decide) (ti_c 0 (by decide) fun z34 hz34 => ?_)
        refine r_iast C hw (hsh 61 _ rfl) (by omega) (by omega) dX12_makesCopy_25 (fun H locs hH hw => ?_)
        obtain ⟨ig35, eig35⟩ : ∃ f, f = up2 ig11 (B + 61) z33.toInt.toNat z34 := ⟨_, rfl⟩
        rw [← eig35] at hw
        have hsz := hH.trans hsz
        have oig : Off B 58 62 ig35 ig := fun a j h => by rw [eig35]; exact (up2_a (by omega)).trans (oig a j h)
        refine ti_inc hx hb dX12_makesCopy_26 hl (k := 0) rfl (by decide) (by decide) (by omega) (fun z36 hz36 ls hl => ?_)
        have hl : lv_has ls 8 [(3, .int z36), (0, .ref (B + 49)), (1, .int x), (2, .int y)] := hl
        refine lv_goto (tgt := 10) hx hb dX12_makesCopy_29 (by decide) ?_
        exact ih10 ls H locs ig35 z36 (lv_sub hl [0, 1, 2, 3] rfl) hw hsz (by omega) (by omega) (by rw [eig35]; exact (KI.o hki (by decide))) oig (by omega)
  exact L10 ((3 - z9.toInt) + 1).toNat ls H locs ig4 z9 (lv_sub hl [0, 1, 2, 3] rfl) hw hsz (by omega) (by omega) (hki) oig (by omega)
