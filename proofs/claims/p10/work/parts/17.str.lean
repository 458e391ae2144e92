set_option maxHeartbeats 4000000 in
set_option maxRecDepth 100000 in
theorem t_J13_bitCount_95d88 {τ : Tp} (l : Launch) (B : Nat) (D : va_G) (cA : Nat → ClassId) (kd : sK) (ig : sI) (rg : sR) (lg : sG) (sz : Nat) (x : Int64) (hI : IC τ B kd ig rg) : MC l B D cA yJ13_bitCount_95d88 cJ13_bitCount_95d88 2 (some .int) (rL 0 0 0) [.long x] kd ig rg lg sz (Pu kd ig rg lg sz (fun r => ∃ z : Int32, r = some (.int z) ∧ True)) := by
  refine MC.of (own := RJ13) (by decide +kernel) rfl (Nat.le_of_ble_eq_true rfl) ?_
  intro p e s m args below meth c ls C hr hlk hnm hw hsz hl
  have hx := C.1.1
  have hb := C.1.2.1
  have hown := C.1.2.2.2.1
  have hts := C.1.2.2.2.2
  have hl : lv_has ls 2 [(0, .long x)] := hl
  have hsh := hI.sh
  have hrs := hI.rs
  refine lv_lload_n hx hb dJ13_bitCount_95d88_0 rfl (lv_at hl 0 rfl) ?_
  refine lv_lload_n hx hb dJ13_bitCount_95d88_1 rfl (lv_at hl 0 rfl) ?_
  refine lv_iconst (v := 1) hx hb dJ13_bitCount_95d88_2 (by decide) (ti_c 1 (by decide) fun z1 hz1 => ?_)
  refine lv_lushr hx hb dJ13_bitCount_95d88_3 rfl (lv_topl fun x2 hx2 => ?_)
  refine lv_ldc2 (v := 6148914691236517205) hx hb hown (hts _ kl_J13_314) dJ13_bitCount_95d88_4 (lv_topl fun x3 hx3 => ?_)
  refine lv_land hx hb dJ13_bitCount_95d88_7 (lv_topl fun x4 hx4 => ?_)
  refine lv_lsub hx hb dJ13_bitCount_95d88_8 (lv_topl fun x5 hx5 => ?_)
  refine lv_lstore_n (lv' := [(0, .long x5)]) hx hb dJ13_bitCount_95d88_9 rfl hl (by decide) rfl (fun ls hl => ?_)
  refine lv_lload_n hx hb dJ13_bitCount_95d88_10 rfl (lv_at hl 0 rfl) ?_
  refine lv_ldc2 (v := 3689348814741910323) hx hb hown (hts _ kl_J13_316) dJ13_bitCount_95d88_11 (lv_topl fun x6 hx6 => ?_)
  refine lv_land hx hb dJ13_bitCount_95d88_14 (lv_topl fun x7 hx7 => ?_)
  refine lv_lload_n hx hb dJ13_bitCount_95d88_15 rfl (lv_at hl 0 rfl) ?_
  refine lv_iconst (v := 2) hx hb dJ13_bitCount_95d88_16 (by decide) (ti_c 2 (by decide) fun z8 hz8 => ?_)
  refine lv_lushr hx hb dJ13_bitCount_95d88_17 rfl (lv_topl fun x9 hx9 => ?_)
  refine lv_ldc2 (v := 3689348814741910323) hx hb hown (hts _ kl_J13_316) dJ13_bitCount_95d88_18 (lv_topl fun x10 hx10 => ?_)
  refine lv_land hx hb dJ13_bitCount_95d88_21 (lv_topl fun x11 hx11 => ?_)
  refine lv_ladd hx hb dJ13_bitCount_95d88_22 (lv_topl fun x12 hx12 => ?_)
  refine lv_lstore_n (lv' := [(0, .long x12)]) hx hb dJ13_bitCount_95d88_23 rfl hl (by decide) rfl (fun ls hl => ?_)
  refine lv_lload_n hx hb dJ13_bitCount_95d88_24 rfl (lv_at hl 0 rfl) ?_
  refine lv_lload_n hx hb dJ13_bitCount_95d88_25 rfl (lv_at hl 0 rfl) ?_
  refine lv_iconst (v := 4) hx hb dJ13_bitCount_95d88_26 (by decide) (ti_c 4 (by decide) fun z13 hz13 => ?_)
  refine lv_lushr hx hb dJ13_bitCount_95d88_27 rfl (lv_topl fun x14 hx14 => ?_)
  refine lv_ladd hx hb dJ13_bitCount_95d88_28 (lv_topl fun x15 hx15 => ?_)
  refine lv_ldc2 (v := 1085102592571150095) hx hb hown (hts _ kl_J13_318) dJ13_bitCount_95d88_29 (lv_topl fun x16 hx16 => ?_)
  refine lv_land hx hb dJ13_bitCount_95d88_32 (lv_topl fun x17 hx17 => ?_)
  refine lv_lstore_n (lv' := [(0, .long x17)]) hx hb dJ13_bitCount_95d88_33 rfl hl (by decide) rfl (fun ls hl => ?_)
  refine lv_lload_n hx hb dJ13_bitCount_95d88_34 rfl (lv_at hl 0 rfl) ?_
  refine lv_lload_n hx hb dJ13_bitCount_95d88_35 rfl (lv_at hl 0 rfl) ?_
  refine lv_bipush (v := 8) hx hb dJ13_bitCount_95d88_36 (by decide) (ti_c 8 (by decide) fun z18 hz18 => ?_)
  refine lv_lushr hx hb dJ13_bitCount_95d88_38 rfl (lv_topl fun x19 hx19 => ?_)
  refine lv_ladd hx hb dJ13_bitCount_95d88_39 (lv_topl fun x20 hx20 => ?_)
  refine lv_lstore_n (lv' := [(0, .long x20)]) hx hb dJ13_bitCount_95d88_40 rfl hl (by decide) rfl (fun ls hl => ?_)
  refine lv_lload_n hx hb dJ13_bitCount_95d88_41 rfl (lv_at hl 0 rfl) ?_
  refine lv_lload_n hx hb dJ13_bitCount_95d88_42 rfl (lv_at hl 0 rfl) ?_
  refine lv_bipush (v := 16) hx hb dJ13_bitCount_95d88_43 (by decide) (ti_c 16 (by decide) fun z21 hz21 => ?_)
  refine lv_lushr hx hb dJ13_bitCount_95d88_45 rfl (lv_topl fun x22 hx22 => ?_)
  refine lv_ladd hx hb dJ13_bitCount_95d88_46 (lv_topl fun x23 hx23 => ?_)
  refine lv_lstore_n (lv' := [(0, .long x23)]) hx hb dJ13_bitCount_95d88_47 rfl hl (by decide) rfl (fun ls hl => ?_)
  refine lv_lload_n hx hb dJ13_bitCount_95d88_48 rfl (lv_at hl 0 rfl) ?_
  refine lv_lload_n hx hb dJ13_bitCount_95d88_49 rfl (lv_at hl 0 rfl) ?_
  refine lv_bipush (v := 32) hx hb dJ13_bitCount_95d88_50 (by decide) (ti_c 32 (by decide) fun z24 hz24 => ?_)
  refine lv_lushr hx hb dJ13_bitCount_95d88_52 rfl (lv_topl fun x25 hx25 => ?_)
  refine lv_ladd hx hb dJ13_bitCount_95d88_53 (lv_topl fun x26 hx26 => ?_)
  refine lv_lstore_n (lv' := [(0, .long x26)]) hx hb dJ13_bitCount_95d88_54 rfl hl (by decide) rfl (fun ls hl => ?_)
  refine lv_lload_n hx hb dJ13_bitCount_95d88_55 rfl (lv_at hl 0 rfl) ?_
  refine lv_l2i hx hb dJ13_bitCount_95d88_56 rfl (lv_topi fun z27 hz27 => ?_)
  refine lv_bipush (v := 127) hx hb dJ13_bitCount_95d88_57 (by decide) (ti_c 127 (by decide) fun z28 hz28 => ?_)
  refine lv_iand hx hb dJ13_bitCount_95d88_59 (ti_any fun z29 => ?_)
  exact r_iret C hw hr hlk rfl (Nat.le_of_ble_eq_true rfl) (Nat.le_of_ble_eq_true rfl) dJ13_bitCount_95d88_60 ⟨rfl, rfl, rfl, rfl, hsz, ⟨_, rfl, trivial⟩⟩

set_option maxHeartbeats 4000000 in
set_option maxRecDepth 100000 in
theorem t_J0_isLatin1_aae02 {τ : Tp} (l : Launch) (B : Nat) (D : va_G) (cA : Nat → ClassId) (kd : sK) (ig : sI) (rg : sR) (lg : sG) (sz : Nat)  (hI : IC τ B kd ig rg) : MC l B D cA yJ0_isLatin1_aae02 cJ0_isLatin1_aae02 1 (some .boolean) (rL 0 0 0) [.ref (cA 30)] kd ig rg lg sz (Pu kd ig rg lg sz (fun r => ∃ z : Int32, r = some (.int z) ∧ z.toInt = 1)) := by
  refine MC.of (own := RJ0) (by decide +kernel) rfl (Nat.le_of_ble_eq_true rfl) ?_
  intro p e s m args below meth c ls C hr hlk hnm hw hsz hl
  have hx := C.1.1
  have hb := C.1.2.1
  have hown := C.1.2.2.2.1
  have hts := C.1.2.2.2.2
  have hl : lv_has ls 1 [(0, .ref (cA 30))] := hl
  have hsh := hI.sh
  have hrs := hI.rs
  refine va_gets hx hb (KN.cs C.2) hw.2.2.1 hown (hts _ fk_J0_38) (fun _ h => h) dJ0_isLatin1_aae02_0 (ti_c 1 (by decide) fun z1 hz1 => ?_)
  refine z_eq (tgt := 17) hx hb dJ0_isLatin1_aae02_3 (by decide) (fun c3 => ?_) (fun c3 => ?_)
  · exact absurd c3 (by omega)
  · refine lv_aload_n hx hb dJ0_isLatin1_aae02_6 rfl (lv_at hl 0 rfl) ?_
    refine vk_getf hx hb (KN.stc C.2).1 hw.2.2.1 hown (hts _ fk_J0_15) (fun _ h => h) dJ0_isLatin1_aae02_7 (ti_c 0 (by decide) fun z2 hz2 => ?_)
    refine z_ne (tgt := 17) hx hb dJ0_isLatin1_aae02_10 (by decide) (fun c10 => ?_) (fun c10 => ?_)
    · exact absurd c10 (by omega)
    · refine lv_iconst (v := 1) hx hb dJ0_isLatin1_aae02_13 (by decide) (ti_c 1 (by decide) fun z3 hz3 => ?_)
      refine lv_goto (tgt := 18) hx hb dJ0_isLatin1_aae02_14 (by decide) ?_
      exact r_iret C hw hr hlk (nar_b (by omega)) (Nat.le_of_ble_eq_true rfl) (Nat.le_of_ble_eq_true rfl) dJ0_isLatin1_aae02_18 ⟨rfl, rfl, rfl, rfl, hsz, ⟨_, rfl, by omega⟩⟩

set_option maxHeartbeats 4000000 in
set_option maxRecDepth 100000 in
theorem t_J0_coder_7d493 {τ : Tp} (l : Launch) (B : Nat) (D : va_G) (cA : Nat → ClassId) (kd : sK) (ig : sI) (rg : sR) (lg : sG) (sz : Nat)  (hI : IC τ B kd ig rg) : MC l B D cA yJ0_coder_7d493 cJ0_coder_7d493 1 (some .byte) (rL 0 0 0) [.ref (cA 30)] kd ig rg lg sz (Pu kd ig rg lg sz (fun r => ∃ z : Int32, r = some (.int z) ∧ z.toInt = 0)) := by
  refine MC.of (own := RJ0) (by decide +kernel) rfl (Nat.le_of_ble_eq_true rfl) ?_
  intro p e s m args below meth c ls C hr hlk hnm hw hsz hl
  have hx := C.1.1
  have hb := C.1.2.1
  have hown := C.1.2.2.2.1
  have hts := C.1.2.2.2.2
  have hl : lv_has ls 1 [(0, .ref (cA 30))] := hl
  have hsh := hI.sh
  have hrs := hI.rs
  refine va_gets hx hb (KN.cs C.2) hw.2.2.1 hown (hts _ fk_J0_38) (fun _ h => h) dJ0_coder_7d493_0 (ti_c 1 (by decide) fun z1 hz1 => ?_)
  refine z_eq (tgt := 13) hx hb dJ0_coder_7d493_3 (by decide) (fun c3 => ?_) (fun c3 => ?_)
  · exact absurd c3 (by omega)
  · refine lv_aload_n hx hb dJ0_coder_7d493_6 rfl (lv_at hl 0 rfl) ?_
    refine vk_getf hx hb (KN.stc C.2).1 hw.2.2.1 hown (hts _ fk_J0_15) (fun _ h => h) dJ0_coder_7d493_7 (ti_c 0 (by decide) fun z2 hz2 => ?_)
    refine lv_goto (tgt := 14) hx hb dJ0_coder_7d493_10 (by decide) ?_
    exact r_iret C hw hr hlk (by rw [eq0 (v := z2) (by omega)]; rfl) (Nat.le_of_ble_eq_true rfl) (Nat.le_of_ble_eq_true rfl) dJ0_coder_7d493_14 ⟨rfl, rfl, rfl, rfl, hsz, ⟨_, rfl, by omega⟩⟩

set_option maxHeartbeats 4000000 in
set_option maxRecDepth 100000 in
theorem t_J0_length_8abf5 {τ : Tp} (l : Launch) (B : Nat) (D : va_G) (cA : Nat → ClassId) (kd : sK) (ig : sI) (rg : sR) (lg : sG) (sz : Nat)  (hI : IC τ B kd ig rg) : MC l B D cA yJ0_length_8abf5 cJ0_length_8abf5 1 (some .int) (rL 1 0 0) [.ref (cA 30)] kd ig rg lg sz (Pu kd ig rg lg sz (fun r => ∃ z : Int32, r = some (.int z) ∧ True)) := by
  refine MC.of (own := RJ0) (by decide +kernel) rfl (Nat.le_of_ble_eq_true rfl) ?_
  intro p e s m args below meth c ls C hr hlk hnm hw hsz hl
  have hx := C.1.1
  have hb := C.1.2.1
  have hown := C.1.2.2.2.1
  have hts := C.1.2.2.2.2
  have hl : lv_has ls 1 [(0, .ref (cA 30))] := hl
  have hsh := hI.sh
  have hrs := hI.rs
  refine lv_aload_n hx hb dJ0_length_8abf5_0 rfl (lv_at hl 0 rfl) ?_
  refine vk_getf hx hb (KN.stc C.2).2.1 hw.2.2.1 hown (hts _ fk_J0_9) (fun _ h => h) dJ0_length_8abf5_1 ?_
  refine va_tlen (v := 8) hx hb (KN.stc C.2).2.2 hw.2.2.1 (by decide) dJ0_length_8abf5_4 (ti_c 8 (by decide) fun z1 hz1 => ?_)
  refine lv_aload_n hx hb dJ0_length_8abf5_5 rfl (lv_at hl 0 rfl) ?_
  refine r_callR (As := []) (rest := [.int z1]) C hw (t_J0_coder_7d493 l B D cA kd ig rg lg _   hI) sr_J0_335 rfl hl.1 rfl (Nat.le_of_ble_eq_true rfl) ⟨Nat.le_of_ble_eq_true rfl, Nat.le_of_ble_eq_true rfl⟩ ⟨Nat.le_of_ble_eq_true rfl, Nat.le_of_ble_eq_true rfl⟩ dJ0_length_8abf5_6 (fun r6 kd2 ig3 rg4 lg5 H locs hw hH hp7 => ?_)
  obtain ⟨rfl, rfl, rfl, rfl, hzhp7, hrhp7⟩ := hp7
  have hsz := hzhp7.trans hsz
  obtain ⟨z8, rfl, hz8⟩ := hrhp7
  refine lv_ishr hx hb dJ0_length_8abf5_9 (ti_any fun z9 => ?_)
  exact r_iret C hw hr hlk rfl (Nat.le_of_ble_eq_true rfl) (Nat.le_of_ble_eq_true rfl) dJ0_length_8abf5_10 ⟨rfl, rfl, rfl, rfl, hsz, ⟨_, rfl, trivial⟩⟩

set_option maxHeartbeats 4000000 in
set_option maxRecDepth 100000 in
theorem t_J1_canEncode_9a6ad {τ : Tp} (l : Launch) (B : Nat) (D : va_G) (cA : Nat → ClassId) (kd : sK) (ig : sI) (rg : sR) (lg : sG) (sz : Nat) (x : Int32) (hI : IC τ B kd ig rg) : MC l B D cA yJ1_canEncode_9a6ad cJ1_canEncode_9a6ad 1 (some .boolean) (rL 0 0 0) [.int x] kd ig rg lg sz (Pu kd ig rg lg sz (fun r => ∃ z : Int32, r = some (.int z) ∧ (z.toInt = 0 ∨ z.toInt = 1))) := by
  refine MC.of (own := RJ1) (by decide +kernel) rfl (Nat.le_of_ble_eq_true rfl) ?_
  intro p e s m args below meth c ls C hr hlk hnm hw hsz hl
  have hx := C.1.1
  have hb := C.1.2.1
  have hown := C.1.2.2.2.1
  have hts := C.1.2.2.2.2
  have hl : lv_has ls 1 [(0, .int x)] := hl
  have hsh := hI.sh
  have hrs := hI.rs
  refine lv_iload_n hx hb dJ1_canEncode_9a6ad_0 rfl (lv_at hl 0 rfl) ?_
  refine z_lt (tgt := 15) hx hb dJ1_canEncode_9a6ad_1 (by decide) (fun c1 => ?_) (fun c1 => ?_)
  · refine lv_iconst (v := 0) hx hb dJ1_canEncode_9a6ad_15 (by decide) (ti_c 0 (by decide) fun z1 hz1 => ?_)
    exact r_iret C hw hr hlk (nar_b (by omega)) (Nat.le_of_ble_eq_true rfl) (Nat.le_of_ble_eq_true rfl) dJ1_canEncode_9a6ad_16 ⟨rfl, rfl, rfl, rfl, hsz, ⟨_, rfl, by omega⟩⟩
  · refine lv_iload_n hx hb dJ1_canEncode_9a6ad_4 rfl (lv_at hl 0 rfl) ?_
    refine lv_sipush (v := 255) hx hb dJ1_canEncode_9a6ad_5 (by decide) (ti_c 255 (by decide) fun z2 hz2 => ?_)
    refine b_gt (tgt := 15) hx hb dJ1_canEncode_9a6ad_8 (by decide) (fun c8 => ?_) (fun c8 => ?_)
    · refine lv_iconst (v := 0) hx hb dJ1_canEncode_9a6ad_15 (by decide) (ti_c 0 (by decide) fun z3 hz3 => ?_)
      exact r_iret C hw hr hlk (nar_b (by omega)) (Nat.le_of_ble_eq_true rfl) (Nat.le_of_ble_eq_true rfl) dJ1_canEncode_9a6ad_16 ⟨rfl, rfl, rfl, rfl, hsz, ⟨_, rfl, by omega⟩⟩
    · refine lv_iconst (v := 1) hx hb dJ1_canEncode_9a6ad_11 (by decide) (ti_c 1 (by decide) fun z4 hz4 => ?_)
      refine lv_goto (tgt := 16) hx hb dJ1_canEncode_9a6ad_12 (by decide) ?_
      exact r_iret C hw hr hlk (nar_b (by omega)) (Nat.le_of_ble_eq_true rfl) (Nat.le_of_ble_eq_true rfl) dJ1_canEncode_9a6ad_16 ⟨rfl, rfl, rfl, rfl, hsz, ⟨_, rfl, by omega⟩⟩

set_option maxHeartbeats 4000000 in
set_option maxRecDepth 100000 in
theorem t_J1_indexOfChar_4cfef {τ : Tp} (l : Launch) (B : Nat) (D : va_G) (cA : Nat → ClassId) (kd : sK) (ig : sI) (rg : sR) (lg : sG) (sz : Nat) (x : Int32) (y : Int32) (u : Int32) (hy0 : 0 ≤ y.toInt ∧ y.toInt ≤ 8) (hu0 : u.toInt ≤ 8) (hI : IC τ B kd ig rg) : MC l B D cA yJ1_indexOfChar_4cfef cJ1_indexOfChar_4cfef 6 (some .int) (rL 0 0 0) [.ref (cA 31), .int x, .int y, .int u] kd ig rg lg sz (Pu kd ig rg lg sz (fun r => ∃ z : Int32, r = some (.int z) ∧ True)) := by
  refine MC.of (own := RJ1) (by decide +kernel) rfl (Nat.le_of_ble_eq_true rfl) ?_
  intro p e s m args below meth c ls C hr hlk hnm hw hsz hl
  have hx := C.1.1
  have hb := C.1.2.1
  have hown := C.1.2.2.2.1
  have hts := C.1.2.2.2.2
  have hl : lv_has ls 6 [(0, .ref (cA 31)), (1, .int x), (2, .int y), (3, .int u)] := hl
  have hsh := hI.sh
  have hrs := hI.rs
  refine lv_iload_n hx hb dJ1_indexOfChar_4cfef_0 rfl (lv_at hl 1 rfl) ?_
  refine lv_i2b hx hb dJ1_indexOfChar_4cfef_1 rfl (ti_any fun z1 => ?_)
  refine lv_istore (lv' := [(4, .int z1), (0, .ref (cA 31)), (1, .int x), (2, .int y), (3, .int u)]) hx hb dJ1_indexOfChar_4cfef_2 hl (by decide) rfl (fun ls hl => ?_)
  refine lv_iload_n hx hb dJ1_indexOfChar_4cfef_4 rfl (lv_at hl 3 rfl) ?_
  refine lv_istore (lv' := [(5, .int y), (4, .int z1), (0, .ref (cA 31)), (1, .int x), (2, .int y), (3, .int u)]) hx hb dJ1_indexOfChar_4cfef_5 hl (by decide) rfl (fun ls hl => ?_)
  have L7 : ∀ (n : Nat) (ls : Array Slot) (H : Heap) (locs : List Loc) (v2 : Int32), lv_has ls 6 [(5, .int v2), (4, .int z1), (0, .ref (cA 31)), (3, .int u)] → WD B D cA s.heap kd ig rg lg H locs → H.size = sz → (0 ≤ v2.toInt) → (v2.toInt ≤ 8) → 8 - v2.toInt < (n : Int) → W p l e (rL 0 0 0) s m args below meth c H locs 0 0 (MQ below (QcW B D cA (Pu kd ig rg lg sz (fun r => ∃ z : Int32, r = some (.int z) ∧ True))) args s 0 0 (fun q => B ≤ q)) (F0 m 7 ls []) := by
    intro n7
    induction n7 with
    | zero => intro ls H locs v2 hl hw hsz g7_0 g7_1 hmu; exact absurd hmu (by omega)
    | succ n7 ih7 =>
      intro ls H locs v2 hl hw hsz g7_0 g7_1 hmu
      refine lv_iload hx hb dJ1_indexOfChar_4cfef_7 (lv_at hl 0 rfl) ?_
      refine lv_iload_n hx hb dJ1_indexOfChar_4cfef_9 rfl (lv_at hl 3 rfl) ?_
      refine b_ge (tgt := 31) hx hb dJ1_indexOfChar_4cfef_10 (by decide) (fun c10 => ?_) (fun c10 => ?_)
      · refine lv_iconst (v := (-1)) hx hb dJ1_indexOfChar_4cfef_31 (by decide) (ti_c (-1) (by decide) fun z3 hz3 => ?_)
        exact r_iret C hw hr hlk rfl (Nat.le_of_ble_eq_true rfl) (Nat.le_of_ble_eq_true rfl) dJ1_indexOfChar_4cfef_32 ⟨rfl, rfl, rfl, rfl, hsz, ⟨_, rfl, trivial⟩⟩
      · refine lv_aload_n hx hb dJ1_indexOfChar_4cfef_13 rfl (lv_at hl 2 rfl) ?_
        refine lv_iload hx hb dJ1_indexOfChar_4cfef_14 (lv_at hl 0 rfl) ?_
        refine va_tb hx hb (KN.stc C.2).2.2 hw.2.2.1 (in_of (by omega) (by omega)) rfl dJ1_indexOfChar_4cfef_16 (ti_any fun z4 => ?_)
        refine lv_iload hx hb dJ1_indexOfChar_4cfef_17 (lv_at hl 1 rfl) ?_
        refine b_ne (tgt := 25) hx hb dJ1_indexOfChar_4cfef_19 (by decide) (fun c19 => ?_) (fun c19 => ?_)
        · refine tc_inc hx hb dJ1_indexOfChar_4cfef_25 hl (k := 0) rfl (by decide) (by decide) (fun z5 hz5 ls hl => ?_)
          first | replace hz5 := hz5 (by omega) | clear hz5
          have hl : lv_has ls 6 [(5, .int z5), (4, .int z1), (0, .ref (cA 31)), (3, .int u)] := hl
          refine lv_goto (tgt := 7) hx hb dJ1_indexOfChar_4cfef_28 (by decide) ?_
          exact ih7 ls H locs z5 (lv_sub hl [0, 1, 2, 3] rfl) hw hsz (by omega) (by omega) (by omega)
        · refine lv_iload hx hb dJ1_indexOfChar_4cfef_22 (lv_at hl 0 rfl) ?_
          exact r_iret C hw hr hlk rfl (Nat.le_of_ble_eq_true rfl) (Nat.le_of_ble_eq_true rfl) dJ1_indexOfChar_4cfef_24 ⟨rfl, rfl, rfl, rfl, hsz, ⟨_, rfl, trivial⟩⟩
  exact L7 ((8 - y.toInt) + 1).toNat ls s.heap [] y (lv_sub hl [0, 1, 2, 5] rfl) hw hsz (by omega) (by omega) (by omega)

set_option maxHeartbeats 4000000 in
set_option maxRecDepth 100000 in
theorem t_J1_indexOf_4cfef {τ : Tp} (l : Launch) (B : Nat) (D : va_G) (cA : Nat → ClassId) (kd : sK) (ig : sI) (rg : sR) (lg : sG) (sz : Nat) (x : Int32) (y : Int32) (u : Int32) (hI : IC τ B kd ig rg) : MC l B D cA yJ1_indexOf_4cfef cJ1_indexOf_4cfef 4 (some .int) (rL 1 0 0) [.ref (cA 31), .int x, .int y, .int u] kd ig rg lg sz (Pu kd ig rg lg sz (fun r => ∃ z : Int32, r = some (.int z) ∧ True)) := by
  refine MC.of (own := RJ1) (by decide +kernel) rfl (Nat.le_of_ble_eq_true rfl) ?_
  intro p e s m args below meth c ls C hr hlk hnm hw hsz hl
  have hx := C.1.1
  have hb := C.1.2.1
  have hown := C.1.2.2.2.1
  have hts := C.1.2.2.2.2
  have hl : lv_has ls 4 [(0, .ref (cA 31)), (1, .int x), (2, .int y), (3, .int u)] := hl
  have hsh := hI.sh
  have hrs := hI.rs
  refine lv_iload_n hx hb dJ1_indexOf_4cfef_0 rfl (lv_at hl 1 rfl) ?_
  refine r_callS (As := [.int x]) (rest := []) C hw (t_J1_canEncode_9a6ad l B D cA kd ig rg lg _ x  hI) ss_J1_88 rfl hl.1 rfl (Nat.le_of_ble_eq_true rfl) ⟨Nat.le_of_ble_eq_true rfl, Nat.le_of_ble_eq_true rfl⟩ ⟨Nat.le_of_ble_eq_true rfl, Nat.le_of_ble_eq_true rfl⟩ dJ1_indexOf_4cfef_1 (fun r5 kd1 ig2 rg3 lg4 H locs hw hH hp6 => ?_)
  obtain ⟨rfl, rfl, rfl, rfl, hzhp6, hrhp6⟩ := hp6
  have hsz := hzhp6.trans hsz
  obtain ⟨z7, rfl, hz7⟩ := hrhp6
  refine z_ne (tgt := 9) hx hb dJ1_indexOf_4cfef_4 (by decide) (fun c4 => ?_) (fun c4 => ?_)
  · refine lv_iload_n hx hb dJ1_indexOf_4cfef_9 rfl (lv_at hl 2 rfl) ?_
    refine lv_iconst (v := 0) hx hb dJ1_indexOf_4cfef_10 (by decide) (ti_c 0 (by decide) fun z8 hz8 => ?_)
    refine r_max C ss_J1_92 hl.1 (Nat.le_of_ble_eq_true rfl) (Nat.le_of_ble_eq_true rfl) (Nat.le_of_ble_eq_true rfl) (Nat.le_of_ble_eq_true rfl) dJ1_indexOf_4cfef_11 (fun z9 hz9 => ?_)
    refine lv_istore_n (lv' := [(2, .int z9), (0, .ref (cA 31)), (1, .int x), (3, .int u)]) hx hb dJ1_indexOf_4cfef_14 rfl hl (by decide) rfl (fun ls hl => ?_)
    refine lv_iload_n hx hb dJ1_indexOf_4cfef_15 rfl (lv_at hl 3 rfl) ?_
    refine lv_aload_n hx hb dJ1_indexOf_4cfef_16 rfl (lv_at hl 1 rfl) ?_
    refine va_tlen (v := 8) hx hb (KN.stc C.2).2.2 hw.2.2.1 (by decide) dJ1_indexOf_4cfef_17 (ti_c 8 (by decide) fun z10 hz10 => ?_)
    refine r_min C ss_J1_38 hl.1 (Nat.le_of_ble_eq_true rfl) (Nat.le_of_ble_eq_true rfl) (Nat.le_of_ble_eq_true rfl) (Nat.le_of_ble_eq_true rfl) dJ1_indexOf_4cfef_18 (fun z11 hz11 => ?_)
    refine lv_istore_n (lv' := [(3, .int z11), (2, .int z9), (0, .ref (cA 31)), (1, .int x)]) hx hb dJ1_indexOf_4cfef_21 rfl hl (by decide) rfl (fun ls hl => ?_)
    refine lv_iload_n hx hb dJ1_indexOf_4cfef_22 rfl (lv_at hl 1 rfl) ?_
    refine lv_iload_n hx hb dJ1_indexOf_4cfef_23 rfl (lv_at hl 0 rfl) ?_
    refine b_lt (tgt := 29) hx hb dJ1_indexOf_4cfef_24 (by decide) (fun c24 => ?_) (fun c24 => ?_)
    · refine lv_aload_n hx hb dJ1_indexOf_4cfef_29 rfl (lv_at hl 2 rfl) ?_
      refine lv_iload_n hx hb dJ1_indexOf_4cfef_30 rfl (lv_at hl 3 rfl) ?_
      refine lv_iload_n hx hb dJ1_indexOf_4cfef_31 rfl (lv_at hl 1 rfl) ?_
      refine lv_iload_n hx hb dJ1_indexOf_4cfef_32 rfl (lv_at hl 0 rfl) ?_
      refine r_callS (As := [.ref (cA 31), .int x, .int z9, .int z11]) (rest := []) C hw (t_J1_indexOfChar_4cfef l B D cA kd ig rg lg _ x z9 z11 (by omega) (by omega) hI) ss_J1_95 rfl hl.1 rfl (Nat.le_of_ble_eq_true rfl) ⟨Nat.le_of_ble_eq_true rfl, Nat.le_of_ble_eq_true rfl⟩ ⟨Nat.le_of_ble_eq_true rfl, Nat.le_of_ble_eq_true rfl⟩ dJ1_indexOf_4cfef_33 (fun r16 kd12 ig13 rg14 lg15 H locs hw hH hp17 => ?_)
      obtain ⟨rfl, rfl, rfl, rfl, hzhp17, hrhp17⟩ := hp17
      have hsz := hzhp17.trans hsz
      obtain ⟨z18, rfl, hz18⟩ := hrhp17
      exact r_iret C hw hr hlk rfl (Nat.le_of_ble_eq_true rfl) (Nat.le_of_ble_eq_true rfl) dJ1_indexOf_4cfef_36 ⟨rfl, rfl, rfl, rfl, hsz, ⟨_, rfl, trivial⟩⟩
    · refine lv_iconst (v := (-1)) hx hb dJ1_indexOf_4cfef_27 (by decide) (ti_c (-1) (by decide) fun z19 hz19 => ?_)
      exact r_iret C hw hr hlk rfl (Nat.le_of_ble_eq_true rfl) (Nat.le_of_ble_eq_true rfl) dJ1_indexOf_4cfef_28 ⟨rfl, rfl, rfl, rfl, hsz, ⟨_, rfl, trivial⟩⟩
  · refine lv_iconst (v := (-1)) hx hb dJ1_indexOf_4cfef_7 (by decide) (ti_c (-1) (by decide) fun z20 hz20 => ?_)
    exact r_iret C hw hr hlk rfl (Nat.le_of_ble_eq_true rfl) (Nat.le_of_ble_eq_true rfl) dJ1_indexOf_4cfef_8 ⟨rfl, rfl, rfl, rfl, hsz, ⟨_, rfl, trivial⟩⟩

set_option maxHeartbeats 4000000 in
set_option maxRecDepth 100000 in
theorem t_J0_indexOf_7cf53 {τ : Tp} (l : Launch) (B : Nat) (D : va_G) (cA : Nat → ClassId) (kd : sK) (ig : sI) (rg : sR) (lg : sG) (sz : Nat) (x : Int32) (y : Int32) (hI : IC τ B kd ig rg) : MC l B D cA yJ0_indexOf_7cf53 cJ0_indexOf_7cf53 3 (some .int) (rL 2 0 0) [.ref (cA 30), .int x, .int y] kd ig rg lg sz (Pu kd ig rg lg sz (fun r => ∃ z : Int32, r = some (.int z) ∧ True)) := by
  refine MC.of (own := RJ0) (by decide +kernel) rfl (Nat.le_of_ble_eq_true rfl) ?_
  intro p e s m args below meth c ls C hr hlk hnm hw hsz hl
  have hx := C.1.1
  have hb := C.1.2.1
  have hown := C.1.2.2.2.1
  have hts := C.1.2.2.2.2
  have hl : lv_has ls 3 [(0, .ref (cA 30)), (1, .int x), (2, .int y)] := hl
  have hsh := hI.sh
  have hrs := hI.rs
  refine lv_aload_n hx hb dJ0_indexOf_7cf53_0 rfl (lv_at hl 0 rfl) ?_
  refine r_callR (As := []) (rest := []) C hw (t_J0_isLatin1_aae02 l B D cA kd ig rg lg _   hI) sr_J0_492 rfl hl.1 rfl (Nat.le_of_ble_eq_true rfl) ⟨Nat.le_of_ble_eq_true rfl, Nat.le_of_ble_eq_true rfl⟩ ⟨Nat.le_of_ble_eq_true rfl, Nat.le_of_ble_eq_true rfl⟩ dJ0_indexOf_7cf53_1 (fun r5 kd1 ig2 rg3 lg4 H locs hw hH hp6 => ?_)
  obtain ⟨rfl, rfl, rfl, rfl, hzhp6, hrhp6⟩ := hp6
  have hsz := hzhp6.trans hsz
  obtain ⟨z7, rfl, hz7⟩ := hrhp6
  refine z_eq (tgt := 23) hx hb dJ0_indexOf_7cf53_4 (by decide) (fun c4 => ?_) (fun c4 => ?_)
  · exact absurd c4 (by omega)
  · refine lv_aload_n hx hb dJ0_indexOf_7cf53_7 rfl (lv_at hl 0 rfl) ?_
    refine vk_getf hx hb (KN.stc C.2).2.1 hw.2.2.1 hown (hts _ fk_J0_9) (fun _ h => h) dJ0_indexOf_7cf53_8 ?_
    refine lv_iload_n hx hb dJ0_indexOf_7cf53_11 rfl (lv_at hl 1 rfl) ?_
    refine lv_iload_n hx hb dJ0_indexOf_7cf53_12 rfl (lv_at hl 2 rfl) ?_
    refine lv_aload_n hx hb dJ0_indexOf_7cf53_13 rfl (lv_at hl 0 rfl) ?_
    refine r_callR (As := []) (rest := [.int y, .int x, .ref (cA 31)]) C hw (t_J0_length_8abf5 l B D cA kd ig rg lg _   hI) sr_J0_505 rfl hl.1 rfl (Nat.le_of_ble_eq_true rfl) ⟨Nat.le_of_ble_eq_true rfl, Nat.le_of_ble_eq_true rfl⟩ ⟨Nat.le_of_ble_eq_true rfl, Nat.le_of_ble_eq_true rfl⟩ dJ0_indexOf_7cf53_14 (fun r12 kd8 ig9 rg10 lg11 H locs hw hH hp13 => ?_)
    obtain ⟨rfl, rfl, rfl, rfl, hzhp13, hrhp13⟩ := hp13
    have hsz := hzhp13.trans hsz
    obtain ⟨z14, rfl, hz14⟩ := hrhp13
    refine r_callS (As := [.ref (cA 31), .int x, .int y, .int z14]) (rest := []) C hw (t_J1_indexOf_4cfef l B D cA kd ig rg lg _ x y z14  hI) ss_J0_637 rfl hl.1 rfl (Nat.le_of_ble_eq_true rfl) ⟨Nat.le_of_ble_eq_true rfl, Nat.le_of_ble_eq_true rfl⟩ ⟨Nat.le_of_ble_eq_true rfl, Nat.le_of_ble_eq_true rfl⟩ dJ0_indexOf_7cf53_17 (fun r19 kd15 ig16 rg17 lg18 H locs hw hH hp20 => ?_)
    obtain ⟨rfl, rfl, rfl, rfl, hzhp20, hrhp20⟩ := hp20
    have hsz := hzhp20.trans hsz
    obtain ⟨z21, rfl, hz21⟩ := hrhp20
    refine lv_goto (tgt := 36) hx hb dJ0_indexOf_7cf53_20 (by decide) ?_
    exact r_iret C hw hr hlk rfl (Nat.le_of_ble_eq_true rfl) (Nat.le_of_ble_eq_true rfl) dJ0_indexOf_7cf53_36 ⟨rfl, rfl, rfl, rfl, hsz, ⟨_, rfl, trivial⟩⟩

set_option maxHeartbeats 4000000 in
set_option maxRecDepth 100000 in
theorem t_J0_indexOf_0f7a4 {τ : Tp} (l : Launch) (B : Nat) (D : va_G) (cA : Nat → ClassId) (kd : sK) (ig : sI) (rg : sR) (lg : sG) (sz : Nat) (x : Int32) (hI : IC τ B kd ig rg) : MC l B D cA yJ0_indexOf_0f7a4 cJ0_indexOf_0f7a4 2 (some .int) (rL 3 0 0) [.ref (cA 30), .int x] kd ig rg lg sz (Pu kd ig rg lg sz (fun r => ∃ z : Int32, r = some (.int z) ∧ True)) := by
  refine MC.of (own := RJ0) (by decide +kernel) rfl (Nat.le_of_ble_eq_true rfl) ?_
  intro p e s m args below meth c ls C hr hlk hnm hw hsz hl
  have hx := C.1.1
  have hb := C.1.2.1
  have hown := C.1.2.2.2.1
  have hts := C.1.2.2.2.2
  have hl : lv_has ls 2 [(0, .ref (cA 30)), (1, .int x)] := hl
  have hsh := hI.sh
  have hrs := hI.rs
  refine lv_aload_n hx hb dJ0_indexOf_0f7a4_0 rfl (lv_at hl 0 rfl) ?_
  refine lv_iload_n hx hb dJ0_indexOf_0f7a4_1 rfl (lv_at hl 1 rfl) ?_
  refine lv_iconst (v := 0) hx hb dJ0_indexOf_0f7a4_2 (by decide) (ti_c 0 (by decide) fun z1 hz1 => ?_)
  refine r_callR (As := [.int x, .int z1]) (rest := []) C hw (t_J0_indexOf_7cf53 l B D cA kd ig rg lg _ x z1  hI) sr_J0_633 rfl hl.1 rfl (Nat.le_of_ble_eq_true rfl) ⟨Nat.le_of_ble_eq_true rfl, Nat.le_of_ble_eq_true rfl⟩ ⟨Nat.le_of_ble_eq_true rfl, Nat.le_of_ble_eq_true rfl⟩ dJ0_indexOf_0f7a4_3 (fun r6 kd2 ig3 rg4 lg5 H locs hw hH hp7 => ?_)
  obtain ⟨rfl, rfl, rfl, rfl, hzhp7, hrhp7⟩ := hp7
  have hsz := hzhp7.trans hsz
  obtain ⟨z8, rfl, hz8⟩ := hrhp7
  exact r_iret C hw hr hlk rfl (Nat.le_of_ble_eq_true rfl) (Nat.le_of_ble_eq_true rfl) dJ0_indexOf_0f7a4_6 ⟨rfl, rfl, rfl, rfl, hsz, ⟨_, rfl, trivial⟩⟩
