set_option maxHeartbeats 4000000 in
set_option maxRecDepth 100000 in
theorem t_X7_append (l : Launch) (B : Nat) (D : va_G) (cA : Nat → ClassId) (kd : sK) (ig : sI) (rg : sR) (lg : sG) (sz : Nat) (x : Int64) (hI : IC B kd ig rg) : MC l B D cA yX7_append cX7_append 5 none (rL 0 0 0) [.ref (B + 1), .long x] kd ig rg lg sz (PI B none kd ig rg lg (fun r kd' ig' rg' lg' => r = none)) := by
  refine MC.of (own := RX7) (by decide +kernel) rfl (Nat.le_of_ble_eq_true rfl) ?_
  intro p e s m args below meth c ls C hr hlk hnm hw hsz hl
  have hx := C.1.1
  have hb := C.1.2.1
  have hown := C.1.2.2.2.1
  have hts := C.1.2.2.2.2
  have hl : lv_has ls 5 [(0, .ref (B + 1)), (1, .long x)] := hl
  have hN : Nx B none kd ig rg lg kd ig rg lg := Nx.rf
  have hsh := hI.sh
  have hrs := hI.rs
  refine lv_bipush (v := 56) hx hb dX7_append_0 (by decide) (ti_c 56 (by decide) fun z1 hz1 => ?_)
  refine lv_istore_n (lv' := [(3, .int z1), (0, .ref (B + 1)), (1, .long x)]) hx hb dX7_append_2 rfl hl (by decide) rfl (fun ls hl => ?_)
  have L3 : ∀ (n : Nat) (ls : Array Slot) (H : Heap) (locs : List Loc) (kd3 : sK) (ig4 : sI) (rg5 : sR) (lg6 : sG) (v2 : Int32), lv_has ls 5 [(3, .int v2), (0, .ref (B + 1)), (1, .long x)] → WD B D cA s.heap kd3 ig4 rg5 lg6 H locs → IC B kd3 ig4 rg5 → Nx B none kd ig rg lg kd3 ig4 rg5 lg6 → (-8 ≤ v2.toInt) → (v2.toInt ≤ 56) → v2.toInt + 8 < (n : Int) → W p l e (rL 0 0 0) s m args below meth c H locs 0 0 (MQ below (QcW B D cA (PI B none kd ig rg lg (fun r kd' ig' rg' lg' => r = none))) args s 0 0 (fun q => B ≤ q)) (F0 m 3 ls []) := by
    intro n3
    induction n3 with
    | zero => intro ls H locs kd3 ig4 rg5 lg6 v2 hl hw hI hN g3_0 g3_1 hmu; exact absurd hmu (by omega)
    | succ n3 ih3 =>
      intro ls H locs kd3 ig4 rg5 lg6 v2 hl hw hI hN g3_0 g3_1 hmu
      have hsh := hI.sh
      have hrs := hI.rs
      refine lv_iload_n hx hb dX7_append_3 rfl (lv_at hl 0 rfl) ?_
      refine z_lt (tgt := 68) hx hb dX7_append_4 (by decide) (fun c4 => ?_) (fun c4 => ?_)
      · exact r_vret C hw hr hlk (Nat.le_of_ble_eq_true rfl) (Nat.le_of_ble_eq_true rfl) dX7_append_68 ⟨hI, hN, rfl⟩
      · refine lv_lload_n hx hb dX7_append_7 rfl (lv_at hl 2 rfl) ?_
        refine lv_iload_n hx hb dX7_append_8 rfl (lv_at hl 0 rfl) ?_
        refine lv_lushr hx hb dX7_append_9 rfl (lv_topl fun x7 hx7 => ?_)
        refine lv_l2i hx hb dX7_append_10 rfl (lv_topi fun z8 hz8 => ?_)
        refine lv_sipush (v := 255) hx hb dX7_append_11 (by decide) (ti_c 255 (by decide) fun z9 hz9 => ?_)
        refine lv_iand hx hb dX7_append_14 (ti_any fun z10 => ?_)
        refine lv_istore (lv' := [(4, .int z10), (3, .int v2), (0, .ref (B + 1)), (1, .long x)]) hx hb dX7_append_15 hl (by decide) rfl (fun ls hl => ?_)
        refine lv_iload hx hb dX7_append_17 (lv_at hl 0 rfl) ?_
        refine lv_bipush (v := 32) hx hb dX7_append_19 (by decide) (ti_c 32 (by decide) fun z11 hz11 => ?_)
        refine b_lt (tgt := 62) hx hb dX7_append_21 (by decide) (fun c21 => ?_) (fun c21 => ?_)
        · refine tc_inc hx hb dX7_append_62 hl (k := 1) rfl (by decide) (by decide) (fun z12 hz12 ls hl => ?_)
          first | replace hz12 := hz12 (by omega) | clear hz12
          have hl : lv_has ls 5 [(3, .int z12), (4, .int z10), (0, .ref (B + 1)), (1, .long x)] := hl
          refine lv_goto (tgt := 3) hx hb dX7_append_65 (by decide) ?_
          exact ih3 ls H locs kd3 ig4 rg5 lg6 z12 (lv_sub hl [0, 2, 3] rfl) hw hI hN (by omega) (by omega) (by omega)
        · refine lv_iload hx hb dX7_append_24 (lv_at hl 0 rfl) ?_
          refine lv_bipush (v := 126) hx hb dX7_append_26 (by decide) (ti_c 126 (by decide) fun z13 hz13 => ?_)
          refine b_gt (tgt := 62) hx hb dX7_append_28 (by decide) (fun c28 => ?_) (fun c28 => ?_)
          · refine tc_inc hx hb dX7_append_62 hl (k := 1) rfl (by decide) (by decide) (fun z14 hz14 ls hl => ?_)
            first | replace hz14 := hz14 (by omega) | clear hz14
            have hl : lv_has ls 5 [(3, .int z14), (4, .int z10), (0, .ref (B + 1)), (1, .long x)] := hl
            refine lv_goto (tgt := 3) hx hb dX7_append_65 (by decide) ?_
            exact ih3 ls H locs kd3 ig4 rg5 lg6 z14 (lv_sub hl [0, 2, 3] rfl) hw hI hN (by omega) (by omega) (by omega)
          · refine lv_aload_n hx hb dX7_append_31 rfl (lv_at hl 2 rfl) ?_
            refine r_get C hw (hsh 1 _ rfl) fl_X7_15 (oV_i rfl) dX7_append_32 (ti_c (ig4 (B + 1) 1).toInt rfl fun z15 hz15 => ?_)
            have k16 : 0 ≤ (ig4 (B + 1) 1).toInt ∧ (ig4 (B + 1) 1).toInt ≤ 120 := hI.i 1 1 (by decide)
            refine lv_bipush (v := 120) hx hb dX7_append_35 (by decide) (ti_c 120 (by decide) fun z17 hz17 => ?_)
            refine b_ge (tgt := 62) hx hb dX7_append_37 (by decide) (fun c37 => ?_) (fun c37 => ?_)
            · refine tc_inc hx hb dX7_append_62 hl (k := 1) rfl (by decide) (by decide) (fun z18 hz18 ls hl => ?_)
              first | replace hz18 := hz18 (by omega) | clear hz18
              have hl : lv_has ls 5 [(3, .int z18), (4, .int z10), (0, .ref (B + 1)), (1, .long x)] := hl
              refine lv_goto (tgt := 3) hx hb dX7_append_65 (by decide) ?_
              exact ih3 ls H locs kd3 ig4 rg5 lg6 z18 (lv_sub hl [0, 2, 3] rfl) hw hI hN (by omega) (by omega) (by omega)
            · refine lv_aload_n hx hb dX7_append_40 rfl (lv_at hl 2 rfl) ?_
              refine r_get C hw (hsh 1 _ rfl) fl_X7_9 (oV_r rfl (hrs (1, 0, 2) (by decide))) dX7_append_41 ?_
              refine lv_aload_n hx hb dX7_append_44 rfl (lv_at hl 2 rfl) ?_
              refine r_get C hw (hsh 1 _ rfl) fl_X7_15 (oV_i rfl) dX7_append_45 (ti_c (ig4 (B + 1) 1).toInt rfl fun z19 hz19 => ?_)
              have k20 : 0 ≤ (ig4 (B + 1) 1).toInt ∧ (ig4 (B + 1) 1).toInt ≤ 120 := hI.i 1 1 (by decide)
              refine lv_iload hx hb dX7_append_48 (lv_at hl 0 rfl) ?_
              refine lv_i2c hx hb dX7_append_50 rfl (lv_topi fun z21 hz21 => ?_)
              refine r_cast C hw (hsh 2 _ rfl) (by omega) (by omega) (by rw [hz21]; exact pk_nc _) dX7_append_51 (fun H locs hH hw => ?_)
              obtain ⟨ig22, eig22⟩ : ∃ f, f = up2 ig4 (B + 2) z19.toInt.toNat z21 := ⟨_, rfl⟩
              rw [← eig22] at hw
              have hN : Nx B none kd ig rg lg kd3 ig22 rg5 lg6 := by rw [eig22]; exact hN.pi (by omega)
              have hI : IC B kd3 ig22 rg5 := by rw [eig22]; exact hI.pi (show okR none _ from trivial)
              have wig22_1_1 : (ig22 (B + 1) 1).toInt = (ig4 (B + 1) 1).toInt := by rw [eig22, up2_a (by omega)]
              refine lv_aload_n hx hb dX7_append_52 rfl (lv_at hl 2 rfl) ?_
              refine lv_dup hx hb dX7_append_53 rfl ?_
              refine r_get C hw (hsh 1 _ rfl) fl_X7_15 (oV_i rfl) dX7_append_54 (ti_c (ig22 (B + 1) 1).toInt rfl fun z23 hz23 => ?_)
              have k24 : 0 ≤ (ig22 (B + 1) 1).toInt ∧ (ig22 (B + 1) 1).toInt ≤ 120 := hI.i 1 1 (by decide)
              refine lv_iconst (v := 1) hx hb dX7_append_57 (by decide) (ti_c 1 (by decide) fun z25 hz25 => ?_)
              refine lv_iadd hx hb dX7_append_58 (tc_add fun z26 hz26 => ?_)
              first | replace hz26 := hz26 (by omega) | clear hz26
              refine r_puti C hw (hsh 1 _ rfl) fl_X7_15 rfl rfl rfl dX7_append_59 (fun H locs hH hw => ?_)
              obtain ⟨ig27, eig27⟩ : ∃ f, f = up2 ig22 (B + 1) 1 z26 := ⟨_, rfl⟩
              rw [← eig27] at hw
              have hN : Nx B none kd ig rg lg kd3 ig27 rg5 lg6 := by rw [eig27]; exact hN.pi (by omega)
              have hI : IC B kd3 ig27 rg5 := by rw [eig27]; exact hI.pi (show okR (some (0, 120)) _ from ⟨by show (0 : Int) ≤ _; omega, by show _ ≤ (120 : Int); omega⟩)
              have wig27 : (ig27 (B + 1) 1).toInt = z26.toInt := by rw [eig27, up2_eq]
              refine tc_inc hx hb dX7_append_62 hl (k := 1) rfl (by decide) (by decide) (fun z28 hz28 ls hl => ?_)
              first | replace hz28 := hz28 (by omega) | clear hz28
              have hl : lv_has ls 5 [(3, .int z28), (4, .int z10), (0, .ref (B + 1)), (1, .long x)] := hl
              refine lv_goto (tgt := 3) hx hb dX7_append_65 (by decide) ?_
              exact ih3 ls H locs kd3 ig27 rg5 lg6 z28 (lv_sub hl [0, 2, 3] rfl) hw hI hN (by omega) (by omega) (by omega)
  exact L3 ((z1.toInt + 8) + 1).toNat ls s.heap [] kd ig rg lg z1 (lv_sub hl [0, 1, 2] rfl) hw hI hN (by omega) (by omega) (by omega)

set_option maxHeartbeats 4000000 in
set_option maxRecDepth 100000 in
theorem t_X7_isLetter (l : Launch) (B : Nat) (D : va_G) (cA : Nat → ClassId) (kd : sK) (ig : sI) (rg : sR) (lg : sG) (sz : Nat) (x : Int32) (hI : IC B kd ig rg) : MC l B D cA yX7_isLetter cX7_isLetter 1 (some .boolean) (rL 0 0 0) [.int x] kd ig rg lg sz (Pu kd ig rg lg sz (fun r => ∃ z : Int32, r = some (.int z) ∧ (z.toInt = 0 ∨ z.toInt = 1))) := by
  refine MC.of (own := RX7) (by decide +kernel) rfl (Nat.le_of_ble_eq_true rfl) ?_
  intro p e s m args below meth c ls C hr hlk hnm hw hsz hl
  have hx := C.1.1
  have hb := C.1.2.1
  have hown := C.1.2.2.2.1
  have hts := C.1.2.2.2.2
  have hl : lv_has ls 1 [(0, .int x)] := hl
  have hsh := hI.sh
  have hrs := hI.rs
  refine lv_iload_n hx hb dX7_isLetter_0 rfl (lv_at hl 0 rfl) ?_
  refine lv_bipush (v := 97) hx hb dX7_isLetter_1 (by decide) (ti_c 97 (by decide) fun z1 hz1 => ?_)
  refine b_lt (tgt := 16) hx hb dX7_isLetter_3 (by decide) (fun c3 => ?_) (fun c3 => ?_)
  · refine lv_iconst (v := 0) hx hb dX7_isLetter_16 (by decide) (ti_c 0 (by decide) fun z2 hz2 => ?_)
    exact r_iret C hw hr hlk (nar_b (by omega)) (Nat.le_of_ble_eq_true rfl) (Nat.le_of_ble_eq_true rfl) dX7_isLetter_17 ⟨rfl, rfl, rfl, rfl, hsz, ⟨_, rfl, by omega⟩⟩
  · refine lv_iload_n hx hb dX7_isLetter_6 rfl (lv_at hl 0 rfl) ?_
    refine lv_bipush (v := 122) hx hb dX7_isLetter_7 (by decide) (ti_c 122 (by decide) fun z3 hz3 => ?_)
    refine b_gt (tgt := 16) hx hb dX7_isLetter_9 (by decide) (fun c9 => ?_) (fun c9 => ?_)
    · refine lv_iconst (v := 0) hx hb dX7_isLetter_16 (by decide) (ti_c 0 (by decide) fun z4 hz4 => ?_)
      exact r_iret C hw hr hlk (nar_b (by omega)) (Nat.le_of_ble_eq_true rfl) (Nat.le_of_ble_eq_true rfl) dX7_isLetter_17 ⟨rfl, rfl, rfl, rfl, hsz, ⟨_, rfl, by omega⟩⟩
    · refine lv_iconst (v := 1) hx hb dX7_isLetter_12 (by decide) (ti_c 1 (by decide) fun z5 hz5 => ?_)
      refine lv_goto (tgt := 17) hx hb dX7_isLetter_13 (by decide) ?_
      exact r_iret C hw hr hlk (nar_b (by omega)) (Nat.le_of_ble_eq_true rfl) (Nat.le_of_ble_eq_true rfl) dX7_isLetter_17 ⟨rfl, rfl, rfl, rfl, hsz, ⟨_, rfl, by omega⟩⟩

set_option maxHeartbeats 4000000 in
set_option maxRecDepth 100000 in
theorem t_X7_isDigit (l : Launch) (B : Nat) (D : va_G) (cA : Nat → ClassId) (kd : sK) (ig : sI) (rg : sR) (lg : sG) (sz : Nat) (x : Int32) (hI : IC B kd ig rg) : MC l B D cA yX7_isDigit cX7_isDigit 1 (some .boolean) (rL 0 0 0) [.int x] kd ig rg lg sz (Pu kd ig rg lg sz (fun r => ∃ z : Int32, r = some (.int z) ∧ (z.toInt = 0 ∨ z.toInt = 1))) := by
  refine MC.of (own := RX7) (by decide +kernel) rfl (Nat.le_of_ble_eq_true rfl) ?_
  intro p e s m args below meth c ls C hr hlk hnm hw hsz hl
  have hx := C.1.1
  have hb := C.1.2.1
  have hown := C.1.2.2.2.1
  have hts := C.1.2.2.2.2
  have hl : lv_has ls 1 [(0, .int x)] := hl
  have hsh := hI.sh
  have hrs := hI.rs
  refine lv_iload_n hx hb dX7_isDigit_0 rfl (lv_at hl 0 rfl) ?_
  refine lv_bipush (v := 48) hx hb dX7_isDigit_1 (by decide) (ti_c 48 (by decide) fun z1 hz1 => ?_)
  refine b_lt (tgt := 16) hx hb dX7_isDigit_3 (by decide) (fun c3 => ?_) (fun c3 => ?_)
  · refine lv_iconst (v := 0) hx hb dX7_isDigit_16 (by decide) (ti_c 0 (by decide) fun z2 hz2 => ?_)
    exact r_iret C hw hr hlk (nar_b (by omega)) (Nat.le_of_ble_eq_true rfl) (Nat.le_of_ble_eq_true rfl) dX7_isDigit_17 ⟨rfl, rfl, rfl, rfl, hsz, ⟨_, rfl, by omega⟩⟩
  · refine lv_iload_n hx hb dX7_isDigit_6 rfl (lv_at hl 0 rfl) ?_
    refine lv_bipush (v := 57) hx hb dX7_isDigit_7 (by decide) (ti_c 57 (by decide) fun z3 hz3 => ?_)
    refine b_gt (tgt := 16) hx hb dX7_isDigit_9 (by decide) (fun c9 => ?_) (fun c9 => ?_)
    · refine lv_iconst (v := 0) hx hb dX7_isDigit_16 (by decide) (ti_c 0 (by decide) fun z4 hz4 => ?_)
      exact r_iret C hw hr hlk (nar_b (by omega)) (Nat.le_of_ble_eq_true rfl) (Nat.le_of_ble_eq_true rfl) dX7_isDigit_17 ⟨rfl, rfl, rfl, rfl, hsz, ⟨_, rfl, by omega⟩⟩
    · refine lv_iconst (v := 1) hx hb dX7_isDigit_12 (by decide) (ti_c 1 (by decide) fun z5 hz5 => ?_)
      refine lv_goto (tgt := 17) hx hb dX7_isDigit_13 (by decide) ?_
      exact r_iret C hw hr hlk (nar_b (by omega)) (Nat.le_of_ble_eq_true rfl) (Nat.le_of_ble_eq_true rfl) dX7_isDigit_17 ⟨rfl, rfl, rfl, rfl, hsz, ⟨_, rfl, by omega⟩⟩

set_option maxHeartbeats 4000000 in
set_option maxRecDepth 100000 in
theorem t_X7_columnFault (l : Launch) (B : Nat) (D : va_G) (cA : Nat → ClassId) (kd : sK) (ig : sI) (rg : sR) (lg : sG) (sz : Nat) (x : Int32) (y : Int32) (u : Int32) (hI : IC B kd ig rg) : MC l B D cA yX7_columnFault cX7_columnFault 3 (some .int) (rL 0 0 0) [.int x, .int y, .int u] kd ig rg lg sz (Pu kd ig rg lg sz (fun r => ∃ z : Int32, r = some (.int z) ∧ True)) := by
  refine MC.of (own := RX7) (by decide +kernel) rfl (Nat.le_of_ble_eq_true rfl) ?_
  intro p e s m args below meth c ls C hr hlk hnm hw hsz hl
  have hx := C.1.1
  have hb := C.1.2.1
  have hown := C.1.2.2.2.1
  have hts := C.1.2.2.2.2
  have hl : lv_has ls 3 [(0, .int x), (1, .int y), (2, .int u)] := hl
  have hsh := hI.sh
  have hrs := hI.rs
  refine lv_iload_n hx hb dX7_columnFault_0 rfl (lv_at hl 0 rfl) ?_
  refine lv_bipush (v := 119) hx hb dX7_columnFault_1 (by decide) (ti_c 119 (by decide) fun z1 hz1 => ?_)
  refine b_ne (tgt := 12) hx hb dX7_columnFault_3 (by decide) (fun c3 => ?_) (fun c3 => ?_)
  · refine lv_iconst (v := 1) hx hb dX7_columnFault_12 (by decide) (ti_c 1 (by decide) fun z2 hz2 => ?_)
    exact r_iret C hw hr hlk rfl (Nat.le_of_ble_eq_true rfl) (Nat.le_of_ble_eq_true rfl) dX7_columnFault_13 ⟨rfl, rfl, rfl, rfl, hsz, ⟨_, rfl, trivial⟩⟩
  · refine lv_iload_n hx hb dX7_columnFault_6 rfl (lv_at hl 1 rfl) ?_
    refine lv_bipush (v := 12) hx hb dX7_columnFault_7 (by decide) (ti_c 12 (by decide) fun z3 hz3 => ?_)
    refine b_lt (tgt := 14) hx hb dX7_columnFault_9 (by decide) (fun c9 => ?_) (fun c9 => ?_)
    · refine lv_iload_n hx hb dX7_columnFault_14 rfl (lv_at hl 1 rfl) ?_
      refine lv_iload_n hx hb dX7_columnFault_15 rfl (lv_at hl 2 rfl) ?_
      refine b_ge (tgt := 24) hx hb dX7_columnFault_16 (by decide) (fun c16 => ?_) (fun c16 => ?_)
      · refine lv_iconst (v := 0) hx hb dX7_columnFault_24 (by decide) (ti_c 0 (by decide) fun z4 hz4 => ?_)
        exact r_iret C hw hr hlk rfl (Nat.le_of_ble_eq_true rfl) (Nat.le_of_ble_eq_true rfl) dX7_columnFault_25 ⟨rfl, rfl, rfl, rfl, hsz, ⟨_, rfl, trivial⟩⟩
      · refine lv_bipush (v := 6) hx hb dX7_columnFault_19 (by decide) (ti_c 6 (by decide) fun z5 hz5 => ?_)
        refine lv_goto (tgt := 25) hx hb dX7_columnFault_21 (by decide) ?_
        exact r_iret C hw hr hlk rfl (Nat.le_of_ble_eq_true rfl) (Nat.le_of_ble_eq_true rfl) dX7_columnFault_25 ⟨rfl, rfl, rfl, rfl, hsz, ⟨_, rfl, trivial⟩⟩
    · refine lv_iconst (v := 1) hx hb dX7_columnFault_12 (by decide) (ti_c 1 (by decide) fun z6 hz6 => ?_)
      exact r_iret C hw hr hlk rfl (Nat.le_of_ble_eq_true rfl) (Nat.le_of_ble_eq_true rfl) dX7_columnFault_13 ⟨rfl, rfl, rfl, rfl, hsz, ⟨_, rfl, trivial⟩⟩

set_option maxHeartbeats 4000000 in
set_option maxRecDepth 100000 in
theorem t_X7_rowFault (l : Launch) (B : Nat) (D : va_G) (cA : Nat → ClassId) (kd : sK) (ig : sI) (rg : sR) (lg : sG) (sz : Nat) (x : Int32) (y : Int32) (u : Int32) (hI : IC B kd ig rg) : MC l B D cA yX7_rowFault cX7_rowFault 3 (some .int) (rL 0 0 0) [.int x, .int y, .int u] kd ig rg lg sz (Pu kd ig rg lg sz (fun r => ∃ z : Int32, r = some (.int z) ∧ True)) := by
  refine MC.of (own := RX7) (by decide +kernel) rfl (Nat.le_of_ble_eq_true rfl) ?_
  intro p e s m args below meth c ls C hr hlk hnm hw hsz hl
  have hx := C.1.1
  have hb := C.1.2.1
  have hown := C.1.2.2.2.1
  have hts := C.1.2.2.2.2
  have hl : lv_has ls 3 [(0, .int x), (1, .int y), (2, .int u)] := hl
  have hsh := hI.sh
  have hrs := hI.rs
  refine lv_iload_n hx hb dX7_rowFault_0 rfl (lv_at hl 0 rfl) ?_
  refine lv_bipush (v := 110) hx hb dX7_rowFault_1 (by decide) (ti_c 110 (by decide) fun z1 hz1 => ?_)
  refine b_eq (tgt := 8) hx hb dX7_rowFault_3 (by decide) (fun c3 => ?_) (fun c3 => ?_)
  · refine lv_iload_n hx hb dX7_rowFault_8 rfl (lv_at hl 1 rfl) ?_
    refine z_lt (tgt := 18) hx hb dX7_rowFault_9 (by decide) (fun c9 => ?_) (fun c9 => ?_)
    · refine lv_iconst (v := 4) hx hb dX7_rowFault_18 (by decide) (ti_c 4 (by decide) fun z2 hz2 => ?_)
      exact r_iret C hw hr hlk rfl (Nat.le_of_ble_eq_true rfl) (Nat.le_of_ble_eq_true rfl) dX7_rowFault_19 ⟨rfl, rfl, rfl, rfl, hsz, ⟨_, rfl, trivial⟩⟩
    · refine lv_iload_n hx hb dX7_rowFault_12 rfl (lv_at hl 1 rfl) ?_
      refine lv_bipush (v := 24) hx hb dX7_rowFault_13 (by decide) (ti_c 24 (by decide) fun z3 hz3 => ?_)
      refine b_lt (tgt := 20) hx hb dX7_rowFault_15 (by decide) (fun c15 => ?_) (fun c15 => ?_)
      · refine lv_iload_n hx hb dX7_rowFault_20 rfl (lv_at hl 1 rfl) ?_
        refine lv_iload_n hx hb dX7_rowFault_21 rfl (lv_at hl 2 rfl) ?_
        refine b_ge (tgt := 30) hx hb dX7_rowFault_22 (by decide) (fun c22 => ?_) (fun c22 => ?_)
        · refine lv_iconst (v := 0) hx hb dX7_rowFault_30 (by decide) (ti_c 0 (by decide) fun z4 hz4 => ?_)
          exact r_iret C hw hr hlk rfl (Nat.le_of_ble_eq_true rfl) (Nat.le_of_ble_eq_true rfl) dX7_rowFault_31 ⟨rfl, rfl, rfl, rfl, hsz, ⟨_, rfl, trivial⟩⟩
        · refine lv_bipush (v := 7) hx hb dX7_rowFault_25 (by decide) (ti_c 7 (by decide) fun z5 hz5 => ?_)
          refine lv_goto (tgt := 31) hx hb dX7_rowFault_27 (by decide) ?_
          exact r_iret C hw hr hlk rfl (Nat.le_of_ble_eq_true rfl) (Nat.le_of_ble_eq_true rfl) dX7_rowFault_31 ⟨rfl, rfl, rfl, rfl, hsz, ⟨_, rfl, trivial⟩⟩
      · refine lv_iconst (v := 4) hx hb dX7_rowFault_18 (by decide) (ti_c 4 (by decide) fun z6 hz6 => ?_)
        exact r_iret C hw hr hlk rfl (Nat.le_of_ble_eq_true rfl) (Nat.le_of_ble_eq_true rfl) dX7_rowFault_19 ⟨rfl, rfl, rfl, rfl, hsz, ⟨_, rfl, trivial⟩⟩
  · refine lv_iconst (v := 1) hx hb dX7_rowFault_6 (by decide) (ti_c 1 (by decide) fun z7 hz7 => ?_)
    exact r_iret C hw hr hlk rfl (Nat.le_of_ble_eq_true rfl) (Nat.le_of_ble_eq_true rfl) dX7_rowFault_7 ⟨rfl, rfl, rfl, rfl, hsz, ⟨_, rfl, trivial⟩⟩

set_option maxHeartbeats 4000000 in
set_option maxRecDepth 100000 in
theorem t_X7_kind (l : Launch) (B : Nat) (D : va_G) (cA : Nat → ClassId) (kd : sK) (ig : sI) (rg : sR) (lg : sG) (sz : Nat)  (hI : IC B kd ig rg) : MC l B D cA yX7_kind cX7_kind 1 (some .int) (rL 0 0 0) [.ref (B + 1)] kd ig rg lg sz (Pu kd ig rg lg sz (fun r => ∃ z : Int32, r = some (.int z) ∧ True)) := by
  refine MC.of (own := RX7) (by decide +kernel) rfl (Nat.le_of_ble_eq_true rfl) ?_
  intro p e s m args below meth c ls C hr hlk hnm hw hsz hl
  have hx := C.1.1
  have hb := C.1.2.1
  have hown := C.1.2.2.2.1
  have hts := C.1.2.2.2.2
  have hl : lv_has ls 1 [(0, .ref (B + 1))] := hl
  have hsh := hI.sh
  have hrs := hI.rs
  refine lv_aload_n hx hb dX7_kind_0 rfl (lv_at hl 0 rfl) ?_
  refine r_get C hw (hsh 1 _ rfl) fl_X7_50 (oV_i rfl) dX7_kind_1 (ti_c (ig (B + 1) 7).toInt rfl fun z1 hz1 => ?_)
  refine z_lt (tgt := 30) hx hb dX7_kind_4 (by decide) (fun c4 => ?_) (fun c4 => ?_)
  · refine lv_iconst (v := 0) hx hb dX7_kind_30 (by decide) (ti_c 0 (by decide) fun z2 hz2 => ?_)
    exact r_iret C hw hr hlk rfl (Nat.le_of_ble_eq_true rfl) (Nat.le_of_ble_eq_true rfl) dX7_kind_31 ⟨rfl, rfl, rfl, rfl, hsz, ⟨_, rfl, trivial⟩⟩
  · refine lv_aload_n hx hb dX7_kind_7 rfl (lv_at hl 0 rfl) ?_
    refine r_get C hw (hsh 1 _ rfl) fl_X7_50 (oV_i rfl) dX7_kind_8 (ti_c (ig (B + 1) 7).toInt rfl fun z3 hz3 => ?_)
    refine lv_aload_n hx hb dX7_kind_11 rfl (lv_at hl 0 rfl) ?_
    refine r_get C hw (hsh 1 _ rfl) fl_X7_69 (oV_i rfl) dX7_kind_12 (ti_c (ig (B + 1) 6).toInt rfl fun z4 hz4 => ?_)
    have k5 : 0 ≤ (ig (B + 1) 6).toInt ∧ (ig (B + 1) 6).toInt ≤ 121 := hI.i 1 6 (by decide)
    refine b_ge (tgt := 30) hx hb dX7_kind_15 (by decide) (fun c15 => ?_) (fun c15 => ?_)
    · refine lv_iconst (v := 0) hx hb dX7_kind_30 (by decide) (ti_c 0 (by decide) fun z6 hz6 => ?_)
      exact r_iret C hw hr hlk rfl (Nat.le_of_ble_eq_true rfl) (Nat.le_of_ble_eq_true rfl) dX7_kind_31 ⟨rfl, rfl, rfl, rfl, hsz, ⟨_, rfl, trivial⟩⟩
    · refine lv_aload_n hx hb dX7_kind_18 rfl (lv_at hl 0 rfl) ?_
      refine r_get C hw (hsh 1 _ rfl) fl_X7_19 (oV_r rfl (hrs (1, 3, 3) (by decide))) dX7_kind_19 ?_
      refine lv_aload_n hx hb dX7_kind_22 rfl (lv_at hl 0 rfl) ?_
      refine r_get C hw (hsh 1 _ rfl) fl_X7_50 (oV_i rfl) dX7_kind_23 (ti_c (ig (B + 1) 7).toInt rfl fun z7 hz7 => ?_)
      refine r_iald C hw (hsh 3 _ rfl) (by omega) (by omega) dX7_kind_26 (ti_c (ig (B + 3) z7.toInt.toNat).toInt rfl fun z8 hz8 => ?_)
      refine lv_goto (tgt := 31) hx hb dX7_kind_27 (by decide) ?_
      exact r_iret C hw hr hlk rfl (Nat.le_of_ble_eq_true rfl) (Nat.le_of_ble_eq_true rfl) dX7_kind_31 ⟨rfl, rfl, rfl, rfl, hsz, ⟨_, rfl, trivial⟩⟩

set_option maxHeartbeats 4000000 in
set_option maxRecDepth 100000 in
theorem t_X7_amount (l : Launch) (B : Nat) (D : va_G) (cA : Nat → ClassId) (kd : sK) (ig : sI) (rg : sR) (lg : sG) (sz : Nat)  (hI : IC B kd ig rg) : MC l B D cA yX7_amount cX7_amount 1 (some .int) (rL 0 0 0) [.ref (B + 1)] kd ig rg lg sz (Pu kd ig rg lg sz (fun r => ∃ z : Int32, r = some (.int z) ∧ True)) := by
  refine MC.of (own := RX7) (by decide +kernel) rfl (Nat.le_of_ble_eq_true rfl) ?_
  intro p e s m args below meth c ls C hr hlk hnm hw hsz hl
  have hx := C.1.1
  have hb := C.1.2.1
  have hown := C.1.2.2.2.1
  have hts := C.1.2.2.2.2
  have hl : lv_has ls 1 [(0, .ref (B + 1))] := hl
  have hsh := hI.sh
  have hrs := hI.rs
  refine lv_aload_n hx hb dX7_amount_0 rfl (lv_at hl 0 rfl) ?_
  refine r_get C hw (hsh 1 _ rfl) fl_X7_50 (oV_i rfl) dX7_amount_1 (ti_c (ig (B + 1) 7).toInt rfl fun z1 hz1 => ?_)
  refine z_lt (tgt := 30) hx hb dX7_amount_4 (by decide) (fun c4 => ?_) (fun c4 => ?_)
  · refine lv_iconst (v := 0) hx hb dX7_amount_30 (by decide) (ti_c 0 (by decide) fun z2 hz2 => ?_)
    exact r_iret C hw hr hlk rfl (Nat.le_of_ble_eq_true rfl) (Nat.le_of_ble_eq_true rfl) dX7_amount_31 ⟨rfl, rfl, rfl, rfl, hsz, ⟨_, rfl, trivial⟩⟩
  · refine lv_aload_n hx hb dX7_amount_7 rfl (lv_at hl 0 rfl) ?_
    refine r_get C hw (hsh 1 _ rfl) fl_X7_50 (oV_i rfl) dX7_amount_8 (ti_c (ig (B + 1) 7).toInt rfl fun z3 hz3 => ?_)
    refine lv_aload_n hx hb dX7_amount_11 rfl (lv_at hl 0 rfl) ?_
    refine r_get C hw (hsh 1 _ rfl) fl_X7_69 (oV_i rfl) dX7_amount_12 (ti_c (ig (B + 1) 6).toInt rfl fun z4 hz4 => ?_)
    have k5 : 0 ≤ (ig (B + 1) 6).toInt ∧ (ig (B + 1) 6).toInt ≤ 121 := hI.i 1 6 (by decide)
    refine b_ge (tgt := 30) hx hb dX7_amount_15 (by decide) (fun c15 => ?_) (fun c15 => ?_)
    · refine lv_iconst (v := 0) hx hb dX7_amount_30 (by decide) (ti_c 0 (by decide) fun z6 hz6 => ?_)
      exact r_iret C hw hr hlk rfl (Nat.le_of_ble_eq_true rfl) (Nat.le_of_ble_eq_true rfl) dX7_amount_31 ⟨rfl, rfl, rfl, rfl, hsz, ⟨_, rfl, trivial⟩⟩
    · refine lv_aload_n hx hb dX7_amount_18 rfl (lv_at hl 0 rfl) ?_
      refine r_get C hw (hsh 1 _ rfl) fl_X7_23 (oV_r rfl (hrs (1, 4, 4) (by decide))) dX7_amount_19 ?_
      refine lv_aload_n hx hb dX7_amount_22 rfl (lv_at hl 0 rfl) ?_
      refine r_get C hw (hsh 1 _ rfl) fl_X7_50 (oV_i rfl) dX7_amount_23 (ti_c (ig (B + 1) 7).toInt rfl fun z7 hz7 => ?_)
      refine r_iald C hw (hsh 4 _ rfl) (by omega) (by omega) dX7_amount_26 (ti_c (ig (B + 4) z7.toInt.toNat).toInt rfl fun z8 hz8 => ?_)
      refine lv_goto (tgt := 31) hx hb dX7_amount_27 (by decide) ?_
      exact r_iret C hw hr hlk rfl (Nat.le_of_ble_eq_true rfl) (Nat.le_of_ble_eq_true rfl) dX7_amount_31 ⟨rfl, rfl, rfl, rfl, hsz, ⟨_, rfl, trivial⟩⟩

set_option maxHeartbeats 4000000 in
set_option maxRecDepth 100000 in
theorem t_X7_add (l : Launch) (B : Nat) (D : va_G) (cA : Nat → ClassId) (kd : sK) (ig : sI) (rg : sR) (lg : sG) (sz : Nat) (x : Int32) (y : Int32) (u : Int32) (hI : IC B kd ig rg) : MC l B D cA yX7_add cX7_add 4 none (rL 0 0 0) [.ref (B + 1), .int x, .int y, .int u] kd ig rg lg sz (PI B none kd ig rg lg (fun r kd' ig' rg' lg' => r = none)) := by
  refine MC.of (own := RX7) (by decide +kernel) rfl (Nat.le_of_ble_eq_true rfl) ?_
  intro p e s m args below meth c ls C hr hlk hnm hw hsz hl
  have hx := C.1.1
  have hb := C.1.2.1
  have hown := C.1.2.2.2.1
  have hts := C.1.2.2.2.2
  have hl : lv_has ls 4 [(0, .ref (B + 1)), (1, .int x), (2, .int y), (3, .int u)] := hl
  have hN : Nx B none kd ig rg lg kd ig rg lg := Nx.rf
  have hsh := hI.sh
  have hrs := hI.rs
  refine lv_aload_n hx hb dX7_add_0 rfl (lv_at hl 0 rfl) ?_
  refine r_get C hw (hsh 1 _ rfl) fl_X7_41 (oV_i rfl) dX7_add_1 (ti_c (ig (B + 1) 12).toInt rfl fun z1 hz1 => ?_)
  have k2 : 0 ≤ (ig (B + 1) 12).toInt ∧ (ig (B + 1) 12).toInt ≤ 120 := hI.i 1 12 (by decide)
  refine lv_bipush (v := 120) hx hb dX7_add_4 (by decide) (ti_c 120 (by decide) fun z3 hz3 => ?_)
  refine b_ge (tgt := 49) hx hb dX7_add_6 (by decide) (fun c6 => ?_) (fun c6 => ?_)
  · exact r_vret C hw hr hlk (Nat.le_of_ble_eq_true rfl) (Nat.le_of_ble_eq_true rfl) dX7_add_49 ⟨hI, hN, rfl⟩
  · refine lv_aload_n hx hb dX7_add_9 rfl (lv_at hl 0 rfl) ?_
    refine r_get C hw (hsh 1 _ rfl) fl_X7_29 (oV_r rfl (hrs (1, 9, 6) (by decide))) dX7_add_10 ?_
    refine lv_aload_n hx hb dX7_add_13 rfl (lv_at hl 0 rfl) ?_
    refine r_get C hw (hsh 1 _ rfl) fl_X7_41 (oV_i rfl) dX7_add_14 (ti_c (ig (B + 1) 12).toInt rfl fun z4 hz4 => ?_)
    have k5 : 0 ≤ (ig (B + 1) 12).toInt ∧ (ig (B + 1) 12).toInt ≤ 120 := hI.i 1 12 (by decide)
    refine lv_iload_n hx hb dX7_add_17 rfl (lv_at hl 1 rfl) ?_
    refine r_iast C hw (hsh 6 _ rfl) (by omega) (by omega) dX7_add_18 (fun H locs hH hw => ?_)
    obtain ⟨ig6, eig6⟩ : ∃ f, f = up2 ig (B + 6) z4.toInt.toNat x := ⟨_, rfl⟩
    rw [← eig6] at hw
    have hN : Nx B none kd ig rg lg kd ig6 rg lg := by rw [eig6]; exact hN.pi (by omega)
    have hI : IC B kd ig6 rg := by rw [eig6]; exact hI.pi (show okR none _ from trivial)
    have wig6_1_12 : (ig6 (B + 1) 12).toInt = (ig (B + 1) 12).toInt := by rw [eig6, up2_a (by omega)]
    refine lv_aload_n hx hb dX7_add_19 rfl (lv_at hl 0 rfl) ?_
    refine r_get C hw (hsh 1 _ rfl) fl_X7_32 (oV_r rfl (hrs (1, 10, 7) (by decide))) dX7_add_20 ?_
    refine lv_aload_n hx hb dX7_add_23 rfl (lv_at hl 0 rfl) ?_
    refine r_get C hw (hsh 1 _ rfl) fl_X7_41 (oV_i rfl) dX7_add_24 (ti_c (ig6 (B + 1) 12).toInt rfl fun z7 hz7 => ?_)
    have k8 : 0 ≤ (ig6 (B + 1) 12).toInt ∧ (ig6 (B + 1) 12).toInt ≤ 120 := hI.i 1 12 (by decide)
    refine lv_iload_n hx hb dX7_add_27 rfl (lv_at hl 2 rfl) ?_
    refine r_iast C hw (hsh 7 _ rfl) (by omega) (by omega) dX7_add_28 (fun H locs hH hw => ?_)
    obtain ⟨ig9, eig9⟩ : ∃ f, f = up2 ig6 (B + 7) z7.toInt.toNat y := ⟨_, rfl⟩
    rw [← eig9] at hw
    have hN : Nx B none kd ig rg lg kd ig9 rg lg := by rw [eig9]; exact hN.pi (by omega)
    have hI : IC B kd ig9 rg := by rw [eig9]; exact hI.pi (show okR none _ from trivial)
    have wig9_1_12 : (ig9 (B + 1) 12).toInt = (ig6 (B + 1) 12).toInt := by rw [eig9, up2_a (by omega)]
    refine lv_aload_n hx hb dX7_add_29 rfl (lv_at hl 0 rfl) ?_
    refine r_get C hw (hsh 1 _ rfl) fl_X7_35 (oV_r rfl (hrs (1, 11, 8) (by decide))) dX7_add_30 ?_
    refine lv_aload_n hx hb dX7_add_33 rfl (lv_at hl 0 rfl) ?_
    refine r_get C hw (hsh 1 _ rfl) fl_X7_41 (oV_i rfl) dX7_add_34 (ti_c (ig9 (B + 1) 12).toInt rfl fun z10 hz10 => ?_)
    have k11 : 0 ≤ (ig9 (B + 1) 12).toInt ∧ (ig9 (B + 1) 12).toInt ≤ 120 := hI.i 1 12 (by decide)
    refine lv_iload_n hx hb dX7_add_37 rfl (lv_at hl 3 rfl) ?_
    refine r_iast C hw (hsh 8 _ rfl) (by omega) (by omega) dX7_add_38 (fun H locs hH hw => ?_)
    obtain ⟨ig12, eig12⟩ : ∃ f, f = up2 ig9 (B + 8) z10.toInt.toNat u := ⟨_, rfl⟩
    rw [← eig12] at hw
    have hN : Nx B none kd ig rg lg kd ig12 rg lg := by rw [eig12]; exact hN.pi (by omega)
    have hI : IC B kd ig12 rg := by rw [eig12]; exact hI.pi (show okR none _ from trivial)
    have wig12_1_12 : (ig12 (B + 1) 12).toInt = (ig9 (B + 1) 12).toInt := by rw [eig12, up2_a (by omega)]
    refine lv_aload_n hx hb dX7_add_39 rfl (lv_at hl 0 rfl) ?_
    refine lv_dup hx hb dX7_add_40 rfl ?_
    refine r_get C hw (hsh 1 _ rfl) fl_X7_41 (oV_i rfl) dX7_add_41 (ti_c (ig12 (B + 1) 12).toInt rfl fun z13 hz13 => ?_)
    have k14 : 0 ≤ (ig12 (B + 1) 12).toInt ∧ (ig12 (B + 1) 12).toInt ≤ 120 := hI.i 1 12 (by decide)
    refine lv_iconst (v := 1) hx hb dX7_add_44 (by decide) (ti_c 1 (by decide) fun z15 hz15 => ?_)
    refine lv_iadd hx hb dX7_add_45 (tc_add fun z16 hz16 => ?_)
    first | replace hz16 := hz16 (by omega) | clear hz16
    refine r_puti C hw (hsh 1 _ rfl) fl_X7_41 rfl rfl rfl dX7_add_46 (fun H locs hH hw => ?_)
    obtain ⟨ig17, eig17⟩ : ∃ f, f = up2 ig12 (B + 1) 12 z16 := ⟨_, rfl⟩
    rw [← eig17] at hw
    have hN : Nx B none kd ig rg lg kd ig17 rg lg := by rw [eig17]; exact hN.pi (by omega)
    have hI : IC B kd ig17 rg := by rw [eig17]; exact hI.pi (show okR (some (0, 120)) _ from ⟨by show (0 : Int) ≤ _; omega, by show _ ≤ (120 : Int); omega⟩)
    have wig17 : (ig17 (B + 1) 12).toInt = z16.toInt := by rw [eig17, up2_eq]
    exact r_vret C hw hr hlk (Nat.le_of_ble_eq_true rfl) (Nat.le_of_ble_eq_true rfl) dX7_add_49 ⟨hI, hN, rfl⟩

set_option maxHeartbeats 4000000 in
set_option maxRecDepth 100000 in
theorem t_X7_wrong (l : Launch) (B : Nat) (D : va_G) (cA : Nat → ClassId) (kd : sK) (ig : sI) (rg : sR) (lg : sG) (sz : Nat) (x : Int32) (hI : IC B kd ig rg) : MC l B D cA yX7_wrong cX7_wrong 3 (some .boolean) (rL 0 0 0) [.ref (B + 1), .int x] kd ig rg lg sz (PI B none kd ig rg lg (fun r kd' ig' rg' lg' => ∃ z : Int32, r = some (.int z) ∧ (z.toInt = 0 ∨ z.toInt = 1))) := by
  refine MC.of (own := RX7) (by decide +kernel) rfl (Nat.le_of_ble_eq_true rfl) ?_
  intro p e s m args below meth c ls C hr hlk hnm hw hsz hl
  have hx := C.1.1
  have hb := C.1.2.1
  have hown := C.1.2.2.2.1
  have hts := C.1.2.2.2.2
  have hl : lv_has ls 3 [(0, .ref (B + 1)), (1, .int x)] := hl
  have hN : Nx B none kd ig rg lg kd ig rg lg := Nx.rf
  have hsh := hI.sh
  have hrs := hI.rs
  refine lv_aload_n hx hb dX7_wrong_0 rfl (lv_at hl 0 rfl) ?_
  refine r_get C hw (hsh 1 _ rfl) fl_X7_50 (oV_i rfl) dX7_wrong_1 (ti_c (ig (B + 1) 7).toInt rfl fun z1 hz1 => ?_)
  have J34 : ∀ (ls : Array Slot) (H : Heap) (locs : List Loc) (kd3 : sK) (ig4 : sI) (rg5 : sR) (lg6 : sG) (u2 : Int32), lv_has ls 3 [(0, .ref (B + 1)), (1, .int x)] → WD B D cA s.heap kd3 ig4 rg5 lg6 H locs → IC B kd3 ig4 rg5 → Nx B none kd ig rg lg kd3 ig4 rg5 lg6 → W p l e (rL 0 0 0) s m args below meth c H locs 0 0 (MQ below (QcW B D cA (PI B none kd ig rg lg (fun r kd' ig' rg' lg' => ∃ z : Int32, r = some (.int z) ∧ (z.toInt = 0 ∨ z.toInt = 1)))) args s 0 0 (fun q => B ≤ q)) (F0 m 34 ls [.int u2]) := by
    intro ls H locs kd3 ig4 rg5 lg6 u2 hl hw hI hN
    have hsh := hI.sh
    have hrs := hI.rs
    refine lv_istore_n (lv' := [(2, .int u2), (0, .ref (B + 1)), (1, .int x)]) hx hb dX7_wrong_34 rfl hl (by decide) rfl (fun ls hl => ?_)
    refine lv_aload_n hx hb dX7_wrong_35 rfl (lv_at hl 1 rfl) ?_
    refine lv_iload_n hx hb dX7_wrong_36 rfl (lv_at hl 2 rfl) ?_
    refine lv_bipush (v := 16) hx hb dX7_wrong_37 (by decide) (ti_c 16 (by decide) fun z7 hz7 => ?_)
    refine lv_iload_n hx hb dX7_wrong_39 rfl (lv_at hl 0 rfl) ?_
    refine lv_imul hx hb dX7_wrong_40 (tc_mulL 16 hz7 fun z8 hz8 => ?_)
    first | replace hz8 := hz8 (by omega) | clear hz8
    refine lv_iadd hx hb dX7_wrong_41 (tc_add fun z9 hz9 => ?_)
    first | replace hz9 := hz9 (by omega) | clear hz9
    refine r_puti C hw (hsh 1 _ rfl) fl_X7_44 rfl rfl rfl dX7_wrong_42 (fun H locs hH hw => ?_)
    obtain ⟨ig10, eig10⟩ : ∃ f, f = up2 ig4 (B + 1) 8 z9 := ⟨_, rfl⟩
    rw [← eig10] at hw
    have hN : Nx B none kd ig rg lg kd3 ig10 rg5 lg6 := by rw [eig10]; exact hN.pi (by omega)
    have hI : IC B kd3 ig10 rg5 := by rw [eig10]; exact hI.pi (show okR none _ from trivial)
    have wig10_1_6 : (ig10 (B + 1) 6).toInt = (ig4 (B + 1) 6).toInt := by rw [eig10, up2_j (by decide)]
    have wig10_1_1 : (ig10 (B + 1) 1).toInt = (ig4 (B + 1) 1).toInt := by rw [eig10, up2_j (by decide)]
    refine lv_iconst (v := 0) hx hb dX7_wrong_45 (by decide) (ti_c 0 (by decide) fun z11 hz11 => ?_)
    exact r_iret C hw hr hlk (nar_b (by omega)) (Nat.le_of_ble_eq_true rfl) (Nat.le_of_ble_eq_true rfl) dX7_wrong_46 ⟨hI, hN, ⟨_, rfl, by omega⟩⟩
  refine z_lt (tgt := 30) hx hb dX7_wrong_4 (by decide) (fun c4 => ?_) (fun c4 => ?_)
  · refine lv_aload_n hx hb dX7_wrong_30 rfl (lv_at hl 0 rfl) ?_
    refine r_get C hw (hsh 1 _ rfl) fl_X7_15 (oV_i rfl) dX7_wrong_31 (ti_c (ig (B + 1) 1).toInt rfl fun z12 hz12 => ?_)
    have k13 : 0 ≤ (ig (B + 1) 1).toInt ∧ (ig (B + 1) 1).toInt ≤ 120 := hI.i 1 1 (by decide)
    exact J34 ls s.heap [] kd ig rg lg z12 (lv_sub hl [0, 1] rfl) hw hI hN
  · refine lv_aload_n hx hb dX7_wrong_7 rfl (lv_at hl 0 rfl) ?_
    refine r_get C hw (hsh 1 _ rfl) fl_X7_50 (oV_i rfl) dX7_wrong_8 (ti_c (ig (B + 1) 7).toInt rfl fun z14 hz14 => ?_)
    refine lv_aload_n hx hb dX7_wrong_11 rfl (lv_at hl 0 rfl) ?_
    refine r_get C hw (hsh 1 _ rfl) fl_X7_69 (oV_i rfl) dX7_wrong_12 (ti_c (ig (B + 1) 6).toInt rfl fun z15 hz15 => ?_)
    have k16 : 0 ≤ (ig (B + 1) 6).toInt ∧ (ig (B + 1) 6).toInt ≤ 121 := hI.i 1 6 (by decide)
    refine b_ge (tgt := 30) hx hb dX7_wrong_15 (by decide) (fun c15 => ?_) (fun c15 => ?_)
    · refine lv_aload_n hx hb dX7_wrong_30 rfl (lv_at hl 0 rfl) ?_
      refine r_get C hw (hsh 1 _ rfl) fl_X7_15 (oV_i rfl) dX7_wrong_31 (ti_c (ig (B + 1) 1).toInt rfl fun z17 hz17 => ?_)
      have k18 : 0 ≤ (ig (B + 1) 1).toInt ∧ (ig (B + 1) 1).toInt ≤ 120 := hI.i 1 1 (by decide)
      exact J34 ls s.heap [] kd ig rg lg z17 (lv_sub hl [0, 1] rfl) hw hI hN
    · refine lv_aload_n hx hb dX7_wrong_18 rfl (lv_at hl 0 rfl) ?_
      refine r_get C hw (hsh 1 _ rfl) fl_X7_26 (oV_r rfl (hrs (1, 5, 5) (by decide))) dX7_wrong_19 ?_
      refine lv_aload_n hx hb dX7_wrong_22 rfl (lv_at hl 0 rfl) ?_
      refine r_get C hw (hsh 1 _ rfl) fl_X7_50 (oV_i rfl) dX7_wrong_23 (ti_c (ig (B + 1) 7).toInt rfl fun z19 hz19 => ?_)
      refine r_iald C hw (hsh 5 _ rfl) (by omega) (by omega) dX7_wrong_26 (ti_c (ig (B + 5) z19.toInt.toNat).toInt rfl fun z20 hz20 => ?_)
      refine lv_goto (tgt := 34) hx hb dX7_wrong_27 (by decide) ?_
      exact J34 ls s.heap [] kd ig rg lg z20 (lv_sub hl [0, 1] rfl) hw hI hN

set_option maxHeartbeats 4000000 in
set_option maxRecDepth 100000 in
theorem t_X7_startsPart (l : Launch) (B : Nat) (D : va_G) (cA : Nat → ClassId) (kd : sK) (ig : sI) (rg : sR) (lg : sG) (sz : Nat)  (hI : IC B kd ig rg) : MC l B D cA yX7_startsPart cX7_startsPart 1 (some .boolean) (rL 1 0 0) [.ref (B + 1)] kd ig rg lg sz (Pu kd ig rg lg sz (fun r => ∃ z : Int32, r = some (.int z) ∧ (z.toInt = 0 ∨ z.toInt = 1))) := by
  refine MC.of (own := RX7) (by decide +kernel) rfl (Nat.le_of_ble_eq_true rfl) ?_
  intro p e s m args below meth c ls C hr hlk hnm hw hsz hl
  have hx := C.1.1
  have hb := C.1.2.1
  have hown := C.1.2.2.2.1
  have hts := C.1.2.2.2.2
  have hl : lv_has ls 1 [(0, .ref (B + 1))] := hl
  have hsh := hI.sh
  have hrs := hI.rs
  refine lv_aload_n hx hb dX7_startsPart_0 rfl (lv_at hl 0 rfl) ?_
  refine r_callV (As := []) (rest := []) C hw (t_X7_kind l B D cA kd ig rg lg _   hI) sv_X7_57 (hsh 1 _ rfl) rfl hl.1 rfl (Nat.le_of_ble_eq_true rfl) ⟨Nat.le_of_ble_eq_true rfl, Nat.le_of_ble_eq_true rfl⟩ ⟨Nat.le_of_ble_eq_true rfl, Nat.le_of_ble_eq_true rfl⟩ dX7_startsPart_1 (fun r5 kd1 ig2 rg3 lg4 H locs hw hH hp6 => ?_)
  obtain ⟨rfl, rfl, rfl, rfl, hzhp6, hrhp6⟩ := hp6
  have hsz := hzhp6.trans hsz
  obtain ⟨z7, rfl, hz7⟩ := hrhp6
  refine lv_bipush (v := 119) hx hb dX7_startsPart_4 (by decide) (ti_c 119 (by decide) fun z8 hz8 => ?_)
  refine b_ne (tgt := 33) hx hb dX7_startsPart_6 (by decide) (fun c6 => ?_) (fun c6 => ?_)
  · refine lv_aload_n hx hb dX7_startsPart_33 rfl (lv_at hl 0 rfl) ?_
    refine r_callV (As := []) (rest := []) C hw (t_X7_kind l B D cA kd ig rg lg _   hI) sv_X7_57 (hsh 1 _ rfl) rfl hl.1 rfl (Nat.le_of_ble_eq_true rfl) ⟨Nat.le_of_ble_eq_true rfl, Nat.le_of_ble_eq_true rfl⟩ ⟨Nat.le_of_ble_eq_true rfl, Nat.le_of_ble_eq_true rfl⟩ dX7_startsPart_34 (fun r13 kd9 ig10 rg11 lg12 H locs hw hH hp14 => ?_)
    obtain ⟨rfl, rfl, rfl, rfl, hzhp14, hrhp14⟩ := hp14
    have hsz := hzhp14.trans hsz
    obtain ⟨z15, rfl, hz15⟩ := hrhp14
    refine lv_bipush (v := 110) hx hb dX7_startsPart_37 (by decide) (ti_c 110 (by decide) fun z16 hz16 => ?_)
    refine b_eq (tgt := 69) hx hb dX7_startsPart_39 (by decide) (fun c39 => ?_) (fun c39 => ?_)
    · refine lv_iconst (v := 1) hx hb dX7_startsPart_69 (by decide) (ti_c 1 (by decide) fun z17 hz17 => ?_)
      refine lv_goto (tgt := 74) hx hb dX7_startsPart_70 (by decide) ?_
      exact r_iret C hw hr hlk (nar_b (by omega)) (Nat.le_of_ble_eq_true rfl) (Nat.le_of_ble_eq_true rfl) dX7_startsPart_74 ⟨rfl, rfl, rfl, rfl, hsz, ⟨_, rfl, by omega⟩⟩
    · refine lv_aload_n hx hb dX7_startsPart_42 rfl (lv_at hl 0 rfl) ?_
      refine r_callV (As := []) (rest := []) C hw (t_X7_kind l B D cA kd ig rg lg _   hI) sv_X7_57 (hsh 1 _ rfl) rfl hl.1 rfl (Nat.le_of_ble_eq_true rfl) ⟨Nat.le_of_ble_eq_true rfl, Nat.le_of_ble_eq_true rfl⟩ ⟨Nat.le_of_ble_eq_true rfl, Nat.le_of_ble_eq_true rfl⟩ dX7_startsPart_43 (fun r22 kd18 ig19 rg20 lg21 H locs hw hH hp23 => ?_)
      obtain ⟨rfl, rfl, rfl, rfl, hzhp23, hrhp23⟩ := hp23
      have hsz := hzhp23.trans hsz
      obtain ⟨z24, rfl, hz24⟩ := hrhp23
      refine lv_bipush (v := 40) hx hb dX7_startsPart_46 (by decide) (ti_c 40 (by decide) fun z25 hz25 => ?_)
      refine b_eq (tgt := 69) hx hb dX7_startsPart_48 (by decide) (fun c48 => ?_) (fun c48 => ?_)
      · refine lv_iconst (v := 1) hx hb dX7_startsPart_69 (by decide) (ti_c 1 (by decide) fun z26 hz26 => ?_)
        refine lv_goto (tgt := 74) hx hb dX7_startsPart_70 (by decide) ?_
        exact r_iret C hw hr hlk (nar_b (by omega)) (Nat.le_of_ble_eq_true rfl) (Nat.le_of_ble_eq_true rfl) dX7_startsPart_74 ⟨rfl, rfl, rfl, rfl, hsz, ⟨_, rfl, by omega⟩⟩
      · refine lv_aload_n hx hb dX7_startsPart_51 rfl (lv_at hl 0 rfl) ?_
        refine r_callV (As := []) (rest := []) C hw (t_X7_kind l B D cA kd ig rg lg _   hI) sv_X7_57 (hsh 1 _ rfl) rfl hl.1 rfl (Nat.le_of_ble_eq_true rfl) ⟨Nat.le_of_ble_eq_true rfl, Nat.le_of_ble_eq_true rfl⟩ ⟨Nat.le_of_ble_eq_true rfl, Nat.le_of_ble_eq_true rfl⟩ dX7_startsPart_52 (fun r31 kd27 ig28 rg29 lg30 H locs hw hH hp32 => ?_)
        obtain ⟨rfl, rfl, rfl, rfl, hzhp32, hrhp32⟩ := hp32
        have hsz := hzhp32.trans hsz
        obtain ⟨z33, rfl, hz33⟩ := hrhp32
        refine lv_bipush (v := 45) hx hb dX7_startsPart_55 (by decide) (ti_c 45 (by decide) fun z34 hz34 => ?_)
        refine b_eq (tgt := 69) hx hb dX7_startsPart_57 (by decide) (fun c57 => ?_) (fun c57 => ?_)
        · refine lv_iconst (v := 1) hx hb dX7_startsPart_69 (by decide) (ti_c 1 (by decide) fun z35 hz35 => ?_)
          refine lv_goto (tgt := 74) hx hb dX7_startsPart_70 (by decide) ?_
          exact r_iret C hw hr hlk (nar_b (by omega)) (Nat.le_of_ble_eq_true rfl) (Nat.le_of_ble_eq_true rfl) dX7_startsPart_74 ⟨rfl, rfl, rfl, rfl, hsz, ⟨_, rfl, by omega⟩⟩
        · refine lv_aload_n hx hb dX7_startsPart_60 rfl (lv_at hl 0 rfl) ?_
          refine r_callV (As := []) (rest := []) C hw (t_X7_kind l B D cA kd ig rg lg _   hI) sv_X7_57 (hsh 1 _ rfl) rfl hl.1 rfl (Nat.le_of_ble_eq_true rfl) ⟨Nat.le_of_ble_eq_true rfl, Nat.le_of_ble_eq_true rfl⟩ ⟨Nat.le_of_ble_eq_true rfl, Nat.le_of_ble_eq_true rfl⟩ dX7_startsPart_61 (fun r40 kd36 ig37 rg38 lg39 H locs hw hH hp41 => ?_)
          obtain ⟨rfl, rfl, rfl, rfl, hzhp41, hrhp41⟩ := hp41
          have hsz := hzhp41.trans hsz
          obtain ⟨z42, rfl, hz42⟩ := hrhp41
          refine lv_bipush (v := 36) hx hb dX7_startsPart_64 (by decide) (ti_c 36 (by decide) fun z43 hz43 => ?_)
          refine b_ne (tgt := 73) hx hb dX7_startsPart_66 (by decide) (fun c66 => ?_) (fun c66 => ?_)
          · refine lv_iconst (v := 0) hx hb dX7_startsPart_73 (by decide) (ti_c 0 (by decide) fun z44 hz44 => ?_)
            exact r_iret C hw hr hlk (nar_b (by omega)) (Nat.le_of_ble_eq_true rfl) (Nat.le_of_ble_eq_true rfl) dX7_startsPart_74 ⟨rfl, rfl, rfl, rfl, hsz, ⟨_, rfl, by omega⟩⟩
          · refine lv_iconst (v := 1) hx hb dX7_startsPart_69 (by decide) (ti_c 1 (by decide) fun z45 hz45 => ?_)
            refine lv_goto (tgt := 74) hx hb dX7_startsPart_70 (by decide) ?_
            exact r_iret C hw hr hlk (nar_b (by omega)) (Nat.le_of_ble_eq_true rfl) (Nat.le_of_ble_eq_true rfl) dX7_startsPart_74 ⟨rfl, rfl, rfl, rfl, hsz, ⟨_, rfl, by omega⟩⟩
  · refine lv_aload_n hx hb dX7_startsPart_9 rfl (lv_at hl 0 rfl) ?_
    refine r_callV (As := []) (rest := []) C hw (t_X7_amount l B D cA kd ig rg lg _   hI) sv_X7_128 (hsh 1 _ rfl) rfl hl.1 rfl (Nat.le_of_ble_eq_true rfl) ⟨Nat.le_of_ble_eq_true rfl, Nat.le_of_ble_eq_true rfl⟩ ⟨Nat.le_of_ble_eq_true rfl, Nat.le_of_ble_eq_true rfl⟩ dX7_startsPart_10 (fun r50 kd46 ig47 rg48 lg49 H locs hw hH hp51 => ?_)
    obtain ⟨rfl, rfl, rfl, rfl, hzhp51, hrhp51⟩ := hp51
    have hsz := hzhp51.trans hsz
    obtain ⟨z52, rfl, hz52⟩ := hrhp51
    refine lv_bipush (v := 12) hx hb dX7_startsPart_13 (by decide) (ti_c 12 (by decide) fun z53 hz53 => ?_)
    refine b_lt (tgt := 27) hx hb dX7_startsPart_15 (by decide) (fun c15 => ?_) (fun c15 => ?_)
    · refine lv_iconst (v := 1) hx hb dX7_startsPart_27 (by decide) (ti_c 1 (by decide) fun z54 hz54 => ?_)
      refine lv_goto (tgt := 32) hx hb dX7_startsPart_28 (by decide) ?_
      exact r_iret C hw hr hlk (nar_b (by omega)) (Nat.le_of_ble_eq_true rfl) (Nat.le_of_ble_eq_true rfl) dX7_startsPart_32 ⟨rfl, rfl, rfl, rfl, hsz, ⟨_, rfl, by omega⟩⟩
    · refine lv_aload_n hx hb dX7_startsPart_18 rfl (lv_at hl 0 rfl) ?_
      refine r_callV (As := []) (rest := []) C hw (t_X7_amount l B D cA kd ig rg lg _   hI) sv_X7_128 (hsh 1 _ rfl) rfl hl.1 rfl (Nat.le_of_ble_eq_true rfl) ⟨Nat.le_of_ble_eq_true rfl, Nat.le_of_ble_eq_true rfl⟩ ⟨Nat.le_of_ble_eq_true rfl, Nat.le_of_ble_eq_true rfl⟩ dX7_startsPart_19 (fun r59 kd55 ig56 rg57 lg58 H locs hw hH hp60 => ?_)
      obtain ⟨rfl, rfl, rfl, rfl, hzhp60, hrhp60⟩ := hp60
      have hsz := hzhp60.trans hsz
      obtain ⟨z61, rfl, hz61⟩ := hrhp60
      refine lv_bipush (v := 26) hx hb dX7_startsPart_22 (by decide) (ti_c 26 (by decide) fun z62 hz62 => ?_)
      refine b_ne (tgt := 31) hx hb dX7_startsPart_24 (by decide) (fun c24 => ?_) (fun c24 => ?_)
      · refine lv_iconst (v := 0) hx hb dX7_startsPart_31 (by decide) (ti_c 0 (by decide) fun z63 hz63 => ?_)
        exact r_iret C hw hr hlk (nar_b (by omega)) (Nat.le_of_ble_eq_true rfl) (Nat.le_of_ble_eq_true rfl) dX7_startsPart_32 ⟨rfl, rfl, rfl, rfl, hsz, ⟨_, rfl, by omega⟩⟩
      · refine lv_iconst (v := 1) hx hb dX7_startsPart_27 (by decide) (ti_c 1 (by decide) fun z64 hz64 => ?_)
        refine lv_goto (tgt := 32) hx hb dX7_startsPart_28 (by decide) ?_
        exact r_iret C hw hr hlk (nar_b (by omega)) (Nat.le_of_ble_eq_true rfl) (Nat.le_of_ble_eq_true rfl) dX7_startsPart_32 ⟨rfl, rfl, rfl, rfl, hsz, ⟨_, rfl, by omega⟩⟩

set_option maxHeartbeats 4000000 in
set_option maxRecDepth 100000 in
theorem t_X7_take (l : Launch) (B : Nat) (D : va_G) (cA : Nat → ClassId) (kd : sK) (ig : sI) (rg : sR) (lg : sG) (sz : Nat) (x : Int32) (hI : IC B kd ig rg) : MC l B D cA yX7_take cX7_take 2 (some .boolean) (rL 1 0 0) [.ref (B + 1), .int x] kd ig rg lg sz (PI B none kd ig rg lg (fun r kd' ig' rg' lg' => ∃ z : Int32, r = some (.int z) ∧ (z.toInt = 0 ∨ z.toInt = 1))) := by
  refine MC.of (own := RX7) (by decide +kernel) rfl (Nat.le_of_ble_eq_true rfl) ?_
  intro p e s m args below meth c ls C hr hlk hnm hw hsz hl
  have hx := C.1.1
  have hb := C.1.2.1
  have hown := C.1.2.2.2.1
  have hts := C.1.2.2.2.2
  have hl : lv_has ls 2 [(0, .ref (B + 1)), (1, .int x)] := hl
  have hN : Nx B none kd ig rg lg kd ig rg lg := Nx.rf
  have hsh := hI.sh
  have hrs := hI.rs
  refine lv_aload_n hx hb dX7_take_0 rfl (lv_at hl 0 rfl) ?_
  refine r_callV (As := []) (rest := []) C hw (t_X7_kind l B D cA kd ig rg lg _   hI) sv_X7_57 (hsh 1 _ rfl) rfl hl.1 rfl (Nat.le_of_ble_eq_true rfl) ⟨Nat.le_of_ble_eq_true rfl, Nat.le_of_ble_eq_true rfl⟩ ⟨Nat.le_of_ble_eq_true rfl, Nat.le_of_ble_eq_true rfl⟩ dX7_take_1 (fun r5 kd1 ig2 rg3 lg4 H locs hw hH hp6 => ?_)
  obtain ⟨rfl, rfl, rfl, rfl, hzhp6, hrhp6⟩ := hp6
  obtain ⟨z7, rfl, hz7⟩ := hrhp6
  refine lv_iload_n hx hb dX7_take_4 rfl (lv_at hl 1 rfl) ?_
  refine b_eq (tgt := 14) hx hb dX7_take_5 (by decide) (fun c5 => ?_) (fun c5 => ?_)
  · refine lv_aload_n hx hb dX7_take_14 rfl (lv_at hl 0 rfl) ?_
    refine lv_dup hx hb dX7_take_15 rfl ?_
    refine r_get C hw (hsh 1 _ rfl) fl_X7_50 (oV_i rfl) dX7_take_16 (ti_c (ig (B + 1) 7).toInt rfl fun z8 hz8 => ?_)
    refine lv_iconst (v := 1) hx hb dX7_take_19 (by decide) (ti_c 1 (by decide) fun z9 hz9 => ?_)
    refine lv_iadd hx hb dX7_take_20 (tc_add fun z10 hz10 => ?_)
    first | replace hz10 := hz10 (by omega) | clear hz10
    refine r_puti C hw (hsh 1 _ rfl) fl_X7_50 rfl rfl rfl dX7_take_21 (fun H locs hH hw => ?_)
    obtain ⟨ig11, eig11⟩ : ∃ f, f = up2 ig (B + 1) 7 z10 := ⟨_, rfl⟩
    rw [← eig11] at hw
    have hN : Nx B none kd ig rg lg kd ig11 rg lg := by rw [eig11]; exact hN.pi (by omega)
    have hI : IC B kd ig11 rg := by rw [eig11]; exact hI.pi (show okR none _ from trivial)
    refine lv_iconst (v := 1) hx hb dX7_take_24 (by decide) (ti_c 1 (by decide) fun z12 hz12 => ?_)
    exact r_iret C hw hr hlk (nar_b (by omega)) (Nat.le_of_ble_eq_true rfl) (Nat.le_of_ble_eq_true rfl) dX7_take_25 ⟨hI, hN, ⟨_, rfl, by omega⟩⟩
  · refine lv_aload_n hx hb dX7_take_8 rfl (lv_at hl 0 rfl) ?_
    refine lv_iconst (v := 1) hx hb dX7_take_9 (by decide) (ti_c 1 (by decide) fun z13 hz13 => ?_)
    refine r_callV (As := [.int z13]) (rest := []) C hw (t_X7_wrong l B D cA kd ig rg lg _ z13  hI) sv_X7_61 (hsh 1 _ rfl) rfl hl.1 rfl (Nat.le_of_ble_eq_true rfl) ⟨Nat.le_of_ble_eq_true rfl, Nat.le_of_ble_eq_true rfl⟩ ⟨Nat.le_of_ble_eq_true rfl, Nat.le_of_ble_eq_true rfl⟩ dX7_take_10 (fun r18 kd14 ig15 rg16 lg17 H locs hw hH hp19 => ?_)
    obtain ⟨hI, hchp19, hrhp19⟩ := hp19
    have hN := hN.tr hchp19
    have hsh := hI.sh
    have hrs := hI.rs
    obtain ⟨z20, rfl, hz20⟩ := hrhp19
    exact r_iret C hw hr hlk (nar_b (by omega)) (Nat.le_of_ble_eq_true rfl) (Nat.le_of_ble_eq_true rfl) dX7_take_13 ⟨hI, hN, ⟨_, rfl, by omega⟩⟩

set_option maxHeartbeats 4000000 in
set_option maxRecDepth 100000 in
theorem t_X7_endOfToken (l : Launch) (B : Nat) (D : va_G) (cA : Nat → ClassId) (kd : sK) (ig : sI) (rg : sR) (lg : sG) (sz : Nat) (x : Int32) (hx0 : 0 ≤ x.toInt ∧ x.toInt < (ig (B + 1) 1).toInt) (hI : IC B kd ig rg) : MC l B D cA yX7_endOfToken cX7_endOfToken 3 (some .int) (rL 1 0 0) [.ref (B + 1), .int x] kd ig rg lg sz (Pu kd ig rg lg sz (fun r => ∃ z : Int32, r = some (.int z) ∧ (x.toInt < z.toInt ∧ z.toInt ≤ (ig (B + 1) 1).toInt))) := by
  refine MC.of (own := RX7) (by decide +kernel) rfl (Nat.le_of_ble_eq_true rfl) ?_
  intro p e s m args below meth c ls C hr hlk hnm hw hsz hl
  have hx := C.1.1
  have hb := C.1.2.1
  have hown := C.1.2.2.2.1
  have hts := C.1.2.2.2.2
  have hl : lv_has ls 3 [(0, .ref (B + 1)), (1, .int x)] := hl
  have hsh := hI.sh
  have hrs := hI.rs
  have klen : 0 ≤ (ig (B + 1) 1).toInt ∧ (ig (B + 1) 1).toInt ≤ 120 := hI.i 1 1 (by decide)
  refine lv_iload_n hx hb dX7_endOfToken_0 rfl (lv_at hl 1 rfl) ?_
  refine lv_iconst (v := 1) hx hb dX7_endOfToken_1 (by decide) (ti_c 1 (by decide) fun z1 hz1 => ?_)
  refine lv_iadd hx hb dX7_endOfToken_2 (tc_add fun z2 hz2 => ?_)
  first | replace hz2 := hz2 (by omega) | clear hz2
  refine lv_istore_n (lv' := [(2, .int z2), (0, .ref (B + 1)), (1, .int x)]) hx hb dX7_endOfToken_3 rfl hl (by decide) rfl (fun ls hl => ?_)
  refine lv_aload_n hx hb dX7_endOfToken_4 rfl (lv_at hl 1 rfl) ?_
  refine r_get C hw (hsh 1 _ rfl) fl_X7_9 (oV_r rfl (hrs (1, 0, 2) (by decide))) dX7_endOfToken_5 ?_
  refine lv_iload_n hx hb dX7_endOfToken_8 rfl (lv_at hl 2 rfl) ?_
  refine r_cald C hw (hsh 2 _ rfl) (by omega) (by omega) dX7_endOfToken_9 (ti_c (ig (B + 2) x.toInt.toNat).toInt rfl fun z3 hz3 => ?_)
  refine r_callS (As := [.int z3]) (rest := []) C hw (t_X7_isLetter l B D cA kd ig rg lg _ z3  hI) ss_X7_89 rfl hl.1 rfl (Nat.le_of_ble_eq_true rfl) ⟨Nat.le_of_ble_eq_true rfl, Nat.le_of_ble_eq_true rfl⟩ ⟨Nat.le_of_ble_eq_true rfl, Nat.le_of_ble_eq_true rfl⟩ dX7_endOfToken_10 (fun r8 kd4 ig5 rg6 lg7 H locs hw hH hp9 => ?_)
  obtain ⟨rfl, rfl, rfl, rfl, hzhp9, hrhp9⟩ := hp9
  have hsz := hzhp9.trans hsz
  obtain ⟨z10, rfl, hz10⟩ := hrhp9
  refine z_eq (tgt := 42) hx hb dX7_endOfToken_13 (by decide) (fun c13 => ?_) (fun c13 => ?_)
  · refine lv_aload_n hx hb dX7_endOfToken_42 rfl (lv_at hl 1 rfl) ?_
    refine r_get C hw (hsh 1 _ rfl) fl_X7_9 (oV_r rfl (hrs (1, 0, 2) (by decide))) dX7_endOfToken_43 ?_
    refine lv_iload_n hx hb dX7_endOfToken_46 rfl (lv_at hl 2 rfl) ?_
    refine r_cald C hw (hsh 2 _ rfl) (by omega) (by omega) dX7_endOfToken_47 (ti_c (ig (B + 2) x.toInt.toNat).toInt rfl fun z11 hz11 => ?_)
    refine r_callS (As := [.int z11]) (rest := []) C hw (t_X7_isDigit l B D cA kd ig rg lg _ z11  hI) ss_X7_93 rfl hl.1 rfl (Nat.le_of_ble_eq_true rfl) ⟨Nat.le_of_ble_eq_true rfl, Nat.le_of_ble_eq_true rfl⟩ ⟨Nat.le_of_ble_eq_true rfl, Nat.le_of_ble_eq_true rfl⟩ dX7_endOfToken_48 (fun r16 kd12 ig13 rg14 lg15 H locs hw hH hp17 => ?_)
    obtain ⟨rfl, rfl, rfl, rfl, hzhp17, hrhp17⟩ := hp17
    have hsz := hzhp17.trans hsz
    obtain ⟨z18, rfl, hz18⟩ := hrhp17
    refine z_eq (tgt := 80) hx hb dX7_endOfToken_51 (by decide) (fun c51 => ?_) (fun c51 => ?_)
    · refine lv_iload_n hx hb dX7_endOfToken_80 rfl (lv_at hl 0 rfl) ?_
      exact r_iret C hw hr hlk rfl (Nat.le_of_ble_eq_true rfl) (Nat.le_of_ble_eq_true rfl) dX7_endOfToken_81 ⟨rfl, rfl, rfl, rfl, hsz, ⟨_, rfl, by omega⟩⟩
    · have L54 : ∀ (n : Nat) (ls : Array Slot) (H : Heap) (locs : List Loc) (v19 : Int32), lv_has ls 3 [(2, .int v19), (0, .ref (B + 1))] → WD B D cA s.heap kd ig rg lg H locs → H.size = sz → (x.toInt < v19.toInt) → (v19.toInt ≤ (ig (B + 1) 1).toInt) → (ig (B + 1) 1).toInt - v19.toInt < (n : Int) → W p l e (rL 1 0 0) s m args below meth c H locs 0 0 (MQ below (QcW B D cA (Pu kd ig rg lg sz (fun r => ∃ z : Int32, r = some (.int z) ∧ (x.toInt < z.toInt ∧ z.toInt ≤ (ig (B + 1) 1).toInt)))) args s 0 0 (fun q => B ≤ q)) (F0 m 54 ls []) := by
        intro n54
        induction n54 with
        | zero => intro ls H locs v19 hl hw hsz g54_0 g54_1 hmu; exact absurd hmu (by omega)
        | succ n54 ih54 =>
          intro ls H locs v19 hl hw hsz g54_0 g54_1 hmu
          refine lv_iload_n hx hb dX7_endOfToken_54 rfl (lv_at hl 0 rfl) ?_
          refine lv_aload_n hx hb dX7_endOfToken_55 rfl (lv_at hl 1 rfl) ?_
          refine r_get C hw (hsh 1 _ rfl) fl_X7_15 (oV_i rfl) dX7_endOfToken_56 (ti_c (ig (B + 1) 1).toInt rfl fun z20 hz20 => ?_)
          have k21 : 0 ≤ (ig (B + 1) 1).toInt ∧ (ig (B + 1) 1).toInt ≤ 120 := hI.i 1 1 (by decide)
          refine b_ge (tgt := 80) hx hb dX7_endOfToken_59 (by decide) (fun c59 => ?_) (fun c59 => ?_)
          · refine lv_iload_n hx hb dX7_endOfToken_80 rfl (lv_at hl 0 rfl) ?_
            exact r_iret C hw hr hlk rfl (Nat.le_of_ble_eq_true rfl) (Nat.le_of_ble_eq_true rfl) dX7_endOfToken_81 ⟨rfl, rfl, rfl, rfl, hsz, ⟨_, rfl, by omega⟩⟩
          · refine lv_aload_n hx hb dX7_endOfToken_62 rfl (lv_at hl 1 rfl) ?_
            refine r_get C hw (hsh 1 _ rfl) fl_X7_9 (oV_r rfl (hrs (1, 0, 2) (by decide))) dX7_endOfToken_63 ?_
            refine lv_iload_n hx hb dX7_endOfToken_66 rfl (lv_at hl 0 rfl) ?_
            refine r_cald C hw (hsh 2 _ rfl) (by omega) (by omega) dX7_endOfToken_67 (ti_c (ig (B + 2) v19.toInt.toNat).toInt rfl fun z22 hz22 => ?_)
            refine r_callS (As := [.int z22]) (rest := []) C hw (t_X7_isDigit l B D cA kd ig rg lg _ z22  hI) ss_X7_93 rfl hl.1 rfl (Nat.le_of_ble_eq_true rfl) ⟨Nat.le_of_ble_eq_true rfl, Nat.le_of_ble_eq_true rfl⟩ ⟨Nat.le_of_ble_eq_true rfl, Nat.le_of_ble_eq_true rfl⟩ dX7_endOfToken_68 (fun r27 kd23 ig24 rg25 lg26 H locs hw hH hp28 => ?_)
            obtain ⟨rfl, rfl, rfl, rfl, hzhp28, hrhp28⟩ := hp28
            have hsz := hzhp28.trans hsz
            obtain ⟨z29, rfl, hz29⟩ := hrhp28
            refine z_eq (tgt := 80) hx hb dX7_endOfToken_71 (by decide) (fun c71 => ?_) (fun c71 => ?_)
            · refine lv_iload_n hx hb dX7_endOfToken_80 rfl (lv_at hl 0 rfl) ?_
              exact r_iret C hw hr hlk rfl (Nat.le_of_ble_eq_true rfl) (Nat.le_of_ble_eq_true rfl) dX7_endOfToken_81 ⟨rfl, rfl, rfl, rfl, hsz, ⟨_, rfl, by omega⟩⟩
            · refine tc_inc hx hb dX7_endOfToken_74 hl (k := 0) rfl (by decide) (by decide) (fun z30 hz30 ls hl => ?_)
              first | replace hz30 := hz30 (by omega) | clear hz30
              have hl : lv_has ls 3 [(2, .int z30), (0, .ref (B + 1))] := hl
              refine lv_goto (tgt := 54) hx hb dX7_endOfToken_77 (by decide) ?_
              exact ih54 ls H locs z30 (lv_sub hl [0, 1] rfl) hw hsz (by omega) (by omega) (by omega)
      exact L54 (((ig (B + 1) 1).toInt - z2.toInt) + 1).toNat ls H locs z2 (lv_sub hl [0, 1] rfl) hw hsz (by omega) (by omega) (by omega)
  · have L16 : ∀ (n : Nat) (ls : Array Slot) (H : Heap) (locs : List Loc) (v31 : Int32), lv_has ls 3 [(2, .int v31), (0, .ref (B + 1))] → WD B D cA s.heap kd ig rg lg H locs → H.size = sz → (x.toInt < v31.toInt) → (v31.toInt ≤ (ig (B + 1) 1).toInt) → (ig (B + 1) 1).toInt - v31.toInt < (n : Int) → W p l e (rL 1 0 0) s m args below meth c H locs 0 0 (MQ below (QcW B D cA (Pu kd ig rg lg sz (fun r => ∃ z : Int32, r = some (.int z) ∧ (x.toInt < z.toInt ∧ z.toInt ≤ (ig (B + 1) 1).toInt)))) args s 0 0 (fun q => B ≤ q)) (F0 m 16 ls []) := by
      intro n16
      induction n16 with
      | zero => intro ls H locs v31 hl hw hsz g16_0 g16_1 hmu; exact absurd hmu (by omega)
      | succ n16 ih16 =>
        intro ls H locs v31 hl hw hsz g16_0 g16_1 hmu
        refine lv_iload_n hx hb dX7_endOfToken_16 rfl (lv_at hl 0 rfl) ?_
        refine lv_aload_n hx hb dX7_endOfToken_17 rfl (lv_at hl 1 rfl) ?_
        refine r_get C hw (hsh 1 _ rfl) fl_X7_15 (oV_i rfl) dX7_endOfToken_18 (ti_c (ig (B + 1) 1).toInt rfl fun z32 hz32 => ?_)
        have k33 : 0 ≤ (ig (B + 1) 1).toInt ∧ (ig (B + 1) 1).toInt ≤ 120 := hI.i 1 1 (by decide)
        refine b_ge (tgt := 80) hx hb dX7_endOfToken_21 (by decide) (fun c21 => ?_) (fun c21 => ?_)
        · refine lv_iload_n hx hb dX7_endOfToken_80 rfl (lv_at hl 0 rfl) ?_
          exact r_iret C hw hr hlk rfl (Nat.le_of_ble_eq_true rfl) (Nat.le_of_ble_eq_true rfl) dX7_endOfToken_81 ⟨rfl, rfl, rfl, rfl, hsz, ⟨_, rfl, by omega⟩⟩
        · refine lv_aload_n hx hb dX7_endOfToken_24 rfl (lv_at hl 1 rfl) ?_
          refine r_get C hw (hsh 1 _ rfl) fl_X7_9 (oV_r rfl (hrs (1, 0, 2) (by decide))) dX7_endOfToken_25 ?_
          refine lv_iload_n hx hb dX7_endOfToken_28 rfl (lv_at hl 0 rfl) ?_
          refine r_cald C hw (hsh 2 _ rfl) (by omega) (by omega) dX7_endOfToken_29 (ti_c (ig (B + 2) v31.toInt.toNat).toInt rfl fun z34 hz34 => ?_)
          refine r_callS (As := [.int z34]) (rest := []) C hw (t_X7_isLetter l B D cA kd ig rg lg _ z34  hI) ss_X7_89 rfl hl.1 rfl (Nat.le_of_ble_eq_true rfl) ⟨Nat.le_of_ble_eq_true rfl, Nat.le_of_ble_eq_true rfl⟩ ⟨Nat.le_of_ble_eq_true rfl, Nat.le_of_ble_eq_true rfl⟩ dX7_endOfToken_30 (fun r39 kd35 ig36 rg37 lg38 H locs hw hH hp40 => ?_)
          obtain ⟨rfl, rfl, rfl, rfl, hzhp40, hrhp40⟩ := hp40
          have hsz := hzhp40.trans hsz
          obtain ⟨z41, rfl, hz41⟩ := hrhp40
          refine z_eq (tgt := 80) hx hb dX7_endOfToken_33 (by decide) (fun c33 => ?_) (fun c33 => ?_)
          · refine lv_iload_n hx hb dX7_endOfToken_80 rfl (lv_at hl 0 rfl) ?_
            exact r_iret C hw hr hlk rfl (Nat.le_of_ble_eq_true rfl) (Nat.le_of_ble_eq_true rfl) dX7_endOfToken_81 ⟨rfl, rfl, rfl, rfl, hsz, ⟨_, rfl, by omega⟩⟩
          · refine tc_inc hx hb dX7_endOfToken_36 hl (k := 0) rfl (by decide) (by decide) (fun z42 hz42 ls hl => ?_)
            first | replace hz42 := hz42 (by omega) | clear hz42
            have hl : lv_has ls 3 [(2, .int z42), (0, .ref (B + 1))] := hl
            refine lv_goto (tgt := 16) hx hb dX7_endOfToken_39 (by decide) ?_
            exact ih16 ls H locs z42 (lv_sub hl [0, 1] rfl) hw hsz (by omega) (by omega) (by omega)
    exact L16 (((ig (B + 1) 1).toInt - z2.toInt) + 1).toNat ls H locs z2 (lv_sub hl [0, 1] rfl) hw hsz (by omega) (by omega) (by omega)

set_option maxHeartbeats 4000000 in
set_option maxRecDepth 100000 in
theorem t_X7_kindOf (l : Launch) (B : Nat) (D : va_G) (cA : Nat → ClassId) (kd : sK) (ig : sI) (rg : sR) (lg : sG) (sz : Nat) (x : Int32) (y : Int32) (hx0 : 0 ≤ x.toInt ∧ x.toInt < 120) (hI : IC B kd ig rg) : MC l B D cA yX7_kindOf cX7_kindOf 4 (some .int) (rL 4 0 0) [.ref (B + 1), .int x, .int y] kd ig rg lg sz (Pu kd ig rg lg sz (fun r => ∃ z : Int32, r = some (.int z) ∧ True)) := by
  refine MC.of (own := RX7) (by decide +kernel) rfl (Nat.le_of_ble_eq_true rfl) ?_
  intro p e s m args below meth c ls C hr hlk hnm hw hsz hl
  have hx := C.1.1
  have hb := C.1.2.1
  have hown := C.1.2.2.2.1
  have hts := C.1.2.2.2.2
  have hl : lv_has ls 4 [(0, .ref (B + 1)), (1, .int x), (2, .int y)] := hl
  have hsh := hI.sh
  have hrs := hI.rs
  refine lv_aload_n hx hb dX7_kindOf_0 rfl (lv_at hl 0 rfl) ?_
  refine r_get C hw (hsh 1 _ rfl) fl_X7_9 (oV_r rfl (hrs (1, 0, 2) (by decide))) dX7_kindOf_1 ?_
  refine lv_iload_n hx hb dX7_kindOf_4 rfl (lv_at hl 1 rfl) ?_
  refine r_cald C hw (hsh 2 _ rfl) (by omega) (by omega) dX7_kindOf_5 (ti_c (ig (B + 2) x.toInt.toNat).toInt rfl fun z1 hz1 => ?_)
  refine lv_istore_n (lv' := [(3, .int z1), (0, .ref (B + 1)), (1, .int x), (2, .int y)]) hx hb dX7_kindOf_6 rfl hl (by decide) rfl (fun ls hl => ?_)
  refine lv_iload_n hx hb dX7_kindOf_7 rfl (lv_at hl 0 rfl) ?_
  refine r_callS (As := [.int z1]) (rest := []) C hw (t_X7_isLetter l B D cA kd ig rg lg _ z1  hI) ss_X7_89 rfl hl.1 rfl (Nat.le_of_ble_eq_true rfl) ⟨Nat.le_of_ble_eq_true rfl, Nat.le_of_ble_eq_true rfl⟩ ⟨Nat.le_of_ble_eq_true rfl, Nat.le_of_ble_eq_true rfl⟩ dX7_kindOf_8 (fun r6 kd2 ig3 rg4 lg5 H locs hw hH hp7 => ?_)
  obtain ⟨rfl, rfl, rfl, rfl, hzhp7, hrhp7⟩ := hp7
  have hsz := hzhp7.trans hsz
  obtain ⟨z8, rfl, hz8⟩ := hrhp7
  refine z_eq (tgt := 29) hx hb dX7_kindOf_11 (by decide) (fun c11 => ?_) (fun c11 => ?_)
  · refine lv_iload_n hx hb dX7_kindOf_29 rfl (lv_at hl 0 rfl) ?_
    refine r_callS (As := [.int z1]) (rest := []) C hw (t_X7_isDigit l B D cA kd ig rg lg _ z1  hI) ss_X7_93 rfl hl.1 rfl (Nat.le_of_ble_eq_true rfl) ⟨Nat.le_of_ble_eq_true rfl, Nat.le_of_ble_eq_true rfl⟩ ⟨Nat.le_of_ble_eq_true rfl, Nat.le_of_ble_eq_true rfl⟩ dX7_kindOf_30 (fun r13 kd9 ig10 rg11 lg12 H locs hw hH hp14 => ?_)
    obtain ⟨rfl, rfl, rfl, rfl, hzhp14, hrhp14⟩ := hp14
    have hsz := hzhp14.trans hsz
    obtain ⟨z15, rfl, hz15⟩ := hrhp14
    refine z_eq (tgt := 52) hx hb dX7_kindOf_33 (by decide) (fun c33 => ?_) (fun c33 => ?_)
    · refine va_ldcS hx hb hown C.2.2.2.2.2.1.1 dX7_kindOf_52 ?_
      refine lv_iload_n hx hb dX7_kindOf_54 rfl (lv_at hl 0 rfl) ?_
      refine r_callR (As := [.int z1]) (rest := []) C hw (t_J0_indexOf_0f7a4 l B D cA kd ig rg lg _ z1  hI) sr_X7_98 rfl hl.1 rfl (Nat.le_of_ble_eq_true rfl) ⟨Nat.le_of_ble_eq_true rfl, Nat.le_of_ble_eq_true rfl⟩ ⟨Nat.le_of_ble_eq_true rfl, Nat.le_of_ble_eq_true rfl⟩ dX7_kindOf_55 (fun r20 kd16 ig17 rg18 lg19 H locs hw hH hp21 => ?_)
      obtain ⟨rfl, rfl, rfl, rfl, hzhp21, hrhp21⟩ := hp21
      have hsz := hzhp21.trans hsz
      obtain ⟨z22, rfl, hz22⟩ := hrhp21
      refine z_lt (tgt := 65) hx hb dX7_kindOf_58 (by decide) (fun c58 => ?_) (fun c58 => ?_)
      · refine lv_bipush (v := 63) hx hb dX7_kindOf_65 (by decide) (ti_c 63 (by decide) fun z23 hz23 => ?_)
        exact r_iret C hw hr hlk rfl (Nat.le_of_ble_eq_true rfl) (Nat.le_of_ble_eq_true rfl) dX7_kindOf_67 ⟨rfl, rfl, rfl, rfl, hsz, ⟨_, rfl, trivial⟩⟩
      · refine lv_iload_n hx hb dX7_kindOf_61 rfl (lv_at hl 0 rfl) ?_
        refine lv_goto (tgt := 67) hx hb dX7_kindOf_62 (by decide) ?_
        exact r_iret C hw hr hlk rfl (Nat.le_of_ble_eq_true rfl) (Nat.le_of_ble_eq_true rfl) dX7_kindOf_67 ⟨rfl, rfl, rfl, rfl, hsz, ⟨_, rfl, trivial⟩⟩
    · refine lv_iload_n hx hb dX7_kindOf_36 rfl (lv_at hl 3 rfl) ?_
      refine lv_iload_n hx hb dX7_kindOf_37 rfl (lv_at hl 2 rfl) ?_
      refine lv_isub hx hb dX7_kindOf_38 (tc_sub fun z24 hz24 => ?_)
      first | replace hz24 := hz24 (by omega) | clear hz24
      refine lv_bipush (v := 6) hx hb dX7_kindOf_39 (by decide) (ti_c 6 (by decide) fun z25 hz25 => ?_)
      refine b_gt (tgt := 49) hx hb dX7_kindOf_41 (by decide) (fun c41 => ?_) (fun c41 => ?_)
      · refine lv_bipush (v := 63) hx hb dX7_kindOf_49 (by decide) (ti_c 63 (by decide) fun z26 hz26 => ?_)
        exact r_iret C hw hr hlk rfl (Nat.le_of_ble_eq_true rfl) (Nat.le_of_ble_eq_true rfl) dX7_kindOf_51 ⟨rfl, rfl, rfl, rfl, hsz, ⟨_, rfl, trivial⟩⟩
      · refine lv_bipush (v := 110) hx hb dX7_kindOf_44 (by decide) (ti_c 110 (by decide) fun z27 hz27 => ?_)
        refine lv_goto (tgt := 51) hx hb dX7_kindOf_46 (by decide) ?_
        exact r_iret C hw hr hlk rfl (Nat.le_of_ble_eq_true rfl) (Nat.le_of_ble_eq_true rfl) dX7_kindOf_51 ⟨rfl, rfl, rfl, rfl, hsz, ⟨_, rfl, trivial⟩⟩
  · refine lv_iload_n hx hb dX7_kindOf_14 rfl (lv_at hl 3 rfl) ?_
    refine lv_iload_n hx hb dX7_kindOf_15 rfl (lv_at hl 2 rfl) ?_
    refine lv_isub hx hb dX7_kindOf_16 (tc_sub fun z28 hz28 => ?_)
    first | replace hz28 := hz28 (by omega) | clear hz28
    refine lv_iconst (v := 3) hx hb dX7_kindOf_17 (by decide) (ti_c 3 (by decide) fun z29 hz29 => ?_)
    refine b_gt (tgt := 26) hx hb dX7_kindOf_18 (by decide) (fun c18 => ?_) (fun c18 => ?_)
    · refine lv_bipush (v := 63) hx hb dX7_kindOf_26 (by decide) (ti_c 63 (by decide) fun z30 hz30 => ?_)
      exact r_iret C hw hr hlk rfl (Nat.le_of_ble_eq_true rfl) (Nat.le_of_ble_eq_true rfl) dX7_kindOf_28 ⟨rfl, rfl, rfl, rfl, hsz, ⟨_, rfl, trivial⟩⟩
    · refine lv_bipush (v := 119) hx hb dX7_kindOf_21 (by decide) (ti_c 119 (by decide) fun z31 hz31 => ?_)
      refine lv_goto (tgt := 28) hx hb dX7_kindOf_23 (by decide) ?_
      exact r_iret C hw hr hlk rfl (Nat.le_of_ble_eq_true rfl) (Nat.le_of_ble_eq_true rfl) dX7_kindOf_28 ⟨rfl, rfl, rfl, rfl, hsz, ⟨_, rfl, trivial⟩⟩

set_option maxHeartbeats 4000000 in
set_option maxRecDepth 100000 in
theorem t_X7_wordAmount (l : Launch) (B : Nat) (D : va_G) (cA : Nat → ClassId) (kd : sK) (ig : sI) (rg : sR) (lg : sG) (sz : Nat) (x : Int32) (y : Int32) (hx0 : 0 ≤ x.toInt ∧ x.toInt < y.toInt ∧ y.toInt ≤ 120) (hI : IC B kd ig rg) : MC l B D cA yX7_wordAmount cX7_wordAmount 4 (some .int) (rL 0 0 0) [.ref (B + 1), .int x, .int y] kd ig rg lg sz (Pu kd ig rg lg sz (fun r => ∃ z : Int32, r = some (.int z) ∧ True)) := by
  refine MC.of (own := RX7) (by decide +kernel) rfl (Nat.le_of_ble_eq_true rfl) ?_
  intro p e s m args below meth c ls C hr hlk hnm hw hsz hl
  have hx := C.1.1
  have hb := C.1.2.1
  have hown := C.1.2.2.2.1
  have hts := C.1.2.2.2.2
  have hl : lv_has ls 4 [(0, .ref (B + 1)), (1, .int x), (2, .int y)] := hl
  have hsh := hI.sh
  have hrs := hI.rs
  refine lv_iload_n hx hb dX7_wordAmount_0 rfl (lv_at hl 2 rfl) ?_
  refine lv_iload_n hx hb dX7_wordAmount_1 rfl (lv_at hl 1 rfl) ?_
  refine lv_isub hx hb dX7_wordAmount_2 (tc_sub fun z1 hz1 => ?_)
  first | replace hz1 := hz1 (by omega) | clear hz1
  refine lv_iconst (v := 1) hx hb dX7_wordAmount_3 (by decide) (ti_c 1 (by decide) fun z2 hz2 => ?_)
  refine b_ne (tgt := 17) hx hb dX7_wordAmount_4 (by decide) (fun c4 => ?_) (fun c4 => ?_)
  · refine lv_iload_n hx hb dX7_wordAmount_17 rfl (lv_at hl 2 rfl) ?_
    refine lv_iload_n hx hb dX7_wordAmount_18 rfl (lv_at hl 1 rfl) ?_
    refine lv_isub hx hb dX7_wordAmount_19 (tc_sub fun z3 hz3 => ?_)
    first | replace hz3 := hz3 (by omega) | clear hz3
    refine lv_iconst (v := 3) hx hb dX7_wordAmount_20 (by decide) (ti_c 3 (by decide) fun z4 hz4 => ?_)
    have J66 : ∀ (ls : Array Slot) (H : Heap) (locs : List Loc) (u5 : Int32), lv_has ls 4 [] → WD B D cA s.heap kd ig rg lg H locs → H.size = sz → (u5.toInt = 0 ∨ u5.toInt = 1) → W p l e (rL 0 0 0) s m args below meth c H locs 0 0 (MQ below (QcW B D cA (Pu kd ig rg lg sz (fun r => ∃ z : Int32, r = some (.int z) ∧ True))) args s 0 0 (fun q => B ≤ q)) (F0 m 66 ls [.int u5]) := by
      intro ls H locs u5 hl hw hsz g66_0
      refine lv_istore_n (lv' := [(3, .int u5)]) hx hb dX7_wordAmount_66 rfl hl (by decide) rfl (fun ls hl => ?_)
      refine lv_iload_n hx hb dX7_wordAmount_67 rfl (lv_at hl 0 rfl) ?_
      refine z_eq (tgt := 76) hx hb dX7_wordAmount_68 (by decide) (fun c68 => ?_) (fun c68 => ?_)
      · refine lv_bipush (v := 27) hx hb dX7_wordAmount_76 (by decide) (ti_c 27 (by decide) fun z6 hz6 => ?_)
        exact r_iret C hw hr hlk rfl (Nat.le_of_ble_eq_true rfl) (Nat.le_of_ble_eq_true rfl) dX7_wordAmount_78 ⟨rfl, rfl, rfl, rfl, hsz, ⟨_, rfl, trivial⟩⟩
      · refine lv_bipush (v := 26) hx hb dX7_wordAmount_71 (by decide) (ti_c 26 (by decide) fun z7 hz7 => ?_)
        refine lv_goto (tgt := 78) hx hb dX7_wordAmount_73 (by decide) ?_
        exact r_iret C hw hr hlk rfl (Nat.le_of_ble_eq_true rfl) (Nat.le_of_ble_eq_true rfl) dX7_wordAmount_78 ⟨rfl, rfl, rfl, rfl, hsz, ⟨_, rfl, trivial⟩⟩
    refine b_ne (tgt := 65) hx hb dX7_wordAmount_21 (by decide) (fun c21 => ?_) (fun c21 => ?_)
    · refine lv_iconst (v := 0) hx hb dX7_wordAmount_65 (by decide) (ti_c 0 (by decide) fun z8 hz8 => ?_)
      exact J66 ls s.heap [] z8 (lv_sub hl [] rfl) hw hsz (by omega)
    · refine lv_aload_n hx hb dX7_wordAmount_24 rfl (lv_at hl 0 rfl) ?_
      refine r_get C hw (hsh 1 _ rfl) fl_X7_9 (oV_r rfl (hrs (1, 0, 2) (by decide))) dX7_wordAmount_25 ?_
      refine lv_iload_n hx hb dX7_wordAmount_28 rfl (lv_at hl 1 rfl) ?_
      refine r_cald C hw (hsh 2 _ rfl) (by omega) (by omega) dX7_wordAmount_29 (ti_c (ig (B + 2) x.toInt.toNat).toInt rfl fun z9 hz9 => ?_)
      refine lv_bipush (v := 115) hx hb dX7_wordAmount_30 (by decide) (ti_c 115 (by decide) fun z10 hz10 => ?_)
      refine b_ne (tgt := 65) hx hb dX7_wordAmount_32 (by decide) (fun c32 => ?_) (fun c32 => ?_)
      · refine lv_iconst (v := 0) hx hb dX7_wordAmount_65 (by decide) (ti_c 0 (by decide) fun z11 hz11 => ?_)
        exact J66 ls s.heap [] z11 (lv_sub hl [] rfl) hw hsz (by omega)
      · refine lv_aload_n hx hb dX7_wordAmount_35 rfl (lv_at hl 0 rfl) ?_
        refine r_get C hw (hsh 1 _ rfl) fl_X7_9 (oV_r rfl (hrs (1, 0, 2) (by decide))) dX7_wordAmount_36 ?_
        refine lv_iload_n hx hb dX7_wordAmount_39 rfl (lv_at hl 1 rfl) ?_
        refine lv_iconst (v := 1) hx hb dX7_wordAmount_40 (by decide) (ti_c 1 (by decide) fun z12 hz12 => ?_)
        refine lv_iadd hx hb dX7_wordAmount_41 (tc_add fun z13 hz13 => ?_)
        first | replace hz13 := hz13 (by omega) | clear hz13
        refine r_cald C hw (hsh 2 _ rfl) (by omega) (by omega) dX7_wordAmount_42 (ti_c (ig (B + 2) z13.toInt.toNat).toInt rfl fun z14 hz14 => ?_)
        refine lv_bipush (v := 117) hx hb dX7_wordAmount_43 (by decide) (ti_c 117 (by decide) fun z15 hz15 => ?_)
        refine b_ne (tgt := 65) hx hb dX7_wordAmount_45 (by decide) (fun c45 => ?_) (fun c45 => ?_)
        · refine lv_iconst (v := 0) hx hb dX7_wordAmount_65 (by decide) (ti_c 0 (by decide) fun z16 hz16 => ?_)
          exact J66 ls s.heap [] z16 (lv_sub hl [] rfl) hw hsz (by omega)
        · refine lv_aload_n hx hb dX7_wordAmount_48 rfl (lv_at hl 0 rfl) ?_
          refine r_get C hw (hsh 1 _ rfl) fl_X7_9 (oV_r rfl (hrs (1, 0, 2) (by decide))) dX7_wordAmount_49 ?_
          refine lv_iload_n hx hb dX7_wordAmount_52 rfl (lv_at hl 1 rfl) ?_
          refine lv_iconst (v := 2) hx hb dX7_wordAmount_53 (by decide) (ti_c 2 (by decide) fun z17 hz17 => ?_)
          refine lv_iadd hx hb dX7_wordAmount_54 (tc_add fun z18 hz18 => ?_)
          first | replace hz18 := hz18 (by omega) | clear hz18
          refine r_cald C hw (hsh 2 _ rfl) (by omega) (by omega) dX7_wordAmount_55 (ti_c (ig (B + 2) z18.toInt.toNat).toInt rfl fun z19 hz19 => ?_)
          refine lv_bipush (v := 109) hx hb dX7_wordAmount_56 (by decide) (ti_c 109 (by decide) fun z20 hz20 => ?_)
          refine b_ne (tgt := 65) hx hb dX7_wordAmount_58 (by decide) (fun c58 => ?_) (fun c58 => ?_)
          · refine lv_iconst (v := 0) hx hb dX7_wordAmount_65 (by decide) (ti_c 0 (by decide) fun z21 hz21 => ?_)
            exact J66 ls s.heap [] z21 (lv_sub hl [] rfl) hw hsz (by omega)
          · refine lv_iconst (v := 1) hx hb dX7_wordAmount_61 (by decide) (ti_c 1 (by decide) fun z22 hz22 => ?_)
            refine lv_goto (tgt := 66) hx hb dX7_wordAmount_62 (by decide) ?_
            exact J66 ls s.heap [] z22 (lv_sub hl [] rfl) hw hsz (by omega)
  · refine lv_aload_n hx hb dX7_wordAmount_7 rfl (lv_at hl 0 rfl) ?_
    refine r_get C hw (hsh 1 _ rfl) fl_X7_9 (oV_r rfl (hrs (1, 0, 2) (by decide))) dX7_wordAmount_8 ?_
    refine lv_iload_n hx hb dX7_wordAmount_11 rfl (lv_at hl 1 rfl) ?_
    refine r_cald C hw (hsh 2 _ rfl) (by omega) (by omega) dX7_wordAmount_12 (ti_c (ig (B + 2) x.toInt.toNat).toInt rfl fun z23 hz23 => ?_)
    refine lv_bipush (v := 97) hx hb dX7_wordAmount_13 (by decide) (ti_c 97 (by decide) fun z24 hz24 => ?_)
    refine lv_isub hx hb dX7_wordAmount_15 (tc_sub fun z25 hz25 => ?_)
    first | replace hz25 := hz25 (by omega) | clear hz25
    exact r_iret C hw hr hlk rfl (Nat.le_of_ble_eq_true rfl) (Nat.le_of_ble_eq_true rfl) dX7_wordAmount_16 ⟨rfl, rfl, rfl, rfl, hsz, ⟨_, rfl, trivial⟩⟩

set_option maxHeartbeats 4000000 in
set_option maxRecDepth 100000 in
theorem t_X7_digitsAmount (l : Launch) (B : Nat) (D : va_G) (cA : Nat → ClassId) (kd : sK) (ig : sI) (rg : sR) (lg : sG) (sz : Nat) (x : Int32) (y : Int32) (hx0 : 0 ≤ x.toInt ∧ x.toInt < y.toInt ∧ y.toInt ≤ 120) (hI : IC B kd ig rg) : MC l B D cA yX7_digitsAmount cX7_digitsAmount 5 (some .int) (rL 0 0 0) [.ref (B + 1), .int x, .int y] kd ig rg lg sz (Pu kd ig rg lg sz (fun r => ∃ z : Int32, r = some (.int z) ∧ True)) := by
  refine MC.of (own := RX7) (by decide +kernel) rfl (Nat.le_of_ble_eq_true rfl) ?_
  intro p e s m args below meth c ls C hr hlk hnm hw hsz hl
  have hx := C.1.1
  have hb := C.1.2.1
  have hown := C.1.2.2.2.1
  have hts := C.1.2.2.2.2
  have hl : lv_has ls 5 [(0, .ref (B + 1)), (1, .int x), (2, .int y)] := hl
  have hsh := hI.sh
  have hrs := hI.rs
  refine lv_iconst (v := 0) hx hb dX7_digitsAmount_0 (by decide) (ti_c 0 (by decide) fun z1 hz1 => ?_)
  refine lv_istore_n (lv' := [(3, .int z1), (0, .ref (B + 1)), (1, .int x), (2, .int y)]) hx hb dX7_digitsAmount_1 rfl hl (by decide) rfl (fun ls hl => ?_)
  refine lv_iload_n hx hb dX7_digitsAmount_2 rfl (lv_at hl 2 rfl) ?_
  refine lv_istore (lv' := [(4, .int x), (3, .int z1), (0, .ref (B + 1)), (1, .int x), (2, .int y)]) hx hb dX7_digitsAmount_3 hl (by decide) rfl (fun ls hl => ?_)
  have L5 : ∀ (n : Nat) (ls : Array Slot) (H : Heap) (locs : List Loc) (v2 : Int32) (v3 : Int32), lv_has ls 5 [(4, .int v2), (3, .int v3), (0, .ref (B + 1)), (2, .int y)] → WD B D cA s.heap kd ig rg lg H locs → H.size = sz → (0 ≤ v2.toInt) → (v2.toInt ≤ 120) → 120 - v2.toInt < (n : Int) → W p l e (rL 0 0 0) s m args below meth c H locs 0 0 (MQ below (QcW B D cA (Pu kd ig rg lg sz (fun r => ∃ z : Int32, r = some (.int z) ∧ True))) args s 0 0 (fun q => B ≤ q)) (F0 m 5 ls []) := by
    intro n5
    induction n5 with
    | zero => intro ls H locs v2 v3 hl hw hsz g5_0 g5_1 hmu; exact absurd hmu (by omega)
    | succ n5 ih5 =>
      intro ls H locs v2 v3 hl hw hsz g5_0 g5_1 hmu
      refine lv_iload hx hb dX7_digitsAmount_5 (lv_at hl 0 rfl) ?_
      refine lv_iload_n hx hb dX7_digitsAmount_7 rfl (lv_at hl 3 rfl) ?_
      refine b_ge (tgt := 33) hx hb dX7_digitsAmount_8 (by decide) (fun c8 => ?_) (fun c8 => ?_)
      · refine lv_iload_n hx hb dX7_digitsAmount_33 rfl (lv_at hl 1 rfl) ?_
        exact r_iret C hw hr hlk rfl (Nat.le_of_ble_eq_true rfl) (Nat.le_of_ble_eq_true rfl) dX7_digitsAmount_34 ⟨rfl, rfl, rfl, rfl, hsz, ⟨_, rfl, trivial⟩⟩
      · refine lv_iload_n hx hb dX7_digitsAmount_11 rfl (lv_at hl 1 rfl) ?_
        refine lv_bipush (v := 10) hx hb dX7_digitsAmount_12 (by decide) (ti_c 10 (by decide) fun z4 hz4 => ?_)
        refine lv_imul hx hb dX7_digitsAmount_14 (tc_mulR 10 hz4 fun z5 hz5 => ?_)
        first | replace hz5 := hz5 (by omega) | clear hz5
        refine lv_aload_n hx hb dX7_digitsAmount_15 rfl (lv_at hl 2 rfl) ?_
        refine r_get C hw (hsh 1 _ rfl) fl_X7_9 (oV_r rfl (hrs (1, 0, 2) (by decide))) dX7_digitsAmount_16 ?_
        refine lv_iload hx hb dX7_digitsAmount_19 (lv_at hl 0 rfl) ?_
        refine r_cald C hw (hsh 2 _ rfl) (by omega) (by omega) dX7_digitsAmount_21 (ti_c (ig (B + 2) v2.toInt.toNat).toInt rfl fun z6 hz6 => ?_)
        refine lv_bipush (v := 48) hx hb dX7_digitsAmount_22 (by decide) (ti_c 48 (by decide) fun z7 hz7 => ?_)
        refine lv_isub hx hb dX7_digitsAmount_24 (tc_sub fun z8 hz8 => ?_)
        first | replace hz8 := hz8 (by omega) | clear hz8
        refine lv_iadd hx hb dX7_digitsAmount_25 (tc_add fun z9 hz9 => ?_)
        first | replace hz9 := hz9 (by omega) | clear hz9
        refine lv_istore_n (lv' := [(3, .int z9), (4, .int v2), (0, .ref (B + 1)), (2, .int y)]) hx hb dX7_digitsAmount_26 rfl hl (by decide) rfl (fun ls hl => ?_)
        refine tc_inc hx hb dX7_digitsAmount_27 hl (k := 1) rfl (by decide) (by decide) (fun z10 hz10 ls hl => ?_)
        first | replace hz10 := hz10 (by omega) | clear hz10
        have hl : lv_has ls 5 [(4, .int z10), (3, .int z9), (0, .ref (B + 1)), (2, .int y)] := hl
        refine lv_goto (tgt := 5) hx hb dX7_digitsAmount_30 (by decide) ?_
        exact ih5 ls H locs z10 z9 (lv_sub hl [0, 1, 2, 3] rfl) hw hsz (by omega) (by omega) (by omega)
  exact L5 ((120 - x.toInt) + 1).toNat ls s.heap [] x z1 (lv_sub hl [0, 1, 2, 4] rfl) hw hsz (by omega) (by omega) (by omega)

set_option maxHeartbeats 4000000 in
set_option maxRecDepth 100000 in
theorem t_X7_addToken (l : Launch) (B : Nat) (D : va_G) (cA : Nat → ClassId) (kd : sK) (ig : sI) (rg : sR) (lg : sG) (sz : Nat) (x : Int32) (y : Int32) (u : Int32) (hk0 : x.toInt = 0 ∨ (0 ≤ y.toInt ∧ y.toInt < u.toInt ∧ u.toInt ≤ 120)) (hI : IC B kd ig rg) : MC l B D cA yX7_addToken cX7_addToken 4 none (rL 1 0 0) [.ref (B + 1), .int x, .int y, .int u] kd ig rg lg sz (PI B none kd ig rg lg (fun r kd' ig' rg' lg' => r = none)) := by
  refine MC.of (own := RX7) (by decide +kernel) rfl (Nat.le_of_ble_eq_true rfl) ?_
  intro p e s m args below meth c ls C hr hlk hnm hw hsz hl
  have hx := C.1.1
  have hb := C.1.2.1
  have hown := C.1.2.2.2.1
  have hts := C.1.2.2.2.2
  have hl : lv_has ls 4 [(0, .ref (B + 1)), (1, .int x), (2, .int y), (3, .int u)] := hl
  have hN : Nx B none kd ig rg lg kd ig rg lg := Nx.rf
  have hsh := hI.sh
  have hrs := hI.rs
  refine lv_aload_n hx hb dX7_addToken_0 rfl (lv_at hl 0 rfl) ?_
  refine r_get C hw (hsh 1 _ rfl) fl_X7_69 (oV_i rfl) dX7_addToken_1 (ti_c (ig (B + 1) 6).toInt rfl fun z1 hz1 => ?_)
  have k2 : 0 ≤ (ig (B + 1) 6).toInt ∧ (ig (B + 1) 6).toInt ≤ 121 := hI.i 1 6 (by decide)
  refine lv_bipush (v := 120) hx hb dX7_addToken_4 (by decide) (ti_c 120 (by decide) fun z3 hz3 => ?_)
  refine b_gt (tgt := 79) hx hb dX7_addToken_6 (by decide) (fun c6 => ?_) (fun c6 => ?_)
  · exact r_vret C hw hr hlk (Nat.le_of_ble_eq_true rfl) (Nat.le_of_ble_eq_true rfl) dX7_addToken_79 ⟨hI, hN, rfl⟩
  · refine lv_aload_n hx hb dX7_addToken_9 rfl (lv_at hl 0 rfl) ?_
    refine r_get C hw (hsh 1 _ rfl) fl_X7_19 (oV_r rfl (hrs (1, 3, 3) (by decide))) dX7_addToken_10 ?_
    refine lv_aload_n hx hb dX7_addToken_13 rfl (lv_at hl 0 rfl) ?_
    refine r_get C hw (hsh 1 _ rfl) fl_X7_69 (oV_i rfl) dX7_addToken_14 (ti_c (ig (B + 1) 6).toInt rfl fun z4 hz4 => ?_)
    have k5 : 0 ≤ (ig (B + 1) 6).toInt ∧ (ig (B + 1) 6).toInt ≤ 121 := hI.i 1 6 (by decide)
    refine lv_iload_n hx hb dX7_addToken_17 rfl (lv_at hl 1 rfl) ?_
    refine r_iast C hw (hsh 3 _ rfl) (by omega) (by omega) dX7_addToken_18 (fun H locs hH hw => ?_)
    obtain ⟨ig6, eig6⟩ : ∃ f, f = up2 ig (B + 3) z4.toInt.toNat x := ⟨_, rfl⟩
    rw [← eig6] at hw
    have hN : Nx B none kd ig rg lg kd ig6 rg lg := by rw [eig6]; exact hN.pi (by omega)
    have hI : IC B kd ig6 rg := by rw [eig6]; exact hI.pi (show okR none _ from trivial)
    have wig6_1_6 : (ig6 (B + 1) 6).toInt = (ig (B + 1) 6).toInt := by rw [eig6, up2_a (by omega)]
    refine lv_aload_n hx hb dX7_addToken_19 rfl (lv_at hl 0 rfl) ?_
    refine r_get C hw (hsh 1 _ rfl) fl_X7_26 (oV_r rfl (hrs (1, 5, 5) (by decide))) dX7_addToken_20 ?_
    refine lv_aload_n hx hb dX7_addToken_23 rfl (lv_at hl 0 rfl) ?_
    refine r_get C hw (hsh 1 _ rfl) fl_X7_69 (oV_i rfl) dX7_addToken_24 (ti_c (ig6 (B + 1) 6).toInt rfl fun z7 hz7 => ?_)
    have k8 : 0 ≤ (ig6 (B + 1) 6).toInt ∧ (ig6 (B + 1) 6).toInt ≤ 121 := hI.i 1 6 (by decide)
    refine lv_iload_n hx hb dX7_addToken_27 rfl (lv_at hl 2 rfl) ?_
    refine r_iast C hw (hsh 5 _ rfl) (by omega) (by omega) dX7_addToken_28 (fun H locs hH hw => ?_)
    obtain ⟨ig9, eig9⟩ : ∃ f, f = up2 ig6 (B + 5) z7.toInt.toNat y := ⟨_, rfl⟩
    rw [← eig9] at hw
    have hN : Nx B none kd ig rg lg kd ig9 rg lg := by rw [eig9]; exact hN.pi (by omega)
    have hI : IC B kd ig9 rg := by rw [eig9]; exact hI.pi (show okR none _ from trivial)
    have wig9_1_6 : (ig9 (B + 1) 6).toInt = (ig6 (B + 1) 6).toInt := by rw [eig9, up2_a (by omega)]
    refine lv_aload_n hx hb dX7_addToken_29 rfl (lv_at hl 0 rfl) ?_
    refine r_get C hw (hsh 1 _ rfl) fl_X7_23 (oV_r rfl (hrs (1, 4, 4) (by decide))) dX7_addToken_30 ?_
    refine lv_aload_n hx hb dX7_addToken_33 rfl (lv_at hl 0 rfl) ?_
    refine r_get C hw (hsh 1 _ rfl) fl_X7_69 (oV_i rfl) dX7_addToken_34 (ti_c (ig9 (B + 1) 6).toInt rfl fun z10 hz10 => ?_)
    have k11 : 0 ≤ (ig9 (B + 1) 6).toInt ∧ (ig9 (B + 1) 6).toInt ≤ 121 := hI.i 1 6 (by decide)
    refine lv_iload_n hx hb dX7_addToken_37 rfl (lv_at hl 1 rfl) ?_
    refine lv_bipush (v := 119) hx hb dX7_addToken_38 (by decide) (ti_c 119 (by decide) fun z12 hz12 => ?_)
    have J68 : ∀ (ls : Array Slot) (H : Heap) (locs : List Loc) (kd14 : sK) (ig15 : sI) (rg16 : sR) (lg17 : sG) (u13 : Int32), lv_has ls 4 [(0, .ref (B + 1))] → WD B D cA s.heap kd14 ig15 rg16 lg17 H locs → IC B kd14 ig15 rg16 → Nx B none kd ig rg lg kd14 ig15 rg16 lg17 → ((ig15 (B + 1) 6).toInt ≤ 120) → W p l e (rL 1 0 0) s m args below meth c H locs 0 0 (MQ below (QcW B D cA (PI B none kd ig rg lg (fun r kd' ig' rg' lg' => r = none))) args s 0 0 (fun q => B ≤ q)) (F0 m 68 ls [.int u13, .int z10, .ref (B + 4)]) := by
      intro ls H locs kd14 ig15 rg16 lg17 u13 hl hw hI hN g68_0
      have hsh := hI.sh
      have hrs := hI.rs
      refine r_iast C hw (hsh 4 _ rfl) (by omega) (by omega) dX7_addToken_68 (fun H locs hH hw => ?_)
      obtain ⟨ig18, eig18⟩ : ∃ f, f = up2 ig15 (B + 4) z10.toInt.toNat u13 := ⟨_, rfl⟩
      rw [← eig18] at hw
      have hN : Nx B none kd ig rg lg kd14 ig18 rg16 lg17 := by rw [eig18]; exact hN.pi (by omega)
      have hI : IC B kd14 ig18 rg16 := by rw [eig18]; exact hI.pi (show okR none _ from trivial)
      have wig18_1_6 : (ig18 (B + 1) 6).toInt = (ig15 (B + 1) 6).toInt := by rw [eig18, up2_a (by omega)]
      refine lv_aload_n hx hb dX7_addToken_69 rfl (lv_at hl 0 rfl) ?_
      refine lv_dup hx hb dX7_addToken_70 rfl ?_
      refine r_get C hw (hsh 1 _ rfl) fl_X7_69 (oV_i rfl) dX7_addToken_71 (ti_c (ig18 (B + 1) 6).toInt rfl fun z19 hz19 => ?_)
      have k20 : 0 ≤ (ig18 (B + 1) 6).toInt ∧ (ig18 (B + 1) 6).toInt ≤ 121 := hI.i 1 6 (by decide)
      refine lv_iconst (v := 1) hx hb dX7_addToken_74 (by decide) (ti_c 1 (by decide) fun z21 hz21 => ?_)
      refine lv_iadd hx hb dX7_addToken_75 (tc_add fun z22 hz22 => ?_)
      first | replace hz22 := hz22 (by omega) | clear hz22
      refine r_puti C hw (hsh 1 _ rfl) fl_X7_69 rfl rfl rfl dX7_addToken_76 (fun H locs hH hw => ?_)
      obtain ⟨ig23, eig23⟩ : ∃ f, f = up2 ig18 (B + 1) 6 z22 := ⟨_, rfl⟩
      rw [← eig23] at hw
      have hN : Nx B none kd ig rg lg kd14 ig23 rg16 lg17 := by rw [eig23]; exact hN.pi (by omega)
      have hI : IC B kd14 ig23 rg16 := by rw [eig23]; exact hI.pi (show okR (some (0, 121)) _ from ⟨by show (0 : Int) ≤ _; omega, by show _ ≤ (121 : Int); omega⟩)
      have wig23 : (ig23 (B + 1) 6).toInt = z22.toInt := by rw [eig23, up2_eq]
      exact r_vret C hw hr hlk (Nat.le_of_ble_eq_true rfl) (Nat.le_of_ble_eq_true rfl) dX7_addToken_79 ⟨hI, hN, rfl⟩
    refine b_ne (tgt := 52) hx hb dX7_addToken_40 (by decide) (fun c40 => ?_) (fun c40 => ?_)
    · refine lv_iload_n hx hb dX7_addToken_52 rfl (lv_at hl 1 rfl) ?_
      refine lv_bipush (v := 110) hx hb dX7_addToken_53 (by decide) (ti_c 110 (by decide) fun z24 hz24 => ?_)
      refine b_ne (tgt := 67) hx hb dX7_addToken_55 (by decide) (fun c55 => ?_) (fun c55 => ?_)
      · refine lv_iconst (v := 0) hx hb dX7_addToken_67 (by decide) (ti_c 0 (by decide) fun z25 hz25 => ?_)
        exact J68 ls H locs kd ig9 rg lg z25 (lv_sub hl [0] rfl) hw hI hN (by omega)
      · refine lv_aload_n hx hb dX7_addToken_58 rfl (lv_at hl 0 rfl) ?_
        refine lv_iload_n hx hb dX7_addToken_59 rfl (lv_at hl 2 rfl) ?_
        refine lv_iload_n hx hb dX7_addToken_60 rfl (lv_at hl 3 rfl) ?_
        refine r_callV (As := [.int y, .int u]) (rest := [.int z10, .ref (B + 4)]) C hw (t_X7_digitsAmount l B D cA kd ig9 rg lg _ y u (by omega) hI) sv_X7_106 (hsh 1 _ rfl) rfl hl.1 rfl (Nat.le_of_ble_eq_true rfl) ⟨Nat.le_of_ble_eq_true rfl, Nat.le_of_ble_eq_true rfl⟩ ⟨Nat.le_of_ble_eq_true rfl, Nat.le_of_ble_eq_true rfl⟩ dX7_addToken_61 (fun r30 kd26 ig27 rg28 lg29 H locs hw hH hp31 => ?_)
        obtain ⟨rfl, rfl, rfl, rfl, hzhp31, hrhp31⟩ := hp31
        obtain ⟨z32, rfl, hz32⟩ := hrhp31
        refine lv_goto (tgt := 68) hx hb dX7_addToken_64 (by decide) ?_
        exact J68 ls H locs kd ig9 rg lg z32 (lv_sub hl [0] rfl) hw hI hN (by omega)
    · refine lv_aload_n hx hb dX7_addToken_43 rfl (lv_at hl 0 rfl) ?_
      refine lv_iload_n hx hb dX7_addToken_44 rfl (lv_at hl 2 rfl) ?_
      refine lv_iload_n hx hb dX7_addToken_45 rfl (lv_at hl 3 rfl) ?_
      refine r_callV (As := [.int y, .int u]) (rest := [.int z10, .ref (B + 4)]) C hw (t_X7_wordAmount l B D cA kd ig9 rg lg _ y u (by omega) hI) sv_X7_103 (hsh 1 _ rfl) rfl hl.1 rfl (Nat.le_of_ble_eq_true rfl) ⟨Nat.le_of_ble_eq_true rfl, Nat.le_of_ble_eq_true rfl⟩ ⟨Nat.le_of_ble_eq_true rfl, Nat.le_of_ble_eq_true rfl⟩ dX7_addToken_46 (fun r37 kd33 ig34 rg35 lg36 H locs hw hH hp38 => ?_)
      obtain ⟨rfl, rfl, rfl, rfl, hzhp38, hrhp38⟩ := hp38
      obtain ⟨z39, rfl, hz39⟩ := hrhp38
      refine lv_goto (tgt := 68) hx hb dX7_addToken_49 (by decide) ?_
      exact J68 ls H locs kd ig9 rg lg z39 (lv_sub hl [0] rfl) hw hI hN (by omega)

set_option maxHeartbeats 4000000 in
set_option maxRecDepth 100000 in
theorem t_X7_findTokens (l : Launch) (B : Nat) (D : va_G) (cA : Nat → ClassId) (kd : sK) (ig : sI) (rg : sR) (lg : sG) (sz : Nat)  (hI : IC B kd ig rg) : MC l B D cA yX7_findTokens cX7_findTokens 3 none (rL 5 0 0) [.ref (B + 1)] kd ig rg lg sz (PI B none kd ig rg lg (fun r kd' ig' rg' lg' => r = none)) := by
  refine MC.of (own := RX7) (by decide +kernel) rfl (Nat.le_of_ble_eq_true rfl) ?_
  intro p e s m args below meth c ls C hr hlk hnm hw hsz hl
  have hx := C.1.1
  have hb := C.1.2.1
  have hown := C.1.2.2.2.1
  have hts := C.1.2.2.2.2
  have hl : lv_has ls 3 [(0, .ref (B + 1))] := hl
  have hN : Nx B none kd ig rg lg kd ig rg lg := Nx.rf
  have hsh := hI.sh
  have hrs := hI.rs
  refine lv_aload_n hx hb dX7_findTokens_0 rfl (lv_at hl 0 rfl) ?_
  refine lv_iconst (v := 0) hx hb dX7_findTokens_1 (by decide) (ti_c 0 (by decide) fun z1 hz1 => ?_)
  refine r_puti C hw (hsh 1 _ rfl) fl_X7_69 rfl rfl rfl dX7_findTokens_2 (fun H locs hH hw => ?_)
  obtain ⟨ig2, eig2⟩ : ∃ f, f = up2 ig (B + 1) 6 z1 := ⟨_, rfl⟩
  rw [← eig2] at hw
  have hN : Nx B none kd ig rg lg kd ig2 rg lg := by rw [eig2]; exact hN.pi (by omega)
  have hI : IC B kd ig2 rg := by rw [eig2]; exact hI.pi (show okR (some (0, 121)) _ from ⟨by show (0 : Int) ≤ _; omega, by show _ ≤ (121 : Int); omega⟩)
  have wig2_1_1 : (ig2 (B + 1) 1).toInt = (ig (B + 1) 1).toInt := by rw [eig2, up2_j (by decide)]
  refine lv_iconst (v := 0) hx hb dX7_findTokens_5 (by decide) (ti_c 0 (by decide) fun z3 hz3 => ?_)
  refine lv_istore_n (lv' := [(1, .int z3), (0, .ref (B + 1))]) hx hb dX7_findTokens_6 rfl hl (by decide) rfl (fun ls hl => ?_)
  refine lv_iconst (v := 0) hx hb dX7_findTokens_7 (by decide) (ti_c 0 (by decide) fun z4 hz4 => ?_)
  refine lv_istore_n (lv' := [(2, .int z4), (1, .int z3), (0, .ref (B + 1))]) hx hb dX7_findTokens_8 rfl hl (by decide) rfl (fun ls hl => ?_)
  have L9 : ∀ (n : Nat) (ls : Array Slot) (H : Heap) (locs : List Loc) (kd6 : sK) (ig7 : sI) (rg8 : sR) (lg9 : sG) (v5 : Int32), lv_has ls 3 [(2, .int v5), (0, .ref (B + 1))] → WD B D cA s.heap kd6 ig7 rg8 lg9 H locs → IC B kd6 ig7 rg8 → Nx B none kd ig rg lg kd6 ig7 rg8 lg9 → (0 ≤ v5.toInt) → (v5.toInt ≤ 120) → 120 - v5.toInt < (n : Int) → W p l e (rL 5 0 0) s m args below meth c H locs 0 0 (MQ below (QcW B D cA (PI B none kd ig rg lg (fun r kd' ig' rg' lg' => r = none))) args s 0 0 (fun q => B ≤ q)) (F0 m 9 ls []) := by
    intro n9
    induction n9 with
    | zero => intro ls H locs kd6 ig7 rg8 lg9 v5 hl hw hI hN g9_0 g9_1 hmu; exact absurd hmu (by omega)
    | succ n9 ih9 =>
      intro ls H locs kd6 ig7 rg8 lg9 v5 hl hw hI hN g9_0 g9_1 hmu
      have hsh := hI.sh
      have hrs := hI.rs
      refine lv_iload_n hx hb dX7_findTokens_9 rfl (lv_at hl 0 rfl) ?_
      refine lv_aload_n hx hb dX7_findTokens_10 rfl (lv_at hl 1 rfl) ?_
      refine r_get C hw (hsh 1 _ rfl) fl_X7_15 (oV_i rfl) dX7_findTokens_11 (ti_c (ig7 (B + 1) 1).toInt rfl fun z10 hz10 => ?_)
      have k11 : 0 ≤ (ig7 (B + 1) 1).toInt ∧ (ig7 (B + 1) 1).toInt ≤ 120 := hI.i 1 1 (by decide)
      refine b_ge (tgt := 57) hx hb dX7_findTokens_14 (by decide) (fun c14 => ?_) (fun c14 => ?_)
      · refine lv_aload_n hx hb dX7_findTokens_57 rfl (lv_at hl 1 rfl) ?_
        refine lv_iconst (v := 0) hx hb dX7_findTokens_58 (by decide) (ti_c 0 (by decide) fun z12 hz12 => ?_)
        refine lv_aload_n hx hb dX7_findTokens_59 rfl (lv_at hl 1 rfl) ?_
        refine r_get C hw (hsh 1 _ rfl) fl_X7_15 (oV_i rfl) dX7_findTokens_60 (ti_c (ig7 (B + 1) 1).toInt rfl fun z13 hz13 => ?_)
        have k14 : 0 ≤ (ig7 (B + 1) 1).toInt ∧ (ig7 (B + 1) 1).toInt ≤ 120 := hI.i 1 1 (by decide)
        refine lv_aload_n hx hb dX7_findTokens_63 rfl (lv_at hl 1 rfl) ?_
        refine r_get C hw (hsh 1 _ rfl) fl_X7_15 (oV_i rfl) dX7_findTokens_64 (ti_c (ig7 (B + 1) 1).toInt rfl fun z15 hz15 => ?_)
        have k16 : 0 ≤ (ig7 (B + 1) 1).toInt ∧ (ig7 (B + 1) 1).toInt ≤ 120 := hI.i 1 1 (by decide)
        refine r_callV (As := [.int z12, .int z13, .int z15]) (rest := []) C hw (t_X7_addToken l B D cA kd6 ig7 rg8 lg9 _ z12 z13 z15 (by omega) hI) sv_X7_85 (hsh 1 _ rfl) rfl hl.1 rfl (Nat.le_of_ble_eq_true rfl) ⟨Nat.le_of_ble_eq_true rfl, Nat.le_of_ble_eq_true rfl⟩ ⟨Nat.le_of_ble_eq_true rfl, Nat.le_of_ble_eq_true rfl⟩ dX7_findTokens_67 (fun r21 kd17 ig18 rg19 lg20 H locs hw hH hp22 => ?_)
        obtain ⟨hI, hchp22, hrhp22⟩ := hp22
        have hN := hN.tr hchp22
        have hsh := hI.sh
        have hrs := hI.rs
        obtain rfl := hrhp22
        exact r_vret C hw hr hlk (Nat.le_of_ble_eq_true rfl) (Nat.le_of_ble_eq_true rfl) dX7_findTokens_70 ⟨hI, hN, rfl⟩
      · refine lv_iload_n hx hb dX7_findTokens_17 rfl (lv_at hl 0 rfl) ?_
        refine lv_iconst (v := 1) hx hb dX7_findTokens_18 (by decide) (ti_c 1 (by decide) fun z23 hz23 => ?_)
        refine lv_iadd hx hb dX7_findTokens_19 (tc_add fun z24 hz24 => ?_)
        first | replace hz24 := hz24 (by omega) | clear hz24
        refine lv_aload_n hx hb dX7_findTokens_20 rfl (lv_at hl 1 rfl) ?_
        refine lv_iload_n hx hb dX7_findTokens_21 rfl (lv_at hl 0 rfl) ?_
        refine r_callV (As := [.int v5]) (rest := [.int z24]) C hw (t_X7_endOfToken l B D cA kd6 ig7 rg8 lg9 _ v5 (by omega) hI) sv_X7_72 (hsh 1 _ rfl) rfl hl.1 rfl (Nat.le_of_ble_eq_true rfl) ⟨Nat.le_of_ble_eq_true rfl, Nat.le_of_ble_eq_true rfl⟩ ⟨Nat.le_of_ble_eq_true rfl, Nat.le_of_ble_eq_true rfl⟩ dX7_findTokens_22 (fun r29 kd25 ig26 rg27 lg28 H locs hw hH hp30 => ?_)
        obtain ⟨rfl, rfl, rfl, rfl, hzhp30, hrhp30⟩ := hp30
        obtain ⟨z31, rfl, hz31⟩ := hrhp30
        refine r_max C ss_X7_76 hl.1 (Nat.le_of_ble_eq_true rfl) (Nat.le_of_ble_eq_true rfl) (Nat.le_of_ble_eq_true rfl) (Nat.le_of_ble_eq_true rfl) dX7_findTokens_25 (fun z32 hz32 => ?_)
        refine lv_istore_n (lv' := [(1, .int z32), (2, .int v5), (0, .ref (B + 1))]) hx hb dX7_findTokens_28 rfl hl (by decide) rfl (fun ls hl => ?_)
        refine lv_aload_n hx hb dX7_findTokens_29 rfl (lv_at hl 2 rfl) ?_
        refine r_get C hw (hsh 1 _ rfl) fl_X7_9 (oV_r rfl (hrs (1, 0, 2) (by decide))) dX7_findTokens_30 ?_
        refine lv_iload_n hx hb dX7_findTokens_33 rfl (lv_at hl 1 rfl) ?_
        refine r_cald C hw (hsh 2 _ rfl) (by omega) (by omega) dX7_findTokens_34 (ti_c (ig7 (B + 2) v5.toInt.toNat).toInt rfl fun z33 hz33 => ?_)
        refine lv_bipush (v := 32) hx hb dX7_findTokens_35 (by decide) (ti_c 32 (by decide) fun z34 hz34 => ?_)
        refine b_eq (tgt := 52) hx hb dX7_findTokens_37 (by decide) (fun c37 => ?_) (fun c37 => ?_)
        · refine lv_iload_n hx hb dX7_findTokens_52 rfl (lv_at hl 0 rfl) ?_
          refine lv_istore_n (lv' := [(2, .int z32), (1, .int z32), (0, .ref (B + 1))]) hx hb dX7_findTokens_53 rfl hl (by decide) rfl (fun ls hl => ?_)
          refine lv_goto (tgt := 9) hx hb dX7_findTokens_54 (by decide) ?_
          exact ih9 ls H locs kd6 ig7 rg8 lg9 z32 (lv_sub hl [0, 2] rfl) hw hI hN (by omega) (by omega) (by omega)
        · refine lv_aload_n hx hb dX7_findTokens_40 rfl (lv_at hl 2 rfl) ?_
          refine lv_aload_n hx hb dX7_findTokens_41 rfl (lv_at hl 2 rfl) ?_
          refine lv_iload_n hx hb dX7_findTokens_42 rfl (lv_at hl 1 rfl) ?_
          refine lv_iload_n hx hb dX7_findTokens_43 rfl (lv_at hl 0 rfl) ?_
          refine r_callV (As := [.int v5, .int z32]) (rest := [.ref (B + 1)]) C hw (t_X7_kindOf l B D cA kd6 ig7 rg8 lg9 _ v5 z32 (by omega) hI) sv_X7_82 (hsh 1 _ rfl) rfl hl.1 rfl (Nat.le_of_ble_eq_true rfl) ⟨Nat.le_of_ble_eq_true rfl, Nat.le_of_ble_eq_true rfl⟩ ⟨Nat.le_of_ble_eq_true rfl, Nat.le_of_ble_eq_true rfl⟩ dX7_findTokens_44 (fun r39 kd35 ig36 rg37 lg38 H locs hw hH hp40 => ?_)
          obtain ⟨rfl, rfl, rfl, rfl, hzhp40, hrhp40⟩ := hp40
          obtain ⟨z41, rfl, hz41⟩ := hrhp40
          refine lv_iload_n hx hb dX7_findTokens_47 rfl (lv_at hl 1 rfl) ?_
          refine lv_iload_n hx hb dX7_findTokens_48 rfl (lv_at hl 0 rfl) ?_
          refine r_callV (As := [.int z41, .int v5, .int z32]) (rest := []) C hw (t_X7_addToken l B D cA kd6 ig7 rg8 lg9 _ z41 v5 z32 (by omega) hI) sv_X7_85 (hsh 1 _ rfl) rfl hl.1 rfl (Nat.le_of_ble_eq_true rfl) ⟨Nat.le_of_ble_eq_true rfl, Nat.le_of_ble_eq_true rfl⟩ ⟨Nat.le_of_ble_eq_true rfl, Nat.le_of_ble_eq_true rfl⟩ dX7_findTokens_49 (fun r46 kd42 ig43 rg44 lg45 H locs hw hH hp47 => ?_)
          obtain ⟨hI, hchp47, hrhp47⟩ := hp47
          have hN := hN.tr hchp47
          have hsh := hI.sh
          have hrs := hI.rs
          obtain rfl := hrhp47
          refine lv_iload_n hx hb dX7_findTokens_52 rfl (lv_at hl 0 rfl) ?_
          refine lv_istore_n (lv' := [(2, .int z32), (1, .int z32), (0, .ref (B + 1))]) hx hb dX7_findTokens_53 rfl hl (by decide) rfl (fun ls hl => ?_)
          refine lv_goto (tgt := 9) hx hb dX7_findTokens_54 (by decide) ?_
          exact ih9 ls H locs kd42 ig43 rg44 lg45 z32 (lv_sub hl [0, 2] rfl) hw hI hN (by omega) (by omega) (by omega)
  exact L9 ((120 - z4.toInt) + 1).toNat ls H locs kd ig2 rg lg z4 (lv_sub hl [0, 2] rfl) hw hI hN (by omega) (by omega) (by omega)

set_option maxHeartbeats 4000000 in
set_option maxRecDepth 100000 in
theorem t_X7_reference (l : Launch) (B : Nat) (D : va_G) (cA : Nat → ClassId) (kd : sK) (ig : sI) (rg : sR) (lg : sG) (sz : Nat) (x : Int32) (y : Int32) (hI : IC B kd ig rg) : MC l B D cA yX7_reference cX7_reference 9 (some .int) (rL 1 0 0) [.ref (B + 1), .int x, .int y] kd ig rg lg sz (PI B none kd ig rg lg (fun r kd' ig' rg' lg' => ∃ z : Int32, r = some (.int z) ∧ True)) := by
  refine MC.of (own := RX7) (by decide +kernel) rfl (Nat.le_of_ble_eq_true rfl) ?_
  intro p e s m args below meth c ls C hr hlk hnm hw hsz hl
  have hx := C.1.1
  have hb := C.1.2.1
  have hown := C.1.2.2.2.1
  have hts := C.1.2.2.2.2
  have hl : lv_has ls 9 [(0, .ref (B + 1)), (1, .int x), (2, .int y)] := hl
  have hN : Nx B none kd ig rg lg kd ig rg lg := Nx.rf
  have hsh := hI.sh
  have hrs := hI.rs
  refine lv_aload_n hx hb dX7_reference_0 rfl (lv_at hl 0 rfl) ?_
  refine r_callV (As := []) (rest := []) C hw (t_X7_kind l B D cA kd ig rg lg _   hI) sv_X7_57 (hsh 1 _ rfl) rfl hl.1 rfl (Nat.le_of_ble_eq_true rfl) ⟨Nat.le_of_ble_eq_true rfl, Nat.le_of_ble_eq_true rfl⟩ ⟨Nat.le_of_ble_eq_true rfl, Nat.le_of_ble_eq_true rfl⟩ dX7_reference_1 (fun r5 kd1 ig2 rg3 lg4 H locs hw hH hp6 => ?_)
  obtain ⟨rfl, rfl, rfl, rfl, hzhp6, hrhp6⟩ := hp6
  obtain ⟨z7, rfl, hz7⟩ := hrhp6
  refine lv_bipush (v := 36) hx hb dX7_reference_4 (by decide) (ti_c 36 (by decide) fun z8 hz8 => ?_)
  have J14 : ∀ (ls : Array Slot) (H : Heap) (locs : List Loc) (kd10 : sK) (ig11 : sI) (rg12 : sR) (lg13 : sG) (u9 : Int32), lv_has ls 9 [(0, .ref (B + 1)), (1, .int x), (2, .int y)] → WD B D cA s.heap kd10 ig11 rg12 lg13 H locs → IC B kd10 ig11 rg12 → Nx B none kd ig rg lg kd10 ig11 rg12 lg13 → (u9.toInt = 0 ∨ u9.toInt = 1) → W p l e (rL 1 0 0) s m args below meth c H locs 0 0 (MQ below (QcW B D cA (PI B none kd ig rg lg (fun r kd' ig' rg' lg' => ∃ z : Int32, r = some (.int z) ∧ True))) args s 0 0 (fun q => B ≤ q)) (F0 m 14 ls [.int u9]) := by
    intro ls H locs kd10 ig11 rg12 lg13 u9 hl hw hI hN g14_0
    have hsh := hI.sh
    have hrs := hI.rs
    refine lv_istore_n (lv' := [(3, .int u9), (0, .ref (B + 1)), (1, .int x), (2, .int y)]) hx hb dX7_reference_14 rfl hl (by decide) rfl (fun ls hl => ?_)
    refine lv_aload_n hx hb dX7_reference_15 rfl (lv_at hl 1 rfl) ?_
    refine lv_dup hx hb dX7_reference_16 rfl ?_
    refine r_get C hw (hsh 1 _ rfl) fl_X7_50 (oV_i rfl) dX7_reference_17 (ti_c (ig11 (B + 1) 7).toInt rfl fun z14 hz14 => ?_)
    refine lv_iload_n hx hb dX7_reference_20 rfl (lv_at hl 0 rfl) ?_
    have J29 : ∀ (ls : Array Slot) (H : Heap) (locs : List Loc) (kd16 : sK) (ig17 : sI) (rg18 : sR) (lg19 : sG) (u15 : Int32), lv_has ls 9 [(3, .int u9), (0, .ref (B + 1)), (1, .int x), (2, .int y)] → WD B D cA s.heap kd16 ig17 rg18 lg19 H locs → IC B kd16 ig17 rg18 → Nx B none kd ig rg lg kd16 ig17 rg18 lg19 → (u15.toInt = 0 ∨ u15.toInt = 1) → W p l e (rL 1 0 0) s m args below meth c H locs 0 0 (MQ below (QcW B D cA (PI B none kd ig rg lg (fun r kd' ig' rg' lg' => ∃ z : Int32, r = some (.int z) ∧ True))) args s 0 0 (fun q => B ≤ q)) (F0 m 29 ls [.int u15, .int z14, .ref (B + 1)]) := by
      intro ls H locs kd16 ig17 rg18 lg19 u15 hl hw hI hN g29_0
      have hsh := hI.sh
      have hrs := hI.rs
      refine lv_iadd hx hb dX7_reference_29 (tc_add fun z20 hz20 => ?_)
      first | replace hz20 := hz20 (by omega) | clear hz20
      refine r_puti C hw (hsh 1 _ rfl) fl_X7_50 rfl rfl rfl dX7_reference_30 (fun H locs hH hw => ?_)
      obtain ⟨ig21, eig21⟩ : ∃ f, f = up2 ig17 (B + 1) 7 z20 := ⟨_, rfl⟩
      rw [← eig21] at hw
      have hN : Nx B none kd ig rg lg kd16 ig21 rg18 lg19 := by rw [eig21]; exact hN.pi (by omega)
      have hI : IC B kd16 ig21 rg18 := by rw [eig21]; exact hI.pi (show okR none _ from trivial)
      refine lv_aload_n hx hb dX7_reference_33 rfl (lv_at hl 1 rfl) ?_
      refine r_callV (As := []) (rest := []) C hw (t_X7_amount l B D cA kd16 ig21 rg18 lg19 _   hI) sv_X7_128 (hsh 1 _ rfl) rfl hl.1 rfl (Nat.le_of_ble_eq_true rfl) ⟨Nat.le_of_ble_eq_true rfl, Nat.le_of_ble_eq_true rfl⟩ ⟨Nat.le_of_ble_eq_true rfl, Nat.le_of_ble_eq_true rfl⟩ dX7_reference_34 (fun r26 kd22 ig23 rg24 lg25 H locs hw hH hp27 => ?_)
      obtain ⟨rfl, rfl, rfl, rfl, hzhp27, hrhp27⟩ := hp27
      obtain ⟨z28, rfl, hz28⟩ := hrhp27
      refine lv_istore (lv' := [(4, .int z28), (3, .int u9), (0, .ref (B + 1)), (1, .int x), (2, .int y)]) hx hb dX7_reference_37 hl (by decide) rfl (fun ls hl => ?_)
      refine lv_aload_n hx hb dX7_reference_39 rfl (lv_at hl 2 rfl) ?_
      refine r_callV (As := []) (rest := []) C hw (t_X7_kind l B D cA kd16 ig21 rg18 lg19 _   hI) sv_X7_57 (hsh 1 _ rfl) rfl hl.1 rfl (Nat.le_of_ble_eq_true rfl) ⟨Nat.le_of_ble_eq_true rfl, Nat.le_of_ble_eq_true rfl⟩ ⟨Nat.le_of_ble_eq_true rfl, Nat.le_of_ble_eq_true rfl⟩ dX7_reference_40 (fun r33 kd29 ig30 rg31 lg32 H locs hw hH hp34 => ?_)
      obtain ⟨rfl, rfl, rfl, rfl, hzhp34, hrhp34⟩ := hp34
      obtain ⟨z35, rfl, hz35⟩ := hrhp34
      refine lv_iload hx hb dX7_reference_43 (lv_at hl 0 rfl) ?_
      refine lv_iload_n hx hb dX7_reference_45 rfl (lv_at hl 3 rfl) ?_
      refine r_callS (As := [.int z35, .int z28, .int x]) (rest := []) C hw (t_X7_columnFault l B D cA kd16 ig21 rg18 lg19 _ z35 z28 x  hI) ss_X7_149 rfl hl.1 rfl (Nat.le_of_ble_eq_true rfl) ⟨Nat.le_of_ble_eq_true rfl, Nat.le_of_ble_eq_true rfl⟩ ⟨Nat.le_of_ble_eq_true rfl, Nat.le_of_ble_eq_true rfl⟩ dX7_reference_46 (fun r40 kd36 ig37 rg38 lg39 H locs hw hH hp41 => ?_)
      obtain ⟨rfl, rfl, rfl, rfl, hzhp41, hrhp41⟩ := hp41
      obtain ⟨z42, rfl, hz42⟩ := hrhp41
      refine lv_istore (lv' := [(5, .int z42), (4, .int z28), (3, .int u9), (0, .ref (B + 1)), (1, .int x), (2, .int y)]) hx hb dX7_reference_49 hl (by decide) rfl (fun ls hl => ?_)
      refine lv_iload hx hb dX7_reference_51 (lv_at hl 0 rfl) ?_
      refine z_eq (tgt := 65) hx hb dX7_reference_53 (by decide) (fun c53 => ?_) (fun c53 => ?_)
      · refine lv_aload_n hx hb dX7_reference_65 rfl (lv_at hl 3 rfl) ?_
        refine lv_dup hx hb dX7_reference_66 rfl ?_
        refine r_get C hw (hsh 1 _ rfl) fl_X7_50 (oV_i rfl) dX7_reference_67 (ti_c (ig21 (B + 1) 7).toInt rfl fun z43 hz43 => ?_)
        refine lv_iconst (v := 1) hx hb dX7_reference_70 (by decide) (ti_c 1 (by decide) fun z44 hz44 => ?_)
        refine lv_iadd hx hb dX7_reference_71 (tc_add fun z45 hz45 => ?_)
        first | replace hz45 := hz45 (by omega) | clear hz45
        refine r_puti C hw (hsh 1 _ rfl) fl_X7_50 rfl rfl rfl dX7_reference_72 (fun H locs hH hw => ?_)
        obtain ⟨ig46, eig46⟩ : ∃ f, f = up2 ig21 (B + 1) 7 z45 := ⟨_, rfl⟩
        rw [← eig46] at hw
        have hN : Nx B none kd ig rg lg kd16 ig46 rg18 lg19 := by rw [eig46]; exact hN.pi (by omega)
        have hI : IC B kd16 ig46 rg18 := by rw [eig46]; exact hI.pi (show okR none _ from trivial)
        refine lv_aload_n hx hb dX7_reference_75 rfl (lv_at hl 3 rfl) ?_
        refine r_callV (As := []) (rest := []) C hw (t_X7_kind l B D cA kd16 ig46 rg18 lg19 _   hI) sv_X7_57 (hsh 1 _ rfl) rfl hl.1 rfl (Nat.le_of_ble_eq_true rfl) ⟨Nat.le_of_ble_eq_true rfl, Nat.le_of_ble_eq_true rfl⟩ ⟨Nat.le_of_ble_eq_true rfl, Nat.le_of_ble_eq_true rfl⟩ dX7_reference_76 (fun r51 kd47 ig48 rg49 lg50 H locs hw hH hp52 => ?_)
        obtain ⟨rfl, rfl, rfl, rfl, hzhp52, hrhp52⟩ := hp52
        obtain ⟨z53, rfl, hz53⟩ := hrhp52
        refine lv_bipush (v := 36) hx hb dX7_reference_79 (by decide) (ti_c 36 (by decide) fun z54 hz54 => ?_)
        have J89 : ∀ (ls : Array Slot) (H : Heap) (locs : List Loc) (kd56 : sK) (ig57 : sI) (rg58 : sR) (lg59 : sG) (u55 : Int32), lv_has ls 9 [(4, .int z28), (3, .int u9), (0, .ref (B + 1)), (2, .int y)] → WD B D cA s.heap kd56 ig57 rg58 lg59 H locs → IC B kd56 ig57 rg58 → Nx B none kd ig rg lg kd56 ig57 rg58 lg59 → (u55.toInt = 0 ∨ u55.toInt = 1) → W p l e (rL 1 0 0) s m args below meth c H locs 0 0 (MQ below (QcW B D cA (PI B none kd ig rg lg (fun r kd' ig' rg' lg' => ∃ z : Int32, r = some (.int z) ∧ True))) args s 0 0 (fun q => B ≤ q)) (F0 m 89 ls [.int u55]) := by
          intro ls H locs kd56 ig57 rg58 lg59 u55 hl hw hI hN g89_0
          have hsh := hI.sh
          have hrs := hI.rs
          refine lv_istore (lv' := [(6, .int u55), (4, .int z28), (3, .int u9), (0, .ref (B + 1)), (2, .int y)]) hx hb dX7_reference_89 hl (by decide) rfl (fun ls hl => ?_)
          refine lv_aload_n hx hb dX7_reference_91 rfl (lv_at hl 3 rfl) ?_
          refine lv_dup hx hb dX7_reference_92 rfl ?_
          refine r_get C hw (hsh 1 _ rfl) fl_X7_50 (oV_i rfl) dX7_reference_93 (ti_c (ig57 (B + 1) 7).toInt rfl fun z60 hz60 => ?_)
          refine lv_iload hx hb dX7_reference_96 (lv_at hl 0 rfl) ?_
          have J106 : ∀ (ls : Array Slot) (H : Heap) (locs : List Loc) (kd62 : sK) (ig63 : sI) (rg64 : sR) (lg65 : sG) (u61 : Int32), lv_has ls 9 [(6, .int u55), (4, .int z28), (3, .int u9), (0, .ref (B + 1)), (2, .int y)] → WD B D cA s.heap kd62 ig63 rg64 lg65 H locs → IC B kd62 ig63 rg64 → Nx B none kd ig rg lg kd62 ig63 rg64 lg65 → (u61.toInt = 0 ∨ u61.toInt = 1) → W p l e (rL 1 0 0) s m args below meth c H locs 0 0 (MQ below (QcW B D cA (PI B none kd ig rg lg (fun r kd' ig' rg' lg' => ∃ z : Int32, r = some (.int z) ∧ True))) args s 0 0 (fun q => B ≤ q)) (F0 m 106 ls [.int u61, .int z60, .ref (B + 1)]) := by
            intro ls H locs kd62 ig63 rg64 lg65 u61 hl hw hI hN g106_0
            have hsh := hI.sh
            have hrs := hI.rs
            refine lv_iadd hx hb dX7_reference_106 (tc_add fun z66 hz66 => ?_)
            first | replace hz66 := hz66 (by omega) | clear hz66
            refine r_puti C hw (hsh 1 _ rfl) fl_X7_50 rfl rfl rfl dX7_reference_107 (fun H locs hH hw => ?_)
            obtain ⟨ig67, eig67⟩ : ∃ f, f = up2 ig63 (B + 1) 7 z66 := ⟨_, rfl⟩
            rw [← eig67] at hw
            have hN : Nx B none kd ig rg lg kd62 ig67 rg64 lg65 := by rw [eig67]; exact hN.pi (by omega)
            have hI : IC B kd62 ig67 rg64 := by rw [eig67]; exact hI.pi (show okR none _ from trivial)
            refine lv_aload_n hx hb dX7_reference_110 rfl (lv_at hl 3 rfl) ?_
            refine r_callV (As := []) (rest := []) C hw (t_X7_amount l B D cA kd62 ig67 rg64 lg65 _   hI) sv_X7_128 (hsh 1 _ rfl) rfl hl.1 rfl (Nat.le_of_ble_eq_true rfl) ⟨Nat.le_of_ble_eq_true rfl, Nat.le_of_ble_eq_true rfl⟩ ⟨Nat.le_of_ble_eq_true rfl, Nat.le_of_ble_eq_true rfl⟩ dX7_reference_111 (fun r72 kd68 ig69 rg70 lg71 H locs hw hH hp73 => ?_)
            obtain ⟨rfl, rfl, rfl, rfl, hzhp73, hrhp73⟩ := hp73
            obtain ⟨z74, rfl, hz74⟩ := hrhp73
            refine lv_iconst (v := 1) hx hb dX7_reference_114 (by decide) (ti_c 1 (by decide) fun z75 hz75 => ?_)
            refine lv_isub hx hb dX7_reference_115 (tc_sub fun z76 hz76 => ?_)
            first | replace hz76 := hz76 (by omega) | clear hz76
            refine lv_istore (lv' := [(7, .int z76), (6, .int u55), (4, .int z28), (3, .int u9), (0, .ref (B + 1)), (2, .int y)]) hx hb dX7_reference_116 hl (by decide) rfl (fun ls hl => ?_)
            refine lv_aload_n hx hb dX7_reference_118 rfl (lv_at hl 4 rfl) ?_
            refine r_callV (As := []) (rest := []) C hw (t_X7_kind l B D cA kd62 ig67 rg64 lg65 _   hI) sv_X7_57 (hsh 1 _ rfl) rfl hl.1 rfl (Nat.le_of_ble_eq_true rfl) ⟨Nat.le_of_ble_eq_true rfl, Nat.le_of_ble_eq_true rfl⟩ ⟨Nat.le_of_ble_eq_true rfl, Nat.le_of_ble_eq_true rfl⟩ dX7_reference_119 (fun r81 kd77 ig78 rg79 lg80 H locs hw hH hp82 => ?_)
            obtain ⟨rfl, rfl, rfl, rfl, hzhp82, hrhp82⟩ := hp82
            obtain ⟨z83, rfl, hz83⟩ := hrhp82
            refine lv_iload hx hb dX7_reference_122 (lv_at hl 0 rfl) ?_
            refine lv_iload_n hx hb dX7_reference_124 rfl (lv_at hl 5 rfl) ?_
            refine r_callS (As := [.int z83, .int z76, .int y]) (rest := []) C hw (t_X7_rowFault l B D cA kd62 ig67 rg64 lg65 _ z83 z76 y  hI) ss_X7_153 rfl hl.1 rfl (Nat.le_of_ble_eq_true rfl) ⟨Nat.le_of_ble_eq_true rfl, Nat.le_of_ble_eq_true rfl⟩ ⟨Nat.le_of_ble_eq_true rfl, Nat.le_of_ble_eq_true rfl⟩ dX7_reference_125 (fun r88 kd84 ig85 rg86 lg87 H locs hw hH hp89 => ?_)
            obtain ⟨rfl, rfl, rfl, rfl, hzhp89, hrhp89⟩ := hp89
            obtain ⟨z90, rfl, hz90⟩ := hrhp89
            refine lv_istore (lv' := [(8, .int z90), (7, .int z76), (6, .int u55), (4, .int z28), (3, .int u9), (0, .ref (B + 1)), (2, .int y)]) hx hb dX7_reference_128 hl (by decide) rfl (fun ls hl => ?_)
            refine lv_iload hx hb dX7_reference_130 (lv_at hl 0 rfl) ?_
            refine z_eq (tgt := 144) hx hb dX7_reference_132 (by decide) (fun c132 => ?_) (fun c132 => ?_)
            · refine lv_aload_n hx hb dX7_reference_144 rfl (lv_at hl 5 rfl) ?_
              refine lv_dup hx hb dX7_reference_145 rfl ?_
              refine r_get C hw (hsh 1 _ rfl) fl_X7_50 (oV_i rfl) dX7_reference_146 (ti_c (ig67 (B + 1) 7).toInt rfl fun z91 hz91 => ?_)
              refine lv_iconst (v := 1) hx hb dX7_reference_149 (by decide) (ti_c 1 (by decide) fun z92 hz92 => ?_)
              refine lv_iadd hx hb dX7_reference_150 (tc_add fun z93 hz93 => ?_)
              first | replace hz93 := hz93 (by omega) | clear hz93
              refine r_puti C hw (hsh 1 _ rfl) fl_X7_50 rfl rfl rfl dX7_reference_151 (fun H locs hH hw => ?_)
              obtain ⟨ig94, eig94⟩ : ∃ f, f = up2 ig67 (B + 1) 7 z93 := ⟨_, rfl⟩
              rw [← eig94] at hw
              have hN : Nx B none kd ig rg lg kd62 ig94 rg64 lg65 := by rw [eig94]; exact hN.pi (by omega)
              have hI : IC B kd62 ig94 rg64 := by rw [eig94]; exact hI.pi (show okR none _ from trivial)
              refine lv_iload hx hb dX7_reference_154 (lv_at hl 1 rfl) ?_
              refine lv_bipush (v := 12) hx hb dX7_reference_156 (by decide) (ti_c 12 (by decide) fun z95 hz95 => ?_)
              refine lv_imul hx hb dX7_reference_158 (tc_mulR 12 hz95 fun z96 hz96 => ?_)
              first | replace hz96 := hz96 (by omega) | clear hz96
              refine lv_iload hx hb dX7_reference_159 (lv_at hl 3 rfl) ?_
              refine lv_iadd hx hb dX7_reference_161 (tc_add fun z97 hz97 => ?_)
              first | replace hz97 := hz97 (by omega) | clear hz97
              refine lv_iload_n hx hb dX7_reference_162 rfl (lv_at hl 4 rfl) ?_
              refine lv_iload hx hb dX7_reference_163 (lv_at hl 2 rfl) ?_
              refine lv_aload_n hx hb dX7_reference_165 rfl (lv_at hl 5 rfl) ?_
              refine r_get C hw (hsh 1 _ rfl) fl_X7_38 (oV_i rfl) dX7_reference_166 (ti_c (ig94 (B + 1) 2).toInt rfl fun z98 hz98 => ?_)
              refine r_callS (As := [.int z97, .int u9, .int u55, .int z98]) (rest := []) C hw (t_X4_reference l B D cA kd62 ig94 rg64 lg65 _ z97 u9 u55 z98 (by omega) (by omega) hI) ss_X7_156 rfl hl.1 rfl (Nat.le_of_ble_eq_true rfl) ⟨Nat.le_of_ble_eq_true rfl, Nat.le_of_ble_eq_true rfl⟩ ⟨Nat.le_of_ble_eq_true rfl, Nat.le_of_ble_eq_true rfl⟩ dX7_reference_169 (fun r103 kd99 ig100 rg101 lg102 H locs hw hH hp104 => ?_)
              obtain ⟨rfl, rfl, rfl, rfl, hzhp104, hrhp104⟩ := hp104
              obtain ⟨z105, rfl, hz105⟩ := hrhp104
              exact r_iret C hw hr hlk rfl (Nat.le_of_ble_eq_true rfl) (Nat.le_of_ble_eq_true rfl) dX7_reference_172 ⟨hI, hN, ⟨_, rfl, trivial⟩⟩
            · refine lv_aload_n hx hb dX7_reference_135 rfl (lv_at hl 5 rfl) ?_
              refine lv_iload hx hb dX7_reference_136 (lv_at hl 0 rfl) ?_
              refine r_callV (As := [.int z90]) (rest := []) C hw (t_X7_wrong l B D cA kd62 ig67 rg64 lg65 _ z90  hI) sv_X7_61 (hsh 1 _ rfl) rfl hl.1 rfl (Nat.le_of_ble_eq_true rfl) ⟨Nat.le_of_ble_eq_true rfl, Nat.le_of_ble_eq_true rfl⟩ ⟨Nat.le_of_ble_eq_true rfl, Nat.le_of_ble_eq_true rfl⟩ dX7_reference_138 (fun r110 kd106 ig107 rg108 lg109 H locs hw hH hp111 => ?_)
              obtain ⟨hI, hchp111, hrhp111⟩ := hp111
              have hN := hN.tr hchp111
              have hsh := hI.sh
              have hrs := hI.rs
              obtain ⟨z112, rfl, hz112⟩ := hrhp111
              refine lv_pop hx hb dX7_reference_141 rfl ?_
              refine lv_iconst (v := (-1)) hx hb dX7_reference_142 (by decide) (ti_c (-1) (by decide) fun z113 hz113 => ?_)
              exact r_iret C hw hr hlk rfl (Nat.le_of_ble_eq_true rfl) (Nat.le_of_ble_eq_true rfl) dX7_reference_143 ⟨hI, hN, ⟨_, rfl, trivial⟩⟩
          refine z_eq (tgt := 105) hx hb dX7_reference_98 (by decide) (fun c98 => ?_) (fun c98 => ?_)
          · refine lv_iconst (v := 0) hx hb dX7_reference_105 (by decide) (ti_c 0 (by decide) fun z114 hz114 => ?_)
            exact J106 ls H locs kd56 ig57 rg58 lg59 z114 (lv_sub hl [0, 1, 2, 3, 4] rfl) hw hI hN (by omega)
          · refine lv_iconst (v := 1) hx hb dX7_reference_101 (by decide) (ti_c 1 (by decide) fun z115 hz115 => ?_)
            refine lv_goto (tgt := 106) hx hb dX7_reference_102 (by decide) ?_
            exact J106 ls H locs kd56 ig57 rg58 lg59 z115 (lv_sub hl [0, 1, 2, 3, 4] rfl) hw hI hN (by omega)
        refine b_ne (tgt := 88) hx hb dX7_reference_81 (by decide) (fun c81 => ?_) (fun c81 => ?_)
        · refine lv_iconst (v := 0) hx hb dX7_reference_88 (by decide) (ti_c 0 (by decide) fun z116 hz116 => ?_)
          exact J89 ls H locs kd16 ig46 rg18 lg19 z116 (lv_sub hl [1, 2, 3, 5] rfl) hw hI hN (by omega)
        · refine lv_iconst (v := 1) hx hb dX7_reference_84 (by decide) (ti_c 1 (by decide) fun z117 hz117 => ?_)
          refine lv_goto (tgt := 89) hx hb dX7_reference_85 (by decide) ?_
          exact J89 ls H locs kd16 ig46 rg18 lg19 z117 (lv_sub hl [1, 2, 3, 5] rfl) hw hI hN (by omega)
      · refine lv_aload_n hx hb dX7_reference_56 rfl (lv_at hl 3 rfl) ?_
        refine lv_iload hx hb dX7_reference_57 (lv_at hl 0 rfl) ?_
        refine r_callV (As := [.int z42]) (rest := []) C hw (t_X7_wrong l B D cA kd16 ig21 rg18 lg19 _ z42  hI) sv_X7_61 (hsh 1 _ rfl) rfl hl.1 rfl (Nat.le_of_ble_eq_true rfl) ⟨Nat.le_of_ble_eq_true rfl, Nat.le_of_ble_eq_true rfl⟩ ⟨Nat.le_of_ble_eq_true rfl, Nat.le_of_ble_eq_true rfl⟩ dX7_reference_59 (fun r122 kd118 ig119 rg120 lg121 H locs hw hH hp123 => ?_)
        obtain ⟨hI, hchp123, hrhp123⟩ := hp123
        have hN := hN.tr hchp123
        have hsh := hI.sh
        have hrs := hI.rs
        obtain ⟨z124, rfl, hz124⟩ := hrhp123
        refine lv_pop hx hb dX7_reference_62 rfl ?_
        refine lv_iconst (v := (-1)) hx hb dX7_reference_63 (by decide) (ti_c (-1) (by decide) fun z125 hz125 => ?_)
        exact r_iret C hw hr hlk rfl (Nat.le_of_ble_eq_true rfl) (Nat.le_of_ble_eq_true rfl) dX7_reference_64 ⟨hI, hN, ⟨_, rfl, trivial⟩⟩
    refine z_eq (tgt := 28) hx hb dX7_reference_21 (by decide) (fun c21 => ?_) (fun c21 => ?_)
    · refine lv_iconst (v := 0) hx hb dX7_reference_28 (by decide) (ti_c 0 (by decide) fun z126 hz126 => ?_)
      exact J29 ls H locs kd10 ig11 rg12 lg13 z126 (lv_sub hl [0, 1, 2, 3] rfl) hw hI hN (by omega)
    · refine lv_iconst (v := 1) hx hb dX7_reference_24 (by decide) (ti_c 1 (by decide) fun z127 hz127 => ?_)
      refine lv_goto (tgt := 29) hx hb dX7_reference_25 (by decide) ?_
      exact J29 ls H locs kd10 ig11 rg12 lg13 z127 (lv_sub hl [0, 1, 2, 3] rfl) hw hI hN (by omega)
  refine b_ne (tgt := 13) hx hb dX7_reference_6 (by decide) (fun c6 => ?_) (fun c6 => ?_)
  · refine lv_iconst (v := 0) hx hb dX7_reference_13 (by decide) (ti_c 0 (by decide) fun z128 hz128 => ?_)
    exact J14 ls H locs kd ig rg lg z128 (lv_sub hl [0, 1, 2] rfl) hw hI hN (by omega)
  · refine lv_iconst (v := 1) hx hb dX7_reference_9 (by decide) (ti_c 1 (by decide) fun z129 hz129 => ?_)
    refine lv_goto (tgt := 14) hx hb dX7_reference_10 (by decide) ?_
    exact J14 ls H locs kd ig rg lg z129 (lv_sub hl [0, 1, 2] rfl) hw hI hN (by omega)

set_option maxHeartbeats 4000000 in
set_option maxRecDepth 100000 in
theorem t_X7_single (l : Launch) (B : Nat) (D : va_G) (cA : Nat → ClassId) (kd : sK) (ig : sI) (rg : sR) (lg : sG) (sz : Nat)  (hI : IC B kd ig rg) : MC l B D cA yX7_single cX7_single 2 (some .boolean) (rL 2 0 0) [.ref (B + 1)] kd ig rg lg sz (PI B none kd ig rg lg (fun r kd' ig' rg' lg' => ∃ z : Int32, r = some (.int z) ∧ (z.toInt = 0 ∨ z.toInt = 1))) := by
  refine MC.of (own := RX7) (by decide +kernel) rfl (Nat.le_of_ble_eq_true rfl) ?_
  intro p e s m args below meth c ls C hr hlk hnm hw hsz hl
  have hx := C.1.1
  have hb := C.1.2.1
  have hown := C.1.2.2.2.1
  have hts := C.1.2.2.2.2
  have hl : lv_has ls 2 [(0, .ref (B + 1))] := hl
  have hN : Nx B none kd ig rg lg kd ig rg lg := Nx.rf
  have hsh := hI.sh
  have hrs := hI.rs
  refine lv_aload_n hx hb dX7_single_0 rfl (lv_at hl 0 rfl) ?_
  refine lv_iconst (v := 0) hx hb dX7_single_1 (by decide) (ti_c 0 (by decide) fun z1 hz1 => ?_)
  refine lv_iconst (v := 0) hx hb dX7_single_2 (by decide) (ti_c 0 (by decide) fun z2 hz2 => ?_)
  refine r_callV (As := [.int z1, .int z2]) (rest := []) C hw (t_X7_reference l B D cA kd ig rg lg _ z1 z2  hI) sv_X7_140 (hsh 1 _ rfl) rfl hl.1 rfl (Nat.le_of_ble_eq_true rfl) ⟨Nat.le_of_ble_eq_true rfl, Nat.le_of_ble_eq_true rfl⟩ ⟨Nat.le_of_ble_eq_true rfl, Nat.le_of_ble_eq_true rfl⟩ dX7_single_3 (fun r7 kd3 ig4 rg5 lg6 H locs hw hH hp8 => ?_)
  obtain ⟨hI, hchp8, hrhp8⟩ := hp8
  have hN := hN.tr hchp8
  have hsh := hI.sh
  have hrs := hI.rs
  obtain ⟨z9, rfl, hz9⟩ := hrhp8
  refine lv_istore_n (lv' := [(1, .int z9), (0, .ref (B + 1))]) hx hb dX7_single_6 rfl hl (by decide) rfl (fun ls hl => ?_)
  refine lv_iload_n hx hb dX7_single_7 rfl (lv_at hl 0 rfl) ?_
  refine lv_iconst (v := (-1)) hx hb dX7_single_8 (by decide) (ti_c (-1) (by decide) fun z10 hz10 => ?_)
  refine b_ne (tgt := 14) hx hb dX7_single_9 (by decide) (fun c9 => ?_) (fun c9 => ?_)
  · refine lv_aload_n hx hb dX7_single_14 rfl (lv_at hl 1 rfl) ?_
    refine lv_iconst (v := 1) hx hb dX7_single_15 (by decide) (ti_c 1 (by decide) fun z11 hz11 => ?_)
    refine lv_iload_n hx hb dX7_single_16 rfl (lv_at hl 0 rfl) ?_
    refine lv_iload_n hx hb dX7_single_17 rfl (lv_at hl 0 rfl) ?_
    refine r_callV (As := [.int z11, .int z9, .int z9]) (rest := []) C hw (t_X7_add l B D cA kd3 ig4 rg5 lg6 _ z11 z9 z9  hI) sv_X7_112 (hsh 1 _ rfl) rfl hl.1 rfl (Nat.le_of_ble_eq_true rfl) ⟨Nat.le_of_ble_eq_true rfl, Nat.le_of_ble_eq_true rfl⟩ ⟨Nat.le_of_ble_eq_true rfl, Nat.le_of_ble_eq_true rfl⟩ dX7_single_18 (fun r16 kd12 ig13 rg14 lg15 H locs hw hH hp17 => ?_)
    obtain ⟨hI, hchp17, hrhp17⟩ := hp17
    have hN := hN.tr hchp17
    have hsh := hI.sh
    have hrs := hI.rs
    obtain rfl := hrhp17
    refine lv_iconst (v := 1) hx hb dX7_single_21 (by decide) (ti_c 1 (by decide) fun z18 hz18 => ?_)
    exact r_iret C hw hr hlk (nar_b (by omega)) (Nat.le_of_ble_eq_true rfl) (Nat.le_of_ble_eq_true rfl) dX7_single_22 ⟨hI, hN, ⟨_, rfl, by omega⟩⟩
  · refine lv_iconst (v := 0) hx hb dX7_single_12 (by decide) (ti_c 0 (by decide) fun z19 hz19 => ?_)
    exact r_iret C hw hr hlk (nar_b (by omega)) (Nat.le_of_ble_eq_true rfl) (Nat.le_of_ble_eq_true rfl) dX7_single_13 ⟨hI, hN, ⟨_, rfl, by omega⟩⟩

set_option maxHeartbeats 4000000 in
set_option maxRecDepth 100000 in
theorem t_X7_span (l : Launch) (B : Nat) (D : va_G) (cA : Nat → ClassId) (kd : sK) (ig : sI) (rg : sR) (lg : sG) (sz : Nat)  (hI : IC B kd ig rg) : MC l B D cA yX7_span cX7_span 3 (some .boolean) (rL 2 0 0) [.ref (B + 1)] kd ig rg lg sz (PI B none kd ig rg lg (fun r kd' ig' rg' lg' => ∃ z : Int32, r = some (.int z) ∧ (z.toInt = 0 ∨ z.toInt = 1))) := by
  refine MC.of (own := RX7) (by decide +kernel) rfl (Nat.le_of_ble_eq_true rfl) ?_
  intro p e s m args below meth c ls C hr hlk hnm hw hsz hl
  have hx := C.1.1
  have hb := C.1.2.1
  have hown := C.1.2.2.2.1
  have hts := C.1.2.2.2.2
  have hl : lv_has ls 3 [(0, .ref (B + 1))] := hl
  have hN : Nx B none kd ig rg lg kd ig rg lg := Nx.rf
  have hsh := hI.sh
  have hrs := hI.rs
  refine lv_aload_n hx hb dX7_span_0 rfl (lv_at hl 0 rfl) ?_
  refine lv_dup hx hb dX7_span_1 rfl ?_
  refine r_get C hw (hsh 1 _ rfl) fl_X7_50 (oV_i rfl) dX7_span_2 (ti_c (ig (B + 1) 7).toInt rfl fun z1 hz1 => ?_)
  refine lv_iconst (v := 1) hx hb dX7_span_5 (by decide) (ti_c 1 (by decide) fun z2 hz2 => ?_)
  refine lv_iadd hx hb dX7_span_6 (tc_add fun z3 hz3 => ?_)
  first | replace hz3 := hz3 (by omega) | clear hz3
  refine r_puti C hw (hsh 1 _ rfl) fl_X7_50 rfl rfl rfl dX7_span_7 (fun H locs hH hw => ?_)
  obtain ⟨ig4, eig4⟩ : ∃ f, f = up2 ig (B + 1) 7 z3 := ⟨_, rfl⟩
  rw [← eig4] at hw
  have hN : Nx B none kd ig rg lg kd ig4 rg lg := by rw [eig4]; exact hN.pi (by omega)
  have hI : IC B kd ig4 rg := by rw [eig4]; exact hI.pi (show okR none _ from trivial)
  refine lv_aload_n hx hb dX7_span_10 rfl (lv_at hl 0 rfl) ?_
  refine lv_bipush (v := 40) hx hb dX7_span_11 (by decide) (ti_c 40 (by decide) fun z5 hz5 => ?_)
  refine r_callV (As := [.int z5]) (rest := []) C hw (t_X7_take l B D cA kd ig4 rg lg _ z5  hI) sv_X7_137 (hsh 1 _ rfl) rfl hl.1 rfl (Nat.le_of_ble_eq_true rfl) ⟨Nat.le_of_ble_eq_true rfl, Nat.le_of_ble_eq_true rfl⟩ ⟨Nat.le_of_ble_eq_true rfl, Nat.le_of_ble_eq_true rfl⟩ dX7_span_13 (fun r10 kd6 ig7 rg8 lg9 H locs hw hH hp11 => ?_)
  obtain ⟨hI, hchp11, hrhp11⟩ := hp11
  have hN := hN.tr hchp11
  have hsh := hI.sh
  have hrs := hI.rs
  obtain ⟨z12, rfl, hz12⟩ := hrhp11
  refine z_ne (tgt := 21) hx hb dX7_span_16 (by decide) (fun c16 => ?_) (fun c16 => ?_)
  · refine lv_aload_n hx hb dX7_span_21 rfl (lv_at hl 0 rfl) ?_
    refine lv_iconst (v := 0) hx hb dX7_span_22 (by decide) (ti_c 0 (by decide) fun z13 hz13 => ?_)
    refine lv_iconst (v := 0) hx hb dX7_span_23 (by decide) (ti_c 0 (by decide) fun z14 hz14 => ?_)
    refine r_callV (As := [.int z13, .int z14]) (rest := []) C hw (t_X7_reference l B D cA kd6 ig7 rg8 lg9 _ z13 z14  hI) sv_X7_140 (hsh 1 _ rfl) rfl hl.1 rfl (Nat.le_of_ble_eq_true rfl) ⟨Nat.le_of_ble_eq_true rfl, Nat.le_of_ble_eq_true rfl⟩ ⟨Nat.le_of_ble_eq_true rfl, Nat.le_of_ble_eq_true rfl⟩ dX7_span_24 (fun r19 kd15 ig16 rg17 lg18 H locs hw hH hp20 => ?_)
    obtain ⟨hI, hchp20, hrhp20⟩ := hp20
    have hN := hN.tr hchp20
    have hsh := hI.sh
    have hrs := hI.rs
    obtain ⟨z21, rfl, hz21⟩ := hrhp20
    refine lv_istore_n (lv' := [(1, .int z21), (0, .ref (B + 1))]) hx hb dX7_span_27 rfl hl (by decide) rfl (fun ls hl => ?_)
    refine lv_iload_n hx hb dX7_span_28 rfl (lv_at hl 0 rfl) ?_
    refine lv_iconst (v := (-1)) hx hb dX7_span_29 (by decide) (ti_c (-1) (by decide) fun z22 hz22 => ?_)
    refine b_eq (tgt := 42) hx hb dX7_span_30 (by decide) (fun c30 => ?_) (fun c30 => ?_)
    · refine lv_iconst (v := 0) hx hb dX7_span_42 (by decide) (ti_c 0 (by decide) fun z23 hz23 => ?_)
      exact r_iret C hw hr hlk (nar_b (by omega)) (Nat.le_of_ble_eq_true rfl) (Nat.le_of_ble_eq_true rfl) dX7_span_43 ⟨hI, hN, ⟨_, rfl, by omega⟩⟩
    · refine lv_aload_n hx hb dX7_span_33 rfl (lv_at hl 1 rfl) ?_
      refine lv_bipush (v := 58) hx hb dX7_span_34 (by decide) (ti_c 58 (by decide) fun z24 hz24 => ?_)
      refine r_callV (As := [.int z24]) (rest := []) C hw (t_X7_take l B D cA kd15 ig16 rg17 lg18 _ z24  hI) sv_X7_137 (hsh 1 _ rfl) rfl hl.1 rfl (Nat.le_of_ble_eq_true rfl) ⟨Nat.le_of_ble_eq_true rfl, Nat.le_of_ble_eq_true rfl⟩ ⟨Nat.le_of_ble_eq_true rfl, Nat.le_of_ble_eq_true rfl⟩ dX7_span_36 (fun r29 kd25 ig26 rg27 lg28 H locs hw hH hp30 => ?_)
      obtain ⟨hI, hchp30, hrhp30⟩ := hp30
      have hN := hN.tr hchp30
      have hsh := hI.sh
      have hrs := hI.rs
      obtain ⟨z31, rfl, hz31⟩ := hrhp30
      refine z_ne (tgt := 44) hx hb dX7_span_39 (by decide) (fun c39 => ?_) (fun c39 => ?_)
      · refine lv_aload_n hx hb dX7_span_44 rfl (lv_at hl 1 rfl) ?_
        refine lv_iload_n hx hb dX7_span_45 rfl (lv_at hl 0 rfl) ?_
        refine lv_aload_n hx hb dX7_span_46 rfl (lv_at hl 1 rfl) ?_
        refine r_get C hw (hsh 1 _ rfl) fl_X7_38 (oV_i rfl) dX7_span_47 (ti_c (ig26 (B + 1) 2).toInt rfl fun z32 hz32 => ?_)
        refine r_callS (As := [.int z21, .int z32]) (rest := [.ref (B + 1)]) C hw (t_X4_columnOf l B D cA kd25 ig26 rg27 lg28 _ z21 z32  hI) ss_X7_143 rfl hl.1 rfl (Nat.le_of_ble_eq_true rfl) ⟨Nat.le_of_ble_eq_true rfl, Nat.le_of_ble_eq_true rfl⟩ ⟨Nat.le_of_ble_eq_true rfl, Nat.le_of_ble_eq_true rfl⟩ dX7_span_50 (fun r37 kd33 ig34 rg35 lg36 H locs hw hH hp38 => ?_)
        obtain ⟨rfl, rfl, rfl, rfl, hzhp38, hrhp38⟩ := hp38
        obtain ⟨z39, rfl, hz39⟩ := hrhp38
        refine lv_iload_n hx hb dX7_span_53 rfl (lv_at hl 0 rfl) ?_
        refine lv_aload_n hx hb dX7_span_54 rfl (lv_at hl 1 rfl) ?_
        refine r_get C hw (hsh 1 _ rfl) fl_X7_38 (oV_i rfl) dX7_span_55 (ti_c (ig26 (B + 1) 2).toInt rfl fun z40 hz40 => ?_)
        refine r_callS (As := [.int z21, .int z40]) (rest := [.int z39, .ref (B + 1)]) C hw (t_X4_rowOf l B D cA kd25 ig26 rg27 lg28 _ z21 z40  hI) ss_X7_146 rfl hl.1 rfl (Nat.le_of_ble_eq_true rfl) ⟨Nat.le_of_ble_eq_true rfl, Nat.le_of_ble_eq_true rfl⟩ ⟨Nat.le_of_ble_eq_true rfl, Nat.le_of_ble_eq_true rfl⟩ dX7_span_58 (fun r45 kd41 ig42 rg43 lg44 H locs hw hH hp46 => ?_)
        obtain ⟨rfl, rfl, rfl, rfl, hzhp46, hrhp46⟩ := hp46
        obtain ⟨z47, rfl, hz47⟩ := hrhp46
        refine r_callV (As := [.int z39, .int z47]) (rest := []) C hw (t_X7_reference l B D cA kd25 ig26 rg27 lg28 _ z39 z47  hI) sv_X7_140 (hsh 1 _ rfl) rfl hl.1 rfl (Nat.le_of_ble_eq_true rfl) ⟨Nat.le_of_ble_eq_true rfl, Nat.le_of_ble_eq_true rfl⟩ ⟨Nat.le_of_ble_eq_true rfl, Nat.le_of_ble_eq_true rfl⟩ dX7_span_61 (fun r52 kd48 ig49 rg50 lg51 H locs hw hH hp53 => ?_)
        obtain ⟨hI, hchp53, hrhp53⟩ := hp53
        have hN := hN.tr hchp53
        have hsh := hI.sh
        have hrs := hI.rs
        obtain ⟨z54, rfl, hz54⟩ := hrhp53
        refine lv_istore_n (lv' := [(2, .int z54), (1, .int z21), (0, .ref (B + 1))]) hx hb dX7_span_64 rfl hl (by decide) rfl (fun ls hl => ?_)
        refine lv_iload_n hx hb dX7_span_65 rfl (lv_at hl 0 rfl) ?_
        refine lv_iconst (v := (-1)) hx hb dX7_span_66 (by decide) (ti_c (-1) (by decide) fun z55 hz55 => ?_)
        refine b_eq (tgt := 79) hx hb dX7_span_67 (by decide) (fun c67 => ?_) (fun c67 => ?_)
        · refine lv_iconst (v := 0) hx hb dX7_span_79 (by decide) (ti_c 0 (by decide) fun z56 hz56 => ?_)
          exact r_iret C hw hr hlk (nar_b (by omega)) (Nat.le_of_ble_eq_true rfl) (Nat.le_of_ble_eq_true rfl) dX7_span_80 ⟨hI, hN, ⟨_, rfl, by omega⟩⟩
        · refine lv_aload_n hx hb dX7_span_70 rfl (lv_at hl 2 rfl) ?_
          refine lv_bipush (v := 41) hx hb dX7_span_71 (by decide) (ti_c 41 (by decide) fun z57 hz57 => ?_)
          refine r_callV (As := [.int z57]) (rest := []) C hw (t_X7_take l B D cA kd48 ig49 rg50 lg51 _ z57  hI) sv_X7_137 (hsh 1 _ rfl) rfl hl.1 rfl (Nat.le_of_ble_eq_true rfl) ⟨Nat.le_of_ble_eq_true rfl, Nat.le_of_ble_eq_true rfl⟩ ⟨Nat.le_of_ble_eq_true rfl, Nat.le_of_ble_eq_true rfl⟩ dX7_span_73 (fun r62 kd58 ig59 rg60 lg61 H locs hw hH hp63 => ?_)
          obtain ⟨hI, hchp63, hrhp63⟩ := hp63
          have hN := hN.tr hchp63
          have hsh := hI.sh
          have hrs := hI.rs
          obtain ⟨z64, rfl, hz64⟩ := hrhp63
          refine z_ne (tgt := 81) hx hb dX7_span_76 (by decide) (fun c76 => ?_) (fun c76 => ?_)
          · refine lv_aload_n hx hb dX7_span_81 rfl (lv_at hl 2 rfl) ?_
            refine lv_iconst (v := 2) hx hb dX7_span_82 (by decide) (ti_c 2 (by decide) fun z65 hz65 => ?_)
            refine lv_iload_n hx hb dX7_span_83 rfl (lv_at hl 1 rfl) ?_
            refine lv_iload_n hx hb dX7_span_84 rfl (lv_at hl 0 rfl) ?_
            refine r_callV (As := [.int z65, .int z21, .int z54]) (rest := []) C hw (t_X7_add l B D cA kd58 ig59 rg60 lg61 _ z65 z21 z54  hI) sv_X7_112 (hsh 1 _ rfl) rfl hl.1 rfl (Nat.le_of_ble_eq_true rfl) ⟨Nat.le_of_ble_eq_true rfl, Nat.le_of_ble_eq_true rfl⟩ ⟨Nat.le_of_ble_eq_true rfl, Nat.le_of_ble_eq_true rfl⟩ dX7_span_85 (fun r70 kd66 ig67 rg68 lg69 H locs hw hH hp71 => ?_)
            obtain ⟨hI, hchp71, hrhp71⟩ := hp71
            have hN := hN.tr hchp71
            have hsh := hI.sh
            have hrs := hI.rs
            obtain rfl := hrhp71
            refine lv_iconst (v := 1) hx hb dX7_span_88 (by decide) (ti_c 1 (by decide) fun z72 hz72 => ?_)
            exact r_iret C hw hr hlk (nar_b (by omega)) (Nat.le_of_ble_eq_true rfl) (Nat.le_of_ble_eq_true rfl) dX7_span_89 ⟨hI, hN, ⟨_, rfl, by omega⟩⟩
          · refine lv_iconst (v := 0) hx hb dX7_span_79 (by decide) (ti_c 0 (by decide) fun z73 hz73 => ?_)
            exact r_iret C hw hr hlk (nar_b (by omega)) (Nat.le_of_ble_eq_true rfl) (Nat.le_of_ble_eq_true rfl) dX7_span_80 ⟨hI, hN, ⟨_, rfl, by omega⟩⟩
      · refine lv_iconst (v := 0) hx hb dX7_span_42 (by decide) (ti_c 0 (by decide) fun z74 hz74 => ?_)
        exact r_iret C hw hr hlk (nar_b (by omega)) (Nat.le_of_ble_eq_true rfl) (Nat.le_of_ble_eq_true rfl) dX7_span_43 ⟨hI, hN, ⟨_, rfl, by omega⟩⟩
  · refine lv_iconst (v := 0) hx hb dX7_span_19 (by decide) (ti_c 0 (by decide) fun z75 hz75 => ?_)
    exact r_iret C hw hr hlk (nar_b (by omega)) (Nat.le_of_ble_eq_true rfl) (Nat.le_of_ble_eq_true rfl) dX7_span_20 ⟨hI, hN, ⟨_, rfl, by omega⟩⟩

def RPart (l : Launch) (B : Nat) (D : va_G) (cA : Nat → ClassId) (k : Nat) : Prop := ∀ (kd : sK) (ig : sI) (rg : sR) (lg : sG) (sz : Nat) (x : Int32), 8 - x.toInt ≤ (k : Int) → IC B kd ig rg → MC l B D cA yX7_part cX7_part 2 (some .boolean) (rL (4 * k + 9) 0 0) [.ref (B + 1), .int x] kd ig rg lg sz (PI B none kd ig rg lg (fun r kd' ig' rg' lg' => ∃ z : Int32, r = some (.int z) ∧ (z.toInt = 0 ∨ z.toInt = 1)))
def RProd (l : Launch) (B : Nat) (D : va_G) (cA : Nat → ClassId) (k : Nat) : Prop := ∀ (kd : sK) (ig : sI) (rg : sR) (lg : sG) (sz : Nat) (x : Int32), 8 - x.toInt ≤ (k : Int) → IC B kd ig rg → MC l B D cA yX7_product cX7_product 4 (some .boolean) (rL (4 * k + 10) 0 0) [.ref (B + 1), .int x] kd ig rg lg sz (PI B none kd ig rg lg (fun r kd' ig' rg' lg' => ∃ z : Int32, r = some (.int z) ∧ (z.toInt = 0 ∨ z.toInt = 1)))
def RSum (l : Launch) (B : Nat) (D : va_G) (cA : Nat → ClassId) (k : Nat) : Prop := ∀ (kd : sK) (ig : sI) (rg : sR) (lg : sG) (sz : Nat) (x : Int32), 8 - x.toInt ≤ (k : Int) → IC B kd ig rg → MC l B D cA yX7_sum cX7_sum 4 (some .boolean) (rL (4 * k + 11) 0 0) [.ref (B + 1), .int x] kd ig rg lg sz (PI B none kd ig rg lg (fun r kd' ig' rg' lg' => ∃ z : Int32, r = some (.int z) ∧ (z.toInt = 0 ∨ z.toInt = 1)))

set_option maxHeartbeats 4000000 in
set_option maxRecDepth 100000 in
theorem t_X7_brackets (l : Launch) (B : Nat) (D : va_G) (cA : Nat → ClassId) (kd : sK) (ig : sI) (rg : sR) (lg : sG) (sz : Nat) (x : Int32) (k : Nat) (hS : RSum l B D cA k) (hx7 : 7 - x.toInt ≤ (k : Int)) (hx8 : x.toInt < 8) (hI : IC B kd ig rg) : MC l B D cA yX7_brackets cX7_brackets 2 (some .boolean) (rL (4 * k + 12) 0 0) [.ref (B + 1), .int x] kd ig rg lg sz (PI B none kd ig rg lg (fun r kd' ig' rg' lg' => ∃ z : Int32, r = some (.int z) ∧ (z.toInt = 0 ∨ z.toInt = 1))) := by
  refine MC.of (own := RX7) (by decide +kernel) rfl (Nat.le_of_ble_eq_true rfl) ?_
  intro p e s m args below meth c ls C hr hlk hnm hw hsz hl
  have hx := C.1.1
  have hb := C.1.2.1
  have hown := C.1.2.2.2.1
  have hts := C.1.2.2.2.2
  have hl : lv_has ls 2 [(0, .ref (B + 1)), (1, .int x)] := hl
  have hN : Nx B none kd ig rg lg kd ig rg lg := Nx.rf
  have hsh := hI.sh
  have hrs := hI.rs
  have bx := i32_bd x
  refine lv_aload_n hx hb dX7_brackets_0 rfl (lv_at hl 0 rfl) ?_
  refine lv_dup hx hb dX7_brackets_1 rfl ?_
  refine r_get C hw (hsh 1 _ rfl) fl_X7_50 (oV_i rfl) dX7_brackets_2 (ti_c (ig (B + 1) 7).toInt rfl fun z1 hz1 => ?_)
  refine lv_iconst (v := 1) hx hb dX7_brackets_5 (by decide) (ti_c 1 (by decide) fun z2 hz2 => ?_)
  refine lv_iadd hx hb dX7_brackets_6 (tc_add fun z3 hz3 => ?_)
  first | replace hz3 := hz3 (by omega) | clear hz3
  refine r_puti C hw (hsh 1 _ rfl) fl_X7_50 rfl rfl rfl dX7_brackets_7 (fun H locs hH hw => ?_)
  obtain ⟨ig4, eig4⟩ : ∃ f, f = up2 ig (B + 1) 7 z3 := ⟨_, rfl⟩
  rw [← eig4] at hw
  have hN : Nx B none kd ig rg lg kd ig4 rg lg := by rw [eig4]; exact hN.pi (by omega)
  have hI : IC B kd ig4 rg := by rw [eig4]; exact hI.pi (show okR none _ from trivial)
  refine lv_aload_n hx hb dX7_brackets_10 rfl (lv_at hl 0 rfl) ?_
  refine lv_iload_n hx hb dX7_brackets_11 rfl (lv_at hl 1 rfl) ?_
  refine lv_iconst (v := 1) hx hb dX7_brackets_12 (by decide) (ti_c 1 (by decide) fun z5 hz5 => ?_)
  refine lv_iadd hx hb dX7_brackets_13 (tc_add fun z6 hz6 => ?_)
  first | replace hz6 := hz6 (by omega) | clear hz6
  refine r_callV (As := [.int z6]) (rest := []) C hw (hS kd ig4 rg lg _ z6 (by omega) hI) sv_X7_53 (hsh 1 _ rfl) rfl hl.1 rfl (Nat.le_of_ble_eq_true rfl) ⟨by simp only [rL]; omega, by simp only [rL]; omega⟩ ⟨Nat.le_of_ble_eq_true rfl, Nat.le_of_ble_eq_true rfl⟩ dX7_brackets_14 (fun r11 kd7 ig8 rg9 lg10 H locs hw hH hp12 => ?_)
  obtain ⟨hI, hchp12, hrhp12⟩ := hp12
  have hN := hN.tr hchp12
  have hsh := hI.sh
  have hrs := hI.rs
  obtain ⟨z13, rfl, hz13⟩ := hrhp12
  refine z_eq (tgt := 29) hx hb dX7_brackets_17 (by decide) (fun c17 => ?_) (fun c17 => ?_)
  · refine lv_iconst (v := 0) hx hb dX7_brackets_29 (by decide) (ti_c 0 (by decide) fun z14 hz14 => ?_)
    exact r_iret C hw hr hlk (nar_b (by omega)) (Nat.le_of_ble_eq_true rfl) (Nat.le_of_ble_eq_true rfl) dX7_brackets_30 ⟨hI, hN, ⟨_, rfl, by omega⟩⟩
  · refine lv_aload_n hx hb dX7_brackets_20 rfl (lv_at hl 0 rfl) ?_
    refine lv_bipush (v := 41) hx hb dX7_brackets_21 (by decide) (ti_c 41 (by decide) fun z15 hz15 => ?_)
    refine r_callV (As := [.int z15]) (rest := []) C hw (t_X7_take l B D cA kd7 ig8 rg9 lg10 _ z15  hI) sv_X7_137 (hsh 1 _ rfl) rfl hl.1 rfl (Nat.le_of_ble_eq_true rfl) ⟨by simp only [rL]; omega, by simp only [rL]; omega⟩ ⟨Nat.le_of_ble_eq_true rfl, Nat.le_of_ble_eq_true rfl⟩ dX7_brackets_23 (fun r20 kd16 ig17 rg18 lg19 H locs hw hH hp21 => ?_)
    obtain ⟨hI, hchp21, hrhp21⟩ := hp21
    have hN := hN.tr hchp21
    have hsh := hI.sh
    have hrs := hI.rs
    obtain ⟨z22, rfl, hz22⟩ := hrhp21
    refine z_ne (tgt := 31) hx hb dX7_brackets_26 (by decide) (fun c26 => ?_) (fun c26 => ?_)
    · refine lv_aload_n hx hb dX7_brackets_31 rfl (lv_at hl 0 rfl) ?_
      refine lv_iconst (v := 3) hx hb dX7_brackets_32 (by decide) (ti_c 3 (by decide) fun z23 hz23 => ?_)
      refine lv_iconst (v := 0) hx hb dX7_brackets_33 (by decide) (ti_c 0 (by decide) fun z24 hz24 => ?_)
      refine lv_iconst (v := 0) hx hb dX7_brackets_34 (by decide) (ti_c 0 (by decide) fun z25 hz25 => ?_)
      refine r_callV (As := [.int z23, .int z24, .int z25]) (rest := []) C hw (t_X7_add l B D cA kd16 ig17 rg18 lg19 _ z23 z24 z25  hI) sv_X7_112 (hsh 1 _ rfl) rfl hl.1 rfl (Nat.le_of_ble_eq_true rfl) ⟨by simp only [rL]; omega, by simp only [rL]; omega⟩ ⟨Nat.le_of_ble_eq_true rfl, Nat.le_of_ble_eq_true rfl⟩ dX7_brackets_35 (fun r30 kd26 ig27 rg28 lg29 H locs hw hH hp31 => ?_)
      obtain ⟨hI, hchp31, hrhp31⟩ := hp31
      have hN := hN.tr hchp31
      have hsh := hI.sh
      have hrs := hI.rs
      obtain rfl := hrhp31
      refine lv_iconst (v := 1) hx hb dX7_brackets_38 (by decide) (ti_c 1 (by decide) fun z32 hz32 => ?_)
      exact r_iret C hw hr hlk (nar_b (by omega)) (Nat.le_of_ble_eq_true rfl) (Nat.le_of_ble_eq_true rfl) dX7_brackets_39 ⟨hI, hN, ⟨_, rfl, by omega⟩⟩
    · refine lv_iconst (v := 0) hx hb dX7_brackets_29 (by decide) (ti_c 0 (by decide) fun z33 hz33 => ?_)
      exact r_iret C hw hr hlk (nar_b (by omega)) (Nat.le_of_ble_eq_true rfl) (Nat.le_of_ble_eq_true rfl) dX7_brackets_30 ⟨hI, hN, ⟨_, rfl, by omega⟩⟩

set_option maxHeartbeats 4000000 in
set_option maxRecDepth 100000 in
theorem t_X7_negated (l : Launch) (B : Nat) (D : va_G) (cA : Nat → ClassId) (kd : sK) (ig : sI) (rg : sR) (lg : sG) (sz : Nat) (x : Int32) (k : Nat) (hP : RPart l B D cA k) (hx7 : 7 - x.toInt ≤ (k : Int)) (hx8 : x.toInt < 8) (hI : IC B kd ig rg) : MC l B D cA yX7_negated cX7_negated 2 (some .boolean) (rL (4 * k + 12) 0 0) [.ref (B + 1), .int x] kd ig rg lg sz (PI B none kd ig rg lg (fun r kd' ig' rg' lg' => ∃ z : Int32, r = some (.int z) ∧ (z.toInt = 0 ∨ z.toInt = 1))) := by
  refine MC.of (own := RX7) (by decide +kernel) rfl (Nat.le_of_ble_eq_true rfl) ?_
  intro p e s m args below meth c ls C hr hlk hnm hw hsz hl
  have hx := C.1.1
  have hb := C.1.2.1
  have hown := C.1.2.2.2.1
  have hts := C.1.2.2.2.2
  have hl : lv_has ls 2 [(0, .ref (B + 1)), (1, .int x)] := hl
  have hN : Nx B none kd ig rg lg kd ig rg lg := Nx.rf
  have hsh := hI.sh
  have hrs := hI.rs
  have bx := i32_bd x
  refine lv_aload_n hx hb dX7_negated_0 rfl (lv_at hl 0 rfl) ?_
  refine lv_dup hx hb dX7_negated_1 rfl ?_
  refine r_get C hw (hsh 1 _ rfl) fl_X7_50 (oV_i rfl) dX7_negated_2 (ti_c (ig (B + 1) 7).toInt rfl fun z1 hz1 => ?_)
  refine lv_iconst (v := 1) hx hb dX7_negated_5 (by decide) (ti_c 1 (by decide) fun z2 hz2 => ?_)
  refine lv_iadd hx hb dX7_negated_6 (tc_add fun z3 hz3 => ?_)
  first | replace hz3 := hz3 (by omega) | clear hz3
  refine r_puti C hw (hsh 1 _ rfl) fl_X7_50 rfl rfl rfl dX7_negated_7 (fun H locs hH hw => ?_)
  obtain ⟨ig4, eig4⟩ : ∃ f, f = up2 ig (B + 1) 7 z3 := ⟨_, rfl⟩
  rw [← eig4] at hw
  have hN : Nx B none kd ig rg lg kd ig4 rg lg := by rw [eig4]; exact hN.pi (by omega)
  have hI : IC B kd ig4 rg := by rw [eig4]; exact hI.pi (show okR none _ from trivial)
  refine lv_aload_n hx hb dX7_negated_10 rfl (lv_at hl 0 rfl) ?_
  refine lv_iload_n hx hb dX7_negated_11 rfl (lv_at hl 1 rfl) ?_
  refine lv_iconst (v := 1) hx hb dX7_negated_12 (by decide) (ti_c 1 (by decide) fun z5 hz5 => ?_)
  refine lv_iadd hx hb dX7_negated_13 (tc_add fun z6 hz6 => ?_)
  first | replace hz6 := hz6 (by omega) | clear hz6
  refine r_callV (As := [.int z6]) (rest := []) C hw (hP kd ig4 rg lg _ z6 (by omega) hI) sv_X7_115 (hsh 1 _ rfl) rfl hl.1 rfl (Nat.le_of_ble_eq_true rfl) ⟨by simp only [rL]; omega, by simp only [rL]; omega⟩ ⟨Nat.le_of_ble_eq_true rfl, Nat.le_of_ble_eq_true rfl⟩ dX7_negated_14 (fun r11 kd7 ig8 rg9 lg10 H locs hw hH hp12 => ?_)
  obtain ⟨hI, hchp12, hrhp12⟩ := hp12
  have hN := hN.tr hchp12
  have hsh := hI.sh
  have hrs := hI.rs
  obtain ⟨z13, rfl, hz13⟩ := hrhp12
  refine z_ne (tgt := 22) hx hb dX7_negated_17 (by decide) (fun c17 => ?_) (fun c17 => ?_)
  · refine lv_aload_n hx hb dX7_negated_22 rfl (lv_at hl 0 rfl) ?_
    refine lv_iconst (v := 4) hx hb dX7_negated_23 (by decide) (ti_c 4 (by decide) fun z14 hz14 => ?_)
    refine lv_iconst (v := 0) hx hb dX7_negated_24 (by decide) (ti_c 0 (by decide) fun z15 hz15 => ?_)
    refine lv_iconst (v := 0) hx hb dX7_negated_25 (by decide) (ti_c 0 (by decide) fun z16 hz16 => ?_)
    refine r_callV (As := [.int z14, .int z15, .int z16]) (rest := []) C hw (t_X7_add l B D cA kd7 ig8 rg9 lg10 _ z14 z15 z16  hI) sv_X7_112 (hsh 1 _ rfl) rfl hl.1 rfl (Nat.le_of_ble_eq_true rfl) ⟨by simp only [rL]; omega, by simp only [rL]; omega⟩ ⟨Nat.le_of_ble_eq_true rfl, Nat.le_of_ble_eq_true rfl⟩ dX7_negated_26 (fun r21 kd17 ig18 rg19 lg20 H locs hw hH hp22 => ?_)
    obtain ⟨hI, hchp22, hrhp22⟩ := hp22
    have hN := hN.tr hchp22
    have hsh := hI.sh
    have hrs := hI.rs
    obtain rfl := hrhp22
    refine lv_iconst (v := 1) hx hb dX7_negated_29 (by decide) (ti_c 1 (by decide) fun z23 hz23 => ?_)
    exact r_iret C hw hr hlk (nar_b (by omega)) (Nat.le_of_ble_eq_true rfl) (Nat.le_of_ble_eq_true rfl) dX7_negated_30 ⟨hI, hN, ⟨_, rfl, by omega⟩⟩
  · refine lv_iconst (v := 0) hx hb dX7_negated_20 (by decide) (ti_c 0 (by decide) fun z24 hz24 => ?_)
    exact r_iret C hw hr hlk (nar_b (by omega)) (Nat.le_of_ble_eq_true rfl) (Nat.le_of_ble_eq_true rfl) dX7_negated_21 ⟨hI, hN, ⟨_, rfl, by omega⟩⟩

set_option maxHeartbeats 4000000 in
set_option maxRecDepth 100000 in
theorem t_X7_part (l : Launch) (B : Nat) (D : va_G) (cA : Nat → ClassId) (kd : sK) (ig : sI) (rg : sR) (lg : sG) (sz : Nat) (x : Int32) (k : Nat) (hrec : ∀ k1, k = k1 + 1 → RSum l B D cA k1 ∧ RPart l B D cA k1) (hxk : 8 - x.toInt ≤ (k : Int)) (hI : IC B kd ig rg) : MC l B D cA yX7_part cX7_part 2 (some .boolean) (rL (4 * k + 9) 0 0) [.ref (B + 1), .int x] kd ig rg lg sz (PI B none kd ig rg lg (fun r kd' ig' rg' lg' => ∃ z : Int32, r = some (.int z) ∧ (z.toInt = 0 ∨ z.toInt = 1))) := by
  refine MC.of (own := RX7) (by decide +kernel) rfl (Nat.le_of_ble_eq_true rfl) ?_
  intro p e s m args below meth c ls C hr hlk hnm hw hsz hl
  have hx := C.1.1
  have hb := C.1.2.1
  have hown := C.1.2.2.2.1
  have hts := C.1.2.2.2.2
  have hl : lv_has ls 2 [(0, .ref (B + 1)), (1, .int x)] := hl
  have hN : Nx B none kd ig rg lg kd ig rg lg := Nx.rf
  have hsh := hI.sh
  have hrs := hI.rs
  refine lv_aload_n hx hb dX7_part_0 rfl (lv_at hl 0 rfl) ?_
  refine r_callV (As := []) (rest := []) C hw (t_X7_startsPart l B D cA kd ig rg lg _   hI) sv_X7_118 (hsh 1 _ rfl) rfl hl.1 rfl (Nat.le_of_ble_eq_true rfl) ⟨by simp only [rL]; omega, by simp only [rL]; omega⟩ ⟨Nat.le_of_ble_eq_true rfl, Nat.le_of_ble_eq_true rfl⟩ dX7_part_1 (fun r5 kd1 ig2 rg3 lg4 H locs hw hH hp6 => ?_)
  obtain ⟨rfl, rfl, rfl, rfl, hzhp6, hrhp6⟩ := hp6
  obtain ⟨z7, rfl, hz7⟩ := hrhp6
  refine z_ne (tgt := 13) hx hb dX7_part_4 (by decide) (fun c4 => ?_) (fun c4 => ?_)
  · refine lv_iload_n hx hb dX7_part_13 rfl (lv_at hl 1 rfl) ?_
    refine lv_bipush (v := 8) hx hb dX7_part_14 (by decide) (ti_c 8 (by decide) fun z8 hz8 => ?_)
    refine b_lt (tgt := 25) hx hb dX7_part_16 (by decide) (fun c16 => ?_) (fun c16 => ?_)
    · refine lv_aload_n hx hb dX7_part_25 rfl (lv_at hl 0 rfl) ?_
      refine r_callV (As := []) (rest := []) C hw (t_X7_kind l B D cA kd ig rg lg _   hI) sv_X7_57 (hsh 1 _ rfl) rfl hl.1 rfl (Nat.le_of_ble_eq_true rfl) ⟨by simp only [rL]; omega, by simp only [rL]; omega⟩ ⟨Nat.le_of_ble_eq_true rfl, Nat.le_of_ble_eq_true rfl⟩ dX7_part_26 (fun r13 kd9 ig10 rg11 lg12 H locs hw hH hp14 => ?_)
      obtain ⟨rfl, rfl, rfl, rfl, hzhp14, hrhp14⟩ := hp14
      obtain ⟨z15, rfl, hz15⟩ := hrhp14
      by_cases s29_40 : z15.toInt = 40
      · refine lv_lookup hx hb dX7_part_29 (by decide) (off := 35) (by rw [s29_40]; rfl) (tgt := 64) (by decide) ?_
        obtain ⟨k1, rfl⟩ : ∃ k1, k = k1 + 1 := ⟨k - 1, by omega⟩
        obtain ⟨hS, hP⟩ := hrec k1 rfl
        refine lv_aload_n hx hb dX7_part_64 rfl (lv_at hl 0 rfl) ?_
        refine lv_iload_n hx hb dX7_part_65 rfl (lv_at hl 1 rfl) ?_
        refine r_callV (As := [.int x]) (rest := []) C hw (t_X7_brackets l B D cA kd ig rg lg _ x k1 hS (by omega) (by omega) hI) sv_X7_122 (hsh 1 _ rfl) rfl hl.1 rfl (Nat.le_of_ble_eq_true rfl) ⟨by simp only [rL]; omega, by simp only [rL]; omega⟩ ⟨Nat.le_of_ble_eq_true rfl, Nat.le_of_ble_eq_true rfl⟩ dX7_part_66 (fun r20 kd16 ig17 rg18 lg19 H locs hw hH hp21 => ?_)
        obtain ⟨hI, hchp21, hrhp21⟩ := hp21
        have hN := hN.tr hchp21
        have hsh := hI.sh
        have hrs := hI.rs
        obtain ⟨z22, rfl, hz22⟩ := hrhp21
        exact r_iret C hw hr hlk (nar_b (by omega)) (Nat.le_of_ble_eq_true rfl) (Nat.le_of_ble_eq_true rfl) dX7_part_69 ⟨hI, hN, ⟨_, rfl, by omega⟩⟩
      by_cases s29_45 : z15.toInt = 45
      · refine lv_lookup hx hb dX7_part_29 (by decide) (off := 41) (by rw [s29_45]; rfl) (tgt := 70) (by decide) ?_
        obtain ⟨k1, rfl⟩ : ∃ k1, k = k1 + 1 := ⟨k - 1, by omega⟩
        obtain ⟨hS, hP⟩ := hrec k1 rfl
        refine lv_aload_n hx hb dX7_part_70 rfl (lv_at hl 0 rfl) ?_
        refine lv_iload_n hx hb dX7_part_71 rfl (lv_at hl 1 rfl) ?_
        refine r_callV (As := [.int x]) (rest := []) C hw (t_X7_negated l B D cA kd ig rg lg _ x k1 hP (by omega) (by omega) hI) sv_X7_125 (hsh 1 _ rfl) rfl hl.1 rfl (Nat.le_of_ble_eq_true rfl) ⟨by simp only [rL]; omega, by simp only [rL]; omega⟩ ⟨Nat.le_of_ble_eq_true rfl, Nat.le_of_ble_eq_true rfl⟩ dX7_part_72 (fun r27 kd23 ig24 rg25 lg26 H locs hw hH hp28 => ?_)
        obtain ⟨hI, hchp28, hrhp28⟩ := hp28
        have hN := hN.tr hchp28
        have hsh := hI.sh
        have hrs := hI.rs
        obtain ⟨z29, rfl, hz29⟩ := hrhp28
        exact r_iret C hw hr hlk (nar_b (by omega)) (Nat.le_of_ble_eq_true rfl) (Nat.le_of_ble_eq_true rfl) dX7_part_75 ⟨hI, hN, ⟨_, rfl, by omega⟩⟩
      by_cases s29_110 : z15.toInt = 110
      · refine lv_lookup hx hb dX7_part_29 (by decide) (off := 47) (by rw [s29_110]; rfl) (tgt := 76) (by decide) ?_
        refine lv_aload_n hx hb dX7_part_76 rfl (lv_at hl 0 rfl) ?_
        refine lv_iconst (v := 0) hx hb dX7_part_77 (by decide) (ti_c 0 (by decide) fun z30 hz30 => ?_)
        refine lv_aload_n hx hb dX7_part_78 rfl (lv_at hl 0 rfl) ?_
        refine r_callV (As := []) (rest := [.int z30, .ref (B + 1)]) C hw (t_X7_amount l B D cA kd ig rg lg _   hI) sv_X7_128 (hsh 1 _ rfl) rfl hl.1 rfl (Nat.le_of_ble_eq_true rfl) ⟨by simp only [rL]; omega, by simp only [rL]; omega⟩ ⟨Nat.le_of_ble_eq_true rfl, Nat.le_of_ble_eq_true rfl⟩ dX7_part_79 (fun r35 kd31 ig32 rg33 lg34 H locs hw hH hp36 => ?_)
        obtain ⟨rfl, rfl, rfl, rfl, hzhp36, hrhp36⟩ := hp36
        obtain ⟨z37, rfl, hz37⟩ := hrhp36
        refine lv_iconst (v := 0) hx hb dX7_part_82 (by decide) (ti_c 0 (by decide) fun z38 hz38 => ?_)
        refine r_callV (As := [.int z30, .int z37, .int z38]) (rest := []) C hw (t_X7_add l B D cA kd ig rg lg _ z30 z37 z38  hI) sv_X7_112 (hsh 1 _ rfl) rfl hl.1 rfl (Nat.le_of_ble_eq_true rfl) ⟨by simp only [rL]; omega, by simp only [rL]; omega⟩ ⟨Nat.le_of_ble_eq_true rfl, Nat.le_of_ble_eq_true rfl⟩ dX7_part_83 (fun r43 kd39 ig40 rg41 lg42 H locs hw hH hp44 => ?_)
        obtain ⟨hI, hchp44, hrhp44⟩ := hp44
        have hN := hN.tr hchp44
        have hsh := hI.sh
        have hrs := hI.rs
        obtain rfl := hrhp44
        refine lv_aload_n hx hb dX7_part_86 rfl (lv_at hl 0 rfl) ?_
        refine lv_dup hx hb dX7_part_87 rfl ?_
        refine r_get C hw (hsh 1 _ rfl) fl_X7_50 (oV_i rfl) dX7_part_88 (ti_c (ig40 (B + 1) 7).toInt rfl fun z45 hz45 => ?_)
        refine lv_iconst (v := 1) hx hb dX7_part_91 (by decide) (ti_c 1 (by decide) fun z46 hz46 => ?_)
        refine lv_iadd hx hb dX7_part_92 (tc_add fun z47 hz47 => ?_)
        first | replace hz47 := hz47 (by omega) | clear hz47
        refine r_puti C hw (hsh 1 _ rfl) fl_X7_50 rfl rfl rfl dX7_part_93 (fun H locs hH hw => ?_)
        obtain ⟨ig48, eig48⟩ : ∃ f, f = up2 ig40 (B + 1) 7 z47 := ⟨_, rfl⟩
        rw [← eig48] at hw
        have hN : Nx B none kd ig rg lg kd39 ig48 rg41 lg42 := by rw [eig48]; exact hN.pi (by omega)
        have hI : IC B kd39 ig48 rg41 := by rw [eig48]; exact hI.pi (show okR none _ from trivial)
        refine lv_iconst (v := 1) hx hb dX7_part_96 (by decide) (ti_c 1 (by decide) fun z49 hz49 => ?_)
        exact r_iret C hw hr hlk (nar_b (by omega)) (Nat.le_of_ble_eq_true rfl) (Nat.le_of_ble_eq_true rfl) dX7_part_97 ⟨hI, hN, ⟨_, rfl, by omega⟩⟩
      refine lv_lookup hx hb dX7_part_29 (by decide) (off := 69) (by show Op.lookupswitch.offset [(40, 35), (45, 41), (110, 47)] 69 _ = _; rw [los s29_40, los s29_45, los s29_110]; rfl) (tgt := 98) (by decide) ?_
      refine lv_aload_n hx hb dX7_part_98 rfl (lv_at hl 0 rfl) ?_
      refine r_callV (As := []) (rest := []) C hw (t_X7_kind l B D cA kd ig rg lg _   hI) sv_X7_57 (hsh 1 _ rfl) rfl hl.1 rfl (Nat.le_of_ble_eq_true rfl) ⟨by simp only [rL]; omega, by simp only [rL]; omega⟩ ⟨Nat.le_of_ble_eq_true rfl, Nat.le_of_ble_eq_true rfl⟩ dX7_part_99 (fun r54 kd50 ig51 rg52 lg53 H locs hw hH hp55 => ?_)
      obtain ⟨rfl, rfl, rfl, rfl, hzhp55, hrhp55⟩ := hp55
      obtain ⟨z56, rfl, hz56⟩ := hrhp55
      refine lv_bipush (v := 119) hx hb dX7_part_102 (by decide) (ti_c 119 (by decide) fun z57 hz57 => ?_)
      have J123 : ∀ (ls : Array Slot) (H : Heap) (locs : List Loc) (kd58 : sK) (ig59 : sI) (rg60 : sR) (lg61 : sG) , lv_has ls 2 [(0, .ref (B + 1))] → WD B D cA s.heap kd58 ig59 rg60 lg61 H locs → IC B kd58 ig59 rg60 → Nx B none kd ig rg lg kd58 ig59 rg60 lg61 → W p l e (rL (4 * k + 9) 0 0) s m args below meth c H locs 0 0 (MQ below (QcW B D cA (PI B none kd ig rg lg (fun r kd' ig' rg' lg' => ∃ z : Int32, r = some (.int z) ∧ (z.toInt = 0 ∨ z.toInt = 1)))) args s 0 0 (fun q => B ≤ q)) (F0 m 123 ls []) := by
        intro ls H locs kd58 ig59 rg60 lg61 hl hw hI hN
        have hsh := hI.sh
        have hrs := hI.rs
        refine lv_aload_n hx hb dX7_part_123 rfl (lv_at hl 0 rfl) ?_
        refine r_callV (As := []) (rest := []) C hw (t_X7_single l B D cA kd58 ig59 rg60 lg61 _   hI) sv_X7_134 (hsh 1 _ rfl) rfl hl.1 rfl (Nat.le_of_ble_eq_true rfl) ⟨by simp only [rL]; omega, by simp only [rL]; omega⟩ ⟨Nat.le_of_ble_eq_true rfl, Nat.le_of_ble_eq_true rfl⟩ dX7_part_124 (fun r66 kd62 ig63 rg64 lg65 H locs hw hH hp67 => ?_)
        obtain ⟨hI, hchp67, hrhp67⟩ := hp67
        have hN := hN.tr hchp67
        have hsh := hI.sh
        have hrs := hI.rs
        obtain ⟨z68, rfl, hz68⟩ := hrhp67
        exact r_iret C hw hr hlk (nar_b (by omega)) (Nat.le_of_ble_eq_true rfl) (Nat.le_of_ble_eq_true rfl) dX7_part_127 ⟨hI, hN, ⟨_, rfl, by omega⟩⟩
      refine b_ne (tgt := 123) hx hb dX7_part_104 (by decide) (fun c104 => ?_) (fun c104 => ?_)
      · exact J123 ls H locs kd ig rg lg (lv_sub hl [0] rfl) hw hI hN
      · refine lv_aload_n hx hb dX7_part_107 rfl (lv_at hl 0 rfl) ?_
        refine r_callV (As := []) (rest := []) C hw (t_X7_amount l B D cA kd ig rg lg _   hI) sv_X7_128 (hsh 1 _ rfl) rfl hl.1 rfl (Nat.le_of_ble_eq_true rfl) ⟨by simp only [rL]; omega, by simp only [rL]; omega⟩ ⟨Nat.le_of_ble_eq_true rfl, Nat.le_of_ble_eq_true rfl⟩ dX7_part_108 (fun r73 kd69 ig70 rg71 lg72 H locs hw hH hp74 => ?_)
        obtain ⟨rfl, rfl, rfl, rfl, hzhp74, hrhp74⟩ := hp74
        obtain ⟨z75, rfl, hz75⟩ := hrhp74
        refine lv_bipush (v := 26) hx hb dX7_part_111 (by decide) (ti_c 26 (by decide) fun z76 hz76 => ?_)
        refine b_ne (tgt := 123) hx hb dX7_part_113 (by decide) (fun c113 => ?_) (fun c113 => ?_)
        · exact J123 ls H locs kd ig rg lg (lv_sub hl [0] rfl) hw hI hN
        · refine lv_aload_n hx hb dX7_part_116 rfl (lv_at hl 0 rfl) ?_
          refine r_callV (As := []) (rest := []) C hw (t_X7_span l B D cA kd ig rg lg _   hI) sv_X7_131 (hsh 1 _ rfl) rfl hl.1 rfl (Nat.le_of_ble_eq_true rfl) ⟨by simp only [rL]; omega, by simp only [rL]; omega⟩ ⟨Nat.le_of_ble_eq_true rfl, Nat.le_of_ble_eq_true rfl⟩ dX7_part_117 (fun r81 kd77 ig78 rg79 lg80 H locs hw hH hp82 => ?_)
          obtain ⟨hI, hchp82, hrhp82⟩ := hp82
          have hN := hN.tr hchp82
          have hsh := hI.sh
          have hrs := hI.rs
          obtain ⟨z83, rfl, hz83⟩ := hrhp82
          refine lv_goto (tgt := 127) hx hb dX7_part_120 (by decide) ?_
          exact r_iret C hw hr hlk (nar_b (by omega)) (Nat.le_of_ble_eq_true rfl) (Nat.le_of_ble_eq_true rfl) dX7_part_127 ⟨hI, hN, ⟨_, rfl, by omega⟩⟩
    · refine lv_aload_n hx hb dX7_part_19 rfl (lv_at hl 0 rfl) ?_
      refine lv_iconst (v := 5) hx hb dX7_part_20 (by decide) (ti_c 5 (by decide) fun z84 hz84 => ?_)
      refine r_callV (As := [.int z84]) (rest := []) C hw (t_X7_wrong l B D cA kd ig rg lg _ z84  hI) sv_X7_61 (hsh 1 _ rfl) rfl hl.1 rfl (Nat.le_of_ble_eq_true rfl) ⟨by simp only [rL]; omega, by simp only [rL]; omega⟩ ⟨Nat.le_of_ble_eq_true rfl, Nat.le_of_ble_eq_true rfl⟩ dX7_part_21 (fun r89 kd85 ig86 rg87 lg88 H locs hw hH hp90 => ?_)
      obtain ⟨hI, hchp90, hrhp90⟩ := hp90
      have hN := hN.tr hchp90
      have hsh := hI.sh
      have hrs := hI.rs
      obtain ⟨z91, rfl, hz91⟩ := hrhp90
      exact r_iret C hw hr hlk (nar_b (by omega)) (Nat.le_of_ble_eq_true rfl) (Nat.le_of_ble_eq_true rfl) dX7_part_24 ⟨hI, hN, ⟨_, rfl, by omega⟩⟩
  · refine lv_aload_n hx hb dX7_part_7 rfl (lv_at hl 0 rfl) ?_
    refine lv_iconst (v := 1) hx hb dX7_part_8 (by decide) (ti_c 1 (by decide) fun z92 hz92 => ?_)
    refine r_callV (As := [.int z92]) (rest := []) C hw (t_X7_wrong l B D cA kd ig rg lg _ z92  hI) sv_X7_61 (hsh 1 _ rfl) rfl hl.1 rfl (Nat.le_of_ble_eq_true rfl) ⟨by simp only [rL]; omega, by simp only [rL]; omega⟩ ⟨Nat.le_of_ble_eq_true rfl, Nat.le_of_ble_eq_true rfl⟩ dX7_part_9 (fun r97 kd93 ig94 rg95 lg96 H locs hw hH hp98 => ?_)
    obtain ⟨hI, hchp98, hrhp98⟩ := hp98
    have hN := hN.tr hchp98
    have hsh := hI.sh
    have hrs := hI.rs
    obtain ⟨z99, rfl, hz99⟩ := hrhp98
    exact r_iret C hw hr hlk (nar_b (by omega)) (Nat.le_of_ble_eq_true rfl) (Nat.le_of_ble_eq_true rfl) dX7_part_12 ⟨hI, hN, ⟨_, rfl, by omega⟩⟩

set_option maxHeartbeats 4000000 in
set_option maxRecDepth 100000 in
theorem t_X7_product (l : Launch) (B : Nat) (D : va_G) (cA : Nat → ClassId) (kd : sK) (ig : sI) (rg : sR) (lg : sG) (sz : Nat) (x : Int32) (k : Nat) (hP : RPart l B D cA k) (hxk : 8 - x.toInt ≤ (k : Int)) (hI : IC B kd ig rg) : MC l B D cA yX7_product cX7_product 4 (some .boolean) (rL (4 * k + 10) 0 0) [.ref (B + 1), .int x] kd ig rg lg sz (PI B none kd ig rg lg (fun r kd' ig' rg' lg' => ∃ z : Int32, r = some (.int z) ∧ (z.toInt = 0 ∨ z.toInt = 1))) := by
  refine MC.of (own := RX7) (by decide +kernel) rfl (Nat.le_of_ble_eq_true rfl) ?_
  intro p e s m args below meth c ls C hr hlk hnm hw hsz hl
  have hx := C.1.1
  have hb := C.1.2.1
  have hown := C.1.2.2.2.1
  have hts := C.1.2.2.2.2
  have hl : lv_has ls 4 [(0, .ref (B + 1)), (1, .int x)] := hl
  have hN : Nx B none kd ig rg lg kd ig rg lg := Nx.rf
  have hsh := hI.sh
  have hrs := hI.rs
  refine lv_aload_n hx hb dX7_product_0 rfl (lv_at hl 0 rfl) ?_
  refine lv_iload_n hx hb dX7_product_1 rfl (lv_at hl 1 rfl) ?_
  refine r_callV (As := [.int x]) (rest := []) C hw (hP kd ig rg lg _ x (by omega) hI) sv_X7_115 (hsh 1 _ rfl) rfl hl.1 rfl (Nat.le_of_ble_eq_true rfl) ⟨by simp only [rL]; omega, by simp only [rL]; omega⟩ ⟨Nat.le_of_ble_eq_true rfl, Nat.le_of_ble_eq_true rfl⟩ dX7_product_2 (fun r5 kd1 ig2 rg3 lg4 H locs hw hH hp6 => ?_)
  obtain ⟨hI, hchp6, hrhp6⟩ := hp6
  have hN := hN.tr hchp6
  have hsh := hI.sh
  have hrs := hI.rs
  obtain ⟨z7, rfl, hz7⟩ := hrhp6
  refine z_ne (tgt := 10) hx hb dX7_product_5 (by decide) (fun c5 => ?_) (fun c5 => ?_)
  · refine lv_iconst (v := 0) hx hb dX7_product_10 (by decide) (ti_c 0 (by decide) fun z8 hz8 => ?_)
    refine lv_istore_n (lv' := [(2, .int z8), (0, .ref (B + 1)), (1, .int x)]) hx hb dX7_product_11 rfl hl (by decide) rfl (fun ls hl => ?_)
    have L12 : ∀ (n : Nat) (ls : Array Slot) (H : Heap) (locs : List Loc) (kd10 : sK) (ig11 : sI) (rg12 : sR) (lg13 : sG) (v9 : Int32), lv_has ls 4 [(2, .int v9), (0, .ref (B + 1)), (1, .int x)] → WD B D cA s.heap kd10 ig11 rg12 lg13 H locs → IC B kd10 ig11 rg12 → Nx B none kd ig rg lg kd10 ig11 rg12 lg13 → (0 ≤ v9.toInt) → (v9.toInt ≤ 120) → 120 - v9.toInt < (n : Int) → W p l e (rL (4 * k + 10) 0 0) s m args below meth c H locs 0 0 (MQ below (QcW B D cA (PI B none kd ig rg lg (fun r kd' ig' rg' lg' => ∃ z : Int32, r = some (.int z) ∧ (z.toInt = 0 ∨ z.toInt = 1)))) args s 0 0 (fun q => B ≤ q)) (F0 m 12 ls []) := by
      intro n12
      induction n12 with
      | zero => intro ls H locs kd10 ig11 rg12 lg13 v9 hl hw hI hN g12_0 g12_1 hmu; exact absurd hmu (by omega)
      | succ n12 ih12 =>
        intro ls H locs kd10 ig11 rg12 lg13 v9 hl hw hI hN g12_0 g12_1 hmu
        have hsh := hI.sh
        have hrs := hI.rs
        refine lv_iload_n hx hb dX7_product_12 rfl (lv_at hl 0 rfl) ?_
        refine lv_bipush (v := 120) hx hb dX7_product_13 (by decide) (ti_c 120 (by decide) fun z14 hz14 => ?_)
        refine b_ge (tgt := 86) hx hb dX7_product_15 (by decide) (fun c15 => ?_) (fun c15 => ?_)
        · refine lv_iconst (v := 1) hx hb dX7_product_86 (by decide) (ti_c 1 (by decide) fun z15 hz15 => ?_)
          exact r_iret C hw hr hlk (nar_b (by omega)) (Nat.le_of_ble_eq_true rfl) (Nat.le_of_ble_eq_true rfl) dX7_product_87 ⟨hI, hN, ⟨_, rfl, by omega⟩⟩
        · refine lv_aload_n hx hb dX7_product_18 rfl (lv_at hl 1 rfl) ?_
          refine r_callV (As := []) (rest := []) C hw (t_X7_kind l B D cA kd10 ig11 rg12 lg13 _   hI) sv_X7_57 (hsh 1 _ rfl) rfl hl.1 rfl (Nat.le_of_ble_eq_true rfl) ⟨by simp only [rL]; omega, by simp only [rL]; omega⟩ ⟨Nat.le_of_ble_eq_true rfl, Nat.le_of_ble_eq_true rfl⟩ dX7_product_19 (fun r20 kd16 ig17 rg18 lg19 H locs hw hH hp21 => ?_)
          obtain ⟨rfl, rfl, rfl, rfl, hzhp21, hrhp21⟩ := hp21
          obtain ⟨z22, rfl, hz22⟩ := hrhp21
          refine lv_bipush (v := 42) hx hb dX7_product_22 (by decide) (ti_c 42 (by decide) fun z23 hz23 => ?_)
          have J36 : ∀ (ls : Array Slot) (H : Heap) (locs : List Loc) (kd24 : sK) (ig25 : sI) (rg26 : sR) (lg27 : sG) , lv_has ls 4 [(2, .int v9), (0, .ref (B + 1)), (1, .int x)] → WD B D cA s.heap kd24 ig25 rg26 lg27 H locs → IC B kd24 ig25 rg26 → Nx B none kd ig rg lg kd24 ig25 rg26 lg27 → W p l e (rL (4 * k + 10) 0 0) s m args below meth c H locs 0 0 (MQ below (QcW B D cA (PI B none kd ig rg lg (fun r kd' ig' rg' lg' => ∃ z : Int32, r = some (.int z) ∧ (z.toInt = 0 ∨ z.toInt = 1)))) args s 0 0 (fun q => B ≤ q)) (F0 m 36 ls []) := by
            intro ls H locs kd24 ig25 rg26 lg27 hl hw hI hN
            have hsh := hI.sh
            have hrs := hI.rs
            refine lv_aload_n hx hb dX7_product_36 rfl (lv_at hl 1 rfl) ?_
            refine r_callV (As := []) (rest := []) C hw (t_X7_kind l B D cA kd24 ig25 rg26 lg27 _   hI) sv_X7_57 (hsh 1 _ rfl) rfl hl.1 rfl (Nat.le_of_ble_eq_true rfl) ⟨by simp only [rL]; omega, by simp only [rL]; omega⟩ ⟨Nat.le_of_ble_eq_true rfl, Nat.le_of_ble_eq_true rfl⟩ dX7_product_37 (fun r32 kd28 ig29 rg30 lg31 H locs hw hH hp33 => ?_)
            obtain ⟨rfl, rfl, rfl, rfl, hzhp33, hrhp33⟩ := hp33
            obtain ⟨z34, rfl, hz34⟩ := hrhp33
            refine lv_bipush (v := 42) hx hb dX7_product_40 (by decide) (ti_c 42 (by decide) fun z35 hz35 => ?_)
            have J52 : ∀ (ls : Array Slot) (H : Heap) (locs : List Loc) (kd37 : sK) (ig38 : sI) (rg39 : sR) (lg40 : sG) (u36 : Int32), lv_has ls 4 [(2, .int v9), (0, .ref (B + 1)), (1, .int x)] → WD B D cA s.heap kd37 ig38 rg39 lg40 H locs → IC B kd37 ig38 rg39 → Nx B none kd ig rg lg kd37 ig38 rg39 lg40 → W p l e (rL (4 * k + 10) 0 0) s m args below meth c H locs 0 0 (MQ below (QcW B D cA (PI B none kd ig rg lg (fun r kd' ig' rg' lg' => ∃ z : Int32, r = some (.int z) ∧ (z.toInt = 0 ∨ z.toInt = 1)))) args s 0 0 (fun q => B ≤ q)) (F0 m 52 ls [.int u36]) := by
              intro ls H locs kd37 ig38 rg39 lg40 u36 hl hw hI hN
              have hsh := hI.sh
              have hrs := hI.rs
              refine lv_istore_n (lv' := [(3, .int u36), (2, .int v9), (0, .ref (B + 1)), (1, .int x)]) hx hb dX7_product_52 rfl hl (by decide) rfl (fun ls hl => ?_)
              refine lv_aload_n hx hb dX7_product_53 rfl (lv_at hl 2 rfl) ?_
              refine lv_dup hx hb dX7_product_54 rfl ?_
              refine r_get C hw (hsh 1 _ rfl) fl_X7_50 (oV_i rfl) dX7_product_55 (ti_c (ig38 (B + 1) 7).toInt rfl fun z41 hz41 => ?_)
              refine lv_iconst (v := 1) hx hb dX7_product_58 (by decide) (ti_c 1 (by decide) fun z42 hz42 => ?_)
              refine lv_iadd hx hb dX7_product_59 (tc_add fun z43 hz43 => ?_)
              first | replace hz43 := hz43 (by omega) | clear hz43
              refine r_puti C hw (hsh 1 _ rfl) fl_X7_50 rfl rfl rfl dX7_product_60 (fun H locs hH hw => ?_)
              obtain ⟨ig44, eig44⟩ : ∃ f, f = up2 ig38 (B + 1) 7 z43 := ⟨_, rfl⟩
              rw [← eig44] at hw
              have hN : Nx B none kd ig rg lg kd37 ig44 rg39 lg40 := by rw [eig44]; exact hN.pi (by omega)
              have hI : IC B kd37 ig44 rg39 := by rw [eig44]; exact hI.pi (show okR none _ from trivial)
              refine lv_aload_n hx hb dX7_product_63 rfl (lv_at hl 2 rfl) ?_
              refine lv_iload_n hx hb dX7_product_64 rfl (lv_at hl 3 rfl) ?_
              refine r_callV (As := [.int x]) (rest := []) C hw (hP kd37 ig44 rg39 lg40 _ x (by omega) hI) sv_X7_115 (hsh 1 _ rfl) rfl hl.1 rfl (Nat.le_of_ble_eq_true rfl) ⟨by simp only [rL]; omega, by simp only [rL]; omega⟩ ⟨Nat.le_of_ble_eq_true rfl, Nat.le_of_ble_eq_true rfl⟩ dX7_product_65 (fun r49 kd45 ig46 rg47 lg48 H locs hw hH hp50 => ?_)
              obtain ⟨hI, hchp50, hrhp50⟩ := hp50
              have hN := hN.tr hchp50
              have hsh := hI.sh
              have hrs := hI.rs
              obtain ⟨z51, rfl, hz51⟩ := hrhp50
              refine z_ne (tgt := 73) hx hb dX7_product_68 (by decide) (fun c68 => ?_) (fun c68 => ?_)
              · refine lv_aload_n hx hb dX7_product_73 rfl (lv_at hl 2 rfl) ?_
                refine lv_iload_n hx hb dX7_product_74 rfl (lv_at hl 0 rfl) ?_
                refine lv_iconst (v := 0) hx hb dX7_product_75 (by decide) (ti_c 0 (by decide) fun z52 hz52 => ?_)
                refine lv_iconst (v := 0) hx hb dX7_product_76 (by decide) (ti_c 0 (by decide) fun z53 hz53 => ?_)
                refine r_callV (As := [.int u36, .int z52, .int z53]) (rest := []) C hw (t_X7_add l B D cA kd45 ig46 rg47 lg48 _ u36 z52 z53  hI) sv_X7_112 (hsh 1 _ rfl) rfl hl.1 rfl (Nat.le_of_ble_eq_true rfl) ⟨by simp only [rL]; omega, by simp only [rL]; omega⟩ ⟨Nat.le_of_ble_eq_true rfl, Nat.le_of_ble_eq_true rfl⟩ dX7_product_77 (fun r58 kd54 ig55 rg56 lg57 H locs hw hH hp59 => ?_)
                obtain ⟨hI, hchp59, hrhp59⟩ := hp59
                have hN := hN.tr hchp59
                have hsh := hI.sh
                have hrs := hI.rs
                obtain rfl := hrhp59
                refine tc_inc hx hb dX7_product_80 hl (k := 1) rfl (by decide) (by decide) (fun z60 hz60 ls hl => ?_)
                first | replace hz60 := hz60 (by omega) | clear hz60
                have hl : lv_has ls 4 [(2, .int z60), (3, .int u36), (0, .ref (B + 1)), (1, .int x)] := hl
                refine lv_goto (tgt := 12) hx hb dX7_product_83 (by decide) ?_
                exact ih12 ls H locs kd54 ig55 rg56 lg57 z60 (lv_sub hl [0, 2, 3] rfl) hw hI hN (by omega) (by omega) (by omega)
              · refine lv_iconst (v := 0) hx hb dX7_product_71 (by decide) (ti_c 0 (by decide) fun z61 hz61 => ?_)
                exact r_iret C hw hr hlk (nar_b (by omega)) (Nat.le_of_ble_eq_true rfl) (Nat.le_of_ble_eq_true rfl) dX7_product_72 ⟨hI, hN, ⟨_, rfl, by omega⟩⟩
            refine b_ne (tgt := 50) hx hb dX7_product_42 (by decide) (fun c42 => ?_) (fun c42 => ?_)
            · refine lv_bipush (v := 8) hx hb dX7_product_50 (by decide) (ti_c 8 (by decide) fun z62 hz62 => ?_)
              exact J52 ls H locs kd24 ig25 rg26 lg27 z62 (lv_sub hl [0, 1, 2] rfl) hw hI hN
            · refine lv_bipush (v := 7) hx hb dX7_product_45 (by decide) (ti_c 7 (by decide) fun z63 hz63 => ?_)
              refine lv_goto (tgt := 52) hx hb dX7_product_47 (by decide) ?_
              exact J52 ls H locs kd24 ig25 rg26 lg27 z63 (lv_sub hl [0, 1, 2] rfl) hw hI hN
          refine b_eq (tgt := 36) hx hb dX7_product_24 (by decide) (fun c24 => ?_) (fun c24 => ?_)
          · exact J36 ls H locs kd10 ig11 rg12 lg13 (lv_sub hl [0, 1, 2] rfl) hw hI hN
          · refine lv_aload_n hx hb dX7_product_27 rfl (lv_at hl 1 rfl) ?_
            refine r_callV (As := []) (rest := []) C hw (t_X7_kind l B D cA kd10 ig11 rg12 lg13 _   hI) sv_X7_57 (hsh 1 _ rfl) rfl hl.1 rfl (Nat.le_of_ble_eq_true rfl) ⟨by simp only [rL]; omega, by simp only [rL]; omega⟩ ⟨Nat.le_of_ble_eq_true rfl, Nat.le_of_ble_eq_true rfl⟩ dX7_product_28 (fun r68 kd64 ig65 rg66 lg67 H locs hw hH hp69 => ?_)
            obtain ⟨rfl, rfl, rfl, rfl, hzhp69, hrhp69⟩ := hp69
            obtain ⟨z70, rfl, hz70⟩ := hrhp69
            refine lv_bipush (v := 47) hx hb dX7_product_31 (by decide) (ti_c 47 (by decide) fun z71 hz71 => ?_)
            refine b_ne (tgt := 86) hx hb dX7_product_33 (by decide) (fun c33 => ?_) (fun c33 => ?_)
            · refine lv_iconst (v := 1) hx hb dX7_product_86 (by decide) (ti_c 1 (by decide) fun z72 hz72 => ?_)
              exact r_iret C hw hr hlk (nar_b (by omega)) (Nat.le_of_ble_eq_true rfl) (Nat.le_of_ble_eq_true rfl) dX7_product_87 ⟨hI, hN, ⟨_, rfl, by omega⟩⟩
            · exact J36 ls H locs kd10 ig11 rg12 lg13 (lv_sub hl [0, 1, 2] rfl) hw hI hN
    exact L12 ((120 - z8.toInt) + 1).toNat ls H locs kd1 ig2 rg3 lg4 z8 (lv_sub hl [0, 1, 2] rfl) hw hI hN (by omega) (by omega) (by omega)
  · refine lv_iconst (v := 0) hx hb dX7_product_8 (by decide) (ti_c 0 (by decide) fun z73 hz73 => ?_)
    exact r_iret C hw hr hlk (nar_b (by omega)) (Nat.le_of_ble_eq_true rfl) (Nat.le_of_ble_eq_true rfl) dX7_product_9 ⟨hI, hN, ⟨_, rfl, by omega⟩⟩

set_option maxHeartbeats 4000000 in
set_option maxRecDepth 100000 in
theorem t_X7_sum (l : Launch) (B : Nat) (D : va_G) (cA : Nat → ClassId) (kd : sK) (ig : sI) (rg : sR) (lg : sG) (sz : Nat) (x : Int32) (k : Nat) (hQ : RProd l B D cA k) (hxk : 8 - x.toInt ≤ (k : Int)) (hI : IC B kd ig rg) : MC l B D cA yX7_sum cX7_sum 4 (some .boolean) (rL (4 * k + 11) 0 0) [.ref (B + 1), .int x] kd ig rg lg sz (PI B none kd ig rg lg (fun r kd' ig' rg' lg' => ∃ z : Int32, r = some (.int z) ∧ (z.toInt = 0 ∨ z.toInt = 1))) := by
  refine MC.of (own := RX7) (by decide +kernel) rfl (Nat.le_of_ble_eq_true rfl) ?_
  intro p e s m args below meth c ls C hr hlk hnm hw hsz hl
  have hx := C.1.1
  have hb := C.1.2.1
  have hown := C.1.2.2.2.1
  have hts := C.1.2.2.2.2
  have hl : lv_has ls 4 [(0, .ref (B + 1)), (1, .int x)] := hl
  have hN : Nx B none kd ig rg lg kd ig rg lg := Nx.rf
  have hsh := hI.sh
  have hrs := hI.rs
  refine lv_aload_n hx hb dX7_sum_0 rfl (lv_at hl 0 rfl) ?_
  refine lv_iload_n hx hb dX7_sum_1 rfl (lv_at hl 1 rfl) ?_
  refine r_callV (As := [.int x]) (rest := []) C hw (hQ kd ig rg lg _ x (by omega) hI) sv_X7_109 (hsh 1 _ rfl) rfl hl.1 rfl (Nat.le_of_ble_eq_true rfl) ⟨by simp only [rL]; omega, by simp only [rL]; omega⟩ ⟨Nat.le_of_ble_eq_true rfl, Nat.le_of_ble_eq_true rfl⟩ dX7_sum_2 (fun r5 kd1 ig2 rg3 lg4 H locs hw hH hp6 => ?_)
  obtain ⟨hI, hchp6, hrhp6⟩ := hp6
  have hN := hN.tr hchp6
  have hsh := hI.sh
  have hrs := hI.rs
  obtain ⟨z7, rfl, hz7⟩ := hrhp6
  refine z_ne (tgt := 10) hx hb dX7_sum_5 (by decide) (fun c5 => ?_) (fun c5 => ?_)
  · refine lv_iconst (v := 0) hx hb dX7_sum_10 (by decide) (ti_c 0 (by decide) fun z8 hz8 => ?_)
    refine lv_istore_n (lv' := [(2, .int z8), (0, .ref (B + 1)), (1, .int x)]) hx hb dX7_sum_11 rfl hl (by decide) rfl (fun ls hl => ?_)
    have L12 : ∀ (n : Nat) (ls : Array Slot) (H : Heap) (locs : List Loc) (kd10 : sK) (ig11 : sI) (rg12 : sR) (lg13 : sG) (v9 : Int32), lv_has ls 4 [(2, .int v9), (0, .ref (B + 1)), (1, .int x)] → WD B D cA s.heap kd10 ig11 rg12 lg13 H locs → IC B kd10 ig11 rg12 → Nx B none kd ig rg lg kd10 ig11 rg12 lg13 → (0 ≤ v9.toInt) → (v9.toInt ≤ 120) → 120 - v9.toInt < (n : Int) → W p l e (rL (4 * k + 11) 0 0) s m args below meth c H locs 0 0 (MQ below (QcW B D cA (PI B none kd ig rg lg (fun r kd' ig' rg' lg' => ∃ z : Int32, r = some (.int z) ∧ (z.toInt = 0 ∨ z.toInt = 1)))) args s 0 0 (fun q => B ≤ q)) (F0 m 12 ls []) := by
      intro n12
      induction n12 with
      | zero => intro ls H locs kd10 ig11 rg12 lg13 v9 hl hw hI hN g12_0 g12_1 hmu; exact absurd hmu (by omega)
      | succ n12 ih12 =>
        intro ls H locs kd10 ig11 rg12 lg13 v9 hl hw hI hN g12_0 g12_1 hmu
        have hsh := hI.sh
        have hrs := hI.rs
        refine lv_iload_n hx hb dX7_sum_12 rfl (lv_at hl 0 rfl) ?_
        refine lv_bipush (v := 120) hx hb dX7_sum_13 (by decide) (ti_c 120 (by decide) fun z14 hz14 => ?_)
        refine b_ge (tgt := 85) hx hb dX7_sum_15 (by decide) (fun c15 => ?_) (fun c15 => ?_)
        · refine lv_iconst (v := 1) hx hb dX7_sum_85 (by decide) (ti_c 1 (by decide) fun z15 hz15 => ?_)
          exact r_iret C hw hr hlk (nar_b (by omega)) (Nat.le_of_ble_eq_true rfl) (Nat.le_of_ble_eq_true rfl) dX7_sum_86 ⟨hI, hN, ⟨_, rfl, by omega⟩⟩
        · refine lv_aload_n hx hb dX7_sum_18 rfl (lv_at hl 1 rfl) ?_
          refine r_callV (As := []) (rest := []) C hw (t_X7_kind l B D cA kd10 ig11 rg12 lg13 _   hI) sv_X7_57 (hsh 1 _ rfl) rfl hl.1 rfl (Nat.le_of_ble_eq_true rfl) ⟨by simp only [rL]; omega, by simp only [rL]; omega⟩ ⟨Nat.le_of_ble_eq_true rfl, Nat.le_of_ble_eq_true rfl⟩ dX7_sum_19 (fun r20 kd16 ig17 rg18 lg19 H locs hw hH hp21 => ?_)
          obtain ⟨rfl, rfl, rfl, rfl, hzhp21, hrhp21⟩ := hp21
          obtain ⟨z22, rfl, hz22⟩ := hrhp21
          refine lv_bipush (v := 43) hx hb dX7_sum_22 (by decide) (ti_c 43 (by decide) fun z23 hz23 => ?_)
          have J36 : ∀ (ls : Array Slot) (H : Heap) (locs : List Loc) (kd24 : sK) (ig25 : sI) (rg26 : sR) (lg27 : sG) , lv_has ls 4 [(2, .int v9), (0, .ref (B + 1)), (1, .int x)] → WD B D cA s.heap kd24 ig25 rg26 lg27 H locs → IC B kd24 ig25 rg26 → Nx B none kd ig rg lg kd24 ig25 rg26 lg27 → W p l e (rL (4 * k + 11) 0 0) s m args below meth c H locs 0 0 (MQ below (QcW B D cA (PI B none kd ig rg lg (fun r kd' ig' rg' lg' => ∃ z : Int32, r = some (.int z) ∧ (z.toInt = 0 ∨ z.toInt = 1)))) args s 0 0 (fun q => B ≤ q)) (F0 m 36 ls []) := by
            intro ls H locs kd24 ig25 rg26 lg27 hl hw hI hN
            have hsh := hI.sh
            have hrs := hI.rs
            refine lv_aload_n hx hb dX7_sum_36 rfl (lv_at hl 1 rfl) ?_
            refine r_callV (As := []) (rest := []) C hw (t_X7_kind l B D cA kd24 ig25 rg26 lg27 _   hI) sv_X7_57 (hsh 1 _ rfl) rfl hl.1 rfl (Nat.le_of_ble_eq_true rfl) ⟨by simp only [rL]; omega, by simp only [rL]; omega⟩ ⟨Nat.le_of_ble_eq_true rfl, Nat.le_of_ble_eq_true rfl⟩ dX7_sum_37 (fun r32 kd28 ig29 rg30 lg31 H locs hw hH hp33 => ?_)
            obtain ⟨rfl, rfl, rfl, rfl, hzhp33, hrhp33⟩ := hp33
            obtain ⟨z34, rfl, hz34⟩ := hrhp33
            refine lv_bipush (v := 43) hx hb dX7_sum_40 (by decide) (ti_c 43 (by decide) fun z35 hz35 => ?_)
            have J51 : ∀ (ls : Array Slot) (H : Heap) (locs : List Loc) (kd37 : sK) (ig38 : sI) (rg39 : sR) (lg40 : sG) (u36 : Int32), lv_has ls 4 [(2, .int v9), (0, .ref (B + 1)), (1, .int x)] → WD B D cA s.heap kd37 ig38 rg39 lg40 H locs → IC B kd37 ig38 rg39 → Nx B none kd ig rg lg kd37 ig38 rg39 lg40 → W p l e (rL (4 * k + 11) 0 0) s m args below meth c H locs 0 0 (MQ below (QcW B D cA (PI B none kd ig rg lg (fun r kd' ig' rg' lg' => ∃ z : Int32, r = some (.int z) ∧ (z.toInt = 0 ∨ z.toInt = 1)))) args s 0 0 (fun q => B ≤ q)) (F0 m 51 ls [.int u36]) := by
              intro ls H locs kd37 ig38 rg39 lg40 u36 hl hw hI hN
              have hsh := hI.sh
              have hrs := hI.rs
              refine lv_istore_n (lv' := [(3, .int u36), (2, .int v9), (0, .ref (B + 1)), (1, .int x)]) hx hb dX7_sum_51 rfl hl (by decide) rfl (fun ls hl => ?_)
              refine lv_aload_n hx hb dX7_sum_52 rfl (lv_at hl 2 rfl) ?_
              refine lv_dup hx hb dX7_sum_53 rfl ?_
              refine r_get C hw (hsh 1 _ rfl) fl_X7_50 (oV_i rfl) dX7_sum_54 (ti_c (ig38 (B + 1) 7).toInt rfl fun z41 hz41 => ?_)
              refine lv_iconst (v := 1) hx hb dX7_sum_57 (by decide) (ti_c 1 (by decide) fun z42 hz42 => ?_)
              refine lv_iadd hx hb dX7_sum_58 (tc_add fun z43 hz43 => ?_)
              first | replace hz43 := hz43 (by omega) | clear hz43
              refine r_puti C hw (hsh 1 _ rfl) fl_X7_50 rfl rfl rfl dX7_sum_59 (fun H locs hH hw => ?_)
              obtain ⟨ig44, eig44⟩ : ∃ f, f = up2 ig38 (B + 1) 7 z43 := ⟨_, rfl⟩
              rw [← eig44] at hw
              have hN : Nx B none kd ig rg lg kd37 ig44 rg39 lg40 := by rw [eig44]; exact hN.pi (by omega)
              have hI : IC B kd37 ig44 rg39 := by rw [eig44]; exact hI.pi (show okR none _ from trivial)
              refine lv_aload_n hx hb dX7_sum_62 rfl (lv_at hl 2 rfl) ?_
              refine lv_iload_n hx hb dX7_sum_63 rfl (lv_at hl 3 rfl) ?_
              refine r_callV (As := [.int x]) (rest := []) C hw (hQ kd37 ig44 rg39 lg40 _ x (by omega) hI) sv_X7_109 (hsh 1 _ rfl) rfl hl.1 rfl (Nat.le_of_ble_eq_true rfl) ⟨by simp only [rL]; omega, by simp only [rL]; omega⟩ ⟨Nat.le_of_ble_eq_true rfl, Nat.le_of_ble_eq_true rfl⟩ dX7_sum_64 (fun r49 kd45 ig46 rg47 lg48 H locs hw hH hp50 => ?_)
              obtain ⟨hI, hchp50, hrhp50⟩ := hp50
              have hN := hN.tr hchp50
              have hsh := hI.sh
              have hrs := hI.rs
              obtain ⟨z51, rfl, hz51⟩ := hrhp50
              refine z_ne (tgt := 72) hx hb dX7_sum_67 (by decide) (fun c67 => ?_) (fun c67 => ?_)
              · refine lv_aload_n hx hb dX7_sum_72 rfl (lv_at hl 2 rfl) ?_
                refine lv_iload_n hx hb dX7_sum_73 rfl (lv_at hl 0 rfl) ?_
                refine lv_iconst (v := 0) hx hb dX7_sum_74 (by decide) (ti_c 0 (by decide) fun z52 hz52 => ?_)
                refine lv_iconst (v := 0) hx hb dX7_sum_75 (by decide) (ti_c 0 (by decide) fun z53 hz53 => ?_)
                refine r_callV (As := [.int u36, .int z52, .int z53]) (rest := []) C hw (t_X7_add l B D cA kd45 ig46 rg47 lg48 _ u36 z52 z53  hI) sv_X7_112 (hsh 1 _ rfl) rfl hl.1 rfl (Nat.le_of_ble_eq_true rfl) ⟨by simp only [rL]; omega, by simp only [rL]; omega⟩ ⟨Nat.le_of_ble_eq_true rfl, Nat.le_of_ble_eq_true rfl⟩ dX7_sum_76 (fun r58 kd54 ig55 rg56 lg57 H locs hw hH hp59 => ?_)
                obtain ⟨hI, hchp59, hrhp59⟩ := hp59
                have hN := hN.tr hchp59
                have hsh := hI.sh
                have hrs := hI.rs
                obtain rfl := hrhp59
                refine tc_inc hx hb dX7_sum_79 hl (k := 1) rfl (by decide) (by decide) (fun z60 hz60 ls hl => ?_)
                first | replace hz60 := hz60 (by omega) | clear hz60
                have hl : lv_has ls 4 [(2, .int z60), (3, .int u36), (0, .ref (B + 1)), (1, .int x)] := hl
                refine lv_goto (tgt := 12) hx hb dX7_sum_82 (by decide) ?_
                exact ih12 ls H locs kd54 ig55 rg56 lg57 z60 (lv_sub hl [0, 2, 3] rfl) hw hI hN (by omega) (by omega) (by omega)
              · refine lv_iconst (v := 0) hx hb dX7_sum_70 (by decide) (ti_c 0 (by decide) fun z61 hz61 => ?_)
                exact r_iret C hw hr hlk (nar_b (by omega)) (Nat.le_of_ble_eq_true rfl) (Nat.le_of_ble_eq_true rfl) dX7_sum_71 ⟨hI, hN, ⟨_, rfl, by omega⟩⟩
            refine b_ne (tgt := 49) hx hb dX7_sum_42 (by decide) (fun c42 => ?_) (fun c42 => ?_)
            · refine lv_bipush (v := 6) hx hb dX7_sum_49 (by decide) (ti_c 6 (by decide) fun z62 hz62 => ?_)
              exact J51 ls H locs kd24 ig25 rg26 lg27 z62 (lv_sub hl [0, 1, 2] rfl) hw hI hN
            · refine lv_iconst (v := 5) hx hb dX7_sum_45 (by decide) (ti_c 5 (by decide) fun z63 hz63 => ?_)
              refine lv_goto (tgt := 51) hx hb dX7_sum_46 (by decide) ?_
              exact J51 ls H locs kd24 ig25 rg26 lg27 z63 (lv_sub hl [0, 1, 2] rfl) hw hI hN
          refine b_eq (tgt := 36) hx hb dX7_sum_24 (by decide) (fun c24 => ?_) (fun c24 => ?_)
          · exact J36 ls H locs kd10 ig11 rg12 lg13 (lv_sub hl [0, 1, 2] rfl) hw hI hN
          · refine lv_aload_n hx hb dX7_sum_27 rfl (lv_at hl 1 rfl) ?_
            refine r_callV (As := []) (rest := []) C hw (t_X7_kind l B D cA kd10 ig11 rg12 lg13 _   hI) sv_X7_57 (hsh 1 _ rfl) rfl hl.1 rfl (Nat.le_of_ble_eq_true rfl) ⟨by simp only [rL]; omega, by simp only [rL]; omega⟩ ⟨Nat.le_of_ble_eq_true rfl, Nat.le_of_ble_eq_true rfl⟩ dX7_sum_28 (fun r68 kd64 ig65 rg66 lg67 H locs hw hH hp69 => ?_)
            obtain ⟨rfl, rfl, rfl, rfl, hzhp69, hrhp69⟩ := hp69
            obtain ⟨z70, rfl, hz70⟩ := hrhp69
            refine lv_bipush (v := 45) hx hb dX7_sum_31 (by decide) (ti_c 45 (by decide) fun z71 hz71 => ?_)
            refine b_ne (tgt := 85) hx hb dX7_sum_33 (by decide) (fun c33 => ?_) (fun c33 => ?_)
            · refine lv_iconst (v := 1) hx hb dX7_sum_85 (by decide) (ti_c 1 (by decide) fun z72 hz72 => ?_)
              exact r_iret C hw hr hlk (nar_b (by omega)) (Nat.le_of_ble_eq_true rfl) (Nat.le_of_ble_eq_true rfl) dX7_sum_86 ⟨hI, hN, ⟨_, rfl, by omega⟩⟩
            · exact J36 ls H locs kd10 ig11 rg12 lg13 (lv_sub hl [0, 1, 2] rfl) hw hI hN
    exact L12 ((120 - z8.toInt) + 1).toNat ls H locs kd1 ig2 rg3 lg4 z8 (lv_sub hl [0, 1, 2] rfl) hw hI hN (by omega) (by omega) (by omega)
  · refine lv_iconst (v := 0) hx hb dX7_sum_8 (by decide) (ti_c 0 (by decide) fun z73 hz73 => ?_)
    exact r_iret C hw hr hlk (nar_b (by omega)) (Nat.le_of_ble_eq_true rfl) (Nat.le_of_ble_eq_true rfl) dX7_sum_9 ⟨hI, hN, ⟨_, rfl, by omega⟩⟩

theorem t_X7_all (l : Launch) (B : Nat) (D : va_G) (cA : Nat → ClassId) : ∀ k, RPart l B D cA k ∧ RProd l B D cA k ∧ RSum l B D cA k := by
  intro k
  induction k with
  | zero =>
    have h1 : RPart l B D cA 0 := fun kd ig rg lg sz x hx hI => t_X7_part l B D cA kd ig rg lg sz x 0 (fun k1 h => by omega) hx hI
    have h2 : RProd l B D cA 0 := fun kd ig rg lg sz x hx hI => t_X7_product l B D cA kd ig rg lg sz x 0 h1 hx hI
    exact ⟨h1, h2, fun kd ig rg lg sz x hx hI => t_X7_sum l B D cA kd ig rg lg sz x 0 h2 hx hI⟩
  | succ k ih =>
    have h1 : RPart l B D cA (k + 1) := fun kd ig rg lg sz x hx hI => t_X7_part l B D cA kd ig rg lg sz x (k + 1) (fun k1 h => by cases h; exact ⟨ih.2.2, ih.1⟩) hx hI
    have h2 : RProd l B D cA (k + 1) := fun kd ig rg lg sz x hx hI => t_X7_product l B D cA kd ig rg lg sz x (k + 1) h1 hx hI
    exact ⟨h1, h2, fun kd ig rg lg sz x hx hI => t_X7_sum l B D cA kd ig rg lg sz x (k + 1) h2 hx hI⟩

set_option maxHeartbeats 4000000 in
set_option maxRecDepth 100000 in
theorem t_X7_read (l : Launch) (B : Nat) (D : va_G) (cA : Nat → ClassId) (kd : sK) (ig : sI) (rg : sR) (lg : sG) (sz : Nat) (x : Int32) (hI : IC B kd ig rg) : MC l B D cA yX7_read cX7_read 2 (some (.object "SheetDoctor$Formula")) (rL 44 4 363) [.ref (B + 1), .int x] kd ig rg lg sz (PI B none kd ig rg lg (fun r kd' ig' rg' lg' => (r = some .null ∨ ∃ f n, r = some (.ref f) ∧ isFn B kd' rg' f n))) := by
  refine MC.of (own := RX7) (by decide +kernel) rfl (Nat.le_of_ble_eq_true rfl) ?_
  intro p e s m args below meth c ls C hr hlk hnm hw hsz hl
  have hx := C.1.1
  have hb := C.1.2.1
  have hown := C.1.2.2.2.1
  have hts := C.1.2.2.2.2
  have hl : lv_has ls 2 [(0, .ref (B + 1)), (1, .int x)] := hl
  have hN : Nx B none kd ig rg lg kd ig rg lg := Nx.rf
  have hsh := hI.sh
  have hrs := hI.rs
  refine lv_aload_n hx hb dX7_read_0 rfl (lv_at hl 0 rfl) ?_
  refine lv_iload_n hx hb dX7_read_1 rfl (lv_at hl 1 rfl) ?_
  refine r_puti C hw (hsh 1 _ rfl) fl_X7_38 rfl rfl rfl dX7_read_2 (fun H locs hH hw => ?_)
  obtain ⟨ig1, eig1⟩ : ∃ f, f = up2 ig (B + 1) 2 x := ⟨_, rfl⟩
  rw [← eig1] at hw
  have hN : Nx B none kd ig rg lg kd ig1 rg lg := by rw [eig1]; exact hN.pi (by omega)
  have hI : IC B kd ig1 rg := by rw [eig1]; exact hI.pi (show okR none _ from trivial)
  have wig1_1_12 : (ig1 (B + 1) 12).toInt = (ig (B + 1) 12).toInt := by rw [eig1, up2_j (by decide)]
  refine lv_aload_n hx hb dX7_read_5 rfl (lv_at hl 0 rfl) ?_
  refine lv_iconst (v := 0) hx hb dX7_read_6 (by decide) (ti_c 0 (by decide) fun z2 hz2 => ?_)
  refine r_puti C hw (hsh 1 _ rfl) fl_X7_41 rfl rfl rfl dX7_read_7 (fun H locs hH hw => ?_)
  obtain ⟨ig3, eig3⟩ : ∃ f, f = up2 ig1 (B + 1) 12 z2 := ⟨_, rfl⟩
  rw [← eig3] at hw
  have hN : Nx B none kd ig rg lg kd ig3 rg lg := by rw [eig3]; exact hN.pi (by omega)
  have hI : IC B kd ig3 rg := by rw [eig3]; exact hI.pi (show okR (some (0, 120)) _ from ⟨by show (0 : Int) ≤ _; omega, by show _ ≤ (120 : Int); omega⟩)
  have wig3 : (ig3 (B + 1) 12).toInt = z2.toInt := by rw [eig3, up2_eq]
  refine lv_aload_n hx hb dX7_read_10 rfl (lv_at hl 0 rfl) ?_
  refine lv_iconst (v := 0) hx hb dX7_read_11 (by decide) (ti_c 0 (by decide) fun z4 hz4 => ?_)
  refine r_puti C hw (hsh 1 _ rfl) fl_X7_44 rfl rfl rfl dX7_read_12 (fun H locs hH hw => ?_)
  obtain ⟨ig5, eig5⟩ : ∃ f, f = up2 ig3 (B + 1) 8 z4 := ⟨_, rfl⟩
  rw [← eig5] at hw
  have hN : Nx B none kd ig rg lg kd ig5 rg lg := by rw [eig5]; exact hN.pi (by omega)
  have hI : IC B kd ig5 rg := by rw [eig5]; exact hI.pi (show okR none _ from trivial)
  have wig5_1_12 : (ig5 (B + 1) 12).toInt = (ig3 (B + 1) 12).toInt := by rw [eig5, up2_j (by decide)]
  refine lv_aload_n hx hb dX7_read_15 rfl (lv_at hl 0 rfl) ?_
  refine r_callV (As := []) (rest := []) C hw (t_X7_findTokens l B D cA kd ig5 rg lg _   hI) sv_X7_47 (hsh 1 _ rfl) rfl hl.1 rfl (Nat.le_of_ble_eq_true rfl) ⟨Nat.le_of_ble_eq_true rfl, Nat.le_of_ble_eq_true rfl⟩ ⟨Nat.le_of_ble_eq_true rfl, Nat.le_of_ble_eq_true rfl⟩ dX7_read_16 (fun r10 kd6 ig7 rg8 lg9 H locs hw hH hp11 => ?_)
  obtain ⟨hI, hchp11, hrhp11⟩ := hp11
  have hN := hN.tr hchp11
  have hsh := hI.sh
  have hrs := hI.rs
  obtain rfl := hrhp11
  refine lv_aload_n hx hb dX7_read_19 rfl (lv_at hl 0 rfl) ?_
  refine lv_iconst (v := 0) hx hb dX7_read_20 (by decide) (ti_c 0 (by decide) fun z12 hz12 => ?_)
  refine r_puti C hw (hsh 1 _ rfl) fl_X7_50 rfl rfl rfl dX7_read_21 (fun H locs hH hw => ?_)
  obtain ⟨ig13, eig13⟩ : ∃ f, f = up2 ig7 (B + 1) 7 z12 := ⟨_, rfl⟩
  rw [← eig13] at hw
  have hN : Nx B none kd ig rg lg kd6 ig13 rg8 lg9 := by rw [eig13]; exact hN.pi (by omega)
  have hI : IC B kd6 ig13 rg8 := by rw [eig13]; exact hI.pi (show okR none _ from trivial)
  have wig13_1_12 : (ig13 (B + 1) 12).toInt = (ig7 (B + 1) 12).toInt := by rw [eig13, up2_j (by decide)]
  refine lv_aload_n hx hb dX7_read_24 rfl (lv_at hl 0 rfl) ?_
  refine lv_iconst (v := 0) hx hb dX7_read_25 (by decide) (ti_c 0 (by decide) fun z14 hz14 => ?_)
  refine r_callV (As := [.int z14]) (rest := []) C hw ((t_X7_all l B D cA 8).2.2 kd6 ig13 rg8 lg9 _ z14 (by omega) hI) sv_X7_53 (hsh 1 _ rfl) rfl hl.1 rfl (Nat.le_of_ble_eq_true rfl) ⟨Nat.le_of_ble_eq_true rfl, Nat.le_of_ble_eq_true rfl⟩ ⟨Nat.le_of_ble_eq_true rfl, Nat.le_of_ble_eq_true rfl⟩ dX7_read_26 (fun r19 kd15 ig16 rg17 lg18 H locs hw hH hp20 => ?_)
  obtain ⟨hI, hchp20, hrhp20⟩ := hp20
  have hN := hN.tr hchp20
  have hsh := hI.sh
  have hrs := hI.rs
  obtain ⟨z21, rfl, hz21⟩ := hrhp20
  refine z_ne (tgt := 34) hx hb dX7_read_29 (by decide) (fun c29 => ?_) (fun c29 => ?_)
  · refine lv_aload_n hx hb dX7_read_34 rfl (lv_at hl 0 rfl) ?_
    refine r_callV (As := []) (rest := []) C hw (t_X7_kind l B D cA kd15 ig16 rg17 lg18 _   hI) sv_X7_57 (hsh 1 _ rfl) rfl hl.1 rfl (Nat.le_of_ble_eq_true rfl) ⟨Nat.le_of_ble_eq_true rfl, Nat.le_of_ble_eq_true rfl⟩ ⟨Nat.le_of_ble_eq_true rfl, Nat.le_of_ble_eq_true rfl⟩ dX7_read_35 (fun r26 kd22 ig23 rg24 lg25 H locs hw hH hp27 => ?_)
    obtain ⟨rfl, rfl, rfl, rfl, hzhp27, hrhp27⟩ := hp27
    obtain ⟨z28, rfl, hz28⟩ := hrhp27
    refine z_eq (tgt := 49) hx hb dX7_read_38 (by decide) (fun c38 => ?_) (fun c38 => ?_)
    · obtain ⟨h29, sh29⟩ : ∃ h, H.size = h := ⟨_, rfl⟩
      have oh29 : kd15 h29 = none := by have h9 := hw.fresh; rw [sh29] at h9; exact h9
      have bh29 : B + 80 ≤ h29 := by have h9 := hw.lt (hsh 79 _ rfl); omega
      have noh29 := hN.no oh29
      have hI := IC.new (k := 4) (n := 0) hI oh29 bh29
      have hN := Nx.new (k := 4) (n := 0) hN oh29 bh29
      refine r_new (k := 4) (t0 := tyX4) C hw rfl (by decide) rfl inT4 tyX4_ok dfX4 cl_X7_64 it_4 id_4 (Nat.le_of_ble_eq_true rfl) (Nat.le_of_ble_eq_true rfl) dX7_read_49 sh29 (fun H hsz hw => ?_)
      obtain ⟨kd30, ekd30⟩ : ∃ f, f = upK kd15 h29 4 0 := ⟨_, rfl⟩
      obtain ⟨ig31, eig31⟩ : ∃ f, f = upR ig16 h29 0 := ⟨_, rfl⟩
      obtain ⟨rg32, erg32⟩ : ∃ f, f = upR rg17 h29 none := ⟨_, rfl⟩
      have kh29 : kd30 h29 = some (4, 0) := by rw [ekd30, upK_eq]
      have rnh29 : ∀ j, rg32 h29 j = none := fun j => by rw [erg32, upR_eq]
      rw [← ekd30, ← eig31, ← erg32] at hw hI hN
      have hsh := hI.sh
      have hrs := hI.rs
      refine lv_dup hx hb dX7_read_52 rfl ?_
      refine lv_aload_n hx hb dX7_read_53 rfl (lv_at hl 0 rfl) ?_
      refine r_get C hw (hsh 1 _ rfl) fl_X7_29 (oV_r rfl (hrs (1, 9, 6) (by decide))) dX7_read_54 ?_
      refine lv_aload_n hx hb dX7_read_57 rfl (lv_at hl 0 rfl) ?_
      refine r_get C hw (hsh 1 _ rfl) fl_X7_32 (oV_r rfl (hrs (1, 10, 7) (by decide))) dX7_read_58 ?_
      refine lv_aload_n hx hb dX7_read_61 rfl (lv_at hl 0 rfl) ?_
      refine r_get C hw (hsh 1 _ rfl) fl_X7_35 (oV_r rfl (hrs (1, 11, 8) (by decide))) dX7_read_62 ?_
      refine lv_aload_n hx hb dX7_read_65 rfl (lv_at hl 0 rfl) ?_
      refine r_get C hw (hsh 1 _ rfl) fl_X7_41 (oV_i rfl) dX7_read_66 (ti_c (ig31 (B + 1) 12).toInt rfl fun z33 hz33 => ?_)
      have k34 : 0 ≤ (ig31 (B + 1) 12).toInt ∧ (ig31 (B + 1) 12).toInt ≤ 120 := hI.i 1 12 (by decide)
      refine r_callI (As := [.ref (B + 6), .ref (B + 7), .ref (B + 8), .int z33]) (rest := [.ref h29]) C hw (t_X4_init l B D cA kd30 ig31 rg32 lg18 _ h29 kh29 bh29 (rnh29 2) (B + 6) 120 (hsh 6 _ rfl) (B + 7) 120 (hsh 7 _ rfl) (B + 8) 120 (hsh 8 _ rfl) z33 (by omega) (by omega) hI) sc_X7_66 rfl hl.1 rfl (Nat.le_of_ble_eq_true rfl) ⟨Nat.le_of_ble_eq_true rfl, Nat.le_of_ble_eq_true rfl⟩ ⟨Nat.le_of_ble_eq_true rfl, Nat.le_of_ble_eq_true rfl⟩ dX7_read_69 (fun r39 kd35 ig36 rg37 lg38 H locs hw hH hp40 => ?_)
      obtain ⟨hI, hchp40, hrhp40⟩ := hp40
      have kh29 := Nx.k hchp40 kh29
      have hN := hN.trx hchp40 noh29
      have hsh := hI.sh
      have hrs := hI.rs
      obtain ⟨rfl, nn41, Fnn41⟩ := hrhp40
      have lnn41 := isFn.le Fnn41
      exact r_aret C hw hr hlk (Or.inr ⟨_, rfl⟩) (Nat.le_of_ble_eq_true rfl) (Nat.le_of_ble_eq_true rfl) dX7_read_72 ⟨hI, hN, Or.inr ⟨_, _, rfl, Fnn41⟩⟩
    · refine lv_aload_n hx hb dX7_read_41 rfl (lv_at hl 0 rfl) ?_
      refine lv_iconst (v := 1) hx hb dX7_read_42 (by decide) (ti_c 1 (by decide) fun z42 hz42 => ?_)
      refine r_callV (As := [.int z42]) (rest := []) C hw (t_X7_wrong l B D cA kd15 ig16 rg17 lg18 _ z42  hI) sv_X7_61 (hsh 1 _ rfl) rfl hl.1 rfl (Nat.le_of_ble_eq_true rfl) ⟨Nat.le_of_ble_eq_true rfl, Nat.le_of_ble_eq_true rfl⟩ ⟨Nat.le_of_ble_eq_true rfl, Nat.le_of_ble_eq_true rfl⟩ dX7_read_43 (fun r47 kd43 ig44 rg45 lg46 H locs hw hH hp48 => ?_)
      obtain ⟨hI, hchp48, hrhp48⟩ := hp48
      have hN := hN.tr hchp48
      have hsh := hI.sh
      have hrs := hI.rs
      obtain ⟨z49, rfl, hz49⟩ := hrhp48
      refine lv_pop hx hb dX7_read_46 rfl ?_
      refine lv_null hx hb dX7_read_47 ?_
      exact r_aret C hw hr hlk (Or.inl rfl) (Nat.le_of_ble_eq_true rfl) (Nat.le_of_ble_eq_true rfl) dX7_read_48 ⟨hI, hN, Or.inl rfl⟩
  · refine lv_null hx hb dX7_read_32 ?_
    exact r_aret C hw hr hlk (Or.inl rfl) (Nat.le_of_ble_eq_true rfl) (Nat.le_of_ble_eq_true rfl) dX7_read_33 ⟨hI, hN, Or.inl rfl⟩
