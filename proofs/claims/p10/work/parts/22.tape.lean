set_option maxHeartbeats 4000000 in
set_option maxRecDepth 100000 in
theorem t_X7_append {τ : Tp} (l : Launch) (B : Nat) (D : va_G) (cA : Nat → ClassId) (kd : sK) (ig : sI) (rg : sR) (lg : sG) (sz : Nat) (x : Int64) (hI : IC τ B kd ig rg) : MC l B D cA yX7_append cX7_append 5 none (rL 0 0 0) [.ref (B + 1), .long x] kd ig rg lg sz (PI 1022 (fd τ (by8 x) 8) B none kd ig rg lg (fun r kd' ig' rg' lg' => r = none)) := by
  refine MC.of (own := RX7) (by decide +kernel) rfl (Nat.le_of_ble_eq_true rfl) ?_
  intro p e s m args below meth c ls C hr hlk hnm hw hsz hl
  have hx := C.1.1
  have hb := C.1.2.1
  have hown := C.1.2.2.2.1
  have hts := C.1.2.2.2.2
  have hl : lv_has ls 5 [(0, .ref (B + 1)), (1, .long x)] := hl
  have hN : Nx 1022 B none kd ig rg lg kd ig rg lg := Nx.rf
  have hsh := hI.sh
  have hrs := hI.rs
  refine lv_bipush (v := 56) hx hb dX7_append_0 (by decide) (ti_c 56 (by decide) fun z1 hz1 => ?_)
  refine lv_istore_n (lv' := [(3, .int z1), (0, .ref (B + 1)), (1, .long x)]) hx hb dX7_append_2 rfl hl (by decide) rfl (fun ls hl => ?_)
  have L3 : ∀ (n : Nat) (ls : Array Slot) (H : Heap) (locs : List Loc) (kd3 : sK) (ig4 : sI) (rg5 : sR) (lg6 : sG) (v2 : Int32), lv_has ls 5 [(3, .int v2), (0, .ref (B + 1)), (1, .long x)] → WD B D cA s.heap kd3 ig4 rg5 lg6 H locs → (∃ i : Nat, i ≤ 8 ∧ v2.toInt = 56 - 8 * (i : Int) ∧ IC (fd τ (by8 x) i) B kd3 ig4 rg5) → Nx 1022 B none kd ig rg lg kd3 ig4 rg5 lg6 → (-8 ≤ v2.toInt) → (v2.toInt ≤ 56) → v2.toInt + 8 < (n : Int) → W p l e (rL 0 0 0) s m args below meth c H locs 0 0 (MQ below (QcW B D cA (PI 1022 (fd τ (by8 x) 8) B none kd ig rg lg (fun r kd' ig' rg' lg' => r = none))) args s 0 0 (fun q => B ≤ q)) (F0 m 3 ls []) := by
    intro n3
    induction n3 with
    | zero => intro ls H locs kd3 ig4 rg5 lg6 v2 hl hw hI hN g3_0 g3_1 hmu; exact absurd hmu (by omega)
    | succ n3 ih3 =>
      intro ls H locs kd3 ig4 rg5 lg6 v2 hl hw hI hN g3_0 g3_1 hmu
      obtain ⟨i, hi8, hs3, hI⟩ := hI
      have hT := hI.len
      have hsh := hI.sh
      have hrs := hI.rs
      refine lv_iload_n hx hb dX7_append_3 rfl (lv_at hl 0 rfl) ?_
      refine z_lt (tgt := 68) hx hb dX7_append_4 (by decide) (fun c4 => ?_) (fun c4 => ?_)
      · have e8 : i = 8 := by omega
        subst e8
        exact r_vret C hw hr hlk (Nat.le_of_ble_eq_true rfl) (Nat.le_of_ble_eq_true rfl) dX7_append_68 ⟨hI, hN, rfl⟩
      · refine lv_lload_n hx hb dX7_append_7 rfl (lv_at hl 2 rfl) ?_
        refine lv_iload_n hx hb dX7_append_8 rfl (lv_at hl 0 rfl) ?_
        refine lv_lushr hx hb dX7_append_9 rfl (lv_topl fun x7 hx7 => ?_)
        refine lv_l2i hx hb dX7_append_10 rfl (lv_topi fun z8 hz8 => ?_)
        refine lv_sipush (v := 255) hx hb dX7_append_11 (by decide) (ti_c 255 (by decide) fun z9 hz9 => ?_)
        refine lv_iand hx hb dX7_append_14 (lv_topi fun z10 hz10 => ?_)
        refine lv_istore (lv' := [(4, .int z10), (3, .int v2), (0, .ref (B + 1)), (1, .long x)]) hx hb dX7_append_15 hl (by decide) rfl (fun ls hl => ?_)
        have hby : z10 = by8 x i := by rw [hz10, hz8, hx7, i32_inj (hz9.trans (show (255 : Int) = (255 : Int32).toInt from rfl)), show v2 = sh8 i from i32_inj (hs3.trans (sh8_toInt (by omega)).symm)]; rfl
        refine lv_iload hx hb dX7_append_17 (lv_at hl 0 rfl) ?_
        refine lv_bipush (v := 32) hx hb dX7_append_19 (by decide) (ti_c 32 (by decide) fun z11 hz11 => ?_)
        refine b_lt (tgt := 62) hx hb dX7_append_21 (by decide) (fun c21 => ?_) (fun c21 => ?_)
        · refine tc_inc hx hb dX7_append_62 hl (k := 1) rfl (by decide) (by decide) (fun z12 hz12 ls hl => ?_)
          first | replace hz12 := hz12 (by omega) | clear hz12
          have hl : lv_has ls 5 [(3, .int z12), (4, .int z10), (0, .ref (B + 1)), (1, .long x)] := hl
          refine lv_goto (tgt := 3) hx hb dX7_append_65 (by decide) ?_
          exact ih3 ls H locs kd3 ig4 rg5 lg6 z12 (lv_sub hl [0, 2, 3] rfl) hw ⟨i + 1, by omega, by omega, by rw [fd_no (by rw [← hby]; omega)]; exact hI⟩ hN (by omega) (by omega) (by omega)
        · refine lv_iload hx hb dX7_append_24 (lv_at hl 0 rfl) ?_
          refine lv_bipush (v := 126) hx hb dX7_append_26 (by decide) (ti_c 126 (by decide) fun z13 hz13 => ?_)
          refine b_gt (tgt := 62) hx hb dX7_append_28 (by decide) (fun c28 => ?_) (fun c28 => ?_)
          · refine tc_inc hx hb dX7_append_62 hl (k := 1) rfl (by decide) (by decide) (fun z14 hz14 ls hl => ?_)
            first | replace hz14 := hz14 (by omega) | clear hz14
            have hl : lv_has ls 5 [(3, .int z14), (4, .int z10), (0, .ref (B + 1)), (1, .long x)] := hl
            refine lv_goto (tgt := 3) hx hb dX7_append_65 (by decide) ?_
            exact ih3 ls H locs kd3 ig4 rg5 lg6 z14 (lv_sub hl [0, 2, 3] rfl) hw ⟨i + 1, by omega, by omega, by rw [fd_no (by rw [← hby]; omega)]; exact hI⟩ hN (by omega) (by omega) (by omega)
          · refine lv_aload_n hx hb dX7_append_31 rfl (lv_at hl 2 rfl) ?_
            refine r_get C hw (hsh 1 _ rfl) fl_X7_15 (oV_i rfl) dX7_append_32 (ti_c (ig4 (B + 1) 1).toInt rfl fun z15 hz15 => ?_)
            have k16 : 0 ≤ (ig4 (B + 1) 1).toInt ∧ (ig4 (B + 1) 1).toInt ≤ 120 := hI.i 1 1 (by decide)
            refine lv_bipush (v := 120) hx hb dX7_append_35 (by decide) (ti_c 120 (by decide) fun z17 hz17 => ?_)
            refine b_ge (tgt := 62) hx hb dX7_append_37 (by decide) (fun c37 => ?_) (fun c37 => ?_)
            · refine tc_inc hx hb dX7_append_62 hl (k := 1) rfl (by decide) (by decide) (fun z18 hz18 ls hl => ?_)
              first | replace hz18 := hz18 (by omega) | clear hz18
              have hl : lv_has ls 5 [(3, .int z18), (4, .int z10), (0, .ref (B + 1)), (1, .long x)] := hl
              refine lv_goto (tgt := 3) hx hb dX7_append_65 (by decide) ?_
              exact ih3 ls H locs kd3 ig4 rg5 lg6 z18 (lv_sub hl [0, 2, 3] rfl) hw ⟨i + 1, by omega, by omega, by rw [fd_no (by rw [← hby]; omega)]; exact hI⟩ hN (by omega) (by omega) (by omega)
            · refine lv_aload_n hx hb dX7_append_40 rfl (lv_at hl 2 rfl) ?_
              refine r_get C hw (hsh 1 _ rfl) fl_X7_9 (oV_r rfl (hrs (1, 0, 2) (by decide))) dX7_append_41 ?_
              refine lv_aload_n hx hb dX7_append_44 rfl (lv_at hl 2 rfl) ?_
              refine r_get C hw (hsh 1 _ rfl) fl_X7_15 (oV_i rfl) dX7_append_45 (ti_c (ig4 (B + 1) 1).toInt rfl fun z19 hz19 => ?_)
              have k20 : 0 ≤ (ig4 (B + 1) 1).toInt ∧ (ig4 (B + 1) 1).toInt ≤ 120 := hI.i 1 1 (by decide)
              refine lv_iload hx hb dX7_append_48 (lv_at hl 0 rfl) ?_
              refine lv_i2c hx hb dX7_append_50 rfl (lv_topi fun z21 hz21 => ?_)
              refine r_cast C hw (hsh 2 _ rfl) (by omega) (by omega) (by rw [hz21]; exact pk_nc _) dX7_append_51 (fun H locs hH hw => ?_)
              obtain ⟨ig22, eig22⟩ : ∃ f, f = up2 ig4 (B + 2) z19.toInt.toNat z21 := ⟨_, rfl⟩
              rw [← eig22] at hw
              have hN : Nx 1022 B none kd ig rg lg kd3 ig22 rg5 lg6 := by rw [eig22]; exact hN.pi (by omega)
              have hB : (ig22 (B + 1) 1).toInt = (ig4 (B + 1) 1).toInt := by rw [eig22, up2_a (by omega)]
              have wig22_1_1 : (ig22 (B + 1) 1).toInt = (ig4 (B + 1) 1).toInt := by rw [eig22, up2_a (by omega)]
              refine lv_aload_n hx hb dX7_append_52 rfl (lv_at hl 2 rfl) ?_
              refine lv_dup hx hb dX7_append_53 rfl ?_
              refine r_get C hw (hsh 1 _ rfl) fl_X7_15 (oV_i rfl) dX7_append_54 (ti_c (ig22 (B + 1) 1).toInt rfl fun z23 hz23 => ?_)
              have k24 : 0 ≤ (ig22 (B + 1) 1).toInt ∧ (ig22 (B + 1) 1).toInt ≤ 120 := by omega
              refine lv_iconst (v := 1) hx hb dX7_append_57 (by decide) (ti_c 1 (by decide) fun z25 hz25 => ?_)
              refine lv_iadd hx hb dX7_append_58 (tc_add fun z26 hz26 => ?_)
              first | replace hz26 := hz26 (by omega) | clear hz26
              refine r_puti C hw (hsh 1 _ rfl) fl_X7_15 rfl rfl rfl dX7_append_59 (fun H locs hH hw => ?_)
              obtain ⟨ig27, eig27⟩ : ∃ f, f = up2 ig22 (B + 1) 1 z26 := ⟨_, rfl⟩
              rw [← eig27] at hw
              have hN : Nx 1022 B none kd ig rg lg kd3 ig27 rg5 lg6 := by rw [eig27]; exact hN.pi (by omega)
              have hz : z21 = by8 x i := by rw [hz21, i2c_id (by omega), hby]
              have hI : IC (fd τ (by8 x) (i + 1)) B kd3 ig27 rg5 := by rw [eig27, eig22, hz, fd_yes (by rw [← hby]; omega)]; exact hI.app (by omega) (by omega) (by omega)
              have wig27 : (ig27 (B + 1) 1).toInt = z26.toInt := by rw [eig27, up2_eq]
              refine tc_inc hx hb dX7_append_62 hl (k := 1) rfl (by decide) (by decide) (fun z28 hz28 ls hl => ?_)
              first | replace hz28 := hz28 (by omega) | clear hz28
              have hl : lv_has ls 5 [(3, .int z28), (4, .int z10), (0, .ref (B + 1)), (1, .long x)] := hl
              refine lv_goto (tgt := 3) hx hb dX7_append_65 (by decide) ?_
              exact ih3 ls H locs kd3 ig27 rg5 lg6 z28 (lv_sub hl [0, 2, 3] rfl) hw ⟨i + 1, by omega, by omega, hI⟩ hN (by omega) (by omega) (by omega)
  exact L3 ((z1.toInt + 8) + 1).toNat ls s.heap [] kd ig rg lg z1 (lv_sub hl [0, 1, 2] rfl) hw ⟨0, by omega, by omega, hI⟩ hN (by omega) (by omega) (by omega)

set_option maxHeartbeats 4000000 in
set_option maxRecDepth 100000 in
theorem t_X7_isLetter {τ : Tp} (l : Launch) (B : Nat) (D : va_G) (cA : Nat → ClassId) (kd : sK) (ig : sI) (rg : sR) (lg : sG) (sz : Nat) (x : Int32) (hI : IC τ B kd ig rg) : MC l B D cA yX7_isLetter cX7_isLetter 1 (some .boolean) (rL 0 0 0) [.int x] kd ig rg lg sz (Pu kd ig rg lg sz (fun r => ∃ z : Int32, r = some (.int z) ∧ ((z.toInt = 1 ∧ cL x.toInt = true) ∨ (z.toInt = 0 ∧ cL x.toInt = false)))) := by
  refine MC.of (own := RX7) (by decide +kernel) rfl (Nat.le_of_ble_eq_true rfl) ?_
  intro p e s m args below meth c ls C hr hlk hnm hw hsz hl
  have hx := C.1.1
  have hb := C.1.2.1
  have hown := C.1.2.2.2.1
  have hts := C.1.2.2.2.2
  have hl : lv_has ls 1 [(0, .int x)] := hl
  have hsh := hI.sh
  have hrs := hI.rs
  refine lv_iload_n hx hb dX7_isLetter_0 rfl (lv_at hl 0 rfl) ?_
  refine lv_bipush (v := 97) hx hb dX7_isLetter_1 (by decide) (ti_c 97 (by decide) fun z1 hz1 => ?_)
  have J17 : ∀ (ls : Array Slot) (H : Heap) (locs : List Loc) (u2 : Int32), lv_has ls 1 [] → WD B D cA s.heap kd ig rg lg H locs → H.size = sz → ((u2.toInt = 1 ∧ 97 ≤ x.toInt ∧ x.toInt ≤ 122) ∨ (u2.toInt = 0 ∧ ¬ (97 ≤ x.toInt ∧ x.toInt ≤ 122))) → W p l e (rL 0 0 0) s m args below meth c H locs 0 0 (MQ below (QcW B D cA (Pu kd ig rg lg sz (fun r => ∃ z : Int32, r = some (.int z) ∧ ((z.toInt = 1 ∧ cL x.toInt = true) ∨ (z.toInt = 0 ∧ cL x.toInt = false))))) args s 0 0 (fun q => B ≤ q)) (F0 m 17 ls [.int u2]) := by
    intro ls H locs u2 hl hw hsz g17_0
    exact r_iret C hw hr hlk (nar_b (by omega)) (Nat.le_of_ble_eq_true rfl) (Nat.le_of_ble_eq_true rfl) dX7_isLetter_17 ⟨rfl, rfl, rfl, rfl, hsz, ⟨_, rfl, g17_0.imp (fun q => ⟨q.1, cL_t q.2⟩) (fun q => ⟨q.1, cL_f q.2⟩)⟩⟩
  refine b_lt (tgt := 16) hx hb dX7_isLetter_3 (by decide) (fun c3 => ?_) (fun c3 => ?_)
  · refine lv_iconst (v := 0) hx hb dX7_isLetter_16 (by decide) (ti_c 0 (by decide) fun z3 hz3 => ?_)
    exact J17 ls s.heap [] z3 (lv_sub hl [] rfl) hw hsz (by omega)
  · refine lv_iload_n hx hb dX7_isLetter_6 rfl (lv_at hl 0 rfl) ?_
    refine lv_bipush (v := 122) hx hb dX7_isLetter_7 (by decide) (ti_c 122 (by decide) fun z4 hz4 => ?_)
    refine b_gt (tgt := 16) hx hb dX7_isLetter_9 (by decide) (fun c9 => ?_) (fun c9 => ?_)
    · refine lv_iconst (v := 0) hx hb dX7_isLetter_16 (by decide) (ti_c 0 (by decide) fun z5 hz5 => ?_)
      exact J17 ls s.heap [] z5 (lv_sub hl [] rfl) hw hsz (by omega)
    · refine lv_iconst (v := 1) hx hb dX7_isLetter_12 (by decide) (ti_c 1 (by decide) fun z6 hz6 => ?_)
      refine lv_goto (tgt := 17) hx hb dX7_isLetter_13 (by decide) ?_
      exact J17 ls s.heap [] z6 (lv_sub hl [] rfl) hw hsz (by omega)

set_option maxHeartbeats 4000000 in
set_option maxRecDepth 100000 in
theorem t_X7_isDigit {τ : Tp} (l : Launch) (B : Nat) (D : va_G) (cA : Nat → ClassId) (kd : sK) (ig : sI) (rg : sR) (lg : sG) (sz : Nat) (x : Int32) (hI : IC τ B kd ig rg) : MC l B D cA yX7_isDigit cX7_isDigit 1 (some .boolean) (rL 0 0 0) [.int x] kd ig rg lg sz (Pu kd ig rg lg sz (fun r => ∃ z : Int32, r = some (.int z) ∧ ((z.toInt = 1 ∧ cD x.toInt = true) ∨ (z.toInt = 0 ∧ cD x.toInt = false)))) := by
  refine MC.of (own := RX7) (by decide +kernel) rfl (Nat.le_of_ble_eq_true rfl) ?_
  intro p e s m args below meth c ls C hr hlk hnm hw hsz hl
  have hx := C.1.1
  have hb := C.1.2.1
  have hown := C.1.2.2.2.1
  have hts := C.1.2.2.2.2
  have hl : lv_has ls 1 [(0, .int x)] := hl
  have hsh := hI.sh
  have hrs := hI.rs
  refine lv_iload_n hx hb dX7_isDigit_0 rfl (lv_at hl 0 rfl) ?_
  refine lv_bipush (v := 48) hx hb dX7_isDigit_1 (by decide) (ti_c 48 (by decide) fun z1 hz1 => ?_)
  have J17 : ∀ (ls : Array Slot) (H : Heap) (locs : List Loc) (u2 : Int32), lv_has ls 1 [] → WD B D cA s.heap kd ig rg lg H locs → H.size = sz → ((u2.toInt = 1 ∧ 48 ≤ x.toInt ∧ x.toInt ≤ 57) ∨ (u2.toInt = 0 ∧ ¬ (48 ≤ x.toInt ∧ x.toInt ≤ 57))) → W p l e (rL 0 0 0) s m args below meth c H locs 0 0 (MQ below (QcW B D cA (Pu kd ig rg lg sz (fun r => ∃ z : Int32, r = some (.int z) ∧ ((z.toInt = 1 ∧ cD x.toInt = true) ∨ (z.toInt = 0 ∧ cD x.toInt = false))))) args s 0 0 (fun q => B ≤ q)) (F0 m 17 ls [.int u2]) := by
    intro ls H locs u2 hl hw hsz g17_0
    exact r_iret C hw hr hlk (nar_b (by omega)) (Nat.le_of_ble_eq_true rfl) (Nat.le_of_ble_eq_true rfl) dX7_isDigit_17 ⟨rfl, rfl, rfl, rfl, hsz, ⟨_, rfl, g17_0.imp (fun q => ⟨q.1, cD_t q.2⟩) (fun q => ⟨q.1, cD_f q.2⟩)⟩⟩
  refine b_lt (tgt := 16) hx hb dX7_isDigit_3 (by decide) (fun c3 => ?_) (fun c3 => ?_)
  · refine lv_iconst (v := 0) hx hb dX7_isDigit_16 (by decide) (ti_c 0 (by decide) fun z3 hz3 => ?_)
    exact J17 ls s.heap [] z3 (lv_sub hl [] rfl) hw hsz (by omega)
  · refine lv_iload_n hx hb dX7_isDigit_6 rfl (lv_at hl 0 rfl) ?_
    refine lv_bipush (v := 57) hx hb dX7_isDigit_7 (by decide) (ti_c 57 (by decide) fun z4 hz4 => ?_)
    refine b_gt (tgt := 16) hx hb dX7_isDigit_9 (by decide) (fun c9 => ?_) (fun c9 => ?_)
    · refine lv_iconst (v := 0) hx hb dX7_isDigit_16 (by decide) (ti_c 0 (by decide) fun z5 hz5 => ?_)
      exact J17 ls s.heap [] z5 (lv_sub hl [] rfl) hw hsz (by omega)
    · refine lv_iconst (v := 1) hx hb dX7_isDigit_12 (by decide) (ti_c 1 (by decide) fun z6 hz6 => ?_)
      refine lv_goto (tgt := 17) hx hb dX7_isDigit_13 (by decide) ?_
      exact J17 ls s.heap [] z6 (lv_sub hl [] rfl) hw hsz (by omega)

set_option maxHeartbeats 4000000 in
set_option maxRecDepth 100000 in
theorem t_X7_columnFault {τ : Tp} (l : Launch) (B : Nat) (D : va_G) (cA : Nat → ClassId) (kd : sK) (ig : sI) (rg : sR) (lg : sG) (sz : Nat) (x : Int32) (y : Int32) (u : Int32) (hI : IC τ B kd ig rg) : MC l B D cA yX7_columnFault cX7_columnFault 3 (some .int) (rL 0 0 0) [.int x, .int y, .int u] kd ig rg lg sz (Pu kd ig rg lg sz (fun r => ∃ z : Int32, r = some (.int z) ∧ ((z.toInt = 0 ∧ x.toInt = 119 ∧ y.toInt < 12 ∧ u.toInt ≤ y.toInt) ∨ (z.toInt = 1 ∧ ¬ (x.toInt = 119 ∧ y.toInt < 12)) ∨ (z.toInt = 6 ∧ x.toInt = 119 ∧ y.toInt < 12 ∧ y.toInt < u.toInt)))) := by
  refine MC.of (own := RX7) (by decide +kernel) rfl (Nat.le_of_ble_eq_true rfl) ?_
  intro p e s m args below meth c ls C hr hlk hnm hw hsz hl
  have hx := C.1.1
  have hb := C.1.2.1
  have hown := C.1.2.2.2.1
  have hts := C.1.2.2.2.2
  have hl : lv_has ls 3 [(0, .int x), (1, .int y), (2, .int u)] := hl
  have hsh := hI.sh
  have hrs := hI.rs
  refine lv_iload_n hx hb dX7_columnFault_0 rfl (lv_at hl 0 rfl) ?_
  refine lv_bipush (v := 119) hx hb dX7_columnFault_1 (by decide) (ti_c 119 (by decide) fun z1 hz1 => ?_)
  refine b_ne (tgt := 12) hx hb dX7_columnFault_3 (by decide) (fun c3 => ?_) (fun c3 => ?_)
  · refine lv_iconst (v := 1) hx hb dX7_columnFault_12 (by decide) (ti_c 1 (by decide) fun z2 hz2 => ?_)
    exact r_iret C hw hr hlk rfl (Nat.le_of_ble_eq_true rfl) (Nat.le_of_ble_eq_true rfl) dX7_columnFault_13 ⟨rfl, rfl, rfl, rfl, hsz, ⟨_, rfl, by omega⟩⟩
  · refine lv_iload_n hx hb dX7_columnFault_6 rfl (lv_at hl 1 rfl) ?_
    refine lv_bipush (v := 12) hx hb dX7_columnFault_7 (by decide) (ti_c 12 (by decide) fun z3 hz3 => ?_)
    refine b_lt (tgt := 14) hx hb dX7_columnFault_9 (by decide) (fun c9 => ?_) (fun c9 => ?_)
    · refine lv_iload_n hx hb dX7_columnFault_14 rfl (lv_at hl 1 rfl) ?_
      refine lv_iload_n hx hb dX7_columnFault_15 rfl (lv_at hl 2 rfl) ?_
      have J25 : ∀ (ls : Array Slot) (H : Heap) (locs : List Loc) (u4 : Int32), lv_has ls 3 [] → WD B D cA s.heap kd ig rg lg H locs → H.size = sz → ((u4.toInt = 0 ∧ u.toInt ≤ y.toInt) ∨ (u4.toInt = 6 ∧ y.toInt < u.toInt)) → W p l e (rL 0 0 0) s m args below meth c H locs 0 0 (MQ below (QcW B D cA (Pu kd ig rg lg sz (fun r => ∃ z : Int32, r = some (.int z) ∧ ((z.toInt = 0 ∧ x.toInt = 119 ∧ y.toInt < 12 ∧ u.toInt ≤ y.toInt) ∨ (z.toInt = 1 ∧ ¬ (x.toInt = 119 ∧ y.toInt < 12)) ∨ (z.toInt = 6 ∧ x.toInt = 119 ∧ y.toInt < 12 ∧ y.toInt < u.toInt))))) args s 0 0 (fun q => B ≤ q)) (F0 m 25 ls [.int u4]) := by
        intro ls H locs u4 hl hw hsz g25_0
        exact r_iret C hw hr hlk rfl (Nat.le_of_ble_eq_true rfl) (Nat.le_of_ble_eq_true rfl) dX7_columnFault_25 ⟨rfl, rfl, rfl, rfl, hsz, ⟨_, rfl, by omega⟩⟩
      refine b_ge (tgt := 24) hx hb dX7_columnFault_16 (by decide) (fun c16 => ?_) (fun c16 => ?_)
      · refine lv_iconst (v := 0) hx hb dX7_columnFault_24 (by decide) (ti_c 0 (by decide) fun z5 hz5 => ?_)
        exact J25 ls s.heap [] z5 (lv_sub hl [] rfl) hw hsz (by omega)
      · refine lv_bipush (v := 6) hx hb dX7_columnFault_19 (by decide) (ti_c 6 (by decide) fun z6 hz6 => ?_)
        refine lv_goto (tgt := 25) hx hb dX7_columnFault_21 (by decide) ?_
        exact J25 ls s.heap [] z6 (lv_sub hl [] rfl) hw hsz (by omega)
    · refine lv_iconst (v := 1) hx hb dX7_columnFault_12 (by decide) (ti_c 1 (by decide) fun z7 hz7 => ?_)
      exact r_iret C hw hr hlk rfl (Nat.le_of_ble_eq_true rfl) (Nat.le_of_ble_eq_true rfl) dX7_columnFault_13 ⟨rfl, rfl, rfl, rfl, hsz, ⟨_, rfl, by omega⟩⟩

set_option maxHeartbeats 4000000 in
set_option maxRecDepth 100000 in
theorem t_X7_rowFault {τ : Tp} (l : Launch) (B : Nat) (D : va_G) (cA : Nat → ClassId) (kd : sK) (ig : sI) (rg : sR) (lg : sG) (sz : Nat) (x : Int32) (y : Int32) (u : Int32) (hI : IC τ B kd ig rg) : MC l B D cA yX7_rowFault cX7_rowFault 3 (some .int) (rL 0 0 0) [.int x, .int y, .int u] kd ig rg lg sz (Pu kd ig rg lg sz (fun r => ∃ z : Int32, r = some (.int z) ∧ ((z.toInt = 0 ∧ x.toInt = 110 ∧ (0 ≤ y.toInt ∧ y.toInt < 24) ∧ u.toInt ≤ y.toInt) ∨ (z.toInt = 1 ∧ x.toInt ≠ 110) ∨ (z.toInt = 4 ∧ x.toInt = 110 ∧ ¬ (0 ≤ y.toInt ∧ y.toInt < 24)) ∨ (z.toInt = 7 ∧ x.toInt = 110 ∧ (0 ≤ y.toInt ∧ y.toInt < 24) ∧ y.toInt < u.toInt)))) := by
  refine MC.of (own := RX7) (by decide +kernel) rfl (Nat.le_of_ble_eq_true rfl) ?_
  intro p e s m args below meth c ls C hr hlk hnm hw hsz hl
  have hx := C.1.1
  have hb := C.1.2.1
  have hown := C.1.2.2.2.1
  have hts := C.1.2.2.2.2
  have hl : lv_has ls 3 [(0, .int x), (1, .int y), (2, .int u)] := hl
  have hsh := hI.sh
  have hrs := hI.rs
  refine lv_iload_n hx hb dX7_rowFault_0 rfl (lv_at hl 0 rfl) ?_
  refine lv_bipush (v := 110) hx hb dX7_rowFault_1 (by decide) (ti_c 110 (by decide) fun z1 hz1 => ?_)
  refine b_eq (tgt := 8) hx hb dX7_rowFault_3 (by decide) (fun c3 => ?_) (fun c3 => ?_)
  · refine lv_iload_n hx hb dX7_rowFault_8 rfl (lv_at hl 1 rfl) ?_
    refine z_lt (tgt := 18) hx hb dX7_rowFault_9 (by decide) (fun c9 => ?_) (fun c9 => ?_)
    · refine lv_iconst (v := 4) hx hb dX7_rowFault_18 (by decide) (ti_c 4 (by decide) fun z2 hz2 => ?_)
      exact r_iret C hw hr hlk rfl (Nat.le_of_ble_eq_true rfl) (Nat.le_of_ble_eq_true rfl) dX7_rowFault_19 ⟨rfl, rfl, rfl, rfl, hsz, ⟨_, rfl, by omega⟩⟩
    · refine lv_iload_n hx hb dX7_rowFault_12 rfl (lv_at hl 1 rfl) ?_
      refine lv_bipush (v := 24) hx hb dX7_rowFault_13 (by decide) (ti_c 24 (by decide) fun z3 hz3 => ?_)
      refine b_lt (tgt := 20) hx hb dX7_rowFault_15 (by decide) (fun c15 => ?_) (fun c15 => ?_)
      · refine lv_iload_n hx hb dX7_rowFault_20 rfl (lv_at hl 1 rfl) ?_
        refine lv_iload_n hx hb dX7_rowFault_21 rfl (lv_at hl 2 rfl) ?_
        have J31 : ∀ (ls : Array Slot) (H : Heap) (locs : List Loc) (u4 : Int32), lv_has ls 3 [] → WD B D cA s.heap kd ig rg lg H locs → H.size = sz → ((u4.toInt = 0 ∧ u.toInt ≤ y.toInt) ∨ (u4.toInt = 7 ∧ y.toInt < u.toInt)) → W p l e (rL 0 0 0) s m args below meth c H locs 0 0 (MQ below (QcW B D cA (Pu kd ig rg lg sz (fun r => ∃ z : Int32, r = some (.int z) ∧ ((z.toInt = 0 ∧ x.toInt = 110 ∧ (0 ≤ y.toInt ∧ y.toInt < 24) ∧ u.toInt ≤ y.toInt) ∨ (z.toInt = 1 ∧ x.toInt ≠ 110) ∨ (z.toInt = 4 ∧ x.toInt = 110 ∧ ¬ (0 ≤ y.toInt ∧ y.toInt < 24)) ∨ (z.toInt = 7 ∧ x.toInt = 110 ∧ (0 ≤ y.toInt ∧ y.toInt < 24) ∧ y.toInt < u.toInt))))) args s 0 0 (fun q => B ≤ q)) (F0 m 31 ls [.int u4]) := by
          intro ls H locs u4 hl hw hsz g31_0
          exact r_iret C hw hr hlk rfl (Nat.le_of_ble_eq_true rfl) (Nat.le_of_ble_eq_true rfl) dX7_rowFault_31 ⟨rfl, rfl, rfl, rfl, hsz, ⟨_, rfl, by omega⟩⟩
        refine b_ge (tgt := 30) hx hb dX7_rowFault_22 (by decide) (fun c22 => ?_) (fun c22 => ?_)
        · refine lv_iconst (v := 0) hx hb dX7_rowFault_30 (by decide) (ti_c 0 (by decide) fun z5 hz5 => ?_)
          exact J31 ls s.heap [] z5 (lv_sub hl [] rfl) hw hsz (by omega)
        · refine lv_bipush (v := 7) hx hb dX7_rowFault_25 (by decide) (ti_c 7 (by decide) fun z6 hz6 => ?_)
          refine lv_goto (tgt := 31) hx hb dX7_rowFault_27 (by decide) ?_
          exact J31 ls s.heap [] z6 (lv_sub hl [] rfl) hw hsz (by omega)
      · refine lv_iconst (v := 4) hx hb dX7_rowFault_18 (by decide) (ti_c 4 (by decide) fun z7 hz7 => ?_)
        exact r_iret C hw hr hlk rfl (Nat.le_of_ble_eq_true rfl) (Nat.le_of_ble_eq_true rfl) dX7_rowFault_19 ⟨rfl, rfl, rfl, rfl, hsz, ⟨_, rfl, by omega⟩⟩
  · refine lv_iconst (v := 1) hx hb dX7_rowFault_6 (by decide) (ti_c 1 (by decide) fun z8 hz8 => ?_)
    exact r_iret C hw hr hlk rfl (Nat.le_of_ble_eq_true rfl) (Nat.le_of_ble_eq_true rfl) dX7_rowFault_7 ⟨rfl, rfl, rfl, rfl, hsz, ⟨_, rfl, by omega⟩⟩

set_option maxHeartbeats 4000000 in
set_option maxRecDepth 100000 in
theorem t_X7_kind {τ : Tp} (l : Launch) (B : Nat) (D : va_G) (cA : Nat → ClassId) (kd : sK) (ig : sI) (rg : sR) (lg : sG) (sz : Nat) (N h a : Nat) (hR : RZ B τ N h a ig) (hI : IC τ B kd ig rg) : MC l B D cA yX7_kind cX7_kind 1 (some .int) (rL 0 0 0) [.ref (B + 1)] kd ig rg lg sz (Pu kd ig rg lg sz (fun r => ∃ z : Int32, r = some (.int z) ∧ z.toInt = tK τ a)) := by
  refine MC.of (own := RX7) (by decide +kernel) rfl (Nat.le_of_ble_eq_true rfl) ?_
  intro p e s m args below meth c ls C hr hlk hnm hw hsz hl
  have hx := C.1.1
  have hb := C.1.2.1
  have hown := C.1.2.2.2.1
  have hts := C.1.2.2.2.2
  have hl : lv_has ls 1 [(0, .ref (B + 1))] := hl
  have hsh := hI.sh
  have hrs := hI.rs
  obtain ⟨⟨hN0, h6⟩, ⟨h2, hh⟩, h7, haN⟩ := hR.nums
  refine lv_aload_n hx hb dX7_kind_0 rfl (lv_at hl 0 rfl) ?_
  refine r_get C hw (hsh 1 _ rfl) fl_X7_50 (oV_i rfl) dX7_kind_1 (ti_c (ig (B + 1) 7).toInt rfl fun z1 hz1 => ?_)
  refine z_lt (tgt := 30) hx hb dX7_kind_4 (by decide) (fun c4 => ?_) (fun c4 => ?_)
  · exact absurd c4 (by omega)
  · refine lv_aload_n hx hb dX7_kind_7 rfl (lv_at hl 0 rfl) ?_
    refine r_get C hw (hsh 1 _ rfl) fl_X7_50 (oV_i rfl) dX7_kind_8 (ti_c (ig (B + 1) 7).toInt rfl fun z2 hz2 => ?_)
    refine lv_aload_n hx hb dX7_kind_11 rfl (lv_at hl 0 rfl) ?_
    refine r_get C hw (hsh 1 _ rfl) fl_X7_69 (oV_i rfl) dX7_kind_12 (ti_c (ig (B + 1) 6).toInt rfl fun z3 hz3 => ?_)
    have k4 : 0 ≤ (ig (B + 1) 6).toInt ∧ (ig (B + 1) 6).toInt ≤ 121 := hI.i 1 6 (by decide)
    refine b_ge (tgt := 30) hx hb dX7_kind_15 (by decide) (fun c15 => ?_) (fun c15 => ?_)
    · exact absurd c15 (by omega)
    · refine lv_aload_n hx hb dX7_kind_18 rfl (lv_at hl 0 rfl) ?_
      refine r_get C hw (hsh 1 _ rfl) fl_X7_19 (oV_r rfl (hrs (1, 3, 3) (by decide))) dX7_kind_19 ?_
      refine lv_aload_n hx hb dX7_kind_22 rfl (lv_at hl 0 rfl) ?_
      refine r_get C hw (hsh 1 _ rfl) fl_X7_50 (oV_i rfl) dX7_kind_23 (ti_c (ig (B + 1) 7).toInt rfl fun z5 hz5 => ?_)
      refine r_iald C hw (hsh 3 _ rfl) (by omega) (by omega) dX7_kind_26 (ti_c (ig (B + 3) z5.toInt.toNat).toInt rfl fun z6 hz6 => ?_)
      refine lv_goto (tgt := 31) hx hb dX7_kind_27 (by decide) ?_
      exact r_iret C hw hr hlk rfl (Nat.le_of_ble_eq_true rfl) (Nat.le_of_ble_eq_true rfl) dX7_kind_31 ⟨rfl, rfl, rfl, rfl, hsz, ⟨_, rfl, by rw [hz6]; exact hR.kE (by omega)⟩⟩

set_option maxHeartbeats 4000000 in
set_option maxRecDepth 100000 in
theorem t_X7_amount {τ : Tp} (l : Launch) (B : Nat) (D : va_G) (cA : Nat → ClassId) (kd : sK) (ig : sI) (rg : sR) (lg : sG) (sz : Nat) (N h a : Nat) (hR : RZ B τ N h a ig) (hI : IC τ B kd ig rg) : MC l B D cA yX7_amount cX7_amount 1 (some .int) (rL 0 0 0) [.ref (B + 1)] kd ig rg lg sz (Pu kd ig rg lg sz (fun r => ∃ z : Int32, r = some (.int z) ∧ z.toInt = tV τ a)) := by
  refine MC.of (own := RX7) (by decide +kernel) rfl (Nat.le_of_ble_eq_true rfl) ?_
  intro p e s m args below meth c ls C hr hlk hnm hw hsz hl
  have hx := C.1.1
  have hb := C.1.2.1
  have hown := C.1.2.2.2.1
  have hts := C.1.2.2.2.2
  have hl : lv_has ls 1 [(0, .ref (B + 1))] := hl
  have hsh := hI.sh
  have hrs := hI.rs
  obtain ⟨⟨hN0, h6⟩, ⟨h2, hh⟩, h7, haN⟩ := hR.nums
  refine lv_aload_n hx hb dX7_amount_0 rfl (lv_at hl 0 rfl) ?_
  refine r_get C hw (hsh 1 _ rfl) fl_X7_50 (oV_i rfl) dX7_amount_1 (ti_c (ig (B + 1) 7).toInt rfl fun z1 hz1 => ?_)
  refine z_lt (tgt := 30) hx hb dX7_amount_4 (by decide) (fun c4 => ?_) (fun c4 => ?_)
  · exact absurd c4 (by omega)
  · refine lv_aload_n hx hb dX7_amount_7 rfl (lv_at hl 0 rfl) ?_
    refine r_get C hw (hsh 1 _ rfl) fl_X7_50 (oV_i rfl) dX7_amount_8 (ti_c (ig (B + 1) 7).toInt rfl fun z2 hz2 => ?_)
    refine lv_aload_n hx hb dX7_amount_11 rfl (lv_at hl 0 rfl) ?_
    refine r_get C hw (hsh 1 _ rfl) fl_X7_69 (oV_i rfl) dX7_amount_12 (ti_c (ig (B + 1) 6).toInt rfl fun z3 hz3 => ?_)
    have k4 : 0 ≤ (ig (B + 1) 6).toInt ∧ (ig (B + 1) 6).toInt ≤ 121 := hI.i 1 6 (by decide)
    refine b_ge (tgt := 30) hx hb dX7_amount_15 (by decide) (fun c15 => ?_) (fun c15 => ?_)
    · exact absurd c15 (by omega)
    · refine lv_aload_n hx hb dX7_amount_18 rfl (lv_at hl 0 rfl) ?_
      refine r_get C hw (hsh 1 _ rfl) fl_X7_23 (oV_r rfl (hrs (1, 4, 4) (by decide))) dX7_amount_19 ?_
      refine lv_aload_n hx hb dX7_amount_22 rfl (lv_at hl 0 rfl) ?_
      refine r_get C hw (hsh 1 _ rfl) fl_X7_50 (oV_i rfl) dX7_amount_23 (ti_c (ig (B + 1) 7).toInt rfl fun z5 hz5 => ?_)
      refine r_iald C hw (hsh 4 _ rfl) (by omega) (by omega) dX7_amount_26 (ti_c (ig (B + 4) z5.toInt.toNat).toInt rfl fun z6 hz6 => ?_)
      refine lv_goto (tgt := 31) hx hb dX7_amount_27 (by decide) ?_
      exact r_iret C hw hr hlk rfl (Nat.le_of_ble_eq_true rfl) (Nat.le_of_ble_eq_true rfl) dX7_amount_31 ⟨rfl, rfl, rfl, rfl, hsz, ⟨_, rfl, by rw [hz6]; exact hR.vE (by omega)⟩⟩

set_option maxHeartbeats 4000000 in
set_option maxRecDepth 100000 in
theorem t_X7_add {τ : Tp} (l : Launch) (B : Nat) (D : va_G) (cA : Nat → ClassId) (kd : sK) (ig : sI) (rg : sR) (lg : sG) (sz : Nat) (x : Int32) (y : Int32) (u : Int32) (hI : IC τ B kd ig rg) : MC l B D cA yX7_add cX7_add 4 none (rL 0 0 0) [.ref (B + 1), .int x, .int y, .int u] kd ig rg lg sz (PI 1022 τ B none kd ig rg lg (fun r kd' ig' rg' lg' => (r = none ∧ RZk B ig ig'))) := by
  refine MC.of (own := RX7) (by decide +kernel) rfl (Nat.le_of_ble_eq_true rfl) ?_
  intro p e s m args below meth c ls C hr hlk hnm hw hsz hl
  have hx := C.1.1
  have hb := C.1.2.1
  have hown := C.1.2.2.2.1
  have hts := C.1.2.2.2.2
  have hl : lv_has ls 4 [(0, .ref (B + 1)), (1, .int x), (2, .int y), (3, .int u)] := hl
  have hN : Nx 1022 B none kd ig rg lg kd ig rg lg := Nx.rf
  have hsh := hI.sh
  have hrs := hI.rs
  have hk : RZk B ig ig := RZk.rf
  refine lv_aload_n hx hb dX7_add_0 rfl (lv_at hl 0 rfl) ?_
  refine r_get C hw (hsh 1 _ rfl) fl_X7_41 (oV_i rfl) dX7_add_1 (ti_c (ig (B + 1) 12).toInt rfl fun z1 hz1 => ?_)
  have k2 : 0 ≤ (ig (B + 1) 12).toInt ∧ (ig (B + 1) 12).toInt ≤ 120 := hI.i 1 12 (by decide)
  refine lv_bipush (v := 120) hx hb dX7_add_4 (by decide) (ti_c 120 (by decide) fun z3 hz3 => ?_)
  refine b_ge (tgt := 49) hx hb dX7_add_6 (by decide) (fun c6 => ?_) (fun c6 => ?_)
  · exact r_vret C hw hr hlk (Nat.le_of_ble_eq_true rfl) (Nat.le_of_ble_eq_true rfl) dX7_add_49 ⟨hI, hN, ⟨rfl, hk⟩⟩
  · refine lv_aload_n hx hb dX7_add_9 rfl (lv_at hl 0 rfl) ?_
    refine r_get C hw (hsh 1 _ rfl) fl_X7_29 (oV_r rfl (hrs (1, 9, 6) (by decide))) dX7_add_10 ?_
    refine lv_aload_n hx hb dX7_add_13 rfl (lv_at hl 0 rfl) ?_
    refine r_get C hw (hsh 1 _ rfl) fl_X7_41 (oV_i rfl) dX7_add_14 (ti_c (ig (B + 1) 12).toInt rfl fun z4 hz4 => ?_)
    have k5 : 0 ≤ (ig (B + 1) 12).toInt ∧ (ig (B + 1) 12).toInt ≤ 120 := hI.i 1 12 (by decide)
    refine lv_iload_n hx hb dX7_add_17 rfl (lv_at hl 1 rfl) ?_
    refine r_iast C hw (hsh 6 _ rfl) (by omega) (by omega) dX7_add_18 (fun H locs hH hw => ?_)
    obtain ⟨ig6, eig6⟩ : ∃ f, f = up2 ig (B + 6) z4.toInt.toNat x := ⟨_, rfl⟩
    rw [← eig6] at hw
    have hN : Nx 1022 B none kd ig rg lg kd ig6 rg lg := by rw [eig6]; exact hN.pi (by omega)
    have hI : IC τ B kd ig6 rg := by rw [eig6]; exact hI.pi (show okR none _ from trivial)
    have wig6_1_12 : (ig6 (B + 1) 12).toInt = (ig (B + 1) 12).toInt := by rw [eig6, up2_a (by omega)]
    have hk : RZk B ig ig6 := by rw [eig6]; exact hk.wr (Or.inl (by decide))
    refine lv_aload_n hx hb dX7_add_19 rfl (lv_at hl 0 rfl) ?_
    refine r_get C hw (hsh 1 _ rfl) fl_X7_32 (oV_r rfl (hrs (1, 10, 7) (by decide))) dX7_add_20 ?_
    refine lv_aload_n hx hb dX7_add_23 rfl (lv_at hl 0 rfl) ?_
    refine r_get C hw (hsh 1 _ rfl) fl_X7_41 (oV_i rfl) dX7_add_24 (ti_c (ig6 (B + 1) 12).toInt rfl fun z7 hz7 => ?_)
    have k8 : 0 ≤ (ig6 (B + 1) 12).toInt ∧ (ig6 (B + 1) 12).toInt ≤ 120 := hI.i 1 12 (by decide)
    refine lv_iload_n hx hb dX7_add_27 rfl (lv_at hl 2 rfl) ?_
    refine r_iast C hw (hsh 7 _ rfl) (by omega) (by omega) dX7_add_28 (fun H locs hH hw => ?_)
    obtain ⟨ig9, eig9⟩ : ∃ f, f = up2 ig6 (B + 7) z7.toInt.toNat y := ⟨_, rfl⟩
    rw [← eig9] at hw
    have hN : Nx 1022 B none kd ig rg lg kd ig9 rg lg := by rw [eig9]; exact hN.pi (by omega)
    have hI : IC τ B kd ig9 rg := by rw [eig9]; exact hI.pi (show okR none _ from trivial)
    have wig9_1_12 : (ig9 (B + 1) 12).toInt = (ig6 (B + 1) 12).toInt := by rw [eig9, up2_a (by omega)]
    have hk : RZk B ig ig9 := by rw [eig9]; exact hk.wr (Or.inl (by decide))
    refine lv_aload_n hx hb dX7_add_29 rfl (lv_at hl 0 rfl) ?_
    refine r_get C hw (hsh 1 _ rfl) fl_X7_35 (oV_r rfl (hrs (1, 11, 8) (by decide))) dX7_add_30 ?_
    refine lv_aload_n hx hb dX7_add_33 rfl (lv_at hl 0 rfl) ?_
    refine r_get C hw (hsh 1 _ rfl) fl_X7_41 (oV_i rfl) dX7_add_34 (ti_c (ig9 (B + 1) 12).toInt rfl fun z10 hz10 => ?_)
    have k11 : 0 ≤ (ig9 (B + 1) 12).toInt ∧ (ig9 (B + 1) 12).toInt ≤ 120 := hI.i 1 12 (by decide)
    refine lv_iload_n hx hb dX7_add_37 rfl (lv_at hl 3 rfl) ?_
    refine r_iast C hw (hsh 8 _ rfl) (by omega) (by omega) dX7_add_38 (fun H locs hH hw => ?_)
    obtain ⟨ig12, eig12⟩ : ∃ f, f = up2 ig9 (B + 8) z10.toInt.toNat u := ⟨_, rfl⟩
    rw [← eig12] at hw
    have hN : Nx 1022 B none kd ig rg lg kd ig12 rg lg := by rw [eig12]; exact hN.pi (by omega)
    have hI : IC τ B kd ig12 rg := by rw [eig12]; exact hI.pi (show okR none _ from trivial)
    have wig12_1_12 : (ig12 (B + 1) 12).toInt = (ig9 (B + 1) 12).toInt := by rw [eig12, up2_a (by omega)]
    have hk : RZk B ig ig12 := by rw [eig12]; exact hk.wr (Or.inl (by decide))
    refine lv_aload_n hx hb dX7_add_39 rfl (lv_at hl 0 rfl) ?_
    refine lv_dup hx hb dX7_add_40 rfl ?_
    refine r_get C hw (hsh 1 _ rfl) fl_X7_41 (oV_i rfl) dX7_add_41 (ti_c (ig12 (B + 1) 12).toInt rfl fun z13 hz13 => ?_)
    have k14 : 0 ≤ (ig12 (B + 1) 12).toInt ∧ (ig12 (B + 1) 12).toInt ≤ 120 := hI.i 1 12 (by decide)
    refine lv_iconst (v := 1) hx hb dX7_add_44 (by decide) (ti_c 1 (by decide) fun z15 hz15 => ?_)
    refine lv_iadd hx hb dX7_add_45 (tc_add fun z16 hz16 => ?_)
    first | replace hz16 := hz16 (by omega) | clear hz16
    refine r_puti C hw (hsh 1 _ rfl) fl_X7_41 rfl rfl rfl dX7_add_46 (fun H locs hH hw => ?_)
    obtain ⟨ig17, eig17⟩ : ∃ f, f = up2 ig12 (B + 1) 12 z16 := ⟨_, rfl⟩
    rw [← eig17] at hw
    have hN : Nx 1022 B none kd ig rg lg kd ig17 rg lg := by rw [eig17]; exact hN.pi (by omega)
    have hI : IC τ B kd ig17 rg := by rw [eig17]; exact hI.pi (show okR (some (0, 120)) _ from ⟨by show (0 : Int) ≤ _; omega, by show _ ≤ (120 : Int); omega⟩)
    have wig17 : (ig17 (B + 1) 12).toInt = z16.toInt := by rw [eig17, up2_eq]
    have hk : RZk B ig ig17 := by rw [eig17]; exact hk.wr (Or.inr (by decide))
    exact r_vret C hw hr hlk (Nat.le_of_ble_eq_true rfl) (Nat.le_of_ble_eq_true rfl) dX7_add_49 ⟨hI, hN, ⟨rfl, hk⟩⟩

set_option maxHeartbeats 4000000 in
set_option maxRecDepth 100000 in
theorem t_X7_wrong {τ : Tp} (l : Launch) (B : Nat) (D : va_G) (cA : Nat → ClassId) (kd : sK) (ig : sI) (rg : sR) (lg : sG) (sz : Nat) (x : Int32) (N h a : Nat) (hR : RZ B τ N h a ig) (hx0 : 1 ≤ x.toInt ∧ x.toInt ≤ 7) (hI : IC τ B kd ig rg) : MC l B D cA yX7_wrong cX7_wrong 3 (some .boolean) (rL 0 0 0) [.ref (B + 1), .int x] kd ig rg lg sz (PI 1022 τ B none kd ig rg lg (fun r kd' ig' rg' lg' => ∃ z : Int32, r = some (.int z) ∧ (z.toInt = 0 ∧ (ig' (B + 1) 8).toInt = fw (tS τ) x.toInt a))) := by
  refine MC.of (own := RX7) (by decide +kernel) rfl (Nat.le_of_ble_eq_true rfl) ?_
  intro p e s m args below meth c ls C hr hlk hnm hw hsz hl
  have hx := C.1.1
  have hb := C.1.2.1
  have hown := C.1.2.2.2.1
  have hts := C.1.2.2.2.2
  have hl : lv_has ls 3 [(0, .ref (B + 1)), (1, .int x)] := hl
  have hN : Nx 1022 B none kd ig rg lg kd ig rg lg := Nx.rf
  have hsh := hI.sh
  have hrs := hI.rs
  obtain ⟨⟨hN0, h6⟩, ⟨h2, hh⟩, h7, haN⟩ := hR.nums
  have hbd := hR.bd
  refine lv_aload_n hx hb dX7_wrong_0 rfl (lv_at hl 0 rfl) ?_
  refine r_get C hw (hsh 1 _ rfl) fl_X7_50 (oV_i rfl) dX7_wrong_1 (ti_c (ig (B + 1) 7).toInt rfl fun z1 hz1 => ?_)
  refine z_lt (tgt := 30) hx hb dX7_wrong_4 (by decide) (fun c4 => ?_) (fun c4 => ?_)
  · exact absurd c4 (by omega)
  · refine lv_aload_n hx hb dX7_wrong_7 rfl (lv_at hl 0 rfl) ?_
    refine r_get C hw (hsh 1 _ rfl) fl_X7_50 (oV_i rfl) dX7_wrong_8 (ti_c (ig (B + 1) 7).toInt rfl fun z2 hz2 => ?_)
    refine lv_aload_n hx hb dX7_wrong_11 rfl (lv_at hl 0 rfl) ?_
    refine r_get C hw (hsh 1 _ rfl) fl_X7_69 (oV_i rfl) dX7_wrong_12 (ti_c (ig (B + 1) 6).toInt rfl fun z3 hz3 => ?_)
    have k4 : 0 ≤ (ig (B + 1) 6).toInt ∧ (ig (B + 1) 6).toInt ≤ 121 := hI.i 1 6 (by decide)
    refine b_ge (tgt := 30) hx hb dX7_wrong_15 (by decide) (fun c15 => ?_) (fun c15 => ?_)
    · exact absurd c15 (by omega)
    · refine lv_aload_n hx hb dX7_wrong_18 rfl (lv_at hl 0 rfl) ?_
      refine r_get C hw (hsh 1 _ rfl) fl_X7_26 (oV_r rfl (hrs (1, 5, 5) (by decide))) dX7_wrong_19 ?_
      refine lv_aload_n hx hb dX7_wrong_22 rfl (lv_at hl 0 rfl) ?_
      refine r_get C hw (hsh 1 _ rfl) fl_X7_50 (oV_i rfl) dX7_wrong_23 (ti_c (ig (B + 1) 7).toInt rfl fun z5 hz5 => ?_)
      refine r_iald C hw (hsh 5 _ rfl) (by omega) (by omega) dX7_wrong_26 (ti_c (ig (B + 5) z5.toInt.toNat).toInt rfl fun z6 hz6 => ?_)
      refine lv_goto (tgt := 34) hx hb dX7_wrong_27 (by decide) ?_
      have hsa : z6.toInt = tS τ a := by rw [hz6]; exact hR.sE (by omega)
      refine lv_istore_n (lv' := [(2, .int z6), (0, .ref (B + 1)), (1, .int x)]) hx hb dX7_wrong_34 rfl hl (by decide) rfl (fun ls hl => ?_)
      refine lv_aload_n hx hb dX7_wrong_35 rfl (lv_at hl 1 rfl) ?_
      refine lv_iload_n hx hb dX7_wrong_36 rfl (lv_at hl 2 rfl) ?_
      refine lv_bipush (v := 16) hx hb dX7_wrong_37 (by decide) (ti_c 16 (by decide) fun z7 hz7 => ?_)
      refine lv_iload_n hx hb dX7_wrong_39 rfl (lv_at hl 0 rfl) ?_
      refine lv_imul hx hb dX7_wrong_40 (tc_mulL 16 hz7 fun z8 hz8 => ?_)
      first | replace hz8 := hz8 (by omega) | clear hz8
      refine lv_iadd hx hb dX7_wrong_41 (tc_add fun z9 hz9 => ?_)
      first | replace hz9 := hz9 (by omega) | clear hz9
      refine r_puti C hw (hsh 1 _ rfl) fl_X7_44 rfl rfl rfl dX7_wrong_42 (fun H locs hH hw => ?_)
      obtain ⟨ig10, eig10⟩ : ∃ f, f = up2 ig (B + 1) 8 z9 := ⟨_, rfl⟩
      rw [← eig10] at hw
      have hN : Nx 1022 B none kd ig rg lg kd ig10 rg lg := by rw [eig10]; exact hN.pi (by omega)
      have hI : IC τ B kd ig10 rg := by rw [eig10]; exact hI.pi (show okR none _ from trivial)
      have wig10_1_6 : (ig10 (B + 1) 6).toInt = (ig (B + 1) 6).toInt := by rw [eig10, up2_j (by decide)]
      have hR : RZ B τ N h a ig10 := by rw [eig10]; exact hR.wr (Or.inr (by decide))
      refine lv_iconst (v := 0) hx hb dX7_wrong_45 (by decide) (ti_c 0 (by decide) fun z11 hz11 => ?_)
      exact r_iret C hw hr hlk (nar_b (by omega)) (Nat.le_of_ble_eq_true rfl) (Nat.le_of_ble_eq_true rfl) dX7_wrong_46 ⟨hI, hN, ⟨_, rfl, ⟨by omega, by rw [eig10, up2_eq]; unfold fw; omega⟩⟩⟩

set_option maxHeartbeats 4000000 in
set_option maxRecDepth 100000 in
theorem t_X7_startsPart {τ : Tp} (l : Launch) (B : Nat) (D : va_G) (cA : Nat → ClassId) (kd : sK) (ig : sI) (rg : sR) (lg : sG) (sz : Nat) (N h a : Nat) (hR : RZ B τ N h a ig) (hI : IC τ B kd ig rg) : MC l B D cA yX7_startsPart cX7_startsPart 1 (some .boolean) (rL 1 0 0) [.ref (B + 1)] kd ig rg lg sz (Pu kd ig rg lg sz (fun r => ∃ z : Int32, r = some (.int z) ∧ ((z.toInt = 1 ∧ sPt (tK τ) (tV τ) a) ∨ (z.toInt = 0 ∧ ¬ sPt (tK τ) (tV τ) a)))) := by
  refine MC.of (own := RX7) (by decide +kernel) rfl (Nat.le_of_ble_eq_true rfl) ?_
  intro p e s m args below meth c ls C hr hlk hnm hw hsz hl
  have hx := C.1.1
  have hb := C.1.2.1
  have hown := C.1.2.2.2.1
  have hts := C.1.2.2.2.2
  have hl : lv_has ls 1 [(0, .ref (B + 1))] := hl
  have hsh := hI.sh
  have hrs := hI.rs
  refine lv_aload_n hx hb dX7_startsPart_0 rfl (lv_at hl 0 rfl) ?_
  refine r_callV (As := []) (rest := []) C hw (t_X7_kind l B D cA kd ig rg lg _  N h a hR hI) sv_X7_57 (hsh 1 _ rfl) rfl hl.1 rfl (Nat.le_of_ble_eq_true rfl) ⟨Nat.le_of_ble_eq_true rfl, Nat.le_of_ble_eq_true rfl⟩ ⟨Nat.le_of_ble_eq_true rfl, Nat.le_of_ble_eq_true rfl⟩ dX7_startsPart_1 (fun r5 kd1 ig2 rg3 lg4 H locs hw hH hp6 => ?_)
  obtain ⟨rfl, rfl, rfl, rfl, hzhp6, hrhp6⟩ := hp6
  have hsz := hzhp6.trans hsz
  obtain ⟨z7, rfl, hz7⟩ := hrhp6
  refine lv_bipush (v := 119) hx hb dX7_startsPart_4 (by decide) (ti_c 119 (by decide) fun z8 hz8 => ?_)
  refine b_ne (tgt := 33) hx hb dX7_startsPart_6 (by decide) (fun c6 => ?_) (fun c6 => ?_)
  · refine lv_aload_n hx hb dX7_startsPart_33 rfl (lv_at hl 0 rfl) ?_
    refine r_callV (As := []) (rest := []) C hw (t_X7_kind l B D cA kd ig rg lg _  N h a hR hI) sv_X7_57 (hsh 1 _ rfl) rfl hl.1 rfl (Nat.le_of_ble_eq_true rfl) ⟨Nat.le_of_ble_eq_true rfl, Nat.le_of_ble_eq_true rfl⟩ ⟨Nat.le_of_ble_eq_true rfl, Nat.le_of_ble_eq_true rfl⟩ dX7_startsPart_34 (fun r13 kd9 ig10 rg11 lg12 H locs hw hH hp14 => ?_)
    obtain ⟨rfl, rfl, rfl, rfl, hzhp14, hrhp14⟩ := hp14
    have hsz := hzhp14.trans hsz
    obtain ⟨z15, rfl, hz15⟩ := hrhp14
    refine lv_bipush (v := 110) hx hb dX7_startsPart_37 (by decide) (ti_c 110 (by decide) fun z16 hz16 => ?_)
    have J74 : ∀ (ls : Array Slot) (H : Heap) (locs : List Loc) (u17 : Int32), lv_has ls 1 [] → WD B D cA s.heap kd ig rg lg H locs → H.size = sz → (tK τ a ≠ 119) → ((u17.toInt = 1 ∧ (tK τ a = 110 ∨ tK τ a = 40 ∨ tK τ a = 45 ∨ tK τ a = 36)) ∨ (u17.toInt = 0 ∧ ¬ (tK τ a = 110 ∨ tK τ a = 40 ∨ tK τ a = 45 ∨ tK τ a = 36))) → W p l e (rL 1 0 0) s m args below meth c H locs 0 0 (MQ below (QcW B D cA (Pu kd ig rg lg sz (fun r => ∃ z : Int32, r = some (.int z) ∧ ((z.toInt = 1 ∧ sPt (tK τ) (tV τ) a) ∨ (z.toInt = 0 ∧ ¬ sPt (tK τ) (tV τ) a))))) args s 0 0 (fun q => B ≤ q)) (F0 m 74 ls [.int u17]) := by
      intro ls H locs u17 hl hw hsz g74_0 g74_1
      exact r_iret C hw hr hlk (nar_b (by omega)) (Nat.le_of_ble_eq_true rfl) (Nat.le_of_ble_eq_true rfl) dX7_startsPart_74 ⟨rfl, rfl, rfl, rfl, hsz, ⟨_, rfl, by unfold sPt oCol sg; omega⟩⟩
    have J69 : ∀ (ls : Array Slot) (H : Heap) (locs : List Loc) , lv_has ls 1 [] → WD B D cA s.heap kd ig rg lg H locs → H.size = sz → (tK τ a = 110 ∨ tK τ a = 40 ∨ tK τ a = 45 ∨ tK τ a = 36) → W p l e (rL 1 0 0) s m args below meth c H locs 0 0 (MQ below (QcW B D cA (Pu kd ig rg lg sz (fun r => ∃ z : Int32, r = some (.int z) ∧ ((z.toInt = 1 ∧ sPt (tK τ) (tV τ) a) ∨ (z.toInt = 0 ∧ ¬ sPt (tK τ) (tV τ) a))))) args s 0 0 (fun q => B ≤ q)) (F0 m 69 ls []) := by
      intro ls H locs  hl hw hsz g69_0
      refine lv_iconst (v := 1) hx hb dX7_startsPart_69 (by decide) (ti_c 1 (by decide) fun z18 hz18 => ?_)
      refine lv_goto (tgt := 74) hx hb dX7_startsPart_70 (by decide) ?_
      exact J74 ls H locs z18 (lv_sub hl [] rfl) hw hsz (by omega) (by omega)
    refine b_eq (tgt := 69) hx hb dX7_startsPart_39 (by decide) (fun c39 => ?_) (fun c39 => ?_)
    · exact J69 ls H locs (lv_sub hl [] rfl) hw hsz (by omega)
    · refine lv_aload_n hx hb dX7_startsPart_42 rfl (lv_at hl 0 rfl) ?_
      refine r_callV (As := []) (rest := []) C hw (t_X7_kind l B D cA kd ig rg lg _  N h a hR hI) sv_X7_57 (hsh 1 _ rfl) rfl hl.1 rfl (Nat.le_of_ble_eq_true rfl) ⟨Nat.le_of_ble_eq_true rfl, Nat.le_of_ble_eq_true rfl⟩ ⟨Nat.le_of_ble_eq_true rfl, Nat.le_of_ble_eq_true rfl⟩ dX7_startsPart_43 (fun r23 kd19 ig20 rg21 lg22 H locs hw hH hp24 => ?_)
      obtain ⟨rfl, rfl, rfl, rfl, hzhp24, hrhp24⟩ := hp24
      have hsz := hzhp24.trans hsz
      obtain ⟨z25, rfl, hz25⟩ := hrhp24
      refine lv_bipush (v := 40) hx hb dX7_startsPart_46 (by decide) (ti_c 40 (by decide) fun z26 hz26 => ?_)
      refine b_eq (tgt := 69) hx hb dX7_startsPart_48 (by decide) (fun c48 => ?_) (fun c48 => ?_)
      · exact J69 ls H locs (lv_sub hl [] rfl) hw hsz (by omega)
      · refine lv_aload_n hx hb dX7_startsPart_51 rfl (lv_at hl 0 rfl) ?_
        refine r_callV (As := []) (rest := []) C hw (t_X7_kind l B D cA kd ig rg lg _  N h a hR hI) sv_X7_57 (hsh 1 _ rfl) rfl hl.1 rfl (Nat.le_of_ble_eq_true rfl) ⟨Nat.le_of_ble_eq_true rfl, Nat.le_of_ble_eq_true rfl⟩ ⟨Nat.le_of_ble_eq_true rfl, Nat.le_of_ble_eq_true rfl⟩ dX7_startsPart_52 (fun r31 kd27 ig28 rg29 lg30 H locs hw hH hp32 => ?_)
        obtain ⟨rfl, rfl, rfl, rfl, hzhp32, hrhp32⟩ := hp32
        have hsz := hzhp32.trans hsz
        obtain ⟨z33, rfl, hz33⟩ := hrhp32
        refine lv_bipush (v := 45) hx hb dX7_startsPart_55 (by decide) (ti_c 45 (by decide) fun z34 hz34 => ?_)
        refine b_eq (tgt := 69) hx hb dX7_startsPart_57 (by decide) (fun c57 => ?_) (fun c57 => ?_)
        · exact J69 ls H locs (lv_sub hl [] rfl) hw hsz (by omega)
        · refine lv_aload_n hx hb dX7_startsPart_60 rfl (lv_at hl 0 rfl) ?_
          refine r_callV (As := []) (rest := []) C hw (t_X7_kind l B D cA kd ig rg lg _  N h a hR hI) sv_X7_57 (hsh 1 _ rfl) rfl hl.1 rfl (Nat.le_of_ble_eq_true rfl) ⟨Nat.le_of_ble_eq_true rfl, Nat.le_of_ble_eq_true rfl⟩ ⟨Nat.le_of_ble_eq_true rfl, Nat.le_of_ble_eq_true rfl⟩ dX7_startsPart_61 (fun r39 kd35 ig36 rg37 lg38 H locs hw hH hp40 => ?_)
          obtain ⟨rfl, rfl, rfl, rfl, hzhp40, hrhp40⟩ := hp40
          have hsz := hzhp40.trans hsz
          obtain ⟨z41, rfl, hz41⟩ := hrhp40
          refine lv_bipush (v := 36) hx hb dX7_startsPart_64 (by decide) (ti_c 36 (by decide) fun z42 hz42 => ?_)
          refine b_ne (tgt := 73) hx hb dX7_startsPart_66 (by decide) (fun c66 => ?_) (fun c66 => ?_)
          · refine lv_iconst (v := 0) hx hb dX7_startsPart_73 (by decide) (ti_c 0 (by decide) fun z43 hz43 => ?_)
            exact J74 ls H locs z43 (lv_sub hl [] rfl) hw hsz (by omega) (by omega)
          · exact J69 ls H locs (lv_sub hl [] rfl) hw hsz (by omega)
  · refine lv_aload_n hx hb dX7_startsPart_9 rfl (lv_at hl 0 rfl) ?_
    refine r_callV (As := []) (rest := []) C hw (t_X7_amount l B D cA kd ig rg lg _  N h a hR hI) sv_X7_128 (hsh 1 _ rfl) rfl hl.1 rfl (Nat.le_of_ble_eq_true rfl) ⟨Nat.le_of_ble_eq_true rfl, Nat.le_of_ble_eq_true rfl⟩ ⟨Nat.le_of_ble_eq_true rfl, Nat.le_of_ble_eq_true rfl⟩ dX7_startsPart_10 (fun r48 kd44 ig45 rg46 lg47 H locs hw hH hp49 => ?_)
    obtain ⟨rfl, rfl, rfl, rfl, hzhp49, hrhp49⟩ := hp49
    have hsz := hzhp49.trans hsz
    obtain ⟨z50, rfl, hz50⟩ := hrhp49
    refine lv_bipush (v := 12) hx hb dX7_startsPart_13 (by decide) (ti_c 12 (by decide) fun z51 hz51 => ?_)
    have J32 : ∀ (ls : Array Slot) (H : Heap) (locs : List Loc) (u52 : Int32), lv_has ls 1 [] → WD B D cA s.heap kd ig rg lg H locs → H.size = sz → (tK τ a = 119) → ((u52.toInt = 1 ∧ (tV τ a < 12 ∨ tV τ a = 26)) ∨ (u52.toInt = 0 ∧ ¬ (tV τ a < 12 ∨ tV τ a = 26))) → W p l e (rL 1 0 0) s m args below meth c H locs 0 0 (MQ below (QcW B D cA (Pu kd ig rg lg sz (fun r => ∃ z : Int32, r = some (.int z) ∧ ((z.toInt = 1 ∧ sPt (tK τ) (tV τ) a) ∨ (z.toInt = 0 ∧ ¬ sPt (tK τ) (tV τ) a))))) args s 0 0 (fun q => B ≤ q)) (F0 m 32 ls [.int u52]) := by
      intro ls H locs u52 hl hw hsz g32_0 g32_1
      exact r_iret C hw hr hlk (nar_b (by omega)) (Nat.le_of_ble_eq_true rfl) (Nat.le_of_ble_eq_true rfl) dX7_startsPart_32 ⟨rfl, rfl, rfl, rfl, hsz, ⟨_, rfl, by unfold sPt oCol sg; omega⟩⟩
    have J27 : ∀ (ls : Array Slot) (H : Heap) (locs : List Loc) , lv_has ls 1 [] → WD B D cA s.heap kd ig rg lg H locs → H.size = sz → (tK τ a = 119) → (tV τ a < 12 ∨ tV τ a = 26) → W p l e (rL 1 0 0) s m args below meth c H locs 0 0 (MQ below (QcW B D cA (Pu kd ig rg lg sz (fun r => ∃ z : Int32, r = some (.int z) ∧ ((z.toInt = 1 ∧ sPt (tK τ) (tV τ) a) ∨ (z.toInt = 0 ∧ ¬ sPt (tK τ) (tV τ) a))))) args s 0 0 (fun q => B ≤ q)) (F0 m 27 ls []) := by
      intro ls H locs  hl hw hsz g27_0 g27_1
      refine lv_iconst (v := 1) hx hb dX7_startsPart_27 (by decide) (ti_c 1 (by decide) fun z53 hz53 => ?_)
      refine lv_goto (tgt := 32) hx hb dX7_startsPart_28 (by decide) ?_
      exact J32 ls H locs z53 (lv_sub hl [] rfl) hw hsz (by omega) (by omega)
    refine b_lt (tgt := 27) hx hb dX7_startsPart_15 (by decide) (fun c15 => ?_) (fun c15 => ?_)
    · exact J27 ls H locs (lv_sub hl [] rfl) hw hsz (by omega) (by omega)
    · refine lv_aload_n hx hb dX7_startsPart_18 rfl (lv_at hl 0 rfl) ?_
      refine r_callV (As := []) (rest := []) C hw (t_X7_amount l B D cA kd ig rg lg _  N h a hR hI) sv_X7_128 (hsh 1 _ rfl) rfl hl.1 rfl (Nat.le_of_ble_eq_true rfl) ⟨Nat.le_of_ble_eq_true rfl, Nat.le_of_ble_eq_true rfl⟩ ⟨Nat.le_of_ble_eq_true rfl, Nat.le_of_ble_eq_true rfl⟩ dX7_startsPart_19 (fun r58 kd54 ig55 rg56 lg57 H locs hw hH hp59 => ?_)
      obtain ⟨rfl, rfl, rfl, rfl, hzhp59, hrhp59⟩ := hp59
      have hsz := hzhp59.trans hsz
      obtain ⟨z60, rfl, hz60⟩ := hrhp59
      refine lv_bipush (v := 26) hx hb dX7_startsPart_22 (by decide) (ti_c 26 (by decide) fun z61 hz61 => ?_)
      refine b_ne (tgt := 31) hx hb dX7_startsPart_24 (by decide) (fun c24 => ?_) (fun c24 => ?_)
      · refine lv_iconst (v := 0) hx hb dX7_startsPart_31 (by decide) (ti_c 0 (by decide) fun z62 hz62 => ?_)
        exact J32 ls H locs z62 (lv_sub hl [] rfl) hw hsz (by omega) (by omega)
      · exact J27 ls H locs (lv_sub hl [] rfl) hw hsz (by omega) (by omega)

set_option maxHeartbeats 4000000 in
set_option maxRecDepth 100000 in
theorem t_X7_take {τ : Tp} (l : Launch) (B : Nat) (D : va_G) (cA : Nat → ClassId) (kd : sK) (ig : sI) (rg : sR) (lg : sG) (sz : Nat) (x : Int32) (N h a : Nat) (hR : RZ B τ N h a ig) (hx0 : 1 ≤ x.toInt ∧ x.toInt ≤ 126) (hI : IC τ B kd ig rg) : MC l B D cA yX7_take cX7_take 2 (some .boolean) (rL 1 0 0) [.ref (B + 1), .int x] kd ig rg lg sz (PI 1022 τ B none kd ig rg lg (fun r kd' ig' rg' lg' => ∃ z : Int32, r = some (.int z) ∧ RB B τ N h ig' (pTk (tK τ) (tS τ) x.toInt a) z)) := by
  refine MC.of (own := RX7) (by decide +kernel) rfl (Nat.le_of_ble_eq_true rfl) ?_
  intro p e s m args below meth c ls C hr hlk hnm hw hsz hl
  have hx := C.1.1
  have hb := C.1.2.1
  have hown := C.1.2.2.2.1
  have hts := C.1.2.2.2.2
  have hl : lv_has ls 2 [(0, .ref (B + 1)), (1, .int x)] := hl
  have hN : Nx 1022 B none kd ig rg lg kd ig rg lg := Nx.rf
  have hsh := hI.sh
  have hrs := hI.rs
  obtain ⟨⟨hN0, h6⟩, ⟨h2, hh⟩, h7, haN⟩ := hR.nums
  refine lv_aload_n hx hb dX7_take_0 rfl (lv_at hl 0 rfl) ?_
  refine r_callV (As := []) (rest := []) C hw (t_X7_kind l B D cA kd ig rg lg _  N h a hR hI) sv_X7_57 (hsh 1 _ rfl) rfl hl.1 rfl (Nat.le_of_ble_eq_true rfl) ⟨Nat.le_of_ble_eq_true rfl, Nat.le_of_ble_eq_true rfl⟩ ⟨Nat.le_of_ble_eq_true rfl, Nat.le_of_ble_eq_true rfl⟩ dX7_take_1 (fun r5 kd1 ig2 rg3 lg4 H locs hw hH hp6 => ?_)
  obtain ⟨rfl, rfl, rfl, rfl, hzhp6, hrhp6⟩ := hp6
  obtain ⟨z7, rfl, hz7⟩ := hrhp6
  refine lv_iload_n hx hb dX7_take_4 rfl (lv_at hl 1 rfl) ?_
  refine b_eq (tgt := 14) hx hb dX7_take_5 (by decide) (fun c5 => ?_) (fun c5 => ?_)
  · refine lv_aload_n hx hb dX7_take_14 rfl (lv_at hl 0 rfl) ?_
    refine lv_dup hx hb dX7_take_15 rfl ?_
    refine r_get C hw (hsh 1 _ rfl) fl_X7_50 (oV_i rfl) dX7_take_16 (ti_c (ig (B + 1) 7).toInt rfl fun z8 hz8 => ?_)
    refine lv_iconst (v := 1) hx hb dX7_take_19 (by decide) (ti_c 1 (by decide) fun z9 hz9 => ?_)
    refine lv_iadd hx hb dX7_take_20 (tc_add fun z10 hz10 => ?_)
    first | replace hz10 := hz10 (by omega) | clear hz10
    refine r_puti C hw (hsh 1 _ rfl) fl_X7_50 rfl rfl rfl dX7_take_21 (fun H locs hH hw => ?_)
    obtain ⟨ig11, eig11⟩ : ∃ f, f = up2 ig (B + 1) 7 z10 := ⟨_, rfl⟩
    rw [← eig11] at hw
    have hN : Nx 1022 B none kd ig rg lg kd ig11 rg lg := by rw [eig11]; exact hN.pi (by omega)
    have hI : IC τ B kd ig11 rg := by rw [eig11]; exact hI.pi (show okR none _ from trivial)
    have hlt := hR.lt (show tK τ a ≠ 0 from by omega)
    have hR : RZ B τ N h (a + 1) ig11 := by rw [eig11]; exact hR.nx (by omega) (by omega)
    obtain ⟨⟨hN0, h6⟩, ⟨h2, hh⟩, h7, haN⟩ := hR.nums
    refine lv_iconst (v := 1) hx hb dX7_take_24 (by decide) (ti_c 1 (by decide) fun z12 hz12 => ?_)
    exact r_iret C hw hr hlk (nar_b (by omega)) (Nat.le_of_ble_eq_true rfl) (Nat.le_of_ble_eq_true rfl) dX7_take_25 ⟨hI, hN, ⟨_, rfl, RB.mk (Or.inl ⟨(show tK τ a = x.toInt by omega), rfl, rfl⟩) hR (by omega)⟩⟩
  · refine lv_aload_n hx hb dX7_take_8 rfl (lv_at hl 0 rfl) ?_
    refine lv_iconst (v := 1) hx hb dX7_take_9 (by decide) (ti_c 1 (by decide) fun z13 hz13 => ?_)
    refine r_callV (As := [.int z13]) (rest := []) C hw (t_X7_wrong l B D cA kd ig rg lg _ z13 N h a hR (by omega) hI) sv_X7_61 (hsh 1 _ rfl) rfl hl.1 rfl (Nat.le_of_ble_eq_true rfl) ⟨Nat.le_of_ble_eq_true rfl, Nat.le_of_ble_eq_true rfl⟩ ⟨Nat.le_of_ble_eq_true rfl, Nat.le_of_ble_eq_true rfl⟩ dX7_take_10 (fun r18 kd14 ig15 rg16 lg17 H locs hw hH hp19 => ?_)
    obtain ⟨hI, hchp19, hrhp19⟩ := hp19
    have hN := hN.tr hchp19
    have hsh := hI.sh
    have hrs := hI.rs
    obtain ⟨z20, rfl, hz20⟩ := hrhp19
    obtain ⟨wz, w8⟩ := hz20
    exact r_iret C hw hr hlk (nar_b (by omega)) (Nat.le_of_ble_eq_true rfl) (Nat.le_of_ble_eq_true rfl) dX7_take_13 ⟨hI, hN, ⟨_, rfl, RB.mkf (a' := 0) (Or.inr ⟨fun q => absurd q (show ¬ tK τ a = x.toInt by omega), rfl⟩) (hR.fw_ne (by decide)) (by rw [w8]; unfold fw; omega) (by omega)⟩⟩

set_option maxHeartbeats 4000000 in
set_option maxRecDepth 100000 in
theorem t_X7_reference {τ : Tp} (l : Launch) (B : Nat) (D : va_G) (cA : Nat → ClassId) (kd : sK) (ig : sI) (rg : sR) (lg : sG) (sz : Nat) (x : Int32) (y : Int32) (N h a : Nat) (hR : RZ B τ N h a ig) (hI : IC τ B kd ig rg) : MC l B D cA yX7_reference cX7_reference 9 (some .int) (rL 1 0 0) [.ref (B + 1), .int x, .int y] kd ig rg lg sz (PI 1022 τ B none kd ig rg lg (fun r kd' ig' rg' lg' => ∃ z : Int32, r = some (.int z) ∧ RF B τ N h ig' x.toInt y.toInt a z)) := by
  refine MC.of (own := RX7) (by decide +kernel) rfl (Nat.le_of_ble_eq_true rfl) ?_
  intro p e s m args below meth c ls C hr hlk hnm hw hsz hl
  have hx := C.1.1
  have hb := C.1.2.1
  have hown := C.1.2.2.2.1
  have hts := C.1.2.2.2.2
  have hl : lv_has ls 9 [(0, .ref (B + 1)), (1, .int x), (2, .int y)] := hl
  have hN : Nx 1022 B none kd ig rg lg kd ig rg lg := Nx.rf
  have hsh := hI.sh
  have hrs := hI.rs
  obtain ⟨⟨hN0, h6⟩, ⟨h2, hh⟩, h7, haN⟩ := hR.nums
  have bx := i32_bd x
  have by0 := i32_bd y
  refine lv_aload_n hx hb dX7_reference_0 rfl (lv_at hl 0 rfl) ?_
  refine r_callV (As := []) (rest := []) C hw (t_X7_kind l B D cA kd ig rg lg _  N h a hR hI) sv_X7_57 (hsh 1 _ rfl) rfl hl.1 rfl (Nat.le_of_ble_eq_true rfl) ⟨Nat.le_of_ble_eq_true rfl, Nat.le_of_ble_eq_true rfl⟩ ⟨Nat.le_of_ble_eq_true rfl, Nat.le_of_ble_eq_true rfl⟩ dX7_reference_1 (fun r5 kd1 ig2 rg3 lg4 H locs hw hH hp6 => ?_)
  obtain ⟨rfl, rfl, rfl, rfl, hzhp6, hrhp6⟩ := hp6
  obtain ⟨z7, rfl, hz7⟩ := hrhp6
  refine lv_bipush (v := 36) hx hb dX7_reference_4 (by decide) (ti_c 36 (by decide) fun z8 hz8 => ?_)
  have J14 : ∀ (ls : Array Slot) (H : Heap) (locs : List Loc) (kd10 : sK) (ig11 : sI) (rg12 : sR) (lg13 : sG) (u9 : Int32), lv_has ls 9 [(0, .ref (B + 1)), (1, .int x), (2, .int y)] → WD B D cA s.heap kd10 ig11 rg12 lg13 H locs → IC τ B kd10 ig11 rg12 → Nx 1022 B none kd ig rg lg kd10 ig11 rg12 lg13 → (RZ B τ N h a ig11) → ((u9.toInt = 1 ∧ tK τ a = 36) ∨ (u9.toInt = 0 ∧ tK τ a ≠ 36)) → W p l e (rL 1 0 0) s m args below meth c H locs 0 0 (MQ below (QcW B D cA (PI 1022 τ B none kd ig rg lg (fun r kd' ig' rg' lg' => ∃ z : Int32, r = some (.int z) ∧ RF B τ N h ig' x.toInt y.toInt a z))) args s 0 0 (fun q => B ≤ q)) (F0 m 14 ls [.int u9]) := by
    intro ls H locs kd10 ig11 rg12 lg13 u9 hl hw hI hN g14_0 g14_1
    have hsh := hI.sh
    have hrs := hI.rs
    have hR := g14_0
    obtain ⟨⟨hN0, h6⟩, ⟨h2, hh⟩, h7, haN⟩ := hR.nums
    have hb30 := g14_1
    refine lv_istore_n (lv' := [(3, .int u9), (0, .ref (B + 1)), (1, .int x), (2, .int y)]) hx hb dX7_reference_14 rfl hl (by decide) rfl (fun ls hl => ?_)
    refine lv_aload_n hx hb dX7_reference_15 rfl (lv_at hl 1 rfl) ?_
    refine lv_dup hx hb dX7_reference_16 rfl ?_
    refine r_get C hw (hsh 1 _ rfl) fl_X7_50 (oV_i rfl) dX7_reference_17 (ti_c (ig11 (B + 1) 7).toInt rfl fun z14 hz14 => ?_)
    refine lv_iload_n hx hb dX7_reference_20 rfl (lv_at hl 0 rfl) ?_
    have J29 : ∀ (ls : Array Slot) (H : Heap) (locs : List Loc) (kd16 : sK) (ig17 : sI) (rg18 : sR) (lg19 : sG) (u15 : Int32), lv_has ls 9 [(3, .int u9), (0, .ref (B + 1)), (1, .int x), (2, .int y)] → WD B D cA s.heap kd16 ig17 rg18 lg19 H locs → IC τ B kd16 ig17 rg18 → Nx 1022 B none kd ig rg lg kd16 ig17 rg18 lg19 → (RZ B τ N h a ig17) → (u15.toInt = u9.toInt) → W p l e (rL 1 0 0) s m args below meth c H locs 0 0 (MQ below (QcW B D cA (PI 1022 τ B none kd ig rg lg (fun r kd' ig' rg' lg' => ∃ z : Int32, r = some (.int z) ∧ RF B τ N h ig' x.toInt y.toInt a z))) args s 0 0 (fun q => B ≤ q)) (F0 m 29 ls [.int u15, .int z14, .ref (B + 1)]) := by
      intro ls H locs kd16 ig17 rg18 lg19 u15 hl hw hI hN g29_0 g29_1
      have hsh := hI.sh
      have hrs := hI.rs
      have hR := g29_0
      obtain ⟨⟨hN0, h6⟩, ⟨h2, hh⟩, h7, haN⟩ := hR.nums
      refine lv_iadd hx hb dX7_reference_29 (tc_add fun z20 hz20 => ?_)
      first | replace hz20 := hz20 (by omega) | clear hz20
      refine r_puti C hw (hsh 1 _ rfl) fl_X7_50 rfl rfl rfl dX7_reference_30 (fun H locs hH hw => ?_)
      obtain ⟨ig21, eig21⟩ : ∃ f, f = up2 ig17 (B + 1) 7 z20 := ⟨_, rfl⟩
      rw [← eig21] at hw
      have hN : Nx 1022 B none kd ig rg lg kd16 ig21 rg18 lg19 := by rw [eig21]; exact hN.pi (by omega)
      have hI : IC τ B kd16 ig21 rg18 := by rw [eig21]; exact hI.pi (show okR none _ from trivial)
      obtain ⟨ad22, dlad22, ead22⟩ : ∃ q : Nat, dol (tK τ) a q ∧ z20.toInt = (q : Int) := (by
        rcases hb30 with ⟨q1, q2⟩ | ⟨q1, q2⟩
        · exact ⟨a + 1, Or.inl ⟨q2, rfl⟩, by omega⟩
        · exact ⟨a, Or.inr ⟨q2, rfl⟩, by omega⟩)
      have lad22 : ad22 ≤ N := (by
        rcases dlad22 with ⟨q1, q2⟩ | ⟨q1, q2⟩
        · have := hR.lt (show tK τ a ≠ 0 by unfold sg at q1; omega); omega
        · omega)
      have hR : RZ B τ N h ad22 ig21 := by rw [eig21]; exact hR.nx (by omega) lad22
      obtain ⟨⟨hN0, h6⟩, ⟨h2, hh⟩, h7, haN⟩ := hR.nums
      have hbd := hR.bd
      refine lv_aload_n hx hb dX7_reference_33 rfl (lv_at hl 1 rfl) ?_
      refine r_callV (As := []) (rest := []) C hw (t_X7_amount l B D cA kd16 ig21 rg18 lg19 _  N h ad22 hR hI) sv_X7_128 (hsh 1 _ rfl) rfl hl.1 rfl (Nat.le_of_ble_eq_true rfl) ⟨Nat.le_of_ble_eq_true rfl, Nat.le_of_ble_eq_true rfl⟩ ⟨Nat.le_of_ble_eq_true rfl, Nat.le_of_ble_eq_true rfl⟩ dX7_reference_34 (fun r27 kd23 ig24 rg25 lg26 H locs hw hH hp28 => ?_)
      obtain ⟨rfl, rfl, rfl, rfl, hzhp28, hrhp28⟩ := hp28
      obtain ⟨z29, rfl, hz29⟩ := hrhp28
      refine lv_istore (lv' := [(4, .int z29), (3, .int u9), (0, .ref (B + 1)), (1, .int x), (2, .int y)]) hx hb dX7_reference_37 hl (by decide) rfl (fun ls hl => ?_)
      refine lv_aload_n hx hb dX7_reference_39 rfl (lv_at hl 2 rfl) ?_
      refine r_callV (As := []) (rest := []) C hw (t_X7_kind l B D cA kd16 ig21 rg18 lg19 _  N h ad22 hR hI) sv_X7_57 (hsh 1 _ rfl) rfl hl.1 rfl (Nat.le_of_ble_eq_true rfl) ⟨Nat.le_of_ble_eq_true rfl, Nat.le_of_ble_eq_true rfl⟩ ⟨Nat.le_of_ble_eq_true rfl, Nat.le_of_ble_eq_true rfl⟩ dX7_reference_40 (fun r34 kd30 ig31 rg32 lg33 H locs hw hH hp35 => ?_)
      obtain ⟨rfl, rfl, rfl, rfl, hzhp35, hrhp35⟩ := hp35
      obtain ⟨z36, rfl, hz36⟩ := hrhp35
      refine lv_iload hx hb dX7_reference_43 (lv_at hl 0 rfl) ?_
      refine lv_iload_n hx hb dX7_reference_45 rfl (lv_at hl 3 rfl) ?_
      refine r_callS (As := [.int z36, .int z29, .int x]) (rest := []) C hw (t_X7_columnFault l B D cA kd16 ig21 rg18 lg19 _ z36 z29 x  hI) ss_X7_149 rfl hl.1 rfl (Nat.le_of_ble_eq_true rfl) ⟨Nat.le_of_ble_eq_true rfl, Nat.le_of_ble_eq_true rfl⟩ ⟨Nat.le_of_ble_eq_true rfl, Nat.le_of_ble_eq_true rfl⟩ dX7_reference_46 (fun r41 kd37 ig38 rg39 lg40 H locs hw hH hp42 => ?_)
      obtain ⟨rfl, rfl, rfl, rfl, hzhp42, hrhp42⟩ := hp42
      obtain ⟨z43, rfl, hz43⟩ := hrhp42
      refine lv_istore (lv' := [(5, .int z43), (4, .int z29), (3, .int u9), (0, .ref (B + 1)), (1, .int x), (2, .int y)]) hx hb dX7_reference_49 hl (by decide) rfl (fun ls hl => ?_)
      refine lv_iload hx hb dX7_reference_51 (lv_at hl 0 rfl) ?_
      refine z_eq (tgt := 65) hx hb dX7_reference_53 (by decide) (fun c53 => ?_) (fun c53 => ?_)
      · refine lv_aload_n hx hb dX7_reference_65 rfl (lv_at hl 3 rfl) ?_
        refine lv_dup hx hb dX7_reference_66 rfl ?_
        refine r_get C hw (hsh 1 _ rfl) fl_X7_50 (oV_i rfl) dX7_reference_67 (ti_c (ig21 (B + 1) 7).toInt rfl fun z44 hz44 => ?_)
        refine lv_iconst (v := 1) hx hb dX7_reference_70 (by decide) (ti_c 1 (by decide) fun z45 hz45 => ?_)
        refine lv_iadd hx hb dX7_reference_71 (tc_add fun z46 hz46 => ?_)
        first | replace hz46 := hz46 (by omega) | clear hz46
        refine r_puti C hw (hsh 1 _ rfl) fl_X7_50 rfl rfl rfl dX7_reference_72 (fun H locs hH hw => ?_)
        obtain ⟨ig47, eig47⟩ : ∃ f, f = up2 ig21 (B + 1) 7 z46 := ⟨_, rfl⟩
        rw [← eig47] at hw
        have hN : Nx 1022 B none kd ig rg lg kd16 ig47 rg18 lg19 := by rw [eig47]; exact hN.pi (by omega)
        have hI : IC τ B kd16 ig47 rg18 := by rw [eig47]; exact hI.pi (show okR none _ from trivial)
        have hlt := hR.lt (show tK τ ad22 ≠ 0 from by omega)
        have hR : RZ B τ N h (ad22 + 1) ig47 := by rw [eig47]; exact hR.nx (by omega) (by omega)
        obtain ⟨⟨hN0, h6⟩, ⟨h2, hh⟩, h7, haN⟩ := hR.nums
        refine lv_aload_n hx hb dX7_reference_75 rfl (lv_at hl 3 rfl) ?_
        refine r_callV (As := []) (rest := []) C hw (t_X7_kind l B D cA kd16 ig47 rg18 lg19 _  N h (ad22 + 1) hR hI) sv_X7_57 (hsh 1 _ rfl) rfl hl.1 rfl (Nat.le_of_ble_eq_true rfl) ⟨Nat.le_of_ble_eq_true rfl, Nat.le_of_ble_eq_true rfl⟩ ⟨Nat.le_of_ble_eq_true rfl, Nat.le_of_ble_eq_true rfl⟩ dX7_reference_76 (fun r52 kd48 ig49 rg50 lg51 H locs hw hH hp53 => ?_)
        obtain ⟨rfl, rfl, rfl, rfl, hzhp53, hrhp53⟩ := hp53
        obtain ⟨z54, rfl, hz54⟩ := hrhp53
        refine lv_bipush (v := 36) hx hb dX7_reference_79 (by decide) (ti_c 36 (by decide) fun z55 hz55 => ?_)
        have J89 : ∀ (ls : Array Slot) (H : Heap) (locs : List Loc) (kd57 : sK) (ig58 : sI) (rg59 : sR) (lg60 : sG) (u56 : Int32), lv_has ls 9 [(4, .int z29), (3, .int u9), (0, .ref (B + 1)), (2, .int y)] → WD B D cA s.heap kd57 ig58 rg59 lg60 H locs → IC τ B kd57 ig58 rg59 → Nx 1022 B none kd ig rg lg kd57 ig58 rg59 lg60 → (RZ B τ N h (ad22 + 1) ig58) → ((u56.toInt = 1 ∧ tK τ (ad22 + 1) = 36) ∨ (u56.toInt = 0 ∧ tK τ (ad22 + 1) ≠ 36)) → W p l e (rL 1 0 0) s m args below meth c H locs 0 0 (MQ below (QcW B D cA (PI 1022 τ B none kd ig rg lg (fun r kd' ig' rg' lg' => ∃ z : Int32, r = some (.int z) ∧ RF B τ N h ig' x.toInt y.toInt a z))) args s 0 0 (fun q => B ≤ q)) (F0 m 89 ls [.int u56]) := by
          intro ls H locs kd57 ig58 rg59 lg60 u56 hl hw hI hN g89_0 g89_1
          have hsh := hI.sh
          have hrs := hI.rs
          have hR := g89_0
          obtain ⟨⟨hN0, h6⟩, ⟨h2, hh⟩, h7, haN⟩ := hR.nums
          have hb107 := g89_1
          refine lv_istore (lv' := [(6, .int u56), (4, .int z29), (3, .int u9), (0, .ref (B + 1)), (2, .int y)]) hx hb dX7_reference_89 hl (by decide) rfl (fun ls hl => ?_)
          refine lv_aload_n hx hb dX7_reference_91 rfl (lv_at hl 3 rfl) ?_
          refine lv_dup hx hb dX7_reference_92 rfl ?_
          refine r_get C hw (hsh 1 _ rfl) fl_X7_50 (oV_i rfl) dX7_reference_93 (ti_c (ig58 (B + 1) 7).toInt rfl fun z61 hz61 => ?_)
          refine lv_iload hx hb dX7_reference_96 (lv_at hl 0 rfl) ?_
          have J106 : ∀ (ls : Array Slot) (H : Heap) (locs : List Loc) (kd63 : sK) (ig64 : sI) (rg65 : sR) (lg66 : sG) (u62 : Int32), lv_has ls 9 [(6, .int u56), (4, .int z29), (3, .int u9), (0, .ref (B + 1)), (2, .int y)] → WD B D cA s.heap kd63 ig64 rg65 lg66 H locs → IC τ B kd63 ig64 rg65 → Nx 1022 B none kd ig rg lg kd63 ig64 rg65 lg66 → (RZ B τ N h (ad22 + 1) ig64) → (u62.toInt = u56.toInt) → W p l e (rL 1 0 0) s m args below meth c H locs 0 0 (MQ below (QcW B D cA (PI 1022 τ B none kd ig rg lg (fun r kd' ig' rg' lg' => ∃ z : Int32, r = some (.int z) ∧ RF B τ N h ig' x.toInt y.toInt a z))) args s 0 0 (fun q => B ≤ q)) (F0 m 106 ls [.int u62, .int z61, .ref (B + 1)]) := by
            intro ls H locs kd63 ig64 rg65 lg66 u62 hl hw hI hN g106_0 g106_1
            have hsh := hI.sh
            have hrs := hI.rs
            have hR := g106_0
            obtain ⟨⟨hN0, h6⟩, ⟨h2, hh⟩, h7, haN⟩ := hR.nums
            refine lv_iadd hx hb dX7_reference_106 (tc_add fun z67 hz67 => ?_)
            first | replace hz67 := hz67 (by omega) | clear hz67
            refine r_puti C hw (hsh 1 _ rfl) fl_X7_50 rfl rfl rfl dX7_reference_107 (fun H locs hH hw => ?_)
            obtain ⟨ig68, eig68⟩ : ∃ f, f = up2 ig64 (B + 1) 7 z67 := ⟨_, rfl⟩
            rw [← eig68] at hw
            have hN : Nx 1022 B none kd ig rg lg kd63 ig68 rg65 lg66 := by rw [eig68]; exact hN.pi (by omega)
            have hI : IC τ B kd63 ig68 rg65 := by rw [eig68]; exact hI.pi (show okR none _ from trivial)
            obtain ⟨ad69, dlad69, ead69⟩ : ∃ q : Nat, dol (tK τ) (ad22 + 1) q ∧ z67.toInt = (q : Int) := (by
              rcases hb107 with ⟨q1, q2⟩ | ⟨q1, q2⟩
              · exact ⟨(ad22 + 1) + 1, Or.inl ⟨q2, rfl⟩, by omega⟩
              · exact ⟨(ad22 + 1), Or.inr ⟨q2, rfl⟩, by omega⟩)
            have lad69 : ad69 ≤ N := (by
              rcases dlad69 with ⟨q1, q2⟩ | ⟨q1, q2⟩
              · have := hR.lt (show tK τ (ad22 + 1) ≠ 0 by unfold sg at q1; omega); omega
              · omega)
            have hR : RZ B τ N h ad69 ig68 := by rw [eig68]; exact hR.nx (by omega) lad69
            obtain ⟨⟨hN0, h6⟩, ⟨h2, hh⟩, h7, haN⟩ := hR.nums
            have hbd := hR.bd
            refine lv_aload_n hx hb dX7_reference_110 rfl (lv_at hl 3 rfl) ?_
            refine r_callV (As := []) (rest := []) C hw (t_X7_amount l B D cA kd63 ig68 rg65 lg66 _  N h ad69 hR hI) sv_X7_128 (hsh 1 _ rfl) rfl hl.1 rfl (Nat.le_of_ble_eq_true rfl) ⟨Nat.le_of_ble_eq_true rfl, Nat.le_of_ble_eq_true rfl⟩ ⟨Nat.le_of_ble_eq_true rfl, Nat.le_of_ble_eq_true rfl⟩ dX7_reference_111 (fun r74 kd70 ig71 rg72 lg73 H locs hw hH hp75 => ?_)
            obtain ⟨rfl, rfl, rfl, rfl, hzhp75, hrhp75⟩ := hp75
            obtain ⟨z76, rfl, hz76⟩ := hrhp75
            refine lv_iconst (v := 1) hx hb dX7_reference_114 (by decide) (ti_c 1 (by decide) fun z77 hz77 => ?_)
            refine lv_isub hx hb dX7_reference_115 (tc_sub fun z78 hz78 => ?_)
            first | replace hz78 := hz78 (by omega) | clear hz78
            refine lv_istore (lv' := [(7, .int z78), (6, .int u56), (4, .int z29), (3, .int u9), (0, .ref (B + 1)), (2, .int y)]) hx hb dX7_reference_116 hl (by decide) rfl (fun ls hl => ?_)
            refine lv_aload_n hx hb dX7_reference_118 rfl (lv_at hl 4 rfl) ?_
            refine r_callV (As := []) (rest := []) C hw (t_X7_kind l B D cA kd63 ig68 rg65 lg66 _  N h ad69 hR hI) sv_X7_57 (hsh 1 _ rfl) rfl hl.1 rfl (Nat.le_of_ble_eq_true rfl) ⟨Nat.le_of_ble_eq_true rfl, Nat.le_of_ble_eq_true rfl⟩ ⟨Nat.le_of_ble_eq_true rfl, Nat.le_of_ble_eq_true rfl⟩ dX7_reference_119 (fun r83 kd79 ig80 rg81 lg82 H locs hw hH hp84 => ?_)
            obtain ⟨rfl, rfl, rfl, rfl, hzhp84, hrhp84⟩ := hp84
            obtain ⟨z85, rfl, hz85⟩ := hrhp84
            refine lv_iload hx hb dX7_reference_122 (lv_at hl 0 rfl) ?_
            refine lv_iload_n hx hb dX7_reference_124 rfl (lv_at hl 5 rfl) ?_
            refine r_callS (As := [.int z85, .int z78, .int y]) (rest := []) C hw (t_X7_rowFault l B D cA kd63 ig68 rg65 lg66 _ z85 z78 y  hI) ss_X7_153 rfl hl.1 rfl (Nat.le_of_ble_eq_true rfl) ⟨Nat.le_of_ble_eq_true rfl, Nat.le_of_ble_eq_true rfl⟩ ⟨Nat.le_of_ble_eq_true rfl, Nat.le_of_ble_eq_true rfl⟩ dX7_reference_125 (fun r90 kd86 ig87 rg88 lg89 H locs hw hH hp91 => ?_)
            obtain ⟨rfl, rfl, rfl, rfl, hzhp91, hrhp91⟩ := hp91
            obtain ⟨z92, rfl, hz92⟩ := hrhp91
            refine lv_istore (lv' := [(8, .int z92), (7, .int z78), (6, .int u56), (4, .int z29), (3, .int u9), (0, .ref (B + 1)), (2, .int y)]) hx hb dX7_reference_128 hl (by decide) rfl (fun ls hl => ?_)
            refine lv_iload hx hb dX7_reference_130 (lv_at hl 0 rfl) ?_
            refine z_eq (tgt := 144) hx hb dX7_reference_132 (by decide) (fun c132 => ?_) (fun c132 => ?_)
            · refine lv_aload_n hx hb dX7_reference_144 rfl (lv_at hl 5 rfl) ?_
              refine lv_dup hx hb dX7_reference_145 rfl ?_
              refine r_get C hw (hsh 1 _ rfl) fl_X7_50 (oV_i rfl) dX7_reference_146 (ti_c (ig68 (B + 1) 7).toInt rfl fun z93 hz93 => ?_)
              refine lv_iconst (v := 1) hx hb dX7_reference_149 (by decide) (ti_c 1 (by decide) fun z94 hz94 => ?_)
              refine lv_iadd hx hb dX7_reference_150 (tc_add fun z95 hz95 => ?_)
              first | replace hz95 := hz95 (by omega) | clear hz95
              refine r_puti C hw (hsh 1 _ rfl) fl_X7_50 rfl rfl rfl dX7_reference_151 (fun H locs hH hw => ?_)
              obtain ⟨ig96, eig96⟩ : ∃ f, f = up2 ig68 (B + 1) 7 z95 := ⟨_, rfl⟩
              rw [← eig96] at hw
              have hN : Nx 1022 B none kd ig rg lg kd63 ig96 rg65 lg66 := by rw [eig96]; exact hN.pi (by omega)
              have hI : IC τ B kd63 ig96 rg65 := by rw [eig96]; exact hI.pi (show okR none _ from trivial)
              have hlt := hR.lt (show tK τ ad69 ≠ 0 from by omega)
              have hR : RZ B τ N h (ad69 + 1) ig96 := by rw [eig96]; exact hR.nx (by omega) (by omega)
              obtain ⟨⟨hN0, h6⟩, ⟨h2, hh⟩, h7, haN⟩ := hR.nums
              refine lv_iload hx hb dX7_reference_154 (lv_at hl 1 rfl) ?_
              refine lv_bipush (v := 12) hx hb dX7_reference_156 (by decide) (ti_c 12 (by decide) fun z97 hz97 => ?_)
              refine lv_imul hx hb dX7_reference_158 (tc_mulR 12 hz97 fun z98 hz98 => ?_)
              first | replace hz98 := hz98 (by omega) | clear hz98
              refine lv_iload hx hb dX7_reference_159 (lv_at hl 3 rfl) ?_
              refine lv_iadd hx hb dX7_reference_161 (tc_add fun z99 hz99 => ?_)
              first | replace hz99 := hz99 (by omega) | clear hz99
              refine lv_iload_n hx hb dX7_reference_162 rfl (lv_at hl 4 rfl) ?_
              refine lv_iload hx hb dX7_reference_163 (lv_at hl 2 rfl) ?_
              refine lv_aload_n hx hb dX7_reference_165 rfl (lv_at hl 5 rfl) ?_
              refine r_get C hw (hsh 1 _ rfl) fl_X7_38 (oV_i rfl) dX7_reference_166 (ti_c (ig96 (B + 1) 2).toInt rfl fun z100 hz100 => ?_)
              have hhm : z100.toInt = (h : Int) := by omega
              refine r_callS (As := [.int z99, .int u9, .int u56, .int z100]) (rest := []) C hw (t_X4_referenceE l B D cA kd63 ig96 rg65 lg66 _ z99 u9 u56 z100 (by omega) (by omega) (by omega) (by omega) hI) ss_X7_156 rfl hl.1 rfl (Nat.le_of_ble_eq_true rfl) ⟨Nat.le_of_ble_eq_true rfl, Nat.le_of_ble_eq_true rfl⟩ ⟨Nat.le_of_ble_eq_true rfl, Nat.le_of_ble_eq_true rfl⟩ dX7_reference_169 (fun r105 kd101 ig102 rg103 lg104 H locs hw hH hp106 => ?_)
              obtain ⟨rfl, rfl, rfl, rfl, hzhp106, hrhp106⟩ := hp106
              obtain ⟨z107, rfl, hz107⟩ := hrhp106
              exact r_iret C hw hr hlk rfl (Nat.le_of_ble_eq_true rfl) (Nat.le_of_ble_eq_true rfl) dX7_reference_172 ⟨hI, hN, ⟨_, rfl, ⟨0, ad69 + 1, tV τ ad22, tV τ ad69 - 1, pRef.ok dlad22 (by omega) (by omega) dlad69 (by omega), Or.inl ⟨rfl, ⟨hz107.1, by have q := hz107.2.1; rw [hhm] at q; omega, by have q := hz107.2.2; rw [hhm] at q; omega⟩, by omega, hR⟩⟩⟩⟩
            · refine lv_aload_n hx hb dX7_reference_135 rfl (lv_at hl 5 rfl) ?_
              refine lv_iload hx hb dX7_reference_136 (lv_at hl 0 rfl) ?_
              refine r_callV (As := [.int z92]) (rest := []) C hw (t_X7_wrong l B D cA kd63 ig68 rg65 lg66 _ z92 N h ad69 hR (by omega) hI) sv_X7_61 (hsh 1 _ rfl) rfl hl.1 rfl (Nat.le_of_ble_eq_true rfl) ⟨Nat.le_of_ble_eq_true rfl, Nat.le_of_ble_eq_true rfl⟩ ⟨Nat.le_of_ble_eq_true rfl, Nat.le_of_ble_eq_true rfl⟩ dX7_reference_138 (fun r112 kd108 ig109 rg110 lg111 H locs hw hH hp113 => ?_)
              obtain ⟨hI, hchp113, hrhp113⟩ := hp113
              have hN := hN.tr hchp113
              have hsh := hI.sh
              have hrs := hI.rs
              obtain ⟨z114, rfl, hz114⟩ := hrhp113
              obtain ⟨wz, w8⟩ := hz114
              refine lv_pop hx hb dX7_reference_141 rfl ?_
              refine lv_iconst (v := (-1)) hx hb dX7_reference_142 (by decide) (ti_c (-1) (by decide) fun z115 hz115 => ?_)
              exact r_iret C hw hr hlk rfl (Nat.le_of_ble_eq_true rfl) (Nat.le_of_ble_eq_true rfl) dX7_reference_143 ⟨hI, hN, ⟨_, rfl, ⟨fw (tS τ) z92.toInt ad69, 0, tV τ ad22, 0, pRef.rF dlad22 (by omega) (by omega) dlad69 (by omega), Or.inr ⟨hR.fw_ne (by omega), by omega, w8⟩⟩⟩⟩
          refine z_eq (tgt := 105) hx hb dX7_reference_98 (by decide) (fun c98 => ?_) (fun c98 => ?_)
          · refine lv_iconst (v := 0) hx hb dX7_reference_105 (by decide) (ti_c 0 (by decide) fun z116 hz116 => ?_)
            exact J106 ls H locs kd57 ig58 rg59 lg60 z116 (lv_sub hl [0, 1, 2, 3, 4] rfl) hw hI hN (hR) (by omega)
          · refine lv_iconst (v := 1) hx hb dX7_reference_101 (by decide) (ti_c 1 (by decide) fun z117 hz117 => ?_)
            refine lv_goto (tgt := 106) hx hb dX7_reference_102 (by decide) ?_
            exact J106 ls H locs kd57 ig58 rg59 lg60 z117 (lv_sub hl [0, 1, 2, 3, 4] rfl) hw hI hN (hR) (by omega)
        refine b_ne (tgt := 88) hx hb dX7_reference_81 (by decide) (fun c81 => ?_) (fun c81 => ?_)
        · refine lv_iconst (v := 0) hx hb dX7_reference_88 (by decide) (ti_c 0 (by decide) fun z118 hz118 => ?_)
          exact J89 ls H locs kd16 ig47 rg18 lg19 z118 (lv_sub hl [1, 2, 3, 5] rfl) hw hI hN (hR) (by omega)
        · refine lv_iconst (v := 1) hx hb dX7_reference_84 (by decide) (ti_c 1 (by decide) fun z119 hz119 => ?_)
          refine lv_goto (tgt := 89) hx hb dX7_reference_85 (by decide) ?_
          exact J89 ls H locs kd16 ig47 rg18 lg19 z119 (lv_sub hl [1, 2, 3, 5] rfl) hw hI hN (hR) (by omega)
      · refine lv_aload_n hx hb dX7_reference_56 rfl (lv_at hl 3 rfl) ?_
        refine lv_iload hx hb dX7_reference_57 (lv_at hl 0 rfl) ?_
        refine r_callV (As := [.int z43]) (rest := []) C hw (t_X7_wrong l B D cA kd16 ig21 rg18 lg19 _ z43 N h ad22 hR (by omega) hI) sv_X7_61 (hsh 1 _ rfl) rfl hl.1 rfl (Nat.le_of_ble_eq_true rfl) ⟨Nat.le_of_ble_eq_true rfl, Nat.le_of_ble_eq_true rfl⟩ ⟨Nat.le_of_ble_eq_true rfl, Nat.le_of_ble_eq_true rfl⟩ dX7_reference_59 (fun r124 kd120 ig121 rg122 lg123 H locs hw hH hp125 => ?_)
        obtain ⟨hI, hchp125, hrhp125⟩ := hp125
        have hN := hN.tr hchp125
        have hsh := hI.sh
        have hrs := hI.rs
        obtain ⟨z126, rfl, hz126⟩ := hrhp125
        obtain ⟨wz, w8⟩ := hz126
        refine lv_pop hx hb dX7_reference_62 rfl ?_
        refine lv_iconst (v := (-1)) hx hb dX7_reference_63 (by decide) (ti_c (-1) (by decide) fun z127 hz127 => ?_)
        exact r_iret C hw hr hlk rfl (Nat.le_of_ble_eq_true rfl) (Nat.le_of_ble_eq_true rfl) dX7_reference_64 ⟨hI, hN, ⟨_, rfl, ⟨fw (tS τ) z43.toInt ad22, 0, 0, 0, pRef.cF dlad22 (by omega), Or.inr ⟨hR.fw_ne (by omega), by omega, w8⟩⟩⟩⟩
    refine z_eq (tgt := 28) hx hb dX7_reference_21 (by decide) (fun c21 => ?_) (fun c21 => ?_)
    · refine lv_iconst (v := 0) hx hb dX7_reference_28 (by decide) (ti_c 0 (by decide) fun z128 hz128 => ?_)
      exact J29 ls H locs kd10 ig11 rg12 lg13 z128 (lv_sub hl [0, 1, 2, 3] rfl) hw hI hN (hR) (by omega)
    · refine lv_iconst (v := 1) hx hb dX7_reference_24 (by decide) (ti_c 1 (by decide) fun z129 hz129 => ?_)
      refine lv_goto (tgt := 29) hx hb dX7_reference_25 (by decide) ?_
      exact J29 ls H locs kd10 ig11 rg12 lg13 z129 (lv_sub hl [0, 1, 2, 3] rfl) hw hI hN (hR) (by omega)
  refine b_ne (tgt := 13) hx hb dX7_reference_6 (by decide) (fun c6 => ?_) (fun c6 => ?_)
  · refine lv_iconst (v := 0) hx hb dX7_reference_13 (by decide) (ti_c 0 (by decide) fun z130 hz130 => ?_)
    exact J14 ls H locs kd ig rg lg z130 (lv_sub hl [0, 1, 2] rfl) hw hI hN (hR) (by omega)
  · refine lv_iconst (v := 1) hx hb dX7_reference_9 (by decide) (ti_c 1 (by decide) fun z131 hz131 => ?_)
    refine lv_goto (tgt := 14) hx hb dX7_reference_10 (by decide) ?_
    exact J14 ls H locs kd ig rg lg z131 (lv_sub hl [0, 1, 2] rfl) hw hI hN (hR) (by omega)

set_option maxHeartbeats 4000000 in
set_option maxRecDepth 100000 in
theorem t_X7_single {τ : Tp} (l : Launch) (B : Nat) (D : va_G) (cA : Nat → ClassId) (kd : sK) (ig : sI) (rg : sR) (lg : sG) (sz : Nat) (N h a : Nat) (hR : RZ B τ N h a ig) (hI : IC τ B kd ig rg) : MC l B D cA yX7_single cX7_single 2 (some .boolean) (rL 2 0 0) [.ref (B + 1)] kd ig rg lg sz (PI 1022 τ B none kd ig rg lg (fun r kd' ig' rg' lg' => ∃ z : Int32, r = some (.int z) ∧ RB B τ N h ig' ((fun f a' => ∃ c r, pRef (tK τ) (tV τ) (tS τ) 0 0 a f a' c r)) z)) := by
  refine MC.of (own := RX7) (by decide +kernel) rfl (Nat.le_of_ble_eq_true rfl) ?_
  intro p e s m args below meth c ls C hr hlk hnm hw hsz hl
  have hx := C.1.1
  have hb := C.1.2.1
  have hown := C.1.2.2.2.1
  have hts := C.1.2.2.2.2
  have hl : lv_has ls 2 [(0, .ref (B + 1))] := hl
  have hN : Nx 1022 B none kd ig rg lg kd ig rg lg := Nx.rf
  have hsh := hI.sh
  have hrs := hI.rs
  refine lv_aload_n hx hb dX7_single_0 rfl (lv_at hl 0 rfl) ?_
  refine lv_iconst (v := 0) hx hb dX7_single_1 (by decide) (ti_c 0 (by decide) fun z1 hz1 => ?_)
  refine lv_iconst (v := 0) hx hb dX7_single_2 (by decide) (ti_c 0 (by decide) fun z2 hz2 => ?_)
  refine r_callV (As := [.int z1, .int z2]) (rest := []) C hw (t_X7_reference l B D cA kd ig rg lg _ z1 z2 N h a hR hI) sv_X7_140 (hsh 1 _ rfl) rfl hl.1 rfl (Nat.le_of_ble_eq_true rfl) ⟨Nat.le_of_ble_eq_true rfl, Nat.le_of_ble_eq_true rfl⟩ ⟨Nat.le_of_ble_eq_true rfl, Nat.le_of_ble_eq_true rfl⟩ dX7_single_3 (fun r7 kd3 ig4 rg5 lg6 H locs hw hH hp8 => ?_)
  obtain ⟨hI, hchp8, hrhp8⟩ := hp8
  have hN := hN.tr hchp8
  have hsh := hI.sh
  have hrs := hI.rs
  obtain ⟨z9, rfl, hz9⟩ := hrhp8
  have rf := hz9
  rw [hz1, hz2] at rf
  refine lv_istore_n (lv' := [(1, .int z9), (0, .ref (B + 1))]) hx hb dX7_single_6 rfl hl (by decide) rfl (fun ls hl => ?_)
  refine lv_iload_n hx hb dX7_single_7 rfl (lv_at hl 0 rfl) ?_
  refine lv_iconst (v := (-1)) hx hb dX7_single_8 (by decide) (ti_c (-1) (by decide) fun z10 hz10 => ?_)
  refine b_ne (tgt := 14) hx hb dX7_single_9 (by decide) (fun c9 => ?_) (fun c9 => ?_)
  · obtain ⟨a9, c9, r9, p9, -, -, hR⟩ := RF.yes rf (by omega)
    refine lv_aload_n hx hb dX7_single_14 rfl (lv_at hl 1 rfl) ?_
    refine lv_iconst (v := 1) hx hb dX7_single_15 (by decide) (ti_c 1 (by decide) fun z11 hz11 => ?_)
    refine lv_iload_n hx hb dX7_single_16 rfl (lv_at hl 0 rfl) ?_
    refine lv_iload_n hx hb dX7_single_17 rfl (lv_at hl 0 rfl) ?_
    refine r_callV (As := [.int z11, .int z9, .int z9]) (rest := []) C hw (t_X7_add l B D cA kd3 ig4 rg5 lg6 _ z11 z9 z9  hI) sv_X7_112 (hsh 1 _ rfl) rfl hl.1 rfl (Nat.le_of_ble_eq_true rfl) ⟨Nat.le_of_ble_eq_true rfl, Nat.le_of_ble_eq_true rfl⟩ ⟨Nat.le_of_ble_eq_true rfl, Nat.le_of_ble_eq_true rfl⟩ dX7_single_18 (fun r16 kd12 ig13 rg14 lg15 H locs hw hH hp17 => ?_)
    obtain ⟨hI, hchp17, hrhp17⟩ := hp17
    have hN := hN.tr hchp17
    have hsh := hI.sh
    have hrs := hI.rs
    obtain ⟨rfl, hvhp17⟩ := hrhp17
    have hR : RZ B τ N h a9 ig13 := hvhp17 τ N h a9 hR
    obtain ⟨⟨hN0, h6⟩, ⟨h2, hh⟩, h7, haN⟩ := hR.nums
    refine lv_iconst (v := 1) hx hb dX7_single_21 (by decide) (ti_c 1 (by decide) fun z18 hz18 => ?_)
    exact r_iret C hw hr hlk (nar_b (by omega)) (Nat.le_of_ble_eq_true rfl) (Nat.le_of_ble_eq_true rfl) dX7_single_22 ⟨hI, hN, ⟨_, rfl, RB.mk ⟨c9, r9, p9⟩ hR (by omega)⟩⟩
  · obtain ⟨f9, a9, c9, r9, hf9, p9, h89⟩ := RF.no rf (by omega)
    refine lv_iconst (v := 0) hx hb dX7_single_12 (by decide) (ti_c 0 (by decide) fun z19 hz19 => ?_)
    exact r_iret C hw hr hlk (nar_b (by omega)) (Nat.le_of_ble_eq_true rfl) (Nat.le_of_ble_eq_true rfl) dX7_single_13 ⟨hI, hN, ⟨_, rfl, RB.mkf ⟨c9, r9, p9⟩ hf9 h89 (by omega)⟩⟩

set_option maxHeartbeats 4000000 in
set_option maxRecDepth 100000 in
theorem t_X7_span {τ : Tp} (l : Launch) (B : Nat) (D : va_G) (cA : Nat → ClassId) (kd : sK) (ig : sI) (rg : sR) (lg : sG) (sz : Nat) (N h a : Nat) (hR : RZ B τ N h a ig) (hk : tK τ a ≠ 0) (hI : IC τ B kd ig rg) : MC l B D cA yX7_span cX7_span 3 (some .boolean) (rL 2 0 0) [.ref (B + 1)] kd ig rg lg sz (PI 1022 τ B none kd ig rg lg (fun r kd' ig' rg' lg' => ∃ z : Int32, r = some (.int z) ∧ RB B τ N h ig' (pSpan (tK τ) (tV τ) (tS τ) (a + 1)) z)) := by
  refine MC.of (own := RX7) (by decide +kernel) rfl (Nat.le_of_ble_eq_true rfl) ?_
  intro p e s m args below meth c ls C hr hlk hnm hw hsz hl
  have hx := C.1.1
  have hb := C.1.2.1
  have hown := C.1.2.2.2.1
  have hts := C.1.2.2.2.2
  have hl : lv_has ls 3 [(0, .ref (B + 1))] := hl
  have hN : Nx 1022 B none kd ig rg lg kd ig rg lg := Nx.rf
  have hsh := hI.sh
  have hrs := hI.rs
  obtain ⟨⟨hN0, h6⟩, ⟨h2, hh⟩, h7, haN⟩ := hR.nums
  refine lv_aload_n hx hb dX7_span_0 rfl (lv_at hl 0 rfl) ?_
  refine lv_dup hx hb dX7_span_1 rfl ?_
  refine r_get C hw (hsh 1 _ rfl) fl_X7_50 (oV_i rfl) dX7_span_2 (ti_c (ig (B + 1) 7).toInt rfl fun z1 hz1 => ?_)
  refine lv_iconst (v := 1) hx hb dX7_span_5 (by decide) (ti_c 1 (by decide) fun z2 hz2 => ?_)
  refine lv_iadd hx hb dX7_span_6 (tc_add fun z3 hz3 => ?_)
  first | replace hz3 := hz3 (by omega) | clear hz3
  refine r_puti C hw (hsh 1 _ rfl) fl_X7_50 rfl rfl rfl dX7_span_7 (fun H locs hH hw => ?_)
  obtain ⟨ig4, eig4⟩ : ∃ f, f = up2 ig (B + 1) 7 z3 := ⟨_, rfl⟩
  rw [← eig4] at hw
  have hN : Nx 1022 B none kd ig rg lg kd ig4 rg lg := by rw [eig4]; exact hN.pi (by omega)
  have hI : IC τ B kd ig4 rg := by rw [eig4]; exact hI.pi (show okR none _ from trivial)
  have hlt := hR.lt (show tK τ a ≠ 0 from hk)
  have hR : RZ B τ N h (a + 1) ig4 := by rw [eig4]; exact hR.nx (by omega) (by omega)
  obtain ⟨⟨hN0, h6⟩, ⟨h2, hh⟩, h7, haN⟩ := hR.nums
  refine lv_aload_n hx hb dX7_span_10 rfl (lv_at hl 0 rfl) ?_
  refine lv_bipush (v := 40) hx hb dX7_span_11 (by decide) (ti_c 40 (by decide) fun z5 hz5 => ?_)
  refine r_callV (As := [.int z5]) (rest := []) C hw (t_X7_take l B D cA kd ig4 rg lg _ z5 N h (a + 1) hR (by omega) hI) sv_X7_137 (hsh 1 _ rfl) rfl hl.1 rfl (Nat.le_of_ble_eq_true rfl) ⟨Nat.le_of_ble_eq_true rfl, Nat.le_of_ble_eq_true rfl⟩ ⟨Nat.le_of_ble_eq_true rfl, Nat.le_of_ble_eq_true rfl⟩ dX7_span_13 (fun r10 kd6 ig7 rg8 lg9 H locs hw hH hp11 => ?_)
  obtain ⟨hI, hchp11, hrhp11⟩ := hp11
  have hN := hN.tr hchp11
  have hsh := hI.sh
  have hrs := hI.rs
  obtain ⟨z12, rfl, hz12⟩ := hrhp11
  have bz12 := RB.bz hz12
  have rb1 := hz12
  rw [hz5] at rb1
  refine z_ne (tgt := 21) hx hb dX7_span_16 (by decide) (fun c16 => ?_) (fun c16 => ?_)
  · obtain ⟨a9, p9, hR⟩ := RB.yes rb1 (by omega)
    obtain ⟨s1, rfl⟩ := pTk.yes fw_ne p9
    obtain ⟨⟨hN0, h6⟩, ⟨h2, hh⟩, h7, haN⟩ := hR.nums
    refine lv_aload_n hx hb dX7_span_21 rfl (lv_at hl 0 rfl) ?_
    refine lv_iconst (v := 0) hx hb dX7_span_22 (by decide) (ti_c 0 (by decide) fun z13 hz13 => ?_)
    refine lv_iconst (v := 0) hx hb dX7_span_23 (by decide) (ti_c 0 (by decide) fun z14 hz14 => ?_)
    refine r_callV (As := [.int z13, .int z14]) (rest := []) C hw (t_X7_reference l B D cA kd6 ig7 rg8 lg9 _ z13 z14 N h (a + 1 + 1) hR hI) sv_X7_140 (hsh 1 _ rfl) rfl hl.1 rfl (Nat.le_of_ble_eq_true rfl) ⟨Nat.le_of_ble_eq_true rfl, Nat.le_of_ble_eq_true rfl⟩ ⟨Nat.le_of_ble_eq_true rfl, Nat.le_of_ble_eq_true rfl⟩ dX7_span_24 (fun r19 kd15 ig16 rg17 lg18 H locs hw hH hp20 => ?_)
    obtain ⟨hI, hchp20, hrhp20⟩ := hp20
    have hN := hN.tr hchp20
    have hsh := hI.sh
    have hrs := hI.rs
    obtain ⟨z21, rfl, hz21⟩ := hrhp20
    have rf := hz21
    rw [hz13, hz14] at rf
    refine lv_istore_n (lv' := [(1, .int z21), (0, .ref (B + 1))]) hx hb dX7_span_27 rfl hl (by decide) rfl (fun ls hl => ?_)
    refine lv_iload_n hx hb dX7_span_28 rfl (lv_at hl 0 rfl) ?_
    refine lv_iconst (v := (-1)) hx hb dX7_span_29 (by decide) (ti_c (-1) (by decide) fun z22 hz22 => ?_)
    have J42 : ∀ (ls : Array Slot) (H : Heap) (locs : List Loc) (kd23 : sK) (ig24 : sI) (rg25 : sR) (lg26 : sG) , lv_has ls 3 [] → WD B D cA s.heap kd23 ig24 rg25 lg26 H locs → IC τ B kd23 ig24 rg25 → Nx 1022 B none kd ig rg lg kd23 ig24 rg25 lg26 → (∃ f a9, f ≠ 0 ∧ pSpan (tK τ) (tV τ) (tS τ) (a + 1) f a9 ∧ (ig24 (B + 1) 8).toInt = f) → W p l e (rL 2 0 0) s m args below meth c H locs 0 0 (MQ below (QcW B D cA (PI 1022 τ B none kd ig rg lg (fun r kd' ig' rg' lg' => ∃ z : Int32, r = some (.int z) ∧ RB B τ N h ig' (pSpan (tK τ) (tV τ) (tS τ) (a + 1)) z))) args s 0 0 (fun q => B ≤ q)) (F0 m 42 ls []) := by
      intro ls H locs kd23 ig24 rg25 lg26 hl hw hI hN g42_0
      have hsh := hI.sh
      have hrs := hI.rs
      obtain ⟨f9, a9, hf9, p9, h89⟩ := g42_0
      refine lv_iconst (v := 0) hx hb dX7_span_42 (by decide) (ti_c 0 (by decide) fun z27 hz27 => ?_)
      exact r_iret C hw hr hlk (nar_b (by omega)) (Nat.le_of_ble_eq_true rfl) (Nat.le_of_ble_eq_true rfl) dX7_span_43 ⟨hI, hN, ⟨_, rfl, RB.mkf p9 hf9 h89 (by omega)⟩⟩
    refine b_eq (tgt := 42) hx hb dX7_span_30 (by decide) (fun c30 => ?_) (fun c30 => ?_)
    · exact J42 ls H locs kd15 ig16 rg17 lg18 (lv_sub hl [] rfl) hw hI hN ((by obtain ⟨f9, a9, c9, r9, hf9, p9, h89⟩ := RF.no rf (by omega); exact ⟨f9, 0, hf9, Or.inr ⟨s1, f9, a9, c9, r9, p9, Or.inl ⟨hf9, rfl⟩⟩, h89⟩))
    · obtain ⟨a1, c1, r1, p1, q1, bq1, hR⟩ := RF.yes rf (by omega)
      obtain ⟨⟨hN0, h6⟩, ⟨h2, hh⟩, h7, haN⟩ := hR.nums
      refine lv_aload_n hx hb dX7_span_33 rfl (lv_at hl 1 rfl) ?_
      refine lv_bipush (v := 58) hx hb dX7_span_34 (by decide) (ti_c 58 (by decide) fun z28 hz28 => ?_)
      refine r_callV (As := [.int z28]) (rest := []) C hw (t_X7_take l B D cA kd15 ig16 rg17 lg18 _ z28 N h a1 hR (by omega) hI) sv_X7_137 (hsh 1 _ rfl) rfl hl.1 rfl (Nat.le_of_ble_eq_true rfl) ⟨Nat.le_of_ble_eq_true rfl, Nat.le_of_ble_eq_true rfl⟩ ⟨Nat.le_of_ble_eq_true rfl, Nat.le_of_ble_eq_true rfl⟩ dX7_span_36 (fun r33 kd29 ig30 rg31 lg32 H locs hw hH hp34 => ?_)
      obtain ⟨hI, hchp34, hrhp34⟩ := hp34
      have hN := hN.tr hchp34
      have hsh := hI.sh
      have hrs := hI.rs
      obtain ⟨z35, rfl, hz35⟩ := hrhp34
      have bz35 := RB.bz hz35
      have rb2 := hz35
      rw [hz28] at rb2
      refine z_ne (tgt := 44) hx hb dX7_span_39 (by decide) (fun c39 => ?_) (fun c39 => ?_)
      · obtain ⟨a9, p9, hR⟩ := RB.yes rb2 (by omega)
        obtain ⟨s2, rfl⟩ := pTk.yes fw_ne p9
        obtain ⟨⟨hN0, h6⟩, ⟨h2, hh⟩, h7, haN⟩ := hR.nums
        refine lv_aload_n hx hb dX7_span_44 rfl (lv_at hl 1 rfl) ?_
        refine lv_iload_n hx hb dX7_span_45 rfl (lv_at hl 0 rfl) ?_
        refine lv_aload_n hx hb dX7_span_46 rfl (lv_at hl 1 rfl) ?_
        refine r_get C hw (hsh 1 _ rfl) fl_X7_38 (oV_i rfl) dX7_span_47 (ti_c (ig30 (B + 1) 2).toInt rfl fun z36 hz36 => ?_)
        refine r_callS (As := [.int z21, .int z36]) (rest := [.ref (B + 1)]) C hw (t_X4_columnOfE l B D cA kd29 ig30 rg31 lg32 _ z21 z36 (by omega) (by omega) hI) ss_X7_143 rfl hl.1 rfl (Nat.le_of_ble_eq_true rfl) ⟨Nat.le_of_ble_eq_true rfl, Nat.le_of_ble_eq_true rfl⟩ ⟨Nat.le_of_ble_eq_true rfl, Nat.le_of_ble_eq_true rfl⟩ dX7_span_50 (fun r41 kd37 ig38 rg39 lg40 H locs hw hH hp42 => ?_)
        obtain ⟨rfl, rfl, rfl, rfl, hzhp42, hrhp42⟩ := hp42
        obtain ⟨z43, rfl, hz43⟩ := hrhp42
        refine lv_iload_n hx hb dX7_span_53 rfl (lv_at hl 0 rfl) ?_
        refine lv_aload_n hx hb dX7_span_54 rfl (lv_at hl 1 rfl) ?_
        refine r_get C hw (hsh 1 _ rfl) fl_X7_38 (oV_i rfl) dX7_span_55 (ti_c (ig30 (B + 1) 2).toInt rfl fun z44 hz44 => ?_)
        refine r_callS (As := [.int z21, .int z44]) (rest := [.int z43, .ref (B + 1)]) C hw (t_X4_rowOfE l B D cA kd29 ig30 rg31 lg32 _ z21 z44 (by omega) (by omega) hI) ss_X7_146 rfl hl.1 rfl (Nat.le_of_ble_eq_true rfl) ⟨Nat.le_of_ble_eq_true rfl, Nat.le_of_ble_eq_true rfl⟩ ⟨Nat.le_of_ble_eq_true rfl, Nat.le_of_ble_eq_true rfl⟩ dX7_span_58 (fun r49 kd45 ig46 rg47 lg48 H locs hw hH hp50 => ?_)
        obtain ⟨rfl, rfl, rfl, rfl, hzhp50, hrhp50⟩ := hp50
        obtain ⟨z51, rfl, hz51⟩ := hrhp50
        have ec : z43.toInt = c1 := by rw [hz43, show z36.toInt = (h : Int) by omega]; exact q1.2.1
        have er : z51.toInt = r1 := by rw [hz51, show z44.toInt = (h : Int) by omega]; exact q1.2.2
        refine r_callV (As := [.int z43, .int z51]) (rest := []) C hw (t_X7_reference l B D cA kd29 ig30 rg31 lg32 _ z43 z51 N h (a1 + 1) hR hI) sv_X7_140 (hsh 1 _ rfl) rfl hl.1 rfl (Nat.le_of_ble_eq_true rfl) ⟨Nat.le_of_ble_eq_true rfl, Nat.le_of_ble_eq_true rfl⟩ ⟨Nat.le_of_ble_eq_true rfl, Nat.le_of_ble_eq_true rfl⟩ dX7_span_61 (fun r56 kd52 ig53 rg54 lg55 H locs hw hH hp57 => ?_)
        obtain ⟨hI, hchp57, hrhp57⟩ := hp57
        have hN := hN.tr hchp57
        have hsh := hI.sh
        have hrs := hI.rs
        obtain ⟨z58, rfl, hz58⟩ := hrhp57
        have rf2 := hz58
        rw [ec, er] at rf2
        refine lv_istore_n (lv' := [(2, .int z58), (1, .int z21), (0, .ref (B + 1))]) hx hb dX7_span_64 rfl hl (by decide) rfl (fun ls hl => ?_)
        refine lv_iload_n hx hb dX7_span_65 rfl (lv_at hl 0 rfl) ?_
        refine lv_iconst (v := (-1)) hx hb dX7_span_66 (by decide) (ti_c (-1) (by decide) fun z59 hz59 => ?_)
        have J79 : ∀ (ls : Array Slot) (H : Heap) (locs : List Loc) (kd60 : sK) (ig61 : sI) (rg62 : sR) (lg63 : sG) , lv_has ls 3 [] → WD B D cA s.heap kd60 ig61 rg62 lg63 H locs → IC τ B kd60 ig61 rg62 → Nx 1022 B none kd ig rg lg kd60 ig61 rg62 lg63 → (∃ f a9, f ≠ 0 ∧ pSpan (tK τ) (tV τ) (tS τ) (a + 1) f a9 ∧ (ig61 (B + 1) 8).toInt = f) → W p l e (rL 2 0 0) s m args below meth c H locs 0 0 (MQ below (QcW B D cA (PI 1022 τ B none kd ig rg lg (fun r kd' ig' rg' lg' => ∃ z : Int32, r = some (.int z) ∧ RB B τ N h ig' (pSpan (tK τ) (tV τ) (tS τ) (a + 1)) z))) args s 0 0 (fun q => B ≤ q)) (F0 m 79 ls []) := by
          intro ls H locs kd60 ig61 rg62 lg63 hl hw hI hN g79_0
          have hsh := hI.sh
          have hrs := hI.rs
          obtain ⟨f9, a9, hf9, p9, h89⟩ := g79_0
          refine lv_iconst (v := 0) hx hb dX7_span_79 (by decide) (ti_c 0 (by decide) fun z64 hz64 => ?_)
          exact r_iret C hw hr hlk (nar_b (by omega)) (Nat.le_of_ble_eq_true rfl) (Nat.le_of_ble_eq_true rfl) dX7_span_80 ⟨hI, hN, ⟨_, rfl, RB.mkf p9 hf9 h89 (by omega)⟩⟩
        refine b_eq (tgt := 79) hx hb dX7_span_67 (by decide) (fun c67 => ?_) (fun c67 => ?_)
        · exact J79 ls H locs kd52 ig53 rg54 lg55 (lv_sub hl [] rfl) hw hI hN ((by obtain ⟨f9, a9, c9, r9, hf9, p9, h89⟩ := RF.no rf2 (by omega); exact ⟨f9, 0, hf9, Or.inr ⟨s1, 0, a1, c1, r1, p1, Or.inr (Or.inr ⟨rfl, s2, f9, a9, c9, r9, p9, Or.inl ⟨hf9, rfl⟩⟩)⟩, h89⟩))
        · obtain ⟨a2, c2, r2, p2, -, -, hR⟩ := RF.yes rf2 (by omega)
          obtain ⟨⟨hN0, h6⟩, ⟨h2, hh⟩, h7, haN⟩ := hR.nums
          refine lv_aload_n hx hb dX7_span_70 rfl (lv_at hl 2 rfl) ?_
          refine lv_bipush (v := 41) hx hb dX7_span_71 (by decide) (ti_c 41 (by decide) fun z65 hz65 => ?_)
          refine r_callV (As := [.int z65]) (rest := []) C hw (t_X7_take l B D cA kd52 ig53 rg54 lg55 _ z65 N h a2 hR (by omega) hI) sv_X7_137 (hsh 1 _ rfl) rfl hl.1 rfl (Nat.le_of_ble_eq_true rfl) ⟨Nat.le_of_ble_eq_true rfl, Nat.le_of_ble_eq_true rfl⟩ ⟨Nat.le_of_ble_eq_true rfl, Nat.le_of_ble_eq_true rfl⟩ dX7_span_73 (fun r70 kd66 ig67 rg68 lg69 H locs hw hH hp71 => ?_)
          obtain ⟨hI, hchp71, hrhp71⟩ := hp71
          have hN := hN.tr hchp71
          have hsh := hI.sh
          have hrs := hI.rs
          obtain ⟨z72, rfl, hz72⟩ := hrhp71
          have bz72 := RB.bz hz72
          have rb3 := hz72
          rw [hz65] at rb3
          refine z_ne (tgt := 81) hx hb dX7_span_76 (by decide) (fun c76 => ?_) (fun c76 => ?_)
          · obtain ⟨a9, p9, hR⟩ := RB.yes rb3 (by omega)
            obtain ⟨⟨hN0, h6⟩, ⟨h2, hh⟩, h7, haN⟩ := hR.nums
            refine lv_aload_n hx hb dX7_span_81 rfl (lv_at hl 2 rfl) ?_
            refine lv_iconst (v := 2) hx hb dX7_span_82 (by decide) (ti_c 2 (by decide) fun z73 hz73 => ?_)
            refine lv_iload_n hx hb dX7_span_83 rfl (lv_at hl 1 rfl) ?_
            refine lv_iload_n hx hb dX7_span_84 rfl (lv_at hl 0 rfl) ?_
            refine r_callV (As := [.int z73, .int z21, .int z58]) (rest := []) C hw (t_X7_add l B D cA kd66 ig67 rg68 lg69 _ z73 z21 z58  hI) sv_X7_112 (hsh 1 _ rfl) rfl hl.1 rfl (Nat.le_of_ble_eq_true rfl) ⟨Nat.le_of_ble_eq_true rfl, Nat.le_of_ble_eq_true rfl⟩ ⟨Nat.le_of_ble_eq_true rfl, Nat.le_of_ble_eq_true rfl⟩ dX7_span_85 (fun r78 kd74 ig75 rg76 lg77 H locs hw hH hp79 => ?_)
            obtain ⟨hI, hchp79, hrhp79⟩ := hp79
            have hN := hN.tr hchp79
            have hsh := hI.sh
            have hrs := hI.rs
            obtain ⟨rfl, hvhp79⟩ := hrhp79
            have hR : RZ B τ N h a9 ig75 := hvhp79 τ N h a9 hR
            obtain ⟨⟨hN0, h6⟩, ⟨h2, hh⟩, h7, haN⟩ := hR.nums
            refine lv_iconst (v := 1) hx hb dX7_span_88 (by decide) (ti_c 1 (by decide) fun z80 hz80 => ?_)
            exact r_iret C hw hr hlk (nar_b (by omega)) (Nat.le_of_ble_eq_true rfl) (Nat.le_of_ble_eq_true rfl) dX7_span_89 ⟨hI, hN, ⟨_, rfl, RB.mk (Or.inr ⟨s1, 0, a1, c1, r1, p1, Or.inr (Or.inr ⟨rfl, s2, 0, a2, c2, r2, p2, Or.inr ⟨rfl, p9⟩⟩)⟩) hR (by omega)⟩⟩
          · exact J79 ls H locs kd66 ig67 rg68 lg69 (lv_sub hl [] rfl) hw hI hN ((by obtain ⟨f9, a9, hf9, p9, h89⟩ := RB.no rb3 (by omega); exact ⟨f9, a9, hf9, Or.inr ⟨s1, 0, a1, c1, r1, p1, Or.inr (Or.inr ⟨rfl, s2, 0, a2, c2, r2, p2, Or.inr ⟨rfl, p9⟩⟩)⟩, h89⟩))
      · exact J42 ls H locs kd29 ig30 rg31 lg32 (lv_sub hl [] rfl) hw hI hN ((by obtain ⟨f9, a9, hf9, p9, h89⟩ := RB.no rb2 (by omega); exact ⟨f9, 0, hf9, Or.inr ⟨s1, 0, a1, c1, r1, p1, Or.inr (Or.inl ⟨rfl, (pTk.no p9 hf9).1, (pTk.no p9 hf9).2⟩)⟩, h89⟩))
  · obtain ⟨f9, a9, hf9, p9, h89⟩ := RB.no rb1 (by omega)
    refine lv_iconst (v := 0) hx hb dX7_span_19 (by decide) (ti_c 0 (by decide) fun z81 hz81 => ?_)
    exact r_iret C hw hr hlk (nar_b (by omega)) (Nat.le_of_ble_eq_true rfl) (Nat.le_of_ble_eq_true rfl) dX7_span_20 ⟨hI, hN, ⟨_, rfl, RB.mkf (a' := 0) (Or.inl (pTk.no p9 hf9)) hf9 h89 (by omega)⟩⟩


def RPart (τ : Tp) (l : Launch) (B : Nat) (D : va_G) (cA : Nat → ClassId) (k : Nat) : Prop := ∀ (kd : sK) (ig : sI) (rg : sR) (lg : sG) (sz : Nat) (x : Int32) (N h a : Nat), RZ B τ N h a ig → x.toInt = 8 - (k : Int) → IC τ B kd ig rg → MC l B D cA yX7_part cX7_part 2 (some .boolean) (rL (4 * k + 9) 0 0) [.ref (B + 1), .int x] kd ig rg lg sz (PI 1022 τ B none kd ig rg lg (fun r kd' ig' rg' lg' => ∃ z : Int32, r = some (.int z) ∧ RB B τ N h ig' (pPart (tK τ) (tV τ) (tS τ) k a) z))
def RProd (τ : Tp) (l : Launch) (B : Nat) (D : va_G) (cA : Nat → ClassId) (k : Nat) : Prop := ∀ (kd : sK) (ig : sI) (rg : sR) (lg : sG) (sz : Nat) (x : Int32) (N h a : Nat), RZ B τ N h a ig → x.toInt = 8 - (k : Int) → IC τ B kd ig rg → MC l B D cA yX7_product cX7_product 4 (some .boolean) (rL (4 * k + 10) 0 0) [.ref (B + 1), .int x] kd ig rg lg sz (PI 1022 τ B none kd ig rg lg (fun r kd' ig' rg' lg' => ∃ z : Int32, r = some (.int z) ∧ RB B τ N h ig' (pProd (tK τ) (tV τ) (tS τ) k a) z))
def RSum (τ : Tp) (l : Launch) (B : Nat) (D : va_G) (cA : Nat → ClassId) (k : Nat) : Prop := ∀ (kd : sK) (ig : sI) (rg : sR) (lg : sG) (sz : Nat) (x : Int32) (N h a : Nat), RZ B τ N h a ig → x.toInt = 8 - (k : Int) → IC τ B kd ig rg → MC l B D cA yX7_sum cX7_sum 4 (some .boolean) (rL (4 * k + 11) 0 0) [.ref (B + 1), .int x] kd ig rg lg sz (PI 1022 τ B none kd ig rg lg (fun r kd' ig' rg' lg' => ∃ z : Int32, r = some (.int z) ∧ RB B τ N h ig' (pE (tK τ) (tV τ) (tS τ) k a) z))

set_option maxHeartbeats 4000000 in
set_option maxRecDepth 100000 in
theorem t_X7_brackets {τ : Tp} (l : Launch) (B : Nat) (D : va_G) (cA : Nat → ClassId) (kd : sK) (ig : sI) (rg : sR) (lg : sG) (sz : Nat) (x : Int32) (N h a : Nat) (hR : RZ B τ N h a ig) (k : Nat) (hS : RSum τ l B D cA k) (hx7 : x.toInt = 7 - (k : Int)) (hk : tK τ a ≠ 0) (hI : IC τ B kd ig rg) : MC l B D cA yX7_brackets cX7_brackets 2 (some .boolean) (rL (4 * k + 12) 0 0) [.ref (B + 1), .int x] kd ig rg lg sz (PI 1022 τ B none kd ig rg lg (fun r kd' ig' rg' lg' => ∃ z : Int32, r = some (.int z) ∧ RB B τ N h ig' ((fun f a' => ∃ f1 a1, pE (tK τ) (tV τ) (tS τ) k (a + 1) f1 a1 ∧ ((f1 ≠ 0 ∧ f = f1) ∨ (f1 = 0 ∧ pTk (tK τ) (tS τ) 41 a1 f a')))) z)) := by
  refine MC.of (own := RX7) (by decide +kernel) rfl (Nat.le_of_ble_eq_true rfl) ?_
  intro p e s m args below meth c ls C hr hlk hnm hw hsz hl
  have hx := C.1.1
  have hb := C.1.2.1
  have hown := C.1.2.2.2.1
  have hts := C.1.2.2.2.2
  have hl : lv_has ls 2 [(0, .ref (B + 1)), (1, .int x)] := hl
  have hN : Nx 1022 B none kd ig rg lg kd ig rg lg := Nx.rf
  have hsh := hI.sh
  have hrs := hI.rs
  obtain ⟨⟨hN0, h6⟩, ⟨h2, hh⟩, h7, haN⟩ := hR.nums
  have bx := i32_bd x
  refine lv_aload_n hx hb dX7_brackets_0 rfl (lv_at hl 0 rfl) ?_
  refine lv_dup hx hb dX7_brackets_1 rfl ?_
  refine r_get C hw (hsh 1 _ rfl) fl_X7_50 (oV_i rfl) dX7_brackets_2 (ti_c (ig (B + 1) 7).toInt rfl fun z1 hz1 => ?_)
  refine lv_iconst (v := 1) hx hb dX7_brackets_5 (by decide) (ti_c 1 (by decide) fun z2 hz2 => ?_)
  refine lv_iadd hx hb dX7_brackets_6 (tc_add fun z3 hz3 => ?_)
  first | replace hz3 := hz3 (by omega) | clear hz3
  refine r_puti C hw (hsh 1 _ rfl) fl_X7_50 rfl rfl rfl dX7_brackets_7 (fun H locs hH hw => ?_)
  obtain ⟨ig4, eig4⟩ : ∃ f, f = up2 ig (B + 1) 7 z3 := ⟨_, rfl⟩
  rw [← eig4] at hw
  have hN : Nx 1022 B none kd ig rg lg kd ig4 rg lg := by rw [eig4]; exact hN.pi (by omega)
  have hI : IC τ B kd ig4 rg := by rw [eig4]; exact hI.pi (show okR none _ from trivial)
  have hlt := hR.lt (show tK τ a ≠ 0 from hk)
  have hR : RZ B τ N h (a + 1) ig4 := by rw [eig4]; exact hR.nx (by omega) (by omega)
  obtain ⟨⟨hN0, h6⟩, ⟨h2, hh⟩, h7, haN⟩ := hR.nums
  refine lv_aload_n hx hb dX7_brackets_10 rfl (lv_at hl 0 rfl) ?_
  refine lv_iload_n hx hb dX7_brackets_11 rfl (lv_at hl 1 rfl) ?_
  refine lv_iconst (v := 1) hx hb dX7_brackets_12 (by decide) (ti_c 1 (by decide) fun z5 hz5 => ?_)
  refine lv_iadd hx hb dX7_brackets_13 (tc_add fun z6 hz6 => ?_)
  first | replace hz6 := hz6 (by omega) | clear hz6
  refine r_callV (As := [.int z6]) (rest := []) C hw (hS kd ig4 rg lg _ z6 N h (a + 1) hR (by omega) hI) sv_X7_53 (hsh 1 _ rfl) rfl hl.1 rfl (Nat.le_of_ble_eq_true rfl) ⟨by simp only [rL]; omega, by simp only [rL]; omega⟩ ⟨Nat.le_of_ble_eq_true rfl, Nat.le_of_ble_eq_true rfl⟩ dX7_brackets_14 (fun r11 kd7 ig8 rg9 lg10 H locs hw hH hp12 => ?_)
  obtain ⟨hI, hchp12, hrhp12⟩ := hp12
  have hN := hN.tr hchp12
  have hsh := hI.sh
  have hrs := hI.rs
  obtain ⟨z13, rfl, hz13⟩ := hrhp12
  have bz13 := RB.bz hz13
  have rb1 := hz13
  have J29 : ∀ (ls : Array Slot) (H : Heap) (locs : List Loc) (kd14 : sK) (ig15 : sI) (rg16 : sR) (lg17 : sG) , lv_has ls 2 [] → WD B D cA s.heap kd14 ig15 rg16 lg17 H locs → IC τ B kd14 ig15 rg16 → Nx 1022 B none kd ig rg lg kd14 ig15 rg16 lg17 → (∃ f a9, f ≠ 0 ∧ (∃ f1 a1, pE (tK τ) (tV τ) (tS τ) k (a + 1) f1 a1 ∧ ((f1 ≠ 0 ∧ f = f1) ∨ (f1 = 0 ∧ pTk (tK τ) (tS τ) 41 a1 f a9))) ∧ (ig15 (B + 1) 8).toInt = f) → W p l e (rL (4 * k + 12) 0 0) s m args below meth c H locs 0 0 (MQ below (QcW B D cA (PI 1022 τ B none kd ig rg lg (fun r kd' ig' rg' lg' => ∃ z : Int32, r = some (.int z) ∧ RB B τ N h ig' ((fun f a' => ∃ f1 a1, pE (tK τ) (tV τ) (tS τ) k (a + 1) f1 a1 ∧ ((f1 ≠ 0 ∧ f = f1) ∨ (f1 = 0 ∧ pTk (tK τ) (tS τ) 41 a1 f a')))) z))) args s 0 0 (fun q => B ≤ q)) (F0 m 29 ls []) := by
    intro ls H locs kd14 ig15 rg16 lg17 hl hw hI hN g29_0
    have hsh := hI.sh
    have hrs := hI.rs
    obtain ⟨f9, a9, hf9, p9, h89⟩ := g29_0
    refine lv_iconst (v := 0) hx hb dX7_brackets_29 (by decide) (ti_c 0 (by decide) fun z18 hz18 => ?_)
    exact r_iret C hw hr hlk (nar_b (by omega)) (Nat.le_of_ble_eq_true rfl) (Nat.le_of_ble_eq_true rfl) dX7_brackets_30 ⟨hI, hN, ⟨_, rfl, RB.mkf p9 hf9 h89 (by omega)⟩⟩
  refine z_eq (tgt := 29) hx hb dX7_brackets_17 (by decide) (fun c17 => ?_) (fun c17 => ?_)
  · exact J29 ls H locs kd7 ig8 rg9 lg10 (lv_sub hl [] rfl) hw hI hN ((by obtain ⟨f9, a9, hf9, p9, h89⟩ := RB.no rb1 (by omega); exact ⟨f9, 0, hf9, ⟨f9, a9, p9, Or.inl ⟨hf9, rfl⟩⟩, h89⟩))
  · obtain ⟨a1, p1, hR⟩ := RB.yes rb1 (by omega)
    obtain ⟨⟨hN0, h6⟩, ⟨h2, hh⟩, h7, haN⟩ := hR.nums
    refine lv_aload_n hx hb dX7_brackets_20 rfl (lv_at hl 0 rfl) ?_
    refine lv_bipush (v := 41) hx hb dX7_brackets_21 (by decide) (ti_c 41 (by decide) fun z19 hz19 => ?_)
    refine r_callV (As := [.int z19]) (rest := []) C hw (t_X7_take l B D cA kd7 ig8 rg9 lg10 _ z19 N h a1 hR (by omega) hI) sv_X7_137 (hsh 1 _ rfl) rfl hl.1 rfl (Nat.le_of_ble_eq_true rfl) ⟨by simp only [rL]; omega, by simp only [rL]; omega⟩ ⟨Nat.le_of_ble_eq_true rfl, Nat.le_of_ble_eq_true rfl⟩ dX7_brackets_23 (fun r24 kd20 ig21 rg22 lg23 H locs hw hH hp25 => ?_)
    obtain ⟨hI, hchp25, hrhp25⟩ := hp25
    have hN := hN.tr hchp25
    have hsh := hI.sh
    have hrs := hI.rs
    obtain ⟨z26, rfl, hz26⟩ := hrhp25
    have bz26 := RB.bz hz26
    have rb2 := hz26
    rw [hz19] at rb2
    refine z_ne (tgt := 31) hx hb dX7_brackets_26 (by decide) (fun c26 => ?_) (fun c26 => ?_)
    · obtain ⟨a9, p9, hR⟩ := RB.yes rb2 (by omega)
      obtain ⟨⟨hN0, h6⟩, ⟨h2, hh⟩, h7, haN⟩ := hR.nums
      refine lv_aload_n hx hb dX7_brackets_31 rfl (lv_at hl 0 rfl) ?_
      refine lv_iconst (v := 3) hx hb dX7_brackets_32 (by decide) (ti_c 3 (by decide) fun z27 hz27 => ?_)
      refine lv_iconst (v := 0) hx hb dX7_brackets_33 (by decide) (ti_c 0 (by decide) fun z28 hz28 => ?_)
      refine lv_iconst (v := 0) hx hb dX7_brackets_34 (by decide) (ti_c 0 (by decide) fun z29 hz29 => ?_)
      refine r_callV (As := [.int z27, .int z28, .int z29]) (rest := []) C hw (t_X7_add l B D cA kd20 ig21 rg22 lg23 _ z27 z28 z29  hI) sv_X7_112 (hsh 1 _ rfl) rfl hl.1 rfl (Nat.le_of_ble_eq_true rfl) ⟨by simp only [rL]; omega, by simp only [rL]; omega⟩ ⟨Nat.le_of_ble_eq_true rfl, Nat.le_of_ble_eq_true rfl⟩ dX7_brackets_35 (fun r34 kd30 ig31 rg32 lg33 H locs hw hH hp35 => ?_)
      obtain ⟨hI, hchp35, hrhp35⟩ := hp35
      have hN := hN.tr hchp35
      have hsh := hI.sh
      have hrs := hI.rs
      obtain ⟨rfl, hvhp35⟩ := hrhp35
      have hR : RZ B τ N h a9 ig31 := hvhp35 τ N h a9 hR
      obtain ⟨⟨hN0, h6⟩, ⟨h2, hh⟩, h7, haN⟩ := hR.nums
      refine lv_iconst (v := 1) hx hb dX7_brackets_38 (by decide) (ti_c 1 (by decide) fun z36 hz36 => ?_)
      exact r_iret C hw hr hlk (nar_b (by omega)) (Nat.le_of_ble_eq_true rfl) (Nat.le_of_ble_eq_true rfl) dX7_brackets_39 ⟨hI, hN, ⟨_, rfl, RB.mk ⟨0, a1, p1, Or.inr ⟨rfl, p9⟩⟩ hR (by omega)⟩⟩
    · exact J29 ls H locs kd20 ig21 rg22 lg23 (lv_sub hl [] rfl) hw hI hN ((by obtain ⟨f9, a9, hf9, p9, h89⟩ := RB.no rb2 (by omega); exact ⟨f9, a9, hf9, ⟨0, a1, p1, Or.inr ⟨rfl, p9⟩⟩, h89⟩))

set_option maxHeartbeats 4000000 in
set_option maxRecDepth 100000 in
theorem t_X7_negated {τ : Tp} (l : Launch) (B : Nat) (D : va_G) (cA : Nat → ClassId) (kd : sK) (ig : sI) (rg : sR) (lg : sG) (sz : Nat) (x : Int32) (N h a : Nat) (hR : RZ B τ N h a ig) (k : Nat) (hP : RPart τ l B D cA k) (hx7 : x.toInt = 7 - (k : Int)) (hk : tK τ a ≠ 0) (hI : IC τ B kd ig rg) : MC l B D cA yX7_negated cX7_negated 2 (some .boolean) (rL (4 * k + 12) 0 0) [.ref (B + 1), .int x] kd ig rg lg sz (PI 1022 τ B none kd ig rg lg (fun r kd' ig' rg' lg' => ∃ z : Int32, r = some (.int z) ∧ RB B τ N h ig' (pPart (tK τ) (tV τ) (tS τ) k (a + 1)) z)) := by
  refine MC.of (own := RX7) (by decide +kernel) rfl (Nat.le_of_ble_eq_true rfl) ?_
  intro p e s m args below meth c ls C hr hlk hnm hw hsz hl
  have hx := C.1.1
  have hb := C.1.2.1
  have hown := C.1.2.2.2.1
  have hts := C.1.2.2.2.2
  have hl : lv_has ls 2 [(0, .ref (B + 1)), (1, .int x)] := hl
  have hN : Nx 1022 B none kd ig rg lg kd ig rg lg := Nx.rf
  have hsh := hI.sh
  have hrs := hI.rs
  obtain ⟨⟨hN0, h6⟩, ⟨h2, hh⟩, h7, haN⟩ := hR.nums
  have bx := i32_bd x
  refine lv_aload_n hx hb dX7_negated_0 rfl (lv_at hl 0 rfl) ?_
  refine lv_dup hx hb dX7_negated_1 rfl ?_
  refine r_get C hw (hsh 1 _ rfl) fl_X7_50 (oV_i rfl) dX7_negated_2 (ti_c (ig (B + 1) 7).toInt rfl fun z1 hz1 => ?_)
  refine lv_iconst (v := 1) hx hb dX7_negated_5 (by decide) (ti_c 1 (by decide) fun z2 hz2 => ?_)
  refine lv_iadd hx hb dX7_negated_6 (tc_add fun z3 hz3 => ?_)
  first | replace hz3 := hz3 (by omega) | clear hz3
  refine r_puti C hw (hsh 1 _ rfl) fl_X7_50 rfl rfl rfl dX7_negated_7 (fun H locs hH hw => ?_)
  obtain ⟨ig4, eig4⟩ : ∃ f, f = up2 ig (B + 1) 7 z3 := ⟨_, rfl⟩
  rw [← eig4] at hw
  have hN : Nx 1022 B none kd ig rg lg kd ig4 rg lg := by rw [eig4]; exact hN.pi (by omega)
  have hI : IC τ B kd ig4 rg := by rw [eig4]; exact hI.pi (show okR none _ from trivial)
  have hlt := hR.lt (show tK τ a ≠ 0 from hk)
  have hR : RZ B τ N h (a + 1) ig4 := by rw [eig4]; exact hR.nx (by omega) (by omega)
  obtain ⟨⟨hN0, h6⟩, ⟨h2, hh⟩, h7, haN⟩ := hR.nums
  refine lv_aload_n hx hb dX7_negated_10 rfl (lv_at hl 0 rfl) ?_
  refine lv_iload_n hx hb dX7_negated_11 rfl (lv_at hl 1 rfl) ?_
  refine lv_iconst (v := 1) hx hb dX7_negated_12 (by decide) (ti_c 1 (by decide) fun z5 hz5 => ?_)
  refine lv_iadd hx hb dX7_negated_13 (tc_add fun z6 hz6 => ?_)
  first | replace hz6 := hz6 (by omega) | clear hz6
  refine r_callV (As := [.int z6]) (rest := []) C hw (hP kd ig4 rg lg _ z6 N h (a + 1) hR (by omega) hI) sv_X7_115 (hsh 1 _ rfl) rfl hl.1 rfl (Nat.le_of_ble_eq_true rfl) ⟨by simp only [rL]; omega, by simp only [rL]; omega⟩ ⟨Nat.le_of_ble_eq_true rfl, Nat.le_of_ble_eq_true rfl⟩ dX7_negated_14 (fun r11 kd7 ig8 rg9 lg10 H locs hw hH hp12 => ?_)
  obtain ⟨hI, hchp12, hrhp12⟩ := hp12
  have hN := hN.tr hchp12
  have hsh := hI.sh
  have hrs := hI.rs
  obtain ⟨z13, rfl, hz13⟩ := hrhp12
  have bz13 := RB.bz hz13
  have rb1 := hz13
  refine z_ne (tgt := 22) hx hb dX7_negated_17 (by decide) (fun c17 => ?_) (fun c17 => ?_)
  · obtain ⟨a9, p9, hR⟩ := RB.yes rb1 (by omega)
    obtain ⟨⟨hN0, h6⟩, ⟨h2, hh⟩, h7, haN⟩ := hR.nums
    refine lv_aload_n hx hb dX7_negated_22 rfl (lv_at hl 0 rfl) ?_
    refine lv_iconst (v := 4) hx hb dX7_negated_23 (by decide) (ti_c 4 (by decide) fun z14 hz14 => ?_)
    refine lv_iconst (v := 0) hx hb dX7_negated_24 (by decide) (ti_c 0 (by decide) fun z15 hz15 => ?_)
    refine lv_iconst (v := 0) hx hb dX7_negated_25 (by decide) (ti_c 0 (by decide) fun z16 hz16 => ?_)
    refine r_callV (As := [.int z14, .int z15, .int z16]) (rest := []) C hw (t_X7_add l B D cA kd7 ig8 rg9 lg10 _ z14 z15 z16  hI) sv_X7_112 (hsh 1 _ rfl) rfl hl.1 rfl (Nat.le_of_ble_eq_true rfl) ⟨by simp only [rL]; omega, by simp only [rL]; omega⟩ ⟨Nat.le_of_ble_eq_true rfl, Nat.le_of_ble_eq_true rfl⟩ dX7_negated_26 (fun r21 kd17 ig18 rg19 lg20 H locs hw hH hp22 => ?_)
    obtain ⟨hI, hchp22, hrhp22⟩ := hp22
    have hN := hN.tr hchp22
    have hsh := hI.sh
    have hrs := hI.rs
    obtain ⟨rfl, hvhp22⟩ := hrhp22
    have hR : RZ B τ N h a9 ig18 := hvhp22 τ N h a9 hR
    obtain ⟨⟨hN0, h6⟩, ⟨h2, hh⟩, h7, haN⟩ := hR.nums
    refine lv_iconst (v := 1) hx hb dX7_negated_29 (by decide) (ti_c 1 (by decide) fun z23 hz23 => ?_)
    exact r_iret C hw hr hlk (nar_b (by omega)) (Nat.le_of_ble_eq_true rfl) (Nat.le_of_ble_eq_true rfl) dX7_negated_30 ⟨hI, hN, ⟨_, rfl, RB.mk p9 hR (by omega)⟩⟩
  · obtain ⟨f9, a9, hf9, p9, h89⟩ := RB.no rb1 (by omega)
    refine lv_iconst (v := 0) hx hb dX7_negated_20 (by decide) (ti_c 0 (by decide) fun z24 hz24 => ?_)
    exact r_iret C hw hr hlk (nar_b (by omega)) (Nat.le_of_ble_eq_true rfl) (Nat.le_of_ble_eq_true rfl) dX7_negated_21 ⟨hI, hN, ⟨_, rfl, RB.mkf p9 hf9 h89 (by omega)⟩⟩

set_option maxHeartbeats 4000000 in
set_option maxRecDepth 100000 in
theorem t_X7_part {τ : Tp} (l : Launch) (B : Nat) (D : va_G) (cA : Nat → ClassId) (kd : sK) (ig : sI) (rg : sR) (lg : sG) (sz : Nat) (x : Int32) (N h a : Nat) (hR : RZ B τ N h a ig) (k : Nat) (hrec : ∀ k1, k = k1 + 1 → RSum τ l B D cA k1 ∧ RPart τ l B D cA k1) (hxk : x.toInt = 8 - (k : Int)) (hI : IC τ B kd ig rg) : MC l B D cA yX7_part cX7_part 2 (some .boolean) (rL (4 * k + 9) 0 0) [.ref (B + 1), .int x] kd ig rg lg sz (PI 1022 τ B none kd ig rg lg (fun r kd' ig' rg' lg' => ∃ z : Int32, r = some (.int z) ∧ RB B τ N h ig' (pPart (tK τ) (tV τ) (tS τ) k a) z)) := by
  refine MC.of (own := RX7) (by decide +kernel) rfl (Nat.le_of_ble_eq_true rfl) ?_
  intro p e s m args below meth c ls C hr hlk hnm hw hsz hl
  have hx := C.1.1
  have hb := C.1.2.1
  have hown := C.1.2.2.2.1
  have hts := C.1.2.2.2.2
  have hl : lv_has ls 2 [(0, .ref (B + 1)), (1, .int x)] := hl
  have hN : Nx 1022 B none kd ig rg lg kd ig rg lg := Nx.rf
  have hsh := hI.sh
  have hrs := hI.rs
  obtain ⟨⟨hN0, h6⟩, ⟨h2, hh⟩, h7, haN⟩ := hR.nums
  refine lv_aload_n hx hb dX7_part_0 rfl (lv_at hl 0 rfl) ?_
  refine r_callV (As := []) (rest := []) C hw (t_X7_startsPart l B D cA kd ig rg lg _  N h a hR hI) sv_X7_118 (hsh 1 _ rfl) rfl hl.1 rfl (Nat.le_of_ble_eq_true rfl) ⟨by simp only [rL]; omega, by simp only [rL]; omega⟩ ⟨Nat.le_of_ble_eq_true rfl, Nat.le_of_ble_eq_true rfl⟩ dX7_part_1 (fun r5 kd1 ig2 rg3 lg4 H locs hw hH hp6 => ?_)
  obtain ⟨rfl, rfl, rfl, rfl, hzhp6, hrhp6⟩ := hp6
  obtain ⟨z7, rfl, hz7⟩ := hrhp6
  have hst := hz7
  refine z_ne (tgt := 13) hx hb dX7_part_4 (by decide) (fun c4 => ?_) (fun c4 => ?_)
  · refine lv_iload_n hx hb dX7_part_13 rfl (lv_at hl 1 rfl) ?_
    refine lv_bipush (v := 8) hx hb dX7_part_14 (by decide) (ti_c 8 (by decide) fun z8 hz8 => ?_)
    refine b_lt (tgt := 25) hx hb dX7_part_16 (by decide) (fun c16 => ?_) (fun c16 => ?_)
    · obtain ⟨k1, hk1⟩ : ∃ k1, k = k1 + 1 := ⟨k - 1, by omega⟩
      obtain ⟨hS, hP⟩ := hrec k1 hk1
      have hsp : sPt (tK τ) (tV τ) a := (by rcases hst with ⟨-, q⟩ | ⟨q, -⟩; exact q; omega)
      simp only [sPt, oCol, sg] at hsp
      refine lv_aload_n hx hb dX7_part_25 rfl (lv_at hl 0 rfl) ?_
      refine r_callV (As := []) (rest := []) C hw (t_X7_kind l B D cA kd ig rg lg _  N h a hR hI) sv_X7_57 (hsh 1 _ rfl) rfl hl.1 rfl (Nat.le_of_ble_eq_true rfl) ⟨by simp only [rL]; omega, by simp only [rL]; omega⟩ ⟨Nat.le_of_ble_eq_true rfl, Nat.le_of_ble_eq_true rfl⟩ dX7_part_26 (fun r13 kd9 ig10 rg11 lg12 H locs hw hH hp14 => ?_)
      obtain ⟨rfl, rfl, rfl, rfl, hzhp14, hrhp14⟩ := hp14
      obtain ⟨z15, rfl, hz15⟩ := hrhp14
      by_cases s29_40 : z15.toInt = 40
      · refine lv_lookup hx hb dX7_part_29 (by decide) (off := 35) (by rw [s29_40]; rfl) (tgt := 64) (by decide) ?_
        refine lv_aload_n hx hb dX7_part_64 rfl (lv_at hl 0 rfl) ?_
        refine lv_iload_n hx hb dX7_part_65 rfl (lv_at hl 1 rfl) ?_
        refine r_callV (As := [.int x]) (rest := []) C hw (t_X7_brackets l B D cA kd ig rg lg _ x N h a hR k1 hS (by omega) (by omega) hI) sv_X7_122 (hsh 1 _ rfl) rfl hl.1 rfl (Nat.le_of_ble_eq_true rfl) ⟨by simp only [rL]; omega, by simp only [rL]; omega⟩ ⟨Nat.le_of_ble_eq_true rfl, Nat.le_of_ble_eq_true rfl⟩ dX7_part_66 (fun r20 kd16 ig17 rg18 lg19 H locs hw hH hp21 => ?_)
        obtain ⟨hI, hchp21, hrhp21⟩ := hp21
        have hN := hN.tr hchp21
        have hsh := hI.sh
        have hrs := hI.rs
        obtain ⟨z22, rfl, hz22⟩ := hrhp21
        have bz22 := RB.bz hz22
        have rb1 := hz22
        exact r_iret C hw hr hlk (nar_b (by omega)) (Nat.le_of_ble_eq_true rfl) (Nat.le_of_ble_eq_true rfl) dX7_part_69 ⟨hI, hN, ⟨_, rfl, rb1.to (fun f a9 p => by rw [hk1]; exact pPart.br (by omega) p)⟩⟩
      by_cases s29_45 : z15.toInt = 45
      · refine lv_lookup hx hb dX7_part_29 (by decide) (off := 41) (by rw [s29_45]; rfl) (tgt := 70) (by decide) ?_
        refine lv_aload_n hx hb dX7_part_70 rfl (lv_at hl 0 rfl) ?_
        refine lv_iload_n hx hb dX7_part_71 rfl (lv_at hl 1 rfl) ?_
        refine r_callV (As := [.int x]) (rest := []) C hw (t_X7_negated l B D cA kd ig rg lg _ x N h a hR k1 hP (by omega) (by omega) hI) sv_X7_125 (hsh 1 _ rfl) rfl hl.1 rfl (Nat.le_of_ble_eq_true rfl) ⟨by simp only [rL]; omega, by simp only [rL]; omega⟩ ⟨Nat.le_of_ble_eq_true rfl, Nat.le_of_ble_eq_true rfl⟩ dX7_part_72 (fun r27 kd23 ig24 rg25 lg26 H locs hw hH hp28 => ?_)
        obtain ⟨hI, hchp28, hrhp28⟩ := hp28
        have hN := hN.tr hchp28
        have hsh := hI.sh
        have hrs := hI.rs
        obtain ⟨z29, rfl, hz29⟩ := hrhp28
        have bz29 := RB.bz hz29
        have rb1 := hz29
        exact r_iret C hw hr hlk (nar_b (by omega)) (Nat.le_of_ble_eq_true rfl) (Nat.le_of_ble_eq_true rfl) dX7_part_75 ⟨hI, hN, ⟨_, rfl, rb1.to (fun f a9 p => by rw [hk1]; exact pPart.ng (by omega) p)⟩⟩
      by_cases s29_110 : z15.toInt = 110
      · refine lv_lookup hx hb dX7_part_29 (by decide) (off := 47) (by rw [s29_110]; rfl) (tgt := 76) (by decide) ?_
        refine lv_aload_n hx hb dX7_part_76 rfl (lv_at hl 0 rfl) ?_
        refine lv_iconst (v := 0) hx hb dX7_part_77 (by decide) (ti_c 0 (by decide) fun z30 hz30 => ?_)
        refine lv_aload_n hx hb dX7_part_78 rfl (lv_at hl 0 rfl) ?_
        refine r_callV (As := []) (rest := [.int z30, .ref (B + 1)]) C hw (t_X7_amount l B D cA kd ig rg lg _  N h a hR hI) sv_X7_128 (hsh 1 _ rfl) rfl hl.1 rfl (Nat.le_of_ble_eq_true rfl) ⟨by simp only [rL]; omega, by simp only [rL]; omega⟩ ⟨Nat.le_of_ble_eq_true rfl, Nat.le_of_ble_eq_true rfl⟩ dX7_part_79 (fun r35 kd31 ig32 rg33 lg34 H locs hw hH hp36 => ?_)
        obtain ⟨rfl, rfl, rfl, rfl, hzhp36, hrhp36⟩ := hp36
        obtain ⟨z37, rfl, hz37⟩ := hrhp36
        refine lv_iconst (v := 0) hx hb dX7_part_82 (by decide) (ti_c 0 (by decide) fun z38 hz38 => ?_)
        refine r_callV (As := [.int z30, .int z37, .int z38]) (rest := []) C hw (t_X7_add l B D cA kd ig rg lg _ z30 z37 z38  hI) sv_X7_112 (hsh 1 _ rfl) rfl hl.1 rfl (Nat.le_of_ble_eq_true rfl) ⟨by simp only [rL]; omega, by simp only [rL]; omega⟩ ⟨Nat.le_of_ble_eq_true rfl, Nat.le_of_ble_eq_true rfl⟩ dX7_part_83 (fun r43 kd39 ig40 rg41 lg42 H locs hw hH hp44 => ?_)
        obtain ⟨hI, hchp44, hrhp44⟩ := hp44
        have hN := hN.tr hchp44
        have hsh := hI.sh
        have hrs := hI.rs
        obtain ⟨rfl, hvhp44⟩ := hrhp44
        have hR : RZ B τ N h a ig40 := hvhp44 τ N h a hR
        obtain ⟨⟨hN0, h6⟩, ⟨h2, hh⟩, h7, haN⟩ := hR.nums
        refine lv_aload_n hx hb dX7_part_86 rfl (lv_at hl 0 rfl) ?_
        refine lv_dup hx hb dX7_part_87 rfl ?_
        refine r_get C hw (hsh 1 _ rfl) fl_X7_50 (oV_i rfl) dX7_part_88 (ti_c (ig40 (B + 1) 7).toInt rfl fun z45 hz45 => ?_)
        refine lv_iconst (v := 1) hx hb dX7_part_91 (by decide) (ti_c 1 (by decide) fun z46 hz46 => ?_)
        refine lv_iadd hx hb dX7_part_92 (tc_add fun z47 hz47 => ?_)
        first | replace hz47 := hz47 (by omega) | clear hz47
        refine r_puti C hw (hsh 1 _ rfl) fl_X7_50 rfl rfl rfl dX7_part_93 (fun H locs hH hw => ?_)
        obtain ⟨ig48, eig48⟩ : ∃ f, f = up2 ig40 (B + 1) 7 z47 := ⟨_, rfl⟩
        rw [← eig48] at hw
        have hN : Nx 1022 B none kd ig rg lg kd39 ig48 rg41 lg42 := by rw [eig48]; exact hN.pi (by omega)
        have hI : IC τ B kd39 ig48 rg41 := by rw [eig48]; exact hI.pi (show okR none _ from trivial)
        have hlt := hR.lt (show tK τ a ≠ 0 from by omega)
        have hR : RZ B τ N h (a + 1) ig48 := by rw [eig48]; exact hR.nx (by omega) (by omega)
        obtain ⟨⟨hN0, h6⟩, ⟨h2, hh⟩, h7, haN⟩ := hR.nums
        refine lv_iconst (v := 1) hx hb dX7_part_96 (by decide) (ti_c 1 (by decide) fun z49 hz49 => ?_)
        exact r_iret C hw hr hlk (nar_b (by omega)) (Nat.le_of_ble_eq_true rfl) (Nat.le_of_ble_eq_true rfl) dX7_part_97 ⟨hI, hN, ⟨_, rfl, RB.mk (a' := a + 1) (by rw [hk1]; exact pPart.num (by omega)) hR (by omega)⟩⟩
      refine lv_lookup hx hb dX7_part_29 (by decide) (off := 69) (by show Op.lookupswitch.offset [(40, 35), (45, 41), (110, 47)] 69 _ = _; rw [los s29_40, los s29_45, los s29_110]; rfl) (tgt := 98) (by decide) ?_
      refine lv_aload_n hx hb dX7_part_98 rfl (lv_at hl 0 rfl) ?_
      refine r_callV (As := []) (rest := []) C hw (t_X7_kind l B D cA kd ig rg lg _  N h a hR hI) sv_X7_57 (hsh 1 _ rfl) rfl hl.1 rfl (Nat.le_of_ble_eq_true rfl) ⟨by simp only [rL]; omega, by simp only [rL]; omega⟩ ⟨Nat.le_of_ble_eq_true rfl, Nat.le_of_ble_eq_true rfl⟩ dX7_part_99 (fun r54 kd50 ig51 rg52 lg53 H locs hw hH hp55 => ?_)
      obtain ⟨rfl, rfl, rfl, rfl, hzhp55, hrhp55⟩ := hp55
      obtain ⟨z56, rfl, hz56⟩ := hrhp55
      refine lv_bipush (v := 119) hx hb dX7_part_102 (by decide) (ti_c 119 (by decide) fun z57 hz57 => ?_)
      have J127 : ∀ (ls : Array Slot) (H : Heap) (locs : List Loc) (kd59 : sK) (ig60 : sI) (rg61 : sR) (lg62 : sG) (u58 : Int32), lv_has ls 2 [] → WD B D cA s.heap kd59 ig60 rg61 lg62 H locs → IC τ B kd59 ig60 rg61 → Nx 1022 B none kd ig rg lg kd59 ig60 rg61 lg62 → (RB B τ N h ig60 (pPart (tK τ) (tV τ) (tS τ) k a) u58) → W p l e (rL (4 * k + 9) 0 0) s m args below meth c H locs 0 0 (MQ below (QcW B D cA (PI 1022 τ B none kd ig rg lg (fun r kd' ig' rg' lg' => ∃ z : Int32, r = some (.int z) ∧ RB B τ N h ig' (pPart (tK τ) (tV τ) (tS τ) k a) z))) args s 0 0 (fun q => B ≤ q)) (F0 m 127 ls [.int u58]) := by
        intro ls H locs kd59 ig60 rg61 lg62 u58 hl hw hI hN g127_0
        have hsh := hI.sh
        have hrs := hI.rs
        have b127 := RB.bz g127_0
        exact r_iret C hw hr hlk (nar_b (by omega)) (Nat.le_of_ble_eq_true rfl) (Nat.le_of_ble_eq_true rfl) dX7_part_127 ⟨hI, hN, ⟨_, rfl, g127_0⟩⟩
      have J123 : ∀ (ls : Array Slot) (H : Heap) (locs : List Loc) (kd63 : sK) (ig64 : sI) (rg65 : sR) (lg66 : sG) , lv_has ls 2 [(0, .ref (B + 1))] → WD B D cA s.heap kd63 ig64 rg65 lg66 H locs → IC τ B kd63 ig64 rg65 → Nx 1022 B none kd ig rg lg kd63 ig64 rg65 lg66 → (RZ B τ N h a ig64) → (tK τ a = 36 ∨ (tK τ a = 119 ∧ tV τ a < 12)) → W p l e (rL (4 * k + 9) 0 0) s m args below meth c H locs 0 0 (MQ below (QcW B D cA (PI 1022 τ B none kd ig rg lg (fun r kd' ig' rg' lg' => ∃ z : Int32, r = some (.int z) ∧ RB B τ N h ig' (pPart (tK τ) (tV τ) (tS τ) k a) z))) args s 0 0 (fun q => B ≤ q)) (F0 m 123 ls []) := by
        intro ls H locs kd63 ig64 rg65 lg66 hl hw hI hN g123_0 g123_1
        have hsh := hI.sh
        have hrs := hI.rs
        have hR := g123_0
        refine lv_aload_n hx hb dX7_part_123 rfl (lv_at hl 0 rfl) ?_
        refine r_callV (As := []) (rest := []) C hw (t_X7_single l B D cA kd63 ig64 rg65 lg66 _  N h a hR hI) sv_X7_134 (hsh 1 _ rfl) rfl hl.1 rfl (Nat.le_of_ble_eq_true rfl) ⟨by simp only [rL]; omega, by simp only [rL]; omega⟩ ⟨Nat.le_of_ble_eq_true rfl, Nat.le_of_ble_eq_true rfl⟩ dX7_part_124 (fun r71 kd67 ig68 rg69 lg70 H locs hw hH hp72 => ?_)
        obtain ⟨hI, hchp72, hrhp72⟩ := hp72
        have hN := hN.tr hchp72
        have hsh := hI.sh
        have hrs := hI.rs
        obtain ⟨z73, rfl, hz73⟩ := hrhp72
        have bz73 := RB.bz hz73
        exact J127 ls H locs kd67 ig68 rg69 lg70 z73 (lv_sub hl [] rfl) hw hI hN (hz73.to (fun f a9 p => by rw [hk1]; exact pPart.rf (by omega) p))
      refine b_ne (tgt := 123) hx hb dX7_part_104 (by decide) (fun c104 => ?_) (fun c104 => ?_)
      · exact J123 ls H locs kd ig rg lg (lv_sub hl [0] rfl) hw hI hN (hR) (by omega)
      · refine lv_aload_n hx hb dX7_part_107 rfl (lv_at hl 0 rfl) ?_
        refine r_callV (As := []) (rest := []) C hw (t_X7_amount l B D cA kd ig rg lg _  N h a hR hI) sv_X7_128 (hsh 1 _ rfl) rfl hl.1 rfl (Nat.le_of_ble_eq_true rfl) ⟨by simp only [rL]; omega, by simp only [rL]; omega⟩ ⟨Nat.le_of_ble_eq_true rfl, Nat.le_of_ble_eq_true rfl⟩ dX7_part_108 (fun r78 kd74 ig75 rg76 lg77 H locs hw hH hp79 => ?_)
        obtain ⟨rfl, rfl, rfl, rfl, hzhp79, hrhp79⟩ := hp79
        obtain ⟨z80, rfl, hz80⟩ := hrhp79
        refine lv_bipush (v := 26) hx hb dX7_part_111 (by decide) (ti_c 26 (by decide) fun z81 hz81 => ?_)
        refine b_ne (tgt := 123) hx hb dX7_part_113 (by decide) (fun c113 => ?_) (fun c113 => ?_)
        · exact J123 ls H locs kd ig rg lg (lv_sub hl [0] rfl) hw hI hN (hR) (by omega)
        · refine lv_aload_n hx hb dX7_part_116 rfl (lv_at hl 0 rfl) ?_
          refine r_callV (As := []) (rest := []) C hw (t_X7_span l B D cA kd ig rg lg _  N h a hR (by omega) hI) sv_X7_131 (hsh 1 _ rfl) rfl hl.1 rfl (Nat.le_of_ble_eq_true rfl) ⟨by simp only [rL]; omega, by simp only [rL]; omega⟩ ⟨Nat.le_of_ble_eq_true rfl, Nat.le_of_ble_eq_true rfl⟩ dX7_part_117 (fun r86 kd82 ig83 rg84 lg85 H locs hw hH hp87 => ?_)
          obtain ⟨hI, hchp87, hrhp87⟩ := hp87
          have hN := hN.tr hchp87
          have hsh := hI.sh
          have hrs := hI.rs
          obtain ⟨z88, rfl, hz88⟩ := hrhp87
          have bz88 := RB.bz hz88
          have rb1 := hz88
          refine lv_goto (tgt := 127) hx hb dX7_part_120 (by decide) ?_
          exact J127 ls H locs kd82 ig83 rg84 lg85 z88 (lv_sub hl [] rfl) hw hI hN (hz88.to (fun f a9 p => by rw [hk1]; exact pPart.sp (by omega) p))
    · refine lv_aload_n hx hb dX7_part_19 rfl (lv_at hl 0 rfl) ?_
      refine lv_iconst (v := 5) hx hb dX7_part_20 (by decide) (ti_c 5 (by decide) fun z89 hz89 => ?_)
      refine r_callV (As := [.int z89]) (rest := []) C hw (t_X7_wrong l B D cA kd ig rg lg _ z89 N h a hR (by omega) hI) sv_X7_61 (hsh 1 _ rfl) rfl hl.1 rfl (Nat.le_of_ble_eq_true rfl) ⟨by simp only [rL]; omega, by simp only [rL]; omega⟩ ⟨Nat.le_of_ble_eq_true rfl, Nat.le_of_ble_eq_true rfl⟩ dX7_part_21 (fun r94 kd90 ig91 rg92 lg93 H locs hw hH hp95 => ?_)
      obtain ⟨hI, hchp95, hrhp95⟩ := hp95
      have hN := hN.tr hchp95
      have hsh := hI.sh
      have hrs := hI.rs
      obtain ⟨z96, rfl, hz96⟩ := hrhp95
      obtain ⟨wz, w8⟩ := hz96
      exact r_iret C hw hr hlk (nar_b (by omega)) (Nat.le_of_ble_eq_true rfl) (Nat.le_of_ble_eq_true rfl) dX7_part_24 ⟨hI, hN, ⟨_, rfl, RB.mkf (f := fw (tS τ) 5 a) (a' := 0) (by have e0 : k = 0 := (by omega); subst e0; exact Or.inr ⟨by rcases hst with ⟨-, q⟩ | ⟨q, -⟩; exact q; omega, rfl⟩) (hR.fw_ne (by decide)) (by rw [w8]; unfold fw; omega) (by omega)⟩⟩
  · refine lv_aload_n hx hb dX7_part_7 rfl (lv_at hl 0 rfl) ?_
    refine lv_iconst (v := 1) hx hb dX7_part_8 (by decide) (ti_c 1 (by decide) fun z97 hz97 => ?_)
    refine r_callV (As := [.int z97]) (rest := []) C hw (t_X7_wrong l B D cA kd ig rg lg _ z97 N h a hR (by omega) hI) sv_X7_61 (hsh 1 _ rfl) rfl hl.1 rfl (Nat.le_of_ble_eq_true rfl) ⟨by simp only [rL]; omega, by simp only [rL]; omega⟩ ⟨Nat.le_of_ble_eq_true rfl, Nat.le_of_ble_eq_true rfl⟩ dX7_part_9 (fun r102 kd98 ig99 rg100 lg101 H locs hw hH hp103 => ?_)
    obtain ⟨hI, hchp103, hrhp103⟩ := hp103
    have hN := hN.tr hchp103
    have hsh := hI.sh
    have hrs := hI.rs
    obtain ⟨z104, rfl, hz104⟩ := hrhp103
    obtain ⟨wz, w8⟩ := hz104
    exact r_iret C hw hr hlk (nar_b (by omega)) (Nat.le_of_ble_eq_true rfl) (Nat.le_of_ble_eq_true rfl) dX7_part_12 ⟨hI, hN, ⟨_, rfl, RB.mkf (f := fw (tS τ) 1 a) (a' := 0) (pPart.no (by rcases hst with ⟨q, -⟩ | ⟨-, q⟩; omega; exact q)) (hR.fw_ne (by decide)) (by rw [w8]; unfold fw; omega) (by omega)⟩⟩

set_option maxHeartbeats 4000000 in
set_option maxRecDepth 100000 in
theorem t_X7_product {τ : Tp} (l : Launch) (B : Nat) (D : va_G) (cA : Nat → ClassId) (kd : sK) (ig : sI) (rg : sR) (lg : sG) (sz : Nat) (x : Int32) (N h a : Nat) (hR : RZ B τ N h a ig) (k : Nat) (hP : RPart τ l B D cA k) (hxk : x.toInt = 8 - (k : Int)) (hI : IC τ B kd ig rg) : MC l B D cA yX7_product cX7_product 4 (some .boolean) (rL (4 * k + 10) 0 0) [.ref (B + 1), .int x] kd ig rg lg sz (PI 1022 τ B none kd ig rg lg (fun r kd' ig' rg' lg' => ∃ z : Int32, r = some (.int z) ∧ RB B τ N h ig' (pProd (tK τ) (tV τ) (tS τ) k a) z)) := by
  refine MC.of (own := RX7) (by decide +kernel) rfl (Nat.le_of_ble_eq_true rfl) ?_
  intro p e s m args below meth c ls C hr hlk hnm hw hsz hl
  have hx := C.1.1
  have hb := C.1.2.1
  have hown := C.1.2.2.2.1
  have hts := C.1.2.2.2.2
  have hl : lv_has ls 4 [(0, .ref (B + 1)), (1, .int x)] := hl
  have hN : Nx 1022 B none kd ig rg lg kd ig rg lg := Nx.rf
  have hsh := hI.sh
  have hrs := hI.rs
  obtain ⟨⟨hN0, h6⟩, ⟨h2, hh⟩, h7, haN⟩ := hR.nums
  refine lv_aload_n hx hb dX7_product_0 rfl (lv_at hl 0 rfl) ?_
  refine lv_iload_n hx hb dX7_product_1 rfl (lv_at hl 1 rfl) ?_
  refine r_callV (As := [.int x]) (rest := []) C hw (hP kd ig rg lg _ x N h a hR (by omega) hI) sv_X7_115 (hsh 1 _ rfl) rfl hl.1 rfl (Nat.le_of_ble_eq_true rfl) ⟨by simp only [rL]; omega, by simp only [rL]; omega⟩ ⟨Nat.le_of_ble_eq_true rfl, Nat.le_of_ble_eq_true rfl⟩ dX7_product_2 (fun r5 kd1 ig2 rg3 lg4 H locs hw hH hp6 => ?_)
  obtain ⟨hI, hchp6, hrhp6⟩ := hp6
  have hN := hN.tr hchp6
  have hsh := hI.sh
  have hrs := hI.rs
  obtain ⟨z7, rfl, hz7⟩ := hrhp6
  have bz7 := RB.bz hz7
  have rb1 := hz7
  refine z_ne (tgt := 10) hx hb dX7_product_5 (by decide) (fun c5 => ?_) (fun c5 => ?_)
  · obtain ⟨c0, p9, hR⟩ := RB.yes rb1 (by omega)
    obtain ⟨⟨hN0, h6⟩, ⟨h2, hh⟩, h7, haN⟩ := hR.nums
    have l9 := pPart.lt k _ _ p9
    refine lv_iconst (v := 0) hx hb dX7_product_10 (by decide) (ti_c 0 (by decide) fun z8 hz8 => ?_)
    refine lv_istore_n (lv' := [(2, .int z8), (0, .ref (B + 1)), (1, .int x)]) hx hb dX7_product_11 rfl hl (by decide) rfl (fun ls hl => ?_)
    have L12 : ∀ (n : Nat) (ls : Array Slot) (H : Heap) (locs : List Loc) (kd10 : sK) (ig11 : sI) (rg12 : sR) (lg13 : sG) (v9 : Int32), lv_has ls 4 [(2, .int v9), (0, .ref (B + 1)), (1, .int x)] → WD B D cA s.heap kd10 ig11 rg12 lg13 H locs → IC τ B kd10 ig11 rg12 → Nx 1022 B none kd ig rg lg kd10 ig11 rg12 lg13 → (∃ n cc, qCh (pPart (tK τ) (tV τ) (tS τ) k) (sMu (tK τ)) n a cc ∧ RZ B τ N h cc ig11 ∧ v9.toInt < (cc : Int)) → (0 ≤ v9.toInt) → (v9.toInt ≤ 120) → 120 - v9.toInt < (n : Int) → W p l e (rL (4 * k + 10) 0 0) s m args below meth c H locs 0 0 (MQ below (QcW B D cA (PI 1022 τ B none kd ig rg lg (fun r kd' ig' rg' lg' => ∃ z : Int32, r = some (.int z) ∧ RB B τ N h ig' (pProd (tK τ) (tV τ) (tS τ) k a) z))) args s 0 0 (fun q => B ≤ q)) (F0 m 12 ls []) := by
      intro n12
      induction n12 with
      | zero => intro ls H locs kd10 ig11 rg12 lg13 v9 hl hw hI hN g12_0 g12_1 g12_2 hmu; exact absurd hmu (by omega)
      | succ n12 ih12 =>
        intro ls H locs kd10 ig11 rg12 lg13 v9 hl hw hI hN g12_0 g12_1 g12_2 hmu
        have hsh := hI.sh
        have hrs := hI.rs
        obtain ⟨n, cc, hq, hR, hic⟩ := g12_0
        obtain ⟨⟨hN0, h6⟩, ⟨h2, hh⟩, h7, haN⟩ := hR.nums
        have hic2 := hic
        refine lv_iload_n hx hb dX7_product_12 rfl (lv_at hl 0 rfl) ?_
        refine lv_bipush (v := 120) hx hb dX7_product_13 (by decide) (ti_c 120 (by decide) fun z14 hz14 => ?_)
        refine b_ge (tgt := 86) hx hb dX7_product_15 (by decide) (fun c15 => ?_) (fun c15 => ?_)
        · exact absurd c15 (by omega)
        · refine lv_aload_n hx hb dX7_product_18 rfl (lv_at hl 1 rfl) ?_
          refine r_callV (As := []) (rest := []) C hw (t_X7_kind l B D cA kd10 ig11 rg12 lg13 _  N h cc hR hI) sv_X7_57 (hsh 1 _ rfl) rfl hl.1 rfl (Nat.le_of_ble_eq_true rfl) ⟨by simp only [rL]; omega, by simp only [rL]; omega⟩ ⟨Nat.le_of_ble_eq_true rfl, Nat.le_of_ble_eq_true rfl⟩ dX7_product_19 (fun r19 kd15 ig16 rg17 lg18 H locs hw hH hp20 => ?_)
          obtain ⟨rfl, rfl, rfl, rfl, hzhp20, hrhp20⟩ := hp20
          obtain ⟨z21, rfl, hz21⟩ := hrhp20
          refine lv_bipush (v := 42) hx hb dX7_product_22 (by decide) (ti_c 42 (by decide) fun z22 hz22 => ?_)
          have J36 : ∀ (ls : Array Slot) (H : Heap) (locs : List Loc) (kd23 : sK) (ig24 : sI) (rg25 : sR) (lg26 : sG) , lv_has ls 4 [(2, .int v9), (0, .ref (B + 1)), (1, .int x)] → WD B D cA s.heap kd23 ig24 rg25 lg26 H locs → IC τ B kd23 ig24 rg25 → Nx 1022 B none kd ig rg lg kd23 ig24 rg25 lg26 → (RZ B τ N h cc ig24) → (tK τ cc = 42 ∨ tK τ cc = 47) → W p l e (rL (4 * k + 10) 0 0) s m args below meth c H locs 0 0 (MQ below (QcW B D cA (PI 1022 τ B none kd ig rg lg (fun r kd' ig' rg' lg' => ∃ z : Int32, r = some (.int z) ∧ RB B τ N h ig' (pProd (tK τ) (tV τ) (tS τ) k a) z))) args s 0 0 (fun q => B ≤ q)) (F0 m 36 ls []) := by
            intro ls H locs kd23 ig24 rg25 lg26 hl hw hI hN g36_0 g36_1
            have hsh := hI.sh
            have hrs := hI.rs
            have hR := g36_0
            obtain ⟨⟨hN0, h6⟩, ⟨h2, hh⟩, h7, haN⟩ := hR.nums
            have hs : tK τ cc = 42 ∨ tK τ cc = 47 := g36_1
            refine lv_aload_n hx hb dX7_product_36 rfl (lv_at hl 1 rfl) ?_
            refine r_callV (As := []) (rest := []) C hw (t_X7_kind l B D cA kd23 ig24 rg25 lg26 _  N h cc hR hI) sv_X7_57 (hsh 1 _ rfl) rfl hl.1 rfl (Nat.le_of_ble_eq_true rfl) ⟨by simp only [rL]; omega, by simp only [rL]; omega⟩ ⟨Nat.le_of_ble_eq_true rfl, Nat.le_of_ble_eq_true rfl⟩ dX7_product_37 (fun r31 kd27 ig28 rg29 lg30 H locs hw hH hp32 => ?_)
            obtain ⟨rfl, rfl, rfl, rfl, hzhp32, hrhp32⟩ := hp32
            obtain ⟨z33, rfl, hz33⟩ := hrhp32
            refine lv_bipush (v := 42) hx hb dX7_product_40 (by decide) (ti_c 42 (by decide) fun z34 hz34 => ?_)
            have J52 : ∀ (ls : Array Slot) (H : Heap) (locs : List Loc) (kd36 : sK) (ig37 : sI) (rg38 : sR) (lg39 : sG) (u35 : Int32), lv_has ls 4 [(2, .int v9), (0, .ref (B + 1)), (1, .int x)] → WD B D cA s.heap kd36 ig37 rg38 lg39 H locs → IC τ B kd36 ig37 rg38 → Nx 1022 B none kd ig rg lg kd36 ig37 rg38 lg39 → (RZ B τ N h cc ig37) → W p l e (rL (4 * k + 10) 0 0) s m args below meth c H locs 0 0 (MQ below (QcW B D cA (PI 1022 τ B none kd ig rg lg (fun r kd' ig' rg' lg' => ∃ z : Int32, r = some (.int z) ∧ RB B τ N h ig' (pProd (tK τ) (tV τ) (tS τ) k a) z))) args s 0 0 (fun q => B ≤ q)) (F0 m 52 ls [.int u35]) := by
              intro ls H locs kd36 ig37 rg38 lg39 u35 hl hw hI hN g52_0
              have hsh := hI.sh
              have hrs := hI.rs
              have hR := g52_0
              obtain ⟨⟨hN0, h6⟩, ⟨h2, hh⟩, h7, haN⟩ := hR.nums
              refine lv_istore_n (lv' := [(3, .int u35), (2, .int v9), (0, .ref (B + 1)), (1, .int x)]) hx hb dX7_product_52 rfl hl (by decide) rfl (fun ls hl => ?_)
              refine lv_aload_n hx hb dX7_product_53 rfl (lv_at hl 2 rfl) ?_
              refine lv_dup hx hb dX7_product_54 rfl ?_
              refine r_get C hw (hsh 1 _ rfl) fl_X7_50 (oV_i rfl) dX7_product_55 (ti_c (ig37 (B + 1) 7).toInt rfl fun z40 hz40 => ?_)
              refine lv_iconst (v := 1) hx hb dX7_product_58 (by decide) (ti_c 1 (by decide) fun z41 hz41 => ?_)
              refine lv_iadd hx hb dX7_product_59 (tc_add fun z42 hz42 => ?_)
              first | replace hz42 := hz42 (by omega) | clear hz42
              refine r_puti C hw (hsh 1 _ rfl) fl_X7_50 rfl rfl rfl dX7_product_60 (fun H locs hH hw => ?_)
              obtain ⟨ig43, eig43⟩ : ∃ f, f = up2 ig37 (B + 1) 7 z42 := ⟨_, rfl⟩
              rw [← eig43] at hw
              have hN : Nx 1022 B none kd ig rg lg kd36 ig43 rg38 lg39 := by rw [eig43]; exact hN.pi (by omega)
              have hI : IC τ B kd36 ig43 rg38 := by rw [eig43]; exact hI.pi (show okR none _ from trivial)
              have hlt := hR.lt (show tK τ cc ≠ 0 from by omega)
              have hR : RZ B τ N h (cc + 1) ig43 := by rw [eig43]; exact hR.nx (by omega) (by omega)
              obtain ⟨⟨hN0, h6⟩, ⟨h2, hh⟩, h7, haN⟩ := hR.nums
              refine lv_aload_n hx hb dX7_product_63 rfl (lv_at hl 2 rfl) ?_
              refine lv_iload_n hx hb dX7_product_64 rfl (lv_at hl 3 rfl) ?_
              refine r_callV (As := [.int x]) (rest := []) C hw (hP kd36 ig43 rg38 lg39 _ x N h (cc + 1) hR (by omega) hI) sv_X7_115 (hsh 1 _ rfl) rfl hl.1 rfl (Nat.le_of_ble_eq_true rfl) ⟨by simp only [rL]; omega, by simp only [rL]; omega⟩ ⟨Nat.le_of_ble_eq_true rfl, Nat.le_of_ble_eq_true rfl⟩ dX7_product_65 (fun r48 kd44 ig45 rg46 lg47 H locs hw hH hp49 => ?_)
              obtain ⟨hI, hchp49, hrhp49⟩ := hp49
              have hN := hN.tr hchp49
              have hsh := hI.sh
              have hrs := hI.rs
              obtain ⟨z50, rfl, hz50⟩ := hrhp49
              have bz50 := RB.bz hz50
              have rb2 := hz50
              refine z_ne (tgt := 73) hx hb dX7_product_68 (by decide) (fun c68 => ?_) (fun c68 => ?_)
              · obtain ⟨c9, p9, hR⟩ := RB.yes rb2 (by omega)
                obtain ⟨⟨hN0, h6⟩, ⟨h2, hh⟩, h7, haN⟩ := hR.nums
                have l9 := pPart.lt k _ _ p9
                refine lv_aload_n hx hb dX7_product_73 rfl (lv_at hl 2 rfl) ?_
                refine lv_iload_n hx hb dX7_product_74 rfl (lv_at hl 0 rfl) ?_
                refine lv_iconst (v := 0) hx hb dX7_product_75 (by decide) (ti_c 0 (by decide) fun z51 hz51 => ?_)
                refine lv_iconst (v := 0) hx hb dX7_product_76 (by decide) (ti_c 0 (by decide) fun z52 hz52 => ?_)
                refine r_callV (As := [.int u35, .int z51, .int z52]) (rest := []) C hw (t_X7_add l B D cA kd44 ig45 rg46 lg47 _ u35 z51 z52  hI) sv_X7_112 (hsh 1 _ rfl) rfl hl.1 rfl (Nat.le_of_ble_eq_true rfl) ⟨by simp only [rL]; omega, by simp only [rL]; omega⟩ ⟨Nat.le_of_ble_eq_true rfl, Nat.le_of_ble_eq_true rfl⟩ dX7_product_77 (fun r57 kd53 ig54 rg55 lg56 H locs hw hH hp58 => ?_)
                obtain ⟨hI, hchp58, hrhp58⟩ := hp58
                have hN := hN.tr hchp58
                have hsh := hI.sh
                have hrs := hI.rs
                obtain ⟨rfl, hvhp58⟩ := hrhp58
                have hR : RZ B τ N h c9 ig54 := hvhp58 τ N h c9 hR
                obtain ⟨⟨hN0, h6⟩, ⟨h2, hh⟩, h7, haN⟩ := hR.nums
                refine tc_inc hx hb dX7_product_80 hl (k := 1) rfl (by decide) (by decide) (fun z59 hz59 ls hl => ?_)
                first | replace hz59 := hz59 (by omega) | clear hz59
                have hl : lv_has ls 4 [(2, .int z59), (3, .int u35), (0, .ref (B + 1)), (1, .int x)] := hl
                refine lv_goto (tgt := 12) hx hb dX7_product_83 (by decide) ?_
                exact ih12 ls H locs kd53 ig54 rg55 lg56 z59 (lv_sub hl [0, 2, 3] rfl) hw hI hN (⟨n + 1, c9, qCh.snoc n a cc c9 hq (show sMu (tK τ) cc from hs) p9, hR, by omega⟩) (by omega) (by omega) (by omega)
              · obtain ⟨f9, a9, hf9, p9, h89⟩ := RB.no rb2 (by omega)
                refine lv_iconst (v := 0) hx hb dX7_product_71 (by decide) (ti_c 0 (by decide) fun z60 hz60 => ?_)
                exact r_iret C hw hr hlk (nar_b (by omega)) (Nat.le_of_ble_eq_true rfl) (Nat.le_of_ble_eq_true rfl) dX7_product_72 ⟨hI, hN, ⟨_, rfl, RB.mkf (Or.inr ⟨n, cc, hq, Or.inr ⟨hs, hf9, p9⟩⟩) hf9 h89 (by omega)⟩⟩
            refine b_ne (tgt := 50) hx hb dX7_product_42 (by decide) (fun c42 => ?_) (fun c42 => ?_)
            · refine lv_bipush (v := 8) hx hb dX7_product_50 (by decide) (ti_c 8 (by decide) fun z61 hz61 => ?_)
              exact J52 ls H locs kd23 ig24 rg25 lg26 z61 (lv_sub hl [0, 1, 2] rfl) hw hI hN (hR)
            · refine lv_bipush (v := 7) hx hb dX7_product_45 (by decide) (ti_c 7 (by decide) fun z62 hz62 => ?_)
              refine lv_goto (tgt := 52) hx hb dX7_product_47 (by decide) ?_
              exact J52 ls H locs kd23 ig24 rg25 lg26 z62 (lv_sub hl [0, 1, 2] rfl) hw hI hN (hR)
          refine b_eq (tgt := 36) hx hb dX7_product_24 (by decide) (fun c24 => ?_) (fun c24 => ?_)
          · exact J36 ls H locs kd10 ig11 rg12 lg13 (lv_sub hl [0, 1, 2] rfl) hw hI hN (hR) (by omega)
          · refine lv_aload_n hx hb dX7_product_27 rfl (lv_at hl 1 rfl) ?_
            refine r_callV (As := []) (rest := []) C hw (t_X7_kind l B D cA kd10 ig11 rg12 lg13 _  N h cc hR hI) sv_X7_57 (hsh 1 _ rfl) rfl hl.1 rfl (Nat.le_of_ble_eq_true rfl) ⟨by simp only [rL]; omega, by simp only [rL]; omega⟩ ⟨Nat.le_of_ble_eq_true rfl, Nat.le_of_ble_eq_true rfl⟩ dX7_product_28 (fun r67 kd63 ig64 rg65 lg66 H locs hw hH hp68 => ?_)
            obtain ⟨rfl, rfl, rfl, rfl, hzhp68, hrhp68⟩ := hp68
            obtain ⟨z69, rfl, hz69⟩ := hrhp68
            refine lv_bipush (v := 47) hx hb dX7_product_31 (by decide) (ti_c 47 (by decide) fun z70 hz70 => ?_)
            refine b_ne (tgt := 86) hx hb dX7_product_33 (by decide) (fun c33 => ?_) (fun c33 => ?_)
            · refine lv_iconst (v := 1) hx hb dX7_product_86 (by decide) (ti_c 1 (by decide) fun z71 hz71 => ?_)
              exact r_iret C hw hr hlk (nar_b (by omega)) (Nat.le_of_ble_eq_true rfl) (Nat.le_of_ble_eq_true rfl) dX7_product_87 ⟨hI, hN, ⟨_, rfl, RB.mk (Or.inr ⟨n, cc, hq, Or.inl ⟨(by unfold sMu sg; omega), rfl, rfl⟩⟩) hR (by omega)⟩⟩
            · exact J36 ls H locs kd10 ig11 rg12 lg13 (lv_sub hl [0, 1, 2] rfl) hw hI hN (hR) (by omega)
    exact L12 ((120 - z8.toInt) + 1).toNat ls H locs kd1 ig2 rg3 lg4 z8 (lv_sub hl [0, 1, 2] rfl) hw hI hN (⟨0, c0, p9, hR, by omega⟩) (by omega) (by omega) (by omega)
  · obtain ⟨f9, a9, hf9, p9, h89⟩ := RB.no rb1 (by omega)
    refine lv_iconst (v := 0) hx hb dX7_product_8 (by decide) (ti_c 0 (by decide) fun z72 hz72 => ?_)
    exact r_iret C hw hr hlk (nar_b (by omega)) (Nat.le_of_ble_eq_true rfl) (Nat.le_of_ble_eq_true rfl) dX7_product_9 ⟨hI, hN, ⟨_, rfl, RB.mkf (Or.inl ⟨hf9, p9⟩) hf9 h89 (by omega)⟩⟩

set_option maxHeartbeats 4000000 in
set_option maxRecDepth 100000 in
theorem t_X7_sum {τ : Tp} (l : Launch) (B : Nat) (D : va_G) (cA : Nat → ClassId) (kd : sK) (ig : sI) (rg : sR) (lg : sG) (sz : Nat) (x : Int32) (N h a : Nat) (hR : RZ B τ N h a ig) (k : Nat) (hQ : RProd τ l B D cA k) (hxk : x.toInt = 8 - (k : Int)) (hI : IC τ B kd ig rg) : MC l B D cA yX7_sum cX7_sum 4 (some .boolean) (rL (4 * k + 11) 0 0) [.ref (B + 1), .int x] kd ig rg lg sz (PI 1022 τ B none kd ig rg lg (fun r kd' ig' rg' lg' => ∃ z : Int32, r = some (.int z) ∧ RB B τ N h ig' (pE (tK τ) (tV τ) (tS τ) k a) z)) := by
  refine MC.of (own := RX7) (by decide +kernel) rfl (Nat.le_of_ble_eq_true rfl) ?_
  intro p e s m args below meth c ls C hr hlk hnm hw hsz hl
  have hx := C.1.1
  have hb := C.1.2.1
  have hown := C.1.2.2.2.1
  have hts := C.1.2.2.2.2
  have hl : lv_has ls 4 [(0, .ref (B + 1)), (1, .int x)] := hl
  have hN : Nx 1022 B none kd ig rg lg kd ig rg lg := Nx.rf
  have hsh := hI.sh
  have hrs := hI.rs
  obtain ⟨⟨hN0, h6⟩, ⟨h2, hh⟩, h7, haN⟩ := hR.nums
  refine lv_aload_n hx hb dX7_sum_0 rfl (lv_at hl 0 rfl) ?_
  refine lv_iload_n hx hb dX7_sum_1 rfl (lv_at hl 1 rfl) ?_
  refine r_callV (As := [.int x]) (rest := []) C hw (hQ kd ig rg lg _ x N h a hR (by omega) hI) sv_X7_109 (hsh 1 _ rfl) rfl hl.1 rfl (Nat.le_of_ble_eq_true rfl) ⟨by simp only [rL]; omega, by simp only [rL]; omega⟩ ⟨Nat.le_of_ble_eq_true rfl, Nat.le_of_ble_eq_true rfl⟩ dX7_sum_2 (fun r5 kd1 ig2 rg3 lg4 H locs hw hH hp6 => ?_)
  obtain ⟨hI, hchp6, hrhp6⟩ := hp6
  have hN := hN.tr hchp6
  have hsh := hI.sh
  have hrs := hI.rs
  obtain ⟨z7, rfl, hz7⟩ := hrhp6
  have bz7 := RB.bz hz7
  have rb1 := hz7
  refine z_ne (tgt := 10) hx hb dX7_sum_5 (by decide) (fun c5 => ?_) (fun c5 => ?_)
  · obtain ⟨c0, p9, hR⟩ := RB.yes rb1 (by omega)
    obtain ⟨⟨hN0, h6⟩, ⟨h2, hh⟩, h7, haN⟩ := hR.nums
    have l9 := pProd.lt k _ _ p9
    refine lv_iconst (v := 0) hx hb dX7_sum_10 (by decide) (ti_c 0 (by decide) fun z8 hz8 => ?_)
    refine lv_istore_n (lv' := [(2, .int z8), (0, .ref (B + 1)), (1, .int x)]) hx hb dX7_sum_11 rfl hl (by decide) rfl (fun ls hl => ?_)
    have L12 : ∀ (n : Nat) (ls : Array Slot) (H : Heap) (locs : List Loc) (kd10 : sK) (ig11 : sI) (rg12 : sR) (lg13 : sG) (v9 : Int32), lv_has ls 4 [(2, .int v9), (0, .ref (B + 1)), (1, .int x)] → WD B D cA s.heap kd10 ig11 rg12 lg13 H locs → IC τ B kd10 ig11 rg12 → Nx 1022 B none kd ig rg lg kd10 ig11 rg12 lg13 → (∃ n cc, qCh (pProd (tK τ) (tV τ) (tS τ) k) (sAd (tK τ)) n a cc ∧ RZ B τ N h cc ig11 ∧ v9.toInt < (cc : Int)) → (0 ≤ v9.toInt) → (v9.toInt ≤ 120) → 120 - v9.toInt < (n : Int) → W p l e (rL (4 * k + 11) 0 0) s m args below meth c H locs 0 0 (MQ below (QcW B D cA (PI 1022 τ B none kd ig rg lg (fun r kd' ig' rg' lg' => ∃ z : Int32, r = some (.int z) ∧ RB B τ N h ig' (pE (tK τ) (tV τ) (tS τ) k a) z))) args s 0 0 (fun q => B ≤ q)) (F0 m 12 ls []) := by
      intro n12
      induction n12 with
      | zero => intro ls H locs kd10 ig11 rg12 lg13 v9 hl hw hI hN g12_0 g12_1 g12_2 hmu; exact absurd hmu (by omega)
      | succ n12 ih12 =>
        intro ls H locs kd10 ig11 rg12 lg13 v9 hl hw hI hN g12_0 g12_1 g12_2 hmu
        have hsh := hI.sh
        have hrs := hI.rs
        obtain ⟨n, cc, hq, hR, hic⟩ := g12_0
        obtain ⟨⟨hN0, h6⟩, ⟨h2, hh⟩, h7, haN⟩ := hR.nums
        have hic2 := hic
        refine lv_iload_n hx hb dX7_sum_12 rfl (lv_at hl 0 rfl) ?_
        refine lv_bipush (v := 120) hx hb dX7_sum_13 (by decide) (ti_c 120 (by decide) fun z14 hz14 => ?_)
        refine b_ge (tgt := 85) hx hb dX7_sum_15 (by decide) (fun c15 => ?_) (fun c15 => ?_)
        · exact absurd c15 (by omega)
        · refine lv_aload_n hx hb dX7_sum_18 rfl (lv_at hl 1 rfl) ?_
          refine r_callV (As := []) (rest := []) C hw (t_X7_kind l B D cA kd10 ig11 rg12 lg13 _  N h cc hR hI) sv_X7_57 (hsh 1 _ rfl) rfl hl.1 rfl (Nat.le_of_ble_eq_true rfl) ⟨by simp only [rL]; omega, by simp only [rL]; omega⟩ ⟨Nat.le_of_ble_eq_true rfl, Nat.le_of_ble_eq_true rfl⟩ dX7_sum_19 (fun r19 kd15 ig16 rg17 lg18 H locs hw hH hp20 => ?_)
          obtain ⟨rfl, rfl, rfl, rfl, hzhp20, hrhp20⟩ := hp20
          obtain ⟨z21, rfl, hz21⟩ := hrhp20
          refine lv_bipush (v := 43) hx hb dX7_sum_22 (by decide) (ti_c 43 (by decide) fun z22 hz22 => ?_)
          have J36 : ∀ (ls : Array Slot) (H : Heap) (locs : List Loc) (kd23 : sK) (ig24 : sI) (rg25 : sR) (lg26 : sG) , lv_has ls 4 [(2, .int v9), (0, .ref (B + 1)), (1, .int x)] → WD B D cA s.heap kd23 ig24 rg25 lg26 H locs → IC τ B kd23 ig24 rg25 → Nx 1022 B none kd ig rg lg kd23 ig24 rg25 lg26 → (RZ B τ N h cc ig24) → (tK τ cc = 43 ∨ tK τ cc = 45) → W p l e (rL (4 * k + 11) 0 0) s m args below meth c H locs 0 0 (MQ below (QcW B D cA (PI 1022 τ B none kd ig rg lg (fun r kd' ig' rg' lg' => ∃ z : Int32, r = some (.int z) ∧ RB B τ N h ig' (pE (tK τ) (tV τ) (tS τ) k a) z))) args s 0 0 (fun q => B ≤ q)) (F0 m 36 ls []) := by
            intro ls H locs kd23 ig24 rg25 lg26 hl hw hI hN g36_0 g36_1
            have hsh := hI.sh
            have hrs := hI.rs
            have hR := g36_0
            obtain ⟨⟨hN0, h6⟩, ⟨h2, hh⟩, h7, haN⟩ := hR.nums
            have hs : tK τ cc = 43 ∨ tK τ cc = 45 := g36_1
            refine lv_aload_n hx hb dX7_sum_36 rfl (lv_at hl 1 rfl) ?_
            refine r_callV (As := []) (rest := []) C hw (t_X7_kind l B D cA kd23 ig24 rg25 lg26 _  N h cc hR hI) sv_X7_57 (hsh 1 _ rfl) rfl hl.1 rfl (Nat.le_of_ble_eq_true rfl) ⟨by simp only [rL]; omega, by simp only [rL]; omega⟩ ⟨Nat.le_of_ble_eq_true rfl, Nat.le_of_ble_eq_true rfl⟩ dX7_sum_37 (fun r31 kd27 ig28 rg29 lg30 H locs hw hH hp32 => ?_)
            obtain ⟨rfl, rfl, rfl, rfl, hzhp32, hrhp32⟩ := hp32
            obtain ⟨z33, rfl, hz33⟩ := hrhp32
            refine lv_bipush (v := 43) hx hb dX7_sum_40 (by decide) (ti_c 43 (by decide) fun z34 hz34 => ?_)
            have J51 : ∀ (ls : Array Slot) (H : Heap) (locs : List Loc) (kd36 : sK) (ig37 : sI) (rg38 : sR) (lg39 : sG) (u35 : Int32), lv_has ls 4 [(2, .int v9), (0, .ref (B + 1)), (1, .int x)] → WD B D cA s.heap kd36 ig37 rg38 lg39 H locs → IC τ B kd36 ig37 rg38 → Nx 1022 B none kd ig rg lg kd36 ig37 rg38 lg39 → (RZ B τ N h cc ig37) → W p l e (rL (4 * k + 11) 0 0) s m args below meth c H locs 0 0 (MQ below (QcW B D cA (PI 1022 τ B none kd ig rg lg (fun r kd' ig' rg' lg' => ∃ z : Int32, r = some (.int z) ∧ RB B τ N h ig' (pE (tK τ) (tV τ) (tS τ) k a) z))) args s 0 0 (fun q => B ≤ q)) (F0 m 51 ls [.int u35]) := by
              intro ls H locs kd36 ig37 rg38 lg39 u35 hl hw hI hN g51_0
              have hsh := hI.sh
              have hrs := hI.rs
              have hR := g51_0
              obtain ⟨⟨hN0, h6⟩, ⟨h2, hh⟩, h7, haN⟩ := hR.nums
              refine lv_istore_n (lv' := [(3, .int u35), (2, .int v9), (0, .ref (B + 1)), (1, .int x)]) hx hb dX7_sum_51 rfl hl (by decide) rfl (fun ls hl => ?_)
              refine lv_aload_n hx hb dX7_sum_52 rfl (lv_at hl 2 rfl) ?_
              refine lv_dup hx hb dX7_sum_53 rfl ?_
              refine r_get C hw (hsh 1 _ rfl) fl_X7_50 (oV_i rfl) dX7_sum_54 (ti_c (ig37 (B + 1) 7).toInt rfl fun z40 hz40 => ?_)
              refine lv_iconst (v := 1) hx hb dX7_sum_57 (by decide) (ti_c 1 (by decide) fun z41 hz41 => ?_)
              refine lv_iadd hx hb dX7_sum_58 (tc_add fun z42 hz42 => ?_)
              first | replace hz42 := hz42 (by omega) | clear hz42
              refine r_puti C hw (hsh 1 _ rfl) fl_X7_50 rfl rfl rfl dX7_sum_59 (fun H locs hH hw => ?_)
              obtain ⟨ig43, eig43⟩ : ∃ f, f = up2 ig37 (B + 1) 7 z42 := ⟨_, rfl⟩
              rw [← eig43] at hw
              have hN : Nx 1022 B none kd ig rg lg kd36 ig43 rg38 lg39 := by rw [eig43]; exact hN.pi (by omega)
              have hI : IC τ B kd36 ig43 rg38 := by rw [eig43]; exact hI.pi (show okR none _ from trivial)
              have hlt := hR.lt (show tK τ cc ≠ 0 from by omega)
              have hR : RZ B τ N h (cc + 1) ig43 := by rw [eig43]; exact hR.nx (by omega) (by omega)
              obtain ⟨⟨hN0, h6⟩, ⟨h2, hh⟩, h7, haN⟩ := hR.nums
              refine lv_aload_n hx hb dX7_sum_62 rfl (lv_at hl 2 rfl) ?_
              refine lv_iload_n hx hb dX7_sum_63 rfl (lv_at hl 3 rfl) ?_
              refine r_callV (As := [.int x]) (rest := []) C hw (hQ kd36 ig43 rg38 lg39 _ x N h (cc + 1) hR (by omega) hI) sv_X7_109 (hsh 1 _ rfl) rfl hl.1 rfl (Nat.le_of_ble_eq_true rfl) ⟨by simp only [rL]; omega, by simp only [rL]; omega⟩ ⟨Nat.le_of_ble_eq_true rfl, Nat.le_of_ble_eq_true rfl⟩ dX7_sum_64 (fun r48 kd44 ig45 rg46 lg47 H locs hw hH hp49 => ?_)
              obtain ⟨hI, hchp49, hrhp49⟩ := hp49
              have hN := hN.tr hchp49
              have hsh := hI.sh
              have hrs := hI.rs
              obtain ⟨z50, rfl, hz50⟩ := hrhp49
              have bz50 := RB.bz hz50
              have rb2 := hz50
              refine z_ne (tgt := 72) hx hb dX7_sum_67 (by decide) (fun c67 => ?_) (fun c67 => ?_)
              · obtain ⟨c9, p9, hR⟩ := RB.yes rb2 (by omega)
                obtain ⟨⟨hN0, h6⟩, ⟨h2, hh⟩, h7, haN⟩ := hR.nums
                have l9 := pProd.lt k _ _ p9
                refine lv_aload_n hx hb dX7_sum_72 rfl (lv_at hl 2 rfl) ?_
                refine lv_iload_n hx hb dX7_sum_73 rfl (lv_at hl 0 rfl) ?_
                refine lv_iconst (v := 0) hx hb dX7_sum_74 (by decide) (ti_c 0 (by decide) fun z51 hz51 => ?_)
                refine lv_iconst (v := 0) hx hb dX7_sum_75 (by decide) (ti_c 0 (by decide) fun z52 hz52 => ?_)
                refine r_callV (As := [.int u35, .int z51, .int z52]) (rest := []) C hw (t_X7_add l B D cA kd44 ig45 rg46 lg47 _ u35 z51 z52  hI) sv_X7_112 (hsh 1 _ rfl) rfl hl.1 rfl (Nat.le_of_ble_eq_true rfl) ⟨by simp only [rL]; omega, by simp only [rL]; omega⟩ ⟨Nat.le_of_ble_eq_true rfl, Nat.le_of_ble_eq_true rfl⟩ dX7_sum_76 (fun r57 kd53 ig54 rg55 lg56 H locs hw hH hp58 => ?_)
                obtain ⟨hI, hchp58, hrhp58⟩ := hp58
                have hN := hN.tr hchp58
                have hsh := hI.sh
                have hrs := hI.rs
                obtain ⟨rfl, hvhp58⟩ := hrhp58
                have hR : RZ B τ N h c9 ig54 := hvhp58 τ N h c9 hR
                obtain ⟨⟨hN0, h6⟩, ⟨h2, hh⟩, h7, haN⟩ := hR.nums
                refine tc_inc hx hb dX7_sum_79 hl (k := 1) rfl (by decide) (by decide) (fun z59 hz59 ls hl => ?_)
                first | replace hz59 := hz59 (by omega) | clear hz59
                have hl : lv_has ls 4 [(2, .int z59), (3, .int u35), (0, .ref (B + 1)), (1, .int x)] := hl
                refine lv_goto (tgt := 12) hx hb dX7_sum_82 (by decide) ?_
                exact ih12 ls H locs kd53 ig54 rg55 lg56 z59 (lv_sub hl [0, 2, 3] rfl) hw hI hN (⟨n + 1, c9, qCh.snoc n a cc c9 hq (show sAd (tK τ) cc from hs) p9, hR, by omega⟩) (by omega) (by omega) (by omega)
              · obtain ⟨f9, a9, hf9, p9, h89⟩ := RB.no rb2 (by omega)
                refine lv_iconst (v := 0) hx hb dX7_sum_70 (by decide) (ti_c 0 (by decide) fun z60 hz60 => ?_)
                exact r_iret C hw hr hlk (nar_b (by omega)) (Nat.le_of_ble_eq_true rfl) (Nat.le_of_ble_eq_true rfl) dX7_sum_71 ⟨hI, hN, ⟨_, rfl, RB.mkf (Or.inr ⟨n, cc, hq, Or.inr ⟨hs, hf9, p9⟩⟩) hf9 h89 (by omega)⟩⟩
            refine b_ne (tgt := 49) hx hb dX7_sum_42 (by decide) (fun c42 => ?_) (fun c42 => ?_)
            · refine lv_bipush (v := 6) hx hb dX7_sum_49 (by decide) (ti_c 6 (by decide) fun z61 hz61 => ?_)
              exact J51 ls H locs kd23 ig24 rg25 lg26 z61 (lv_sub hl [0, 1, 2] rfl) hw hI hN (hR)
            · refine lv_iconst (v := 5) hx hb dX7_sum_45 (by decide) (ti_c 5 (by decide) fun z62 hz62 => ?_)
              refine lv_goto (tgt := 51) hx hb dX7_sum_46 (by decide) ?_
              exact J51 ls H locs kd23 ig24 rg25 lg26 z62 (lv_sub hl [0, 1, 2] rfl) hw hI hN (hR)
          refine b_eq (tgt := 36) hx hb dX7_sum_24 (by decide) (fun c24 => ?_) (fun c24 => ?_)
          · exact J36 ls H locs kd10 ig11 rg12 lg13 (lv_sub hl [0, 1, 2] rfl) hw hI hN (hR) (by omega)
          · refine lv_aload_n hx hb dX7_sum_27 rfl (lv_at hl 1 rfl) ?_
            refine r_callV (As := []) (rest := []) C hw (t_X7_kind l B D cA kd10 ig11 rg12 lg13 _  N h cc hR hI) sv_X7_57 (hsh 1 _ rfl) rfl hl.1 rfl (Nat.le_of_ble_eq_true rfl) ⟨by simp only [rL]; omega, by simp only [rL]; omega⟩ ⟨Nat.le_of_ble_eq_true rfl, Nat.le_of_ble_eq_true rfl⟩ dX7_sum_28 (fun r67 kd63 ig64 rg65 lg66 H locs hw hH hp68 => ?_)
            obtain ⟨rfl, rfl, rfl, rfl, hzhp68, hrhp68⟩ := hp68
            obtain ⟨z69, rfl, hz69⟩ := hrhp68
            refine lv_bipush (v := 45) hx hb dX7_sum_31 (by decide) (ti_c 45 (by decide) fun z70 hz70 => ?_)
            refine b_ne (tgt := 85) hx hb dX7_sum_33 (by decide) (fun c33 => ?_) (fun c33 => ?_)
            · refine lv_iconst (v := 1) hx hb dX7_sum_85 (by decide) (ti_c 1 (by decide) fun z71 hz71 => ?_)
              exact r_iret C hw hr hlk (nar_b (by omega)) (Nat.le_of_ble_eq_true rfl) (Nat.le_of_ble_eq_true rfl) dX7_sum_86 ⟨hI, hN, ⟨_, rfl, RB.mk (Or.inr ⟨n, cc, hq, Or.inl ⟨(by unfold sAd sg; omega), rfl, rfl⟩⟩) hR (by omega)⟩⟩
            · exact J36 ls H locs kd10 ig11 rg12 lg13 (lv_sub hl [0, 1, 2] rfl) hw hI hN (hR) (by omega)
    exact L12 ((120 - z8.toInt) + 1).toNat ls H locs kd1 ig2 rg3 lg4 z8 (lv_sub hl [0, 1, 2] rfl) hw hI hN (⟨0, c0, p9, hR, by omega⟩) (by omega) (by omega) (by omega)
  · obtain ⟨f9, a9, hf9, p9, h89⟩ := RB.no rb1 (by omega)
    refine lv_iconst (v := 0) hx hb dX7_sum_8 (by decide) (ti_c 0 (by decide) fun z72 hz72 => ?_)
    exact r_iret C hw hr hlk (nar_b (by omega)) (Nat.le_of_ble_eq_true rfl) (Nat.le_of_ble_eq_true rfl) dX7_sum_9 ⟨hI, hN, ⟨_, rfl, RB.mkf (Or.inl ⟨hf9, p9⟩) hf9 h89 (by omega)⟩⟩

theorem t_X7_all {τ : Tp} (l : Launch) (B : Nat) (D : va_G) (cA : Nat → ClassId) : ∀ k, RPart τ l B D cA k ∧ RProd τ l B D cA k ∧ RSum τ l B D cA k := by
  intro k
  induction k with
  | zero =>
    have h1 : RPart τ l B D cA 0 := fun kd ig rg lg sz x N h a hR hx hI => t_X7_part l B D cA kd ig rg lg sz x N h a hR 0 (fun k1 h => by omega) hx hI
    have h2 : RProd τ l B D cA 0 := fun kd ig rg lg sz x N h a hR hx hI => t_X7_product l B D cA kd ig rg lg sz x N h a hR 0 h1 hx hI
    exact ⟨h1, h2, fun kd ig rg lg sz x N h a hR hx hI => t_X7_sum l B D cA kd ig rg lg sz x N h a hR 0 h2 hx hI⟩
  | succ k ih =>
    have h1 : RPart τ l B D cA (k + 1) := fun kd ig rg lg sz x N h a hR hx hI => t_X7_part l B D cA kd ig rg lg sz x N h a hR (k + 1) (fun k1 h => by cases h; exact ⟨ih.2.2, ih.1⟩) hx hI
    have h2 : RProd τ l B D cA (k + 1) := fun kd ig rg lg sz x N h a hR hx hI => t_X7_product l B D cA kd ig rg lg sz x N h a hR (k + 1) h1 hx hI
    exact ⟨h1, h2, fun kd ig rg lg sz x N h a hR hx hI => t_X7_sum l B D cA kd ig rg lg sz x N h a hR (k + 1) h2 hx hI⟩

/-- the tape's signs can be read -/
def Prt (τ : Tp) : Prop := ∀ (j : Nat) (h : j < τ.length), 32 ≤ (τ[j]).toInt ∧ (τ[j]).toInt ≤ 126
theorem Prt.c {τ : Tp} (h : Prt τ) {i : Nat} (hi : i < τ.length) : 32 ≤ ch τ i ∧ ch τ i ≤ 126 := by rw [ch_in hi]; exact h i hi
def sgB : List Int32 := [40, 41, 43, 45, 42, 47, 58, 36]
def nB (x : Int) (k : Nat) : Prop := ∀ j, j < k → (sgB.getD j 0).toInt ≠ x
theorem nB.z {x : Int} {k : Nat} (h : k = 0) : nB x k := fun j hj => by omega
theorem nB.s {x : Int} {k m : Nat} (h : nB x k) (hk : (sgB.getD k 0).toInt ≠ x) (hm : m = k + 1) : nB x m := fun j hj => by
  by_cases e : j = k
  · subst e; exact hk
  · exact h j (by omega)
theorem nB.f {x : Int} {k : Nat} (h : nB x k) (hk : 8 ≤ k) : cS x = false := by
  have e := fun j (hj : j < 8) => h j (by omega)
  refine cS_f ?_
  rintro (q | q | q | q | q | q | q | q)
  · exact e 0 (by decide) q.symm
  · exact e 1 (by decide) q.symm
  · exact e 2 (by decide) q.symm
  · exact e 3 (by decide) q.symm
  · exact e 4 (by decide) q.symm
  · exact e 5 (by decide) q.symm
  · exact e 6 (by decide) q.symm
  · exact e 7 (by decide) q.symm
theorem sgB.t {x : Int} {k : Nat} (hk : k < 8) (h : (sgB.getD k 0).toInt = x) : cS x = true := by
  subst h
  have hh : ∀ k : Nat, k < 8 → cS (sgB.getD k 0).toInt = true := by decide
  exact hh k hk
theorem i2b_id {x : Int32} (h : 0 ≤ x.toInt ∧ x.toInt ≤ 126) : x.toInt8.toInt32 = x := by
  apply i32_inj
  rw [Int8.toInt_toInt32, Int32.toInt_toInt8]
  exact Int.bmod_eq_of_le (by omega) (by omega)

set_option maxHeartbeats 4000000 in
set_option maxRecDepth 100000 in
theorem t_J1_indexOfCharE {τ : Tp} (l : Launch) (B : Nat) (D : va_G) (cA : Nat → ClassId) (kd : sK) (ig : sI) (rg : sR) (lg : sG) (sz : Nat) (x : Int32) (y : Int32) (u : Int32) (hx0 : 0 ≤ x.toInt ∧ x.toInt ≤ 126) (hy0 : y.toInt = 0) (hu0 : u.toInt = 8) (hI : IC τ B kd ig rg) : MC l B D cA yJ1_indexOfChar_4cfef cJ1_indexOfChar_4cfef 6 (some .int) (rL 0 0 0) [.ref (cA 31), .int x, .int y, .int u] kd ig rg lg sz (Pu kd ig rg lg sz (fun r => ∃ z : Int32, r = some (.int z) ∧ ((0 ≤ z.toInt ∧ cS x.toInt = true) ∨ (z.toInt < 0 ∧ cS x.toInt = false)))) := by
  refine MC.of (own := RJ1) (by decide +kernel) rfl (Nat.le_of_ble_eq_true rfl) ?_
  intro p e s m args below meth c ls C hr hlk hnm hw hsz hl
  have hx := C.1.1
  have hb := C.1.2.1
  have hown := C.1.2.2.2.1
  have hts := C.1.2.2.2.2
  have hl : lv_has ls 6 [(0, .ref (cA 31)), (1, .int x), (2, .int y), (3, .int u)] := hl
  have hsh := hI.sh
  have hrs := hI.rs
  refine lv_iload_n hx hb dJ1_indexOfChar_4cfef_0 rfl (lv_at hl 1 rfl) ?_
  refine lv_i2b hx hb dJ1_indexOfChar_4cfef_1 rfl (lv_topi fun z1 hz1 => ?_)
  refine lv_istore (lv' := [(4, .int z1), (0, .ref (cA 31)), (1, .int x), (2, .int y), (3, .int u)]) hx hb dJ1_indexOfChar_4cfef_2 hl (by decide) rfl (fun ls hl => ?_)
  refine lv_iload_n hx hb dJ1_indexOfChar_4cfef_4 rfl (lv_at hl 3 rfl) ?_
  refine lv_istore (lv' := [(5, .int y), (4, .int z1), (0, .ref (cA 31)), (1, .int x), (2, .int y), (3, .int u)]) hx hb dJ1_indexOfChar_4cfef_5 hl (by decide) rfl (fun ls hl => ?_)
  have L7 : ∀ (n : Nat) (ls : Array Slot) (H : Heap) (locs : List Loc) (v2 : Int32), lv_has ls 6 [(5, .int v2), (4, .int z1), (0, .ref (cA 31)), (3, .int u)] → WD B D cA s.heap kd ig rg lg H locs → H.size = sz → (0 ≤ v2.toInt) → (v2.toInt ≤ 8) → (nB x.toInt v2.toInt.toNat) → 8 - v2.toInt < (n : Int) → W p l e (rL 0 0 0) s m args below meth c H locs 0 0 (MQ below (QcW B D cA (Pu kd ig rg lg sz (fun r => ∃ z : Int32, r = some (.int z) ∧ ((0 ≤ z.toInt ∧ cS x.toInt = true) ∨ (z.toInt < 0 ∧ cS x.toInt = false))))) args s 0 0 (fun q => B ≤ q)) (F0 m 7 ls []) := by
    intro n7
    induction n7 with
    | zero => intro ls H locs v2 hl hw hsz g7_0 g7_1 g7_2 hmu; exact absurd hmu (by omega)
    | succ n7 ih7 =>
      intro ls H locs v2 hl hw hsz g7_0 g7_1 g7_2 hmu
      refine lv_iload hx hb dJ1_indexOfChar_4cfef_7 (lv_at hl 0 rfl) ?_
      refine lv_iload_n hx hb dJ1_indexOfChar_4cfef_9 rfl (lv_at hl 3 rfl) ?_
      refine b_ge (tgt := 31) hx hb dJ1_indexOfChar_4cfef_10 (by decide) (fun c10 => ?_) (fun c10 => ?_)
      · refine lv_iconst (v := (-1)) hx hb dJ1_indexOfChar_4cfef_31 (by decide) (ti_c (-1) (by decide) fun z3 hz3 => ?_)
        exact r_iret C hw hr hlk rfl (Nat.le_of_ble_eq_true rfl) (Nat.le_of_ble_eq_true rfl) dJ1_indexOfChar_4cfef_32 ⟨rfl, rfl, rfl, rfl, hsz, ⟨_, rfl, Or.inr ⟨by omega, g7_2.f (by omega)⟩⟩⟩
      · refine lv_aload_n hx hb dJ1_indexOfChar_4cfef_13 rfl (lv_at hl 2 rfl) ?_
        refine lv_iload hx hb dJ1_indexOfChar_4cfef_14 (lv_at hl 0 rfl) ?_
        refine va_tb hx hb (KN.stc C.2).2.2 hw.2.2.1 (in_of (by omega) (by omega)) rfl dJ1_indexOfChar_4cfef_16 (lv_topi fun z4 hz4 => ?_)
        have hq1 : z1.toInt = x.toInt := by rw [hz1, i2b_id hx0]
        have hq2 : z4 = sgB.getD v2.toInt.toNat 0 := hz4
        refine lv_iload hx hb dJ1_indexOfChar_4cfef_17 (lv_at hl 1 rfl) ?_
        refine b_ne (tgt := 25) hx hb dJ1_indexOfChar_4cfef_19 (by decide) (fun c19 => ?_) (fun c19 => ?_)
        · have hne : (sgB.getD v2.toInt.toNat 0).toInt ≠ x.toInt := by rw [← hq2]; omega
          refine tc_inc hx hb dJ1_indexOfChar_4cfef_25 hl (k := 0) rfl (by decide) (by decide) (fun z5 hz5 ls hl => ?_)
          first | replace hz5 := hz5 (by omega) | clear hz5
          have hl : lv_has ls 6 [(5, .int z5), (4, .int z1), (0, .ref (cA 31)), (3, .int u)] := hl
          refine lv_goto (tgt := 7) hx hb dJ1_indexOfChar_4cfef_28 (by decide) ?_
          exact ih7 ls H locs z5 (lv_sub hl [0, 1, 2, 3] rfl) hw hsz (by omega) (by omega) (g7_2.s hne (by omega)) (by omega)
        · have heq : (sgB.getD v2.toInt.toNat 0).toInt = x.toInt := by rw [← hq2]; omega
          refine lv_iload hx hb dJ1_indexOfChar_4cfef_22 (lv_at hl 0 rfl) ?_
          exact r_iret C hw hr hlk rfl (Nat.le_of_ble_eq_true rfl) (Nat.le_of_ble_eq_true rfl) dJ1_indexOfChar_4cfef_24 ⟨rfl, rfl, rfl, rfl, hsz, ⟨_, rfl, Or.inl ⟨by omega, sgB.t (by omega) heq⟩⟩⟩
  exact L7 ((8 - y.toInt) + 1).toNat ls s.heap [] y (lv_sub hl [0, 1, 2, 5] rfl) hw hsz (by omega) (by omega) (nB.z (by omega)) (by omega)

set_option maxHeartbeats 4000000 in
set_option maxRecDepth 100000 in
theorem t_J0_lengthE {τ : Tp} (l : Launch) (B : Nat) (D : va_G) (cA : Nat → ClassId) (kd : sK) (ig : sI) (rg : sR) (lg : sG) (sz : Nat)  (hI : IC τ B kd ig rg) : MC l B D cA yJ0_length_8abf5 cJ0_length_8abf5 1 (some .int) (rL 1 0 0) [.ref (cA 30)] kd ig rg lg sz (Pu kd ig rg lg sz (fun r => ∃ z : Int32, r = some (.int z) ∧ z.toInt = 8)) := by
  refine MC.of (own := RJ0) (by decide +kernel) rfl (Nat.le_of_ble_eq_true rfl) ?_
  intro p e s m args below meth c ls C hr hlk hnm hw hsz hl
  have hx := C.1.1
  have hb := C.1.2.1
  have hown := C.1.2.2.2.1
  have hts := C.1.2.2.2.2
  have hl : lv_has ls 1 [(0, .ref (cA 30))] := hl
  have hsh := hI.sh
  have hrs := hI.rs
  refine lv_aload_n hx hb dJ0_length_8abf5_0 rfl (lv_at hl 0 rfl) ?_
  refine vk_getf hx hb (KN.stc C.2).2.1 hw.2.2.1 hown (hts _ fk_J0_9) (fun _ h => h) dJ0_length_8abf5_1 ?_
  refine va_tlen (v := 8) hx hb (KN.stc C.2).2.2 hw.2.2.1 (by decide) dJ0_length_8abf5_4 (ti_c 8 (by decide) fun z1 hz1 => ?_)
  refine lv_aload_n hx hb dJ0_length_8abf5_5 rfl (lv_at hl 0 rfl) ?_
  refine r_callR (As := []) (rest := [.int z1]) C hw (t_J0_coder_7d493 l B D cA kd ig rg lg _   hI) sr_J0_335 rfl hl.1 rfl (Nat.le_of_ble_eq_true rfl) ⟨Nat.le_of_ble_eq_true rfl, Nat.le_of_ble_eq_true rfl⟩ ⟨Nat.le_of_ble_eq_true rfl, Nat.le_of_ble_eq_true rfl⟩ dJ0_length_8abf5_6 (fun r6 kd2 ig3 rg4 lg5 H locs hw hH hp7 => ?_)
  obtain ⟨rfl, rfl, rfl, rfl, hzhp7, hrhp7⟩ := hp7
  have hsz := hzhp7.trans hsz
  obtain ⟨z8, rfl, hz8⟩ := hrhp7
  refine lv_ishr hx hb dJ0_length_8abf5_9 (lv_topi fun z9 hz9 => ?_)
  exact r_iret C hw hr hlk rfl (Nat.le_of_ble_eq_true rfl) (Nat.le_of_ble_eq_true rfl) dJ0_length_8abf5_10 ⟨rfl, rfl, rfl, rfl, hsz, ⟨_, rfl, by rw [hz9, i32_inj (hz1.trans (show (8 : Int) = (8 : Int32).toInt from rfl)), i32_inj (hz8.trans (show (0 : Int) = (0 : Int32).toInt from rfl))]; decide⟩⟩

set_option maxHeartbeats 4000000 in
set_option maxRecDepth 100000 in
theorem t_J1_canEncodeE {τ : Tp} (l : Launch) (B : Nat) (D : va_G) (cA : Nat → ClassId) (kd : sK) (ig : sI) (rg : sR) (lg : sG) (sz : Nat) (x : Int32) (hx0 : 0 ≤ x.toInt ∧ x.toInt ≤ 126) (hI : IC τ B kd ig rg) : MC l B D cA yJ1_canEncode_9a6ad cJ1_canEncode_9a6ad 1 (some .boolean) (rL 0 0 0) [.int x] kd ig rg lg sz (Pu kd ig rg lg sz (fun r => ∃ z : Int32, r = some (.int z) ∧ z.toInt = 1)) := by
  refine MC.of (own := RJ1) (by decide +kernel) rfl (Nat.le_of_ble_eq_true rfl) ?_
  intro p e s m args below meth c ls C hr hlk hnm hw hsz hl
  have hx := C.1.1
  have hb := C.1.2.1
  have hown := C.1.2.2.2.1
  have hts := C.1.2.2.2.2
  have hl : lv_has ls 1 [(0, .int x)] := hl
  have hsh := hI.sh
  have hrs := hI.rs
  refine lv_iload_n hx hb dJ1_canEncode_9a6ad_0 rfl (lv_at hl 0 rfl) ?_
  refine z_lt (tgt := 15) hx hb dJ1_canEncode_9a6ad_1 (by decide) (fun c1 => ?_) (fun c1 => ?_)
  · exact absurd c1 (by omega)
  · refine lv_iload_n hx hb dJ1_canEncode_9a6ad_4 rfl (lv_at hl 0 rfl) ?_
    refine lv_sipush (v := 255) hx hb dJ1_canEncode_9a6ad_5 (by decide) (ti_c 255 (by decide) fun z1 hz1 => ?_)
    refine b_gt (tgt := 15) hx hb dJ1_canEncode_9a6ad_8 (by decide) (fun c8 => ?_) (fun c8 => ?_)
    · exact absurd c8 (by omega)
    · refine lv_iconst (v := 1) hx hb dJ1_canEncode_9a6ad_11 (by decide) (ti_c 1 (by decide) fun z2 hz2 => ?_)
      refine lv_goto (tgt := 16) hx hb dJ1_canEncode_9a6ad_12 (by decide) ?_
      exact r_iret C hw hr hlk (nar_b (by omega)) (Nat.le_of_ble_eq_true rfl) (Nat.le_of_ble_eq_true rfl) dJ1_canEncode_9a6ad_16 ⟨rfl, rfl, rfl, rfl, hsz, ⟨_, rfl, by omega⟩⟩

set_option maxHeartbeats 4000000 in
set_option maxRecDepth 100000 in
theorem t_J1_indexOfE {τ : Tp} (l : Launch) (B : Nat) (D : va_G) (cA : Nat → ClassId) (kd : sK) (ig : sI) (rg : sR) (lg : sG) (sz : Nat) (x : Int32) (y : Int32) (u : Int32) (hx0 : 0 ≤ x.toInt ∧ x.toInt ≤ 126) (hy0 : y.toInt = 0) (hu0 : u.toInt = 8) (hI : IC τ B kd ig rg) : MC l B D cA yJ1_indexOf_4cfef cJ1_indexOf_4cfef 4 (some .int) (rL 1 0 0) [.ref (cA 31), .int x, .int y, .int u] kd ig rg lg sz (Pu kd ig rg lg sz (fun r => ∃ z : Int32, r = some (.int z) ∧ ((0 ≤ z.toInt ∧ cS x.toInt = true) ∨ (z.toInt < 0 ∧ cS x.toInt = false)))) := by
  refine MC.of (own := RJ1) (by decide +kernel) rfl (Nat.le_of_ble_eq_true rfl) ?_
  intro p e s m args below meth c ls C hr hlk hnm hw hsz hl
  have hx := C.1.1
  have hb := C.1.2.1
  have hown := C.1.2.2.2.1
  have hts := C.1.2.2.2.2
  have hl : lv_has ls 4 [(0, .ref (cA 31)), (1, .int x), (2, .int y), (3, .int u)] := hl
  have hsh := hI.sh
  have hrs := hI.rs
  refine lv_iload_n hx hb dJ1_indexOf_4cfef_0 rfl (lv_at hl 1 rfl) ?_
  refine r_callS (As := [.int x]) (rest := []) C hw (t_J1_canEncodeE l B D cA kd ig rg lg _ x (by omega) hI) ss_J1_88 rfl hl.1 rfl (Nat.le_of_ble_eq_true rfl) ⟨Nat.le_of_ble_eq_true rfl, Nat.le_of_ble_eq_true rfl⟩ ⟨Nat.le_of_ble_eq_true rfl, Nat.le_of_ble_eq_true rfl⟩ dJ1_indexOf_4cfef_1 (fun r5 kd1 ig2 rg3 lg4 H locs hw hH hp6 => ?_)
  obtain ⟨rfl, rfl, rfl, rfl, hzhp6, hrhp6⟩ := hp6
  have hsz := hzhp6.trans hsz
  obtain ⟨z7, rfl, hz7⟩ := hrhp6
  refine z_ne (tgt := 9) hx hb dJ1_indexOf_4cfef_4 (by decide) (fun c4 => ?_) (fun c4 => ?_)
  · refine lv_iload_n hx hb dJ1_indexOf_4cfef_9 rfl (lv_at hl 2 rfl) ?_
    refine lv_iconst (v := 0) hx hb dJ1_indexOf_4cfef_10 (by decide) (ti_c 0 (by decide) fun z8 hz8 => ?_)
    refine r_max C ss_J1_92 hl.1 (Nat.le_of_ble_eq_true rfl) (Nat.le_of_ble_eq_true rfl) (Nat.le_of_ble_eq_true rfl) (Nat.le_of_ble_eq_true rfl) dJ1_indexOf_4cfef_11 (fun z9 hz9 => ?_)
    refine lv_istore_n (lv' := [(2, .int z9), (0, .ref (cA 31)), (1, .int x), (3, .int u)]) hx hb dJ1_indexOf_4cfef_14 rfl hl (by decide) rfl (fun ls hl => ?_)
    refine lv_iload_n hx hb dJ1_indexOf_4cfef_15 rfl (lv_at hl 3 rfl) ?_
    refine lv_aload_n hx hb dJ1_indexOf_4cfef_16 rfl (lv_at hl 1 rfl) ?_
    refine va_tlen (v := 8) hx hb (KN.stc C.2).2.2 hw.2.2.1 (by decide) dJ1_indexOf_4cfef_17 (ti_c 8 (by decide) fun z10 hz10 => ?_)
    refine r_min C ss_J1_38 hl.1 (Nat.le_of_ble_eq_true rfl) (Nat.le_of_ble_eq_true rfl) (Nat.le_of_ble_eq_true rfl) (Nat.le_of_ble_eq_true rfl) dJ1_indexOf_4cfef_18 (fun z11 hz11 => ?_)
    refine lv_istore_n (lv' := [(3, .int z11), (2, .int z9), (0, .ref (cA 31)), (1, .int x)]) hx hb dJ1_indexOf_4cfef_21 rfl hl (by decide) rfl (fun ls hl => ?_)
    refine lv_iload_n hx hb dJ1_indexOf_4cfef_22 rfl (lv_at hl 1 rfl) ?_
    refine lv_iload_n hx hb dJ1_indexOf_4cfef_23 rfl (lv_at hl 0 rfl) ?_
    refine b_lt (tgt := 29) hx hb dJ1_indexOf_4cfef_24 (by decide) (fun c24 => ?_) (fun c24 => ?_)
    · refine lv_aload_n hx hb dJ1_indexOf_4cfef_29 rfl (lv_at hl 2 rfl) ?_
      refine lv_iload_n hx hb dJ1_indexOf_4cfef_30 rfl (lv_at hl 3 rfl) ?_
      refine lv_iload_n hx hb dJ1_indexOf_4cfef_31 rfl (lv_at hl 1 rfl) ?_
      refine lv_iload_n hx hb dJ1_indexOf_4cfef_32 rfl (lv_at hl 0 rfl) ?_
      refine r_callS (As := [.ref (cA 31), .int x, .int z9, .int z11]) (rest := []) C hw (t_J1_indexOfCharE l B D cA kd ig rg lg _ x z9 z11 (by omega) (by omega) (by omega) hI) ss_J1_95 rfl hl.1 rfl (Nat.le_of_ble_eq_true rfl) ⟨Nat.le_of_ble_eq_true rfl, Nat.le_of_ble_eq_true rfl⟩ ⟨Nat.le_of_ble_eq_true rfl, Nat.le_of_ble_eq_true rfl⟩ dJ1_indexOf_4cfef_33 (fun r16 kd12 ig13 rg14 lg15 H locs hw hH hp17 => ?_)
      obtain ⟨rfl, rfl, rfl, rfl, hzhp17, hrhp17⟩ := hp17
      have hsz := hzhp17.trans hsz
      obtain ⟨z18, rfl, hz18⟩ := hrhp17
      exact r_iret C hw hr hlk rfl (Nat.le_of_ble_eq_true rfl) (Nat.le_of_ble_eq_true rfl) dJ1_indexOf_4cfef_36 ⟨rfl, rfl, rfl, rfl, hsz, ⟨_, rfl, hz18⟩⟩
    · exact absurd c24 (by omega)
  · exact absurd c4 (by omega)

set_option maxHeartbeats 4000000 in
set_option maxRecDepth 100000 in
theorem t_J0_indexOf2E {τ : Tp} (l : Launch) (B : Nat) (D : va_G) (cA : Nat → ClassId) (kd : sK) (ig : sI) (rg : sR) (lg : sG) (sz : Nat) (x : Int32) (y : Int32) (hx0 : 0 ≤ x.toInt ∧ x.toInt ≤ 126) (hy0 : y.toInt = 0) (hI : IC τ B kd ig rg) : MC l B D cA yJ0_indexOf_7cf53 cJ0_indexOf_7cf53 3 (some .int) (rL 2 0 0) [.ref (cA 30), .int x, .int y] kd ig rg lg sz (Pu kd ig rg lg sz (fun r => ∃ z : Int32, r = some (.int z) ∧ ((0 ≤ z.toInt ∧ cS x.toInt = true) ∨ (z.toInt < 0 ∧ cS x.toInt = false)))) := by
  refine MC.of (own := RJ0) (by decide +kernel) rfl (Nat.le_of_ble_eq_true rfl) ?_
  intro p e s m args below meth c ls C hr hlk hnm hw hsz hl
  have hx := C.1.1
  have hb := C.1.2.1
  have hown := C.1.2.2.2.1
  have hts := C.1.2.2.2.2
  have hl : lv_has ls 3 [(0, .ref (cA 30)), (1, .int x), (2, .int y)] := hl
  have hsh := hI.sh
  have hrs := hI.rs
  refine lv_aload_n hx hb dJ0_indexOf_7cf53_0 rfl (lv_at hl 0 rfl) ?_
  refine r_callR (As := []) (rest := []) C hw (t_J0_isLatin1_aae02 l B D cA kd ig rg lg _   hI) sr_J0_492 rfl hl.1 rfl (Nat.le_of_ble_eq_true rfl) ⟨Nat.le_of_ble_eq_true rfl, Nat.le_of_ble_eq_true rfl⟩ ⟨Nat.le_of_ble_eq_true rfl, Nat.le_of_ble_eq_true rfl⟩ dJ0_indexOf_7cf53_1 (fun r5 kd1 ig2 rg3 lg4 H locs hw hH hp6 => ?_)
  obtain ⟨rfl, rfl, rfl, rfl, hzhp6, hrhp6⟩ := hp6
  have hsz := hzhp6.trans hsz
  obtain ⟨z7, rfl, hz7⟩ := hrhp6
  refine z_eq (tgt := 23) hx hb dJ0_indexOf_7cf53_4 (by decide) (fun c4 => ?_) (fun c4 => ?_)
  · exact absurd c4 (by omega)
  · refine lv_aload_n hx hb dJ0_indexOf_7cf53_7 rfl (lv_at hl 0 rfl) ?_
    refine vk_getf hx hb (KN.stc C.2).2.1 hw.2.2.1 hown (hts _ fk_J0_9) (fun _ h => h) dJ0_indexOf_7cf53_8 ?_
    refine lv_iload_n hx hb dJ0_indexOf_7cf53_11 rfl (lv_at hl 1 rfl) ?_
    refine lv_iload_n hx hb dJ0_indexOf_7cf53_12 rfl (lv_at hl 2 rfl) ?_
    refine lv_aload_n hx hb dJ0_indexOf_7cf53_13 rfl (lv_at hl 0 rfl) ?_
    refine r_callR (As := []) (rest := [.int y, .int x, .ref (cA 31)]) C hw (t_J0_lengthE l B D cA kd ig rg lg _   hI) sr_J0_505 rfl hl.1 rfl (Nat.le_of_ble_eq_true rfl) ⟨Nat.le_of_ble_eq_true rfl, Nat.le_of_ble_eq_true rfl⟩ ⟨Nat.le_of_ble_eq_true rfl, Nat.le_of_ble_eq_true rfl⟩ dJ0_indexOf_7cf53_14 (fun r12 kd8 ig9 rg10 lg11 H locs hw hH hp13 => ?_)
    obtain ⟨rfl, rfl, rfl, rfl, hzhp13, hrhp13⟩ := hp13
    have hsz := hzhp13.trans hsz
    obtain ⟨z14, rfl, hz14⟩ := hrhp13
    refine r_callS (As := [.ref (cA 31), .int x, .int y, .int z14]) (rest := []) C hw (t_J1_indexOfE l B D cA kd ig rg lg _ x y z14 (by omega) (by omega) (by omega) hI) ss_J0_637 rfl hl.1 rfl (Nat.le_of_ble_eq_true rfl) ⟨Nat.le_of_ble_eq_true rfl, Nat.le_of_ble_eq_true rfl⟩ ⟨Nat.le_of_ble_eq_true rfl, Nat.le_of_ble_eq_true rfl⟩ dJ0_indexOf_7cf53_17 (fun r19 kd15 ig16 rg17 lg18 H locs hw hH hp20 => ?_)
    obtain ⟨rfl, rfl, rfl, rfl, hzhp20, hrhp20⟩ := hp20
    have hsz := hzhp20.trans hsz
    obtain ⟨z21, rfl, hz21⟩ := hrhp20
    refine lv_goto (tgt := 36) hx hb dJ0_indexOf_7cf53_20 (by decide) ?_
    exact r_iret C hw hr hlk rfl (Nat.le_of_ble_eq_true rfl) (Nat.le_of_ble_eq_true rfl) dJ0_indexOf_7cf53_36 ⟨rfl, rfl, rfl, rfl, hsz, ⟨_, rfl, hz21⟩⟩

set_option maxHeartbeats 4000000 in
set_option maxRecDepth 100000 in
theorem t_J0_indexOf1E {τ : Tp} (l : Launch) (B : Nat) (D : va_G) (cA : Nat → ClassId) (kd : sK) (ig : sI) (rg : sR) (lg : sG) (sz : Nat) (x : Int32) (hx0 : 0 ≤ x.toInt ∧ x.toInt ≤ 126) (hI : IC τ B kd ig rg) : MC l B D cA yJ0_indexOf_0f7a4 cJ0_indexOf_0f7a4 2 (some .int) (rL 3 0 0) [.ref (cA 30), .int x] kd ig rg lg sz (Pu kd ig rg lg sz (fun r => ∃ z : Int32, r = some (.int z) ∧ ((0 ≤ z.toInt ∧ cS x.toInt = true) ∨ (z.toInt < 0 ∧ cS x.toInt = false)))) := by
  refine MC.of (own := RJ0) (by decide +kernel) rfl (Nat.le_of_ble_eq_true rfl) ?_
  intro p e s m args below meth c ls C hr hlk hnm hw hsz hl
  have hx := C.1.1
  have hb := C.1.2.1
  have hown := C.1.2.2.2.1
  have hts := C.1.2.2.2.2
  have hl : lv_has ls 2 [(0, .ref (cA 30)), (1, .int x)] := hl
  have hsh := hI.sh
  have hrs := hI.rs
  refine lv_aload_n hx hb dJ0_indexOf_0f7a4_0 rfl (lv_at hl 0 rfl) ?_
  refine lv_iload_n hx hb dJ0_indexOf_0f7a4_1 rfl (lv_at hl 1 rfl) ?_
  refine lv_iconst (v := 0) hx hb dJ0_indexOf_0f7a4_2 (by decide) (ti_c 0 (by decide) fun z1 hz1 => ?_)
  refine r_callR (As := [.int x, .int z1]) (rest := []) C hw (t_J0_indexOf2E l B D cA kd ig rg lg _ x z1 (by omega) (by omega) hI) sr_J0_633 rfl hl.1 rfl (Nat.le_of_ble_eq_true rfl) ⟨Nat.le_of_ble_eq_true rfl, Nat.le_of_ble_eq_true rfl⟩ ⟨Nat.le_of_ble_eq_true rfl, Nat.le_of_ble_eq_true rfl⟩ dJ0_indexOf_0f7a4_3 (fun r6 kd2 ig3 rg4 lg5 H locs hw hH hp7 => ?_)
  obtain ⟨rfl, rfl, rfl, rfl, hzhp7, hrhp7⟩ := hp7
  have hsz := hzhp7.trans hsz
  obtain ⟨z8, rfl, hz8⟩ := hrhp7
  exact r_iret C hw hr hlk rfl (Nat.le_of_ble_eq_true rfl) (Nat.le_of_ble_eq_true rfl) dJ0_indexOf_0f7a4_6 ⟨rfl, rfl, rfl, rfl, hsz, ⟨_, rfl, hz8⟩⟩

set_option maxHeartbeats 4000000 in
set_option maxRecDepth 100000 in
theorem t_X7_endOfToken {τ : Tp} (l : Launch) (B : Nat) (D : va_G) (cA : Nat → ClassId) (kd : sK) (ig : sI) (rg : sR) (lg : sG) (sz : Nat) (x : Int32) (i : Nat) (hi : x.toInt = (i : Int)) (hil : i < τ.length) (hI : IC τ B kd ig rg) : MC l B D cA yX7_endOfToken cX7_endOfToken 3 (some .int) (rL 1 0 0) [.ref (B + 1), .int x] kd ig rg lg sz (Pu kd ig rg lg sz (fun r => ∃ z : Int32, r = some (.int z) ∧ z.toInt = (tE τ i : Int))) := by
  refine MC.of (own := RX7) (by decide +kernel) rfl (Nat.le_of_ble_eq_true rfl) ?_
  intro p e s m args below meth c ls C hr hlk hnm hw hsz hl
  have hx := C.1.1
  have hb := C.1.2.1
  have hown := C.1.2.2.2.1
  have hts := C.1.2.2.2.2
  have hl : lv_has ls 3 [(0, .ref (B + 1)), (1, .int x)] := hl
  have hsh := hI.sh
  have hrs := hI.rs
  obtain ⟨hlen, hl120⟩ := hI.len
  refine lv_iload_n hx hb dX7_endOfToken_0 rfl (lv_at hl 1 rfl) ?_
  refine lv_iconst (v := 1) hx hb dX7_endOfToken_1 (by decide) (ti_c 1 (by decide) fun z1 hz1 => ?_)
  refine lv_iadd hx hb dX7_endOfToken_2 (tc_add fun z2 hz2 => ?_)
  first | replace hz2 := hz2 (by omega) | clear hz2
  refine lv_istore_n (lv' := [(2, .int z2), (0, .ref (B + 1)), (1, .int x)]) hx hb dX7_endOfToken_3 rfl hl (by decide) rfl (fun ls hl => ?_)
  refine lv_aload_n hx hb dX7_endOfToken_4 rfl (lv_at hl 1 rfl) ?_
  refine r_get C hw (hsh 1 _ rfl) fl_X7_9 (oV_r rfl (hrs (1, 0, 2) (by decide))) dX7_endOfToken_5 ?_
  refine lv_iload_n hx hb dX7_endOfToken_8 rfl (lv_at hl 2 rfl) ?_
  refine r_cald C hw (hsh 2 _ rfl) (by omega) (by omega) dX7_endOfToken_9 (ti_c (ig (B + 2) x.toInt.toNat).toInt rfl fun z3 hz3 => ?_)
  have hch : z3.toInt = ch τ (i) := by rw [hz3]; exact hI.tchn (by omega) (by omega)
  refine r_callS (As := [.int z3]) (rest := []) C hw (t_X7_isLetter l B D cA kd ig rg lg _ z3  hI) ss_X7_89 rfl hl.1 rfl (Nat.le_of_ble_eq_true rfl) ⟨Nat.le_of_ble_eq_true rfl, Nat.le_of_ble_eq_true rfl⟩ ⟨Nat.le_of_ble_eq_true rfl, Nat.le_of_ble_eq_true rfl⟩ dX7_endOfToken_10 (fun r8 kd4 ig5 rg6 lg7 H locs hw hH hp9 => ?_)
  obtain ⟨rfl, rfl, rfl, rfl, hzhp9, hrhp9⟩ := hp9
  have hsz := hzhp9.trans hsz
  obtain ⟨z10, rfl, hz10⟩ := hrhp9
  have hcl := hz10
  rw [hch] at hcl
  have J80 : ∀ (ls : Array Slot) (H : Heap) (locs : List Loc) (v11 : Int32), lv_has ls 3 [(2, .int v11)] → WD B D cA s.heap kd ig rg lg H locs → H.size = sz → (v11.toInt = (tE τ i : Int)) → W p l e (rL 1 0 0) s m args below meth c H locs 0 0 (MQ below (QcW B D cA (Pu kd ig rg lg sz (fun r => ∃ z : Int32, r = some (.int z) ∧ z.toInt = (tE τ i : Int)))) args s 0 0 (fun q => B ≤ q)) (F0 m 80 ls []) := by
    intro ls H locs v11 hl hw hsz g80_0
    refine lv_iload_n hx hb dX7_endOfToken_80 rfl (lv_at hl 0 rfl) ?_
    exact r_iret C hw hr hlk rfl (Nat.le_of_ble_eq_true rfl) (Nat.le_of_ble_eq_true rfl) dX7_endOfToken_81 ⟨rfl, rfl, rfl, rfl, hsz, ⟨_, rfl, g80_0⟩⟩
  refine z_eq (tgt := 42) hx hb dX7_endOfToken_13 (by decide) (fun c13 => ?_) (fun c13 => ?_)
  · refine lv_aload_n hx hb dX7_endOfToken_42 rfl (lv_at hl 1 rfl) ?_
    refine r_get C hw (hsh 1 _ rfl) fl_X7_9 (oV_r rfl (hrs (1, 0, 2) (by decide))) dX7_endOfToken_43 ?_
    refine lv_iload_n hx hb dX7_endOfToken_46 rfl (lv_at hl 2 rfl) ?_
    refine r_cald C hw (hsh 2 _ rfl) (by omega) (by omega) dX7_endOfToken_47 (ti_c (ig (B + 2) x.toInt.toNat).toInt rfl fun z12 hz12 => ?_)
    have hch3 : z12.toInt = ch τ (i) := by rw [hz12]; exact hI.tchn (by omega) (by omega)
    refine r_callS (As := [.int z12]) (rest := []) C hw (t_X7_isDigit l B D cA kd ig rg lg _ z12  hI) ss_X7_93 rfl hl.1 rfl (Nat.le_of_ble_eq_true rfl) ⟨Nat.le_of_ble_eq_true rfl, Nat.le_of_ble_eq_true rfl⟩ ⟨Nat.le_of_ble_eq_true rfl, Nat.le_of_ble_eq_true rfl⟩ dX7_endOfToken_48 (fun r17 kd13 ig14 rg15 lg16 H locs hw hH hp18 => ?_)
    obtain ⟨rfl, rfl, rfl, rfl, hzhp18, hrhp18⟩ := hp18
    have hsz := hzhp18.trans hsz
    obtain ⟨z19, rfl, hz19⟩ := hrhp18
    have hcd := hz19
    rw [hch3] at hcd
    refine z_eq (tgt := 80) hx hb dX7_endOfToken_51 (by decide) (fun c51 => ?_) (fun c51 => ?_)
    · exact J80 ls H locs z2 (lv_sub hl [0] rfl) hw hsz (by rw [tE_N (by rcases hcl with ⟨q, -⟩ | ⟨-, q⟩; omega; exact q) (by rcases hcd with ⟨q, -⟩ | ⟨-, q⟩; omega; exact q)]; omega)
    · have L54 : ∀ (n : Nat) (ls : Array Slot) (H : Heap) (locs : List Loc) (v20 : Int32), lv_has ls 3 [(2, .int v20), (0, .ref (B + 1))] → WD B D cA s.heap kd ig rg lg H locs → H.size = sz → ((i : Int) < v20.toInt) → (v20.toInt ≤ (τ.length : Int)) → (Rn cD τ i v20.toInt.toNat) → (τ.length : Int) - v20.toInt < (n : Int) → W p l e (rL 1 0 0) s m args below meth c H locs 0 0 (MQ below (QcW B D cA (Pu kd ig rg lg sz (fun r => ∃ z : Int32, r = some (.int z) ∧ z.toInt = (tE τ i : Int)))) args s 0 0 (fun q => B ≤ q)) (F0 m 54 ls []) := by
        intro n54
        induction n54 with
        | zero => intro ls H locs v20 hl hw hsz g54_0 g54_1 g54_2 hmu; exact absurd hmu (by omega)
        | succ n54 ih54 =>
          intro ls H locs v20 hl hw hsz g54_0 g54_1 g54_2 hmu
          have vvD0 := i32_bd v20
          refine lv_iload_n hx hb dX7_endOfToken_54 rfl (lv_at hl 0 rfl) ?_
          refine lv_aload_n hx hb dX7_endOfToken_55 rfl (lv_at hl 1 rfl) ?_
          refine r_get C hw (hsh 1 _ rfl) fl_X7_15 (oV_i rfl) dX7_endOfToken_56 (ti_c (ig (B + 1) 1).toInt rfl fun z21 hz21 => ?_)
          have k22 : 0 ≤ (ig (B + 1) 1).toInt ∧ (ig (B + 1) 1).toInt ≤ 120 := hI.i 1 1 (by decide)
          refine b_ge (tgt := 80) hx hb dX7_endOfToken_59 (by decide) (fun c59 => ?_) (fun c59 => ?_)
          · exact J80 ls H locs v20 (lv_sub hl [0] rfl) hw hsz (by rw [tE_D (by rcases hcl with ⟨q, -⟩ | ⟨-, q⟩; omega; exact q) (by rcases hcd with ⟨-, q⟩ | ⟨q, -⟩; exact q; omega) g54_2 (by rw [ch_out (by omega)]; rfl) (by omega)]; omega)
          · refine lv_aload_n hx hb dX7_endOfToken_62 rfl (lv_at hl 1 rfl) ?_
            refine r_get C hw (hsh 1 _ rfl) fl_X7_9 (oV_r rfl (hrs (1, 0, 2) (by decide))) dX7_endOfToken_63 ?_
            refine lv_iload_n hx hb dX7_endOfToken_66 rfl (lv_at hl 0 rfl) ?_
            refine r_cald C hw (hsh 2 _ rfl) (by omega) (by omega) dX7_endOfToken_67 (ti_c (ig (B + 2) v20.toInt.toNat).toInt rfl fun z23 hz23 => ?_)
            have hch4 : z23.toInt = ch τ v20.toInt.toNat := by rw [hz23]; exact hI.tchn rfl (by omega)
            refine r_callS (As := [.int z23]) (rest := []) C hw (t_X7_isDigit l B D cA kd ig rg lg _ z23  hI) ss_X7_93 rfl hl.1 rfl (Nat.le_of_ble_eq_true rfl) ⟨Nat.le_of_ble_eq_true rfl, Nat.le_of_ble_eq_true rfl⟩ ⟨Nat.le_of_ble_eq_true rfl, Nat.le_of_ble_eq_true rfl⟩ dX7_endOfToken_68 (fun r28 kd24 ig25 rg26 lg27 H locs hw hH hp29 => ?_)
            obtain ⟨rfl, rfl, rfl, rfl, hzhp29, hrhp29⟩ := hp29
            have hsz := hzhp29.trans hsz
            obtain ⟨z30, rfl, hz30⟩ := hrhp29
            have hcd2 := hz30
            rw [hch4] at hcd2
            refine z_eq (tgt := 80) hx hb dX7_endOfToken_71 (by decide) (fun c71 => ?_) (fun c71 => ?_)
            · exact J80 ls H locs v20 (lv_sub hl [0] rfl) hw hsz (by rw [tE_D (by rcases hcl with ⟨q, -⟩ | ⟨-, q⟩; omega; exact q) (by rcases hcd with ⟨-, q⟩ | ⟨q, -⟩; exact q; omega) g54_2 (by rcases hcd2 with ⟨q, -⟩ | ⟨-, q⟩; omega; exact q) (by omega)]; omega)
            · refine tc_inc hx hb dX7_endOfToken_74 hl (k := 0) rfl (by decide) (by decide) (fun z31 hz31 ls hl => ?_)
              first | replace hz31 := hz31 (by omega) | clear hz31
              have hl : lv_has ls 3 [(2, .int z31), (0, .ref (B + 1))] := hl
              refine lv_goto (tgt := 54) hx hb dX7_endOfToken_77 (by decide) ?_
              exact ih54 ls H locs z31 (lv_sub hl [0, 1] rfl) hw hsz (by omega) (by omega) (by have q := g54_2.s (by rcases hcd2 with ⟨-, q⟩ | ⟨q, -⟩; exact q; omega); rw [show z31.toInt.toNat = v20.toInt.toNat + 1 by omega]; exact q) (by omega)
      exact L54 (((τ.length : Int) - z2.toInt) + 1).toNat ls H locs z2 (lv_sub hl [0, 1] rfl) hw hsz (by omega) (by omega) (rn1 (by rcases hcd with ⟨-, q⟩ | ⟨q, -⟩; exact q; omega) (by omega)) (by omega)
  · have L16 : ∀ (n : Nat) (ls : Array Slot) (H : Heap) (locs : List Loc) (v32 : Int32), lv_has ls 3 [(2, .int v32), (0, .ref (B + 1))] → WD B D cA s.heap kd ig rg lg H locs → H.size = sz → ((i : Int) < v32.toInt) → (v32.toInt ≤ (τ.length : Int)) → (Rn cL τ i v32.toInt.toNat) → (τ.length : Int) - v32.toInt < (n : Int) → W p l e (rL 1 0 0) s m args below meth c H locs 0 0 (MQ below (QcW B D cA (Pu kd ig rg lg sz (fun r => ∃ z : Int32, r = some (.int z) ∧ z.toInt = (tE τ i : Int)))) args s 0 0 (fun q => B ≤ q)) (F0 m 16 ls []) := by
      intro n16
      induction n16 with
      | zero => intro ls H locs v32 hl hw hsz g16_0 g16_1 g16_2 hmu; exact absurd hmu (by omega)
      | succ n16 ih16 =>
        intro ls H locs v32 hl hw hsz g16_0 g16_1 g16_2 hmu
        have vvL0 := i32_bd v32
        refine lv_iload_n hx hb dX7_endOfToken_16 rfl (lv_at hl 0 rfl) ?_
        refine lv_aload_n hx hb dX7_endOfToken_17 rfl (lv_at hl 1 rfl) ?_
        refine r_get C hw (hsh 1 _ rfl) fl_X7_15 (oV_i rfl) dX7_endOfToken_18 (ti_c (ig (B + 1) 1).toInt rfl fun z33 hz33 => ?_)
        have k34 : 0 ≤ (ig (B + 1) 1).toInt ∧ (ig (B + 1) 1).toInt ≤ 120 := hI.i 1 1 (by decide)
        refine b_ge (tgt := 80) hx hb dX7_endOfToken_21 (by decide) (fun c21 => ?_) (fun c21 => ?_)
        · exact J80 ls H locs v32 (lv_sub hl [0] rfl) hw hsz (by rw [tE_L (by rcases hcl with ⟨-, q⟩ | ⟨q, -⟩; exact q; omega) g16_2 (by rw [ch_out (by omega)]; rfl) (by omega)]; omega)
        · refine lv_aload_n hx hb dX7_endOfToken_24 rfl (lv_at hl 1 rfl) ?_
          refine r_get C hw (hsh 1 _ rfl) fl_X7_9 (oV_r rfl (hrs (1, 0, 2) (by decide))) dX7_endOfToken_25 ?_
          refine lv_iload_n hx hb dX7_endOfToken_28 rfl (lv_at hl 0 rfl) ?_
          refine r_cald C hw (hsh 2 _ rfl) (by omega) (by omega) dX7_endOfToken_29 (ti_c (ig (B + 2) v32.toInt.toNat).toInt rfl fun z35 hz35 => ?_)
          have hch2 : z35.toInt = ch τ v32.toInt.toNat := by rw [hz35]; exact hI.tchn rfl (by omega)
          refine r_callS (As := [.int z35]) (rest := []) C hw (t_X7_isLetter l B D cA kd ig rg lg _ z35  hI) ss_X7_89 rfl hl.1 rfl (Nat.le_of_ble_eq_true rfl) ⟨Nat.le_of_ble_eq_true rfl, Nat.le_of_ble_eq_true rfl⟩ ⟨Nat.le_of_ble_eq_true rfl, Nat.le_of_ble_eq_true rfl⟩ dX7_endOfToken_30 (fun r40 kd36 ig37 rg38 lg39 H locs hw hH hp41 => ?_)
          obtain ⟨rfl, rfl, rfl, rfl, hzhp41, hrhp41⟩ := hp41
          have hsz := hzhp41.trans hsz
          obtain ⟨z42, rfl, hz42⟩ := hrhp41
          have hcl2 := hz42
          rw [hch2] at hcl2
          refine z_eq (tgt := 80) hx hb dX7_endOfToken_33 (by decide) (fun c33 => ?_) (fun c33 => ?_)
          · exact J80 ls H locs v32 (lv_sub hl [0] rfl) hw hsz (by rw [tE_L (by rcases hcl with ⟨-, q⟩ | ⟨q, -⟩; exact q; omega) g16_2 (by rcases hcl2 with ⟨q, -⟩ | ⟨-, q⟩; omega; exact q) (by omega)]; omega)
          · refine tc_inc hx hb dX7_endOfToken_36 hl (k := 0) rfl (by decide) (by decide) (fun z43 hz43 ls hl => ?_)
            first | replace hz43 := hz43 (by omega) | clear hz43
            have hl : lv_has ls 3 [(2, .int z43), (0, .ref (B + 1))] := hl
            refine lv_goto (tgt := 16) hx hb dX7_endOfToken_39 (by decide) ?_
            exact ih16 ls H locs z43 (lv_sub hl [0, 1] rfl) hw hsz (by omega) (by omega) (by have q := g16_2.s (by rcases hcl2 with ⟨-, q⟩ | ⟨q, -⟩; exact q; omega); rw [show z43.toInt.toNat = v32.toInt.toNat + 1 by omega]; exact q) (by omega)
    exact L16 (((τ.length : Int) - z2.toInt) + 1).toNat ls H locs z2 (lv_sub hl [0, 1] rfl) hw hsz (by omega) (by omega) (rn1 (by rcases hcl with ⟨-, q⟩ | ⟨q, -⟩; exact q; omega) (by omega)) (by omega)

set_option maxHeartbeats 4000000 in
set_option maxRecDepth 100000 in
theorem t_X7_kindOf {τ : Tp} (l : Launch) (B : Nat) (D : va_G) (cA : Nat → ClassId) (kd : sK) (ig : sI) (rg : sR) (lg : sG) (sz : Nat) (x : Int32) (y : Int32) (i : Nat) (hi : x.toInt = (i : Int)) (hil : i < τ.length) (hy : y.toInt = (tE τ i : Int)) (hP : Prt τ) (hI : IC τ B kd ig rg) : MC l B D cA yX7_kindOf cX7_kindOf 4 (some .int) (rL 4 0 0) [.ref (B + 1), .int x, .int y] kd ig rg lg sz (Pu kd ig rg lg sz (fun r => ∃ z : Int32, r = some (.int z) ∧ z.toInt = kAt τ i)) := by
  refine MC.of (own := RX7) (by decide +kernel) rfl (Nat.le_of_ble_eq_true rfl) ?_
  intro p e s m args below meth c ls C hr hlk hnm hw hsz hl
  have hx := C.1.1
  have hb := C.1.2.1
  have hown := C.1.2.2.2.1
  have hts := C.1.2.2.2.2
  have hl : lv_has ls 4 [(0, .ref (B + 1)), (1, .int x), (2, .int y)] := hl
  have hsh := hI.sh
  have hrs := hI.rs
  obtain ⟨hlen, hl120⟩ := hI.len
  have tg := tE_gt hl120 hil
  have hpc := hP.c hil
  refine lv_aload_n hx hb dX7_kindOf_0 rfl (lv_at hl 0 rfl) ?_
  refine r_get C hw (hsh 1 _ rfl) fl_X7_9 (oV_r rfl (hrs (1, 0, 2) (by decide))) dX7_kindOf_1 ?_
  refine lv_iload_n hx hb dX7_kindOf_4 rfl (lv_at hl 1 rfl) ?_
  refine r_cald C hw (hsh 2 _ rfl) (by omega) (by omega) dX7_kindOf_5 (ti_c (ig (B + 2) x.toInt.toNat).toInt rfl fun z1 hz1 => ?_)
  have hch : z1.toInt = ch τ (i) := by rw [hz1]; exact hI.tchn (by omega) (by omega)
  refine lv_istore_n (lv' := [(3, .int z1), (0, .ref (B + 1)), (1, .int x), (2, .int y)]) hx hb dX7_kindOf_6 rfl hl (by decide) rfl (fun ls hl => ?_)
  refine lv_iload_n hx hb dX7_kindOf_7 rfl (lv_at hl 0 rfl) ?_
  refine r_callS (As := [.int z1]) (rest := []) C hw (t_X7_isLetter l B D cA kd ig rg lg _ z1  hI) ss_X7_89 rfl hl.1 rfl (Nat.le_of_ble_eq_true rfl) ⟨Nat.le_of_ble_eq_true rfl, Nat.le_of_ble_eq_true rfl⟩ ⟨Nat.le_of_ble_eq_true rfl, Nat.le_of_ble_eq_true rfl⟩ dX7_kindOf_8 (fun r6 kd2 ig3 rg4 lg5 H locs hw hH hp7 => ?_)
  obtain ⟨rfl, rfl, rfl, rfl, hzhp7, hrhp7⟩ := hp7
  have hsz := hzhp7.trans hsz
  obtain ⟨z8, rfl, hz8⟩ := hrhp7
  have hcl := hz8
  rw [hch] at hcl
  refine z_eq (tgt := 29) hx hb dX7_kindOf_11 (by decide) (fun c11 => ?_) (fun c11 => ?_)
  · refine lv_iload_n hx hb dX7_kindOf_29 rfl (lv_at hl 0 rfl) ?_
    refine r_callS (As := [.int z1]) (rest := []) C hw (t_X7_isDigit l B D cA kd ig rg lg _ z1  hI) ss_X7_93 rfl hl.1 rfl (Nat.le_of_ble_eq_true rfl) ⟨Nat.le_of_ble_eq_true rfl, Nat.le_of_ble_eq_true rfl⟩ ⟨Nat.le_of_ble_eq_true rfl, Nat.le_of_ble_eq_true rfl⟩ dX7_kindOf_30 (fun r13 kd9 ig10 rg11 lg12 H locs hw hH hp14 => ?_)
    obtain ⟨rfl, rfl, rfl, rfl, hzhp14, hrhp14⟩ := hp14
    have hsz := hzhp14.trans hsz
    obtain ⟨z15, rfl, hz15⟩ := hrhp14
    have hcd := hz15
    rw [hch] at hcd
    refine z_eq (tgt := 52) hx hb dX7_kindOf_33 (by decide) (fun c33 => ?_) (fun c33 => ?_)
    · refine va_ldcS hx hb hown C.2.2.2.2.2.1.1 dX7_kindOf_52 ?_
      refine lv_iload_n hx hb dX7_kindOf_54 rfl (lv_at hl 0 rfl) ?_
      refine r_callR (As := [.int z1]) (rest := []) C hw (t_J0_indexOf1E l B D cA kd ig rg lg _ z1 (by omega) hI) sr_X7_98 rfl hl.1 rfl (Nat.le_of_ble_eq_true rfl) ⟨Nat.le_of_ble_eq_true rfl, Nat.le_of_ble_eq_true rfl⟩ ⟨Nat.le_of_ble_eq_true rfl, Nat.le_of_ble_eq_true rfl⟩ dX7_kindOf_55 (fun r20 kd16 ig17 rg18 lg19 H locs hw hH hp21 => ?_)
      obtain ⟨rfl, rfl, rfl, rfl, hzhp21, hrhp21⟩ := hp21
      have hsz := hzhp21.trans hsz
      obtain ⟨z22, rfl, hz22⟩ := hrhp21
      have hcs := hz22
      rw [hch] at hcs
      have J67 : ∀ (ls : Array Slot) (H : Heap) (locs : List Loc) (u23 : Int32), lv_has ls 4 [] → WD B D cA s.heap kd ig rg lg H locs → H.size = sz → (u23.toInt = kAt τ i) → W p l e (rL 4 0 0) s m args below meth c H locs 0 0 (MQ below (QcW B D cA (Pu kd ig rg lg sz (fun r => ∃ z : Int32, r = some (.int z) ∧ z.toInt = kAt τ i))) args s 0 0 (fun q => B ≤ q)) (F0 m 67 ls [.int u23]) := by
        intro ls H locs u23 hl hw hsz g67_0
        exact r_iret C hw hr hlk rfl (Nat.le_of_ble_eq_true rfl) (Nat.le_of_ble_eq_true rfl) dX7_kindOf_67 ⟨rfl, rfl, rfl, rfl, hsz, ⟨_, rfl, g67_0⟩⟩
      refine z_lt (tgt := 65) hx hb dX7_kindOf_58 (by decide) (fun c58 => ?_) (fun c58 => ?_)
      · refine lv_bipush (v := 63) hx hb dX7_kindOf_65 (by decide) (ti_c 63 (by decide) fun z24 hz24 => ?_)
        exact J67 ls H locs z24 (lv_sub hl [] rfl) hw hsz (by rw [kAt_o hil (by rcases hcl with ⟨q, -⟩ | ⟨-, q⟩; omega; exact q) (by rcases hcd with ⟨q, -⟩ | ⟨-, q⟩; omega; exact q) (by rcases hcs with ⟨q, -⟩ | ⟨-, q⟩; omega; exact q)]; omega)
      · refine lv_iload_n hx hb dX7_kindOf_61 rfl (lv_at hl 0 rfl) ?_
        refine lv_goto (tgt := 67) hx hb dX7_kindOf_62 (by decide) ?_
        exact J67 ls H locs z1 (lv_sub hl [] rfl) hw hsz (by rw [kAt_s hil (by rcases hcl with ⟨q, -⟩ | ⟨-, q⟩; omega; exact q) (by rcases hcd with ⟨q, -⟩ | ⟨-, q⟩; omega; exact q) (by rcases hcs with ⟨-, q⟩ | ⟨q, -⟩; exact q; omega)]; exact hch)
    · refine lv_iload_n hx hb dX7_kindOf_36 rfl (lv_at hl 3 rfl) ?_
      refine lv_iload_n hx hb dX7_kindOf_37 rfl (lv_at hl 2 rfl) ?_
      refine lv_isub hx hb dX7_kindOf_38 (tc_sub fun z25 hz25 => ?_)
      first | replace hz25 := hz25 (by omega) | clear hz25
      refine lv_bipush (v := 6) hx hb dX7_kindOf_39 (by decide) (ti_c 6 (by decide) fun z26 hz26 => ?_)
      have J51 : ∀ (ls : Array Slot) (H : Heap) (locs : List Loc) (u27 : Int32), lv_has ls 4 [] → WD B D cA s.heap kd ig rg lg H locs → H.size = sz → (u27.toInt = kAt τ i) → W p l e (rL 4 0 0) s m args below meth c H locs 0 0 (MQ below (QcW B D cA (Pu kd ig rg lg sz (fun r => ∃ z : Int32, r = some (.int z) ∧ z.toInt = kAt τ i))) args s 0 0 (fun q => B ≤ q)) (F0 m 51 ls [.int u27]) := by
        intro ls H locs u27 hl hw hsz g51_0
        exact r_iret C hw hr hlk rfl (Nat.le_of_ble_eq_true rfl) (Nat.le_of_ble_eq_true rfl) dX7_kindOf_51 ⟨rfl, rfl, rfl, rfl, hsz, ⟨_, rfl, g51_0⟩⟩
      refine b_gt (tgt := 49) hx hb dX7_kindOf_41 (by decide) (fun c41 => ?_) (fun c41 => ?_)
      · refine lv_bipush (v := 63) hx hb dX7_kindOf_49 (by decide) (ti_c 63 (by decide) fun z28 hz28 => ?_)
        exact J51 ls H locs z28 (lv_sub hl [] rfl) hw hsz (by rw [kAt_nb hil (by rcases hcl with ⟨q, -⟩ | ⟨-, q⟩; omega; exact q) (by rcases hcd with ⟨-, q⟩ | ⟨q, -⟩; exact q; omega) (by omega)]; omega)
      · refine lv_bipush (v := 110) hx hb dX7_kindOf_44 (by decide) (ti_c 110 (by decide) fun z29 hz29 => ?_)
        refine lv_goto (tgt := 51) hx hb dX7_kindOf_46 (by decide) ?_
        exact J51 ls H locs z29 (lv_sub hl [] rfl) hw hsz (by rw [kAt_n hil (by rcases hcl with ⟨q, -⟩ | ⟨-, q⟩; omega; exact q) (by rcases hcd with ⟨-, q⟩ | ⟨q, -⟩; exact q; omega) (by omega)]; omega)
  · refine lv_iload_n hx hb dX7_kindOf_14 rfl (lv_at hl 3 rfl) ?_
    refine lv_iload_n hx hb dX7_kindOf_15 rfl (lv_at hl 2 rfl) ?_
    refine lv_isub hx hb dX7_kindOf_16 (tc_sub fun z30 hz30 => ?_)
    first | replace hz30 := hz30 (by omega) | clear hz30
    refine lv_iconst (v := 3) hx hb dX7_kindOf_17 (by decide) (ti_c 3 (by decide) fun z31 hz31 => ?_)
    have J28 : ∀ (ls : Array Slot) (H : Heap) (locs : List Loc) (u32 : Int32), lv_has ls 4 [] → WD B D cA s.heap kd ig rg lg H locs → H.size = sz → (u32.toInt = kAt τ i) → W p l e (rL 4 0 0) s m args below meth c H locs 0 0 (MQ below (QcW B D cA (Pu kd ig rg lg sz (fun r => ∃ z : Int32, r = some (.int z) ∧ z.toInt = kAt τ i))) args s 0 0 (fun q => B ≤ q)) (F0 m 28 ls [.int u32]) := by
      intro ls H locs u32 hl hw hsz g28_0
      exact r_iret C hw hr hlk rfl (Nat.le_of_ble_eq_true rfl) (Nat.le_of_ble_eq_true rfl) dX7_kindOf_28 ⟨rfl, rfl, rfl, rfl, hsz, ⟨_, rfl, g28_0⟩⟩
    refine b_gt (tgt := 26) hx hb dX7_kindOf_18 (by decide) (fun c18 => ?_) (fun c18 => ?_)
    · refine lv_bipush (v := 63) hx hb dX7_kindOf_26 (by decide) (ti_c 63 (by decide) fun z33 hz33 => ?_)
      exact J28 ls H locs z33 (lv_sub hl [] rfl) hw hsz (by rw [kAt_wb hil (by rcases hcl with ⟨-, q⟩ | ⟨q, -⟩; exact q; omega) (by omega)]; omega)
    · refine lv_bipush (v := 119) hx hb dX7_kindOf_21 (by decide) (ti_c 119 (by decide) fun z34 hz34 => ?_)
      refine lv_goto (tgt := 28) hx hb dX7_kindOf_23 (by decide) ?_
      exact J28 ls H locs z34 (lv_sub hl [] rfl) hw hsz (by rw [kAt_w hil (by rcases hcl with ⟨-, q⟩ | ⟨q, -⟩; exact q; omega) (by omega)]; omega)

set_option maxHeartbeats 4000000 in
set_option maxRecDepth 100000 in
theorem t_X7_wordAmount {τ : Tp} (l : Launch) (B : Nat) (D : va_G) (cA : Nat → ClassId) (kd : sK) (ig : sI) (rg : sR) (lg : sG) (sz : Nat) (x : Int32) (y : Int32) (i : Nat) (hi : x.toInt = (i : Int)) (hil : i < τ.length) (hy : y.toInt = (tE τ i : Int)) (hk : kAt τ i = 119) (hI : IC τ B kd ig rg) : MC l B D cA yX7_wordAmount cX7_wordAmount 4 (some .int) (rL 0 0 0) [.ref (B + 1), .int x, .int y] kd ig rg lg sz (Pu kd ig rg lg sz (fun r => ∃ z : Int32, r = some (.int z) ∧ z.toInt = wV τ i)) := by
  refine MC.of (own := RX7) (by decide +kernel) rfl (Nat.le_of_ble_eq_true rfl) ?_
  intro p e s m args below meth c ls C hr hlk hnm hw hsz hl
  have hx := C.1.1
  have hb := C.1.2.1
  have hown := C.1.2.2.2.1
  have hts := C.1.2.2.2.2
  have hl : lv_has ls 4 [(0, .ref (B + 1)), (1, .int x), (2, .int y)] := hl
  have hsh := hI.sh
  have hrs := hI.rs
  obtain ⟨hlen, hl120⟩ := hI.len
  have tg := tE_gt hl120 hil
  obtain ⟨-, hcl, ht3⟩ := kAt_119 hk
  have hcb := cL_i hcl
  refine lv_iload_n hx hb dX7_wordAmount_0 rfl (lv_at hl 2 rfl) ?_
  refine lv_iload_n hx hb dX7_wordAmount_1 rfl (lv_at hl 1 rfl) ?_
  refine lv_isub hx hb dX7_wordAmount_2 (tc_sub fun z1 hz1 => ?_)
  first | replace hz1 := hz1 (by omega) | clear hz1
  refine lv_iconst (v := 1) hx hb dX7_wordAmount_3 (by decide) (ti_c 1 (by decide) fun z2 hz2 => ?_)
  refine b_ne (tgt := 17) hx hb dX7_wordAmount_4 (by decide) (fun c4 => ?_) (fun c4 => ?_)
  · refine lv_iload_n hx hb dX7_wordAmount_17 rfl (lv_at hl 2 rfl) ?_
    refine lv_iload_n hx hb dX7_wordAmount_18 rfl (lv_at hl 1 rfl) ?_
    refine lv_isub hx hb dX7_wordAmount_19 (tc_sub fun z3 hz3 => ?_)
    first | replace hz3 := hz3 (by omega) | clear hz3
    refine lv_iconst (v := 3) hx hb dX7_wordAmount_20 (by decide) (ti_c 3 (by decide) fun z4 hz4 => ?_)
    have J66 : ∀ (ls : Array Slot) (H : Heap) (locs : List Loc) (u5 : Int32), lv_has ls 4 [] → WD B D cA s.heap kd ig rg lg H locs → H.size = sz → ((u5.toInt = 1 ∧ (tE τ i = i + 3 ∧ ch τ i = 115 ∧ ch τ (i + 1) = 117 ∧ ch τ (i + 2) = 109)) ∨ (u5.toInt = 0 ∧ ¬ (tE τ i = i + 3 ∧ ch τ i = 115 ∧ ch τ (i + 1) = 117 ∧ ch τ (i + 2) = 109))) → W p l e (rL 0 0 0) s m args below meth c H locs 0 0 (MQ below (QcW B D cA (Pu kd ig rg lg sz (fun r => ∃ z : Int32, r = some (.int z) ∧ z.toInt = wV τ i))) args s 0 0 (fun q => B ≤ q)) (F0 m 66 ls [.int u5]) := by
      intro ls H locs u5 hl hw hsz g66_0
      refine lv_istore_n (lv' := [(3, .int u5)]) hx hb dX7_wordAmount_66 rfl hl (by decide) rfl (fun ls hl => ?_)
      refine lv_iload_n hx hb dX7_wordAmount_67 rfl (lv_at hl 0 rfl) ?_
      have J78 : ∀ (ls : Array Slot) (H : Heap) (locs : List Loc) (u6 : Int32), lv_has ls 4 [] → WD B D cA s.heap kd ig rg lg H locs → H.size = sz → (u6.toInt = wV τ i) → W p l e (rL 0 0 0) s m args below meth c H locs 0 0 (MQ below (QcW B D cA (Pu kd ig rg lg sz (fun r => ∃ z : Int32, r = some (.int z) ∧ z.toInt = wV τ i))) args s 0 0 (fun q => B ≤ q)) (F0 m 78 ls [.int u6]) := by
        intro ls H locs u6 hl hw hsz g78_0
        exact r_iret C hw hr hlk rfl (Nat.le_of_ble_eq_true rfl) (Nat.le_of_ble_eq_true rfl) dX7_wordAmount_78 ⟨rfl, rfl, rfl, rfl, hsz, ⟨_, rfl, g78_0⟩⟩
      refine z_eq (tgt := 76) hx hb dX7_wordAmount_68 (by decide) (fun c68 => ?_) (fun c68 => ?_)
      · refine lv_bipush (v := 27) hx hb dX7_wordAmount_76 (by decide) (ti_c 27 (by decide) fun z7 hz7 => ?_)
        exact J78 ls H locs z7 (lv_sub hl [] rfl) hw hsz (by rw [wV_o hcl (by omega) (by omega)]; omega)
      · refine lv_bipush (v := 26) hx hb dX7_wordAmount_71 (by decide) (ti_c 26 (by decide) fun z8 hz8 => ?_)
        refine lv_goto (tgt := 78) hx hb dX7_wordAmount_73 (by decide) ?_
        exact J78 ls H locs z8 (lv_sub hl [] rfl) hw hsz (by rw [wV_s hcl (by omega) (by omega)]; omega)
    have J65 : ∀ (ls : Array Slot) (H : Heap) (locs : List Loc) , lv_has ls 4 [] → WD B D cA s.heap kd ig rg lg H locs → H.size = sz → (¬ (tE τ i = i + 3 ∧ ch τ i = 115 ∧ ch τ (i + 1) = 117 ∧ ch τ (i + 2) = 109)) → W p l e (rL 0 0 0) s m args below meth c H locs 0 0 (MQ below (QcW B D cA (Pu kd ig rg lg sz (fun r => ∃ z : Int32, r = some (.int z) ∧ z.toInt = wV τ i))) args s 0 0 (fun q => B ≤ q)) (F0 m 65 ls []) := by
      intro ls H locs  hl hw hsz g65_0
      refine lv_iconst (v := 0) hx hb dX7_wordAmount_65 (by decide) (ti_c 0 (by decide) fun z9 hz9 => ?_)
      exact J66 ls H locs z9 (lv_sub hl [] rfl) hw hsz (by omega)
    refine b_ne (tgt := 65) hx hb dX7_wordAmount_21 (by decide) (fun c21 => ?_) (fun c21 => ?_)
    · exact J65 ls s.heap [] (lv_sub hl [] rfl) hw hsz (by omega)
    · refine lv_aload_n hx hb dX7_wordAmount_24 rfl (lv_at hl 0 rfl) ?_
      refine r_get C hw (hsh 1 _ rfl) fl_X7_9 (oV_r rfl (hrs (1, 0, 2) (by decide))) dX7_wordAmount_25 ?_
      refine lv_iload_n hx hb dX7_wordAmount_28 rfl (lv_at hl 1 rfl) ?_
      refine r_cald C hw (hsh 2 _ rfl) (by omega) (by omega) dX7_wordAmount_29 (ti_c (ig (B + 2) x.toInt.toNat).toInt rfl fun z10 hz10 => ?_)
      have hc0 : z10.toInt = ch τ (i) := by rw [hz10]; exact hI.tchn (by omega) (by omega)
      refine lv_bipush (v := 115) hx hb dX7_wordAmount_30 (by decide) (ti_c 115 (by decide) fun z11 hz11 => ?_)
      refine b_ne (tgt := 65) hx hb dX7_wordAmount_32 (by decide) (fun c32 => ?_) (fun c32 => ?_)
      · exact J65 ls s.heap [] (lv_sub hl [] rfl) hw hsz (by omega)
      · refine lv_aload_n hx hb dX7_wordAmount_35 rfl (lv_at hl 0 rfl) ?_
        refine r_get C hw (hsh 1 _ rfl) fl_X7_9 (oV_r rfl (hrs (1, 0, 2) (by decide))) dX7_wordAmount_36 ?_
        refine lv_iload_n hx hb dX7_wordAmount_39 rfl (lv_at hl 1 rfl) ?_
        refine lv_iconst (v := 1) hx hb dX7_wordAmount_40 (by decide) (ti_c 1 (by decide) fun z12 hz12 => ?_)
        refine lv_iadd hx hb dX7_wordAmount_41 (tc_add fun z13 hz13 => ?_)
        first | replace hz13 := hz13 (by omega) | clear hz13
        refine r_cald C hw (hsh 2 _ rfl) (by omega) (by omega) dX7_wordAmount_42 (ti_c (ig (B + 2) z13.toInt.toNat).toInt rfl fun z14 hz14 => ?_)
        have hc1 : z14.toInt = ch τ (i + 1) := by rw [hz14]; exact hI.tchn (by omega) (by omega)
        refine lv_bipush (v := 117) hx hb dX7_wordAmount_43 (by decide) (ti_c 117 (by decide) fun z15 hz15 => ?_)
        refine b_ne (tgt := 65) hx hb dX7_wordAmount_45 (by decide) (fun c45 => ?_) (fun c45 => ?_)
        · exact J65 ls s.heap [] (lv_sub hl [] rfl) hw hsz (by omega)
        · refine lv_aload_n hx hb dX7_wordAmount_48 rfl (lv_at hl 0 rfl) ?_
          refine r_get C hw (hsh 1 _ rfl) fl_X7_9 (oV_r rfl (hrs (1, 0, 2) (by decide))) dX7_wordAmount_49 ?_
          refine lv_iload_n hx hb dX7_wordAmount_52 rfl (lv_at hl 1 rfl) ?_
          refine lv_iconst (v := 2) hx hb dX7_wordAmount_53 (by decide) (ti_c 2 (by decide) fun z16 hz16 => ?_)
          refine lv_iadd hx hb dX7_wordAmount_54 (tc_add fun z17 hz17 => ?_)
          first | replace hz17 := hz17 (by omega) | clear hz17
          refine r_cald C hw (hsh 2 _ rfl) (by omega) (by omega) dX7_wordAmount_55 (ti_c (ig (B + 2) z17.toInt.toNat).toInt rfl fun z18 hz18 => ?_)
          have hc2 : z18.toInt = ch τ (i + 2) := by rw [hz18]; exact hI.tchn (by omega) (by omega)
          refine lv_bipush (v := 109) hx hb dX7_wordAmount_56 (by decide) (ti_c 109 (by decide) fun z19 hz19 => ?_)
          refine b_ne (tgt := 65) hx hb dX7_wordAmount_58 (by decide) (fun c58 => ?_) (fun c58 => ?_)
          · exact J65 ls s.heap [] (lv_sub hl [] rfl) hw hsz (by omega)
          · refine lv_iconst (v := 1) hx hb dX7_wordAmount_61 (by decide) (ti_c 1 (by decide) fun z20 hz20 => ?_)
            refine lv_goto (tgt := 66) hx hb dX7_wordAmount_62 (by decide) ?_
            exact J66 ls s.heap [] z20 (lv_sub hl [] rfl) hw hsz (by omega)
  · refine lv_aload_n hx hb dX7_wordAmount_7 rfl (lv_at hl 0 rfl) ?_
    refine r_get C hw (hsh 1 _ rfl) fl_X7_9 (oV_r rfl (hrs (1, 0, 2) (by decide))) dX7_wordAmount_8 ?_
    refine lv_iload_n hx hb dX7_wordAmount_11 rfl (lv_at hl 1 rfl) ?_
    refine r_cald C hw (hsh 2 _ rfl) (by omega) (by omega) dX7_wordAmount_12 (ti_c (ig (B + 2) x.toInt.toNat).toInt rfl fun z21 hz21 => ?_)
    have hch : z21.toInt = ch τ (i) := by rw [hz21]; exact hI.tchn (by omega) (by omega)
    refine lv_bipush (v := 97) hx hb dX7_wordAmount_13 (by decide) (ti_c 97 (by decide) fun z22 hz22 => ?_)
    refine lv_isub hx hb dX7_wordAmount_15 (tc_sub fun z23 hz23 => ?_)
    first | replace hz23 := hz23 (by omega) | clear hz23
    exact r_iret C hw hr hlk rfl (Nat.le_of_ble_eq_true rfl) (Nat.le_of_ble_eq_true rfl) dX7_wordAmount_16 ⟨rfl, rfl, rfl, rfl, hsz, ⟨_, rfl, by rw [wV_1 hcl (by omega)]; omega⟩⟩

set_option maxHeartbeats 4000000 in
set_option maxRecDepth 100000 in
theorem t_X7_digitsAmount {τ : Tp} (l : Launch) (B : Nat) (D : va_G) (cA : Nat → ClassId) (kd : sK) (ig : sI) (rg : sR) (lg : sG) (sz : Nat) (x : Int32) (y : Int32) (i : Nat) (hi : x.toInt = (i : Int)) (hil : i < τ.length) (hy : y.toInt = (tE τ i : Int)) (hk : kAt τ i = 110) (hI : IC τ B kd ig rg) : MC l B D cA yX7_digitsAmount cX7_digitsAmount 5 (some .int) (rL 0 0 0) [.ref (B + 1), .int x, .int y] kd ig rg lg sz (Pu kd ig rg lg sz (fun r => ∃ z : Int32, r = some (.int z) ∧ z.toInt = dv τ i (tE τ i - i))) := by
  refine MC.of (own := RX7) (by decide +kernel) rfl (Nat.le_of_ble_eq_true rfl) ?_
  intro p e s m args below meth c ls C hr hlk hnm hw hsz hl
  have hx := C.1.1
  have hb := C.1.2.1
  have hown := C.1.2.2.2.1
  have hts := C.1.2.2.2.2
  have hl : lv_has ls 5 [(0, .ref (B + 1)), (1, .int x), (2, .int y)] := hl
  have hsh := hI.sh
  have hrs := hI.rs
  obtain ⟨hlen, hl120⟩ := hI.len
  have tg := tE_gt hl120 hil
  obtain ⟨-, hcl, hcd, ht6⟩ := kAt_110 hk
  refine lv_iconst (v := 0) hx hb dX7_digitsAmount_0 (by decide) (ti_c 0 (by decide) fun z1 hz1 => ?_)
  refine lv_istore_n (lv' := [(3, .int z1), (0, .ref (B + 1)), (1, .int x), (2, .int y)]) hx hb dX7_digitsAmount_1 rfl hl (by decide) rfl (fun ls hl => ?_)
  refine lv_iload_n hx hb dX7_digitsAmount_2 rfl (lv_at hl 2 rfl) ?_
  refine lv_istore (lv' := [(4, .int x), (3, .int z1), (0, .ref (B + 1)), (1, .int x), (2, .int y)]) hx hb dX7_digitsAmount_3 hl (by decide) rfl (fun ls hl => ?_)
  have L5 : ∀ (n : Nat) (ls : Array Slot) (H : Heap) (locs : List Loc) (v2 : Int32) (v3 : Int32), lv_has ls 5 [(4, .int v2), (3, .int v3), (0, .ref (B + 1)), (2, .int y)] → WD B D cA s.heap kd ig rg lg H locs → H.size = sz → ((i : Int) ≤ v2.toInt) → (v2.toInt ≤ (tE τ i : Int)) → (v3.toInt = dv τ i (v2.toInt.toNat - i)) → (tE τ i : Int) - v2.toInt < (n : Int) → W p l e (rL 0 0 0) s m args below meth c H locs 0 0 (MQ below (QcW B D cA (Pu kd ig rg lg sz (fun r => ∃ z : Int32, r = some (.int z) ∧ z.toInt = dv τ i (tE τ i - i)))) args s 0 0 (fun q => B ≤ q)) (F0 m 5 ls []) := by
    intro n5
    induction n5 with
    | zero => intro ls H locs v2 v3 hl hw hsz g5_0 g5_1 g5_2 hmu; exact absurd hmu (by omega)
    | succ n5 ih5 =>
      intro ls H locs v2 v3 hl hw hsz g5_0 g5_1 g5_2 hmu
      have hb3 := dv_le hl120 hk (n := v2.toInt.toNat - i) (by omega)
      have hdd : 48 ≤ ch τ v2.toInt.toNat ∧ ch τ v2.toInt.toNat ≤ 57 ∨ ¬ v2.toInt < (tE τ i : Int) := (by by_cases q : v2.toInt < (tE τ i : Int); exact Or.inl (cD_i ((eD_spec (i := i) hl120 (by omega)).1.2 _ (by omega) (by rw [← tE_eD hcl hcd]; omega))); exact Or.inr q)
      refine lv_iload hx hb dX7_digitsAmount_5 (lv_at hl 0 rfl) ?_
      refine lv_iload_n hx hb dX7_digitsAmount_7 rfl (lv_at hl 3 rfl) ?_
      refine b_ge (tgt := 33) hx hb dX7_digitsAmount_8 (by decide) (fun c8 => ?_) (fun c8 => ?_)
      · refine lv_iload_n hx hb dX7_digitsAmount_33 rfl (lv_at hl 1 rfl) ?_
        exact r_iret C hw hr hlk rfl (Nat.le_of_ble_eq_true rfl) (Nat.le_of_ble_eq_true rfl) dX7_digitsAmount_34 ⟨rfl, rfl, rfl, rfl, hsz, ⟨_, rfl, by rw [g5_2, show v2.toInt.toNat - i = tE τ i - i by omega]⟩⟩
      · refine lv_iload_n hx hb dX7_digitsAmount_11 rfl (lv_at hl 1 rfl) ?_
        refine lv_bipush (v := 10) hx hb dX7_digitsAmount_12 (by decide) (ti_c 10 (by decide) fun z4 hz4 => ?_)
        refine lv_imul hx hb dX7_digitsAmount_14 (tc_mulR 10 hz4 fun z5 hz5 => ?_)
        first | replace hz5 := hz5 (by omega) | clear hz5
        refine lv_aload_n hx hb dX7_digitsAmount_15 rfl (lv_at hl 2 rfl) ?_
        refine r_get C hw (hsh 1 _ rfl) fl_X7_9 (oV_r rfl (hrs (1, 0, 2) (by decide))) dX7_digitsAmount_16 ?_
        refine lv_iload hx hb dX7_digitsAmount_19 (lv_at hl 0 rfl) ?_
        refine r_cald C hw (hsh 2 _ rfl) (by omega) (by omega) dX7_digitsAmount_21 (ti_c (ig (B + 2) v2.toInt.toNat).toInt rfl fun z6 hz6 => ?_)
        have hch : z6.toInt = ch τ v2.toInt.toNat := by rw [hz6]; exact hI.tchn rfl (by omega)
        refine lv_bipush (v := 48) hx hb dX7_digitsAmount_22 (by decide) (ti_c 48 (by decide) fun z7 hz7 => ?_)
        refine lv_isub hx hb dX7_digitsAmount_24 (tc_sub fun z8 hz8 => ?_)
        first | replace hz8 := hz8 (by omega) | clear hz8
        refine lv_iadd hx hb dX7_digitsAmount_25 (tc_add fun z9 hz9 => ?_)
        first | replace hz9 := hz9 (by omega) | clear hz9
        refine lv_istore_n (lv' := [(3, .int z9), (4, .int v2), (0, .ref (B + 1)), (2, .int y)]) hx hb dX7_digitsAmount_26 rfl hl (by decide) rfl (fun ls hl => ?_)
        refine tc_inc hx hb dX7_digitsAmount_27 hl (k := 1) rfl (by decide) (by decide) (fun z10 hz10 ls hl => ?_)
        first | replace hz10 := hz10 (by omega) | clear hz10
        have hl : lv_has ls 5 [(4, .int z10), (3, .int z9), (0, .ref (B + 1)), (2, .int y)] := hl
        refine lv_goto (tgt := 5) hx hb dX7_digitsAmount_30 (by decide) ?_
        exact ih5 ls H locs z10 z9 (lv_sub hl [0, 1, 2, 3] rfl) hw hsz (by omega) (by omega) (by rw [show z10.toInt.toNat - i = (v2.toInt.toNat - i) + 1 by omega]; unfold dv; rw [show i + (v2.toInt.toNat - i) = v2.toInt.toNat by omega]; omega) (by omega)
  exact L5 (((tE τ i : Int) - x.toInt) + 1).toNat ls s.heap [] x z1 (lv_sub hl [0, 1, 2, 4] rfl) hw hsz (by omega) (by omega) (by rw [show x.toInt.toNat - i = 0 by omega]; unfold dv; omega) (by omega)

set_option maxHeartbeats 4000000 in
set_option maxRecDepth 100000 in
theorem t_X7_addToken {τ : Tp} (l : Launch) (B : Nat) (D : va_G) (cA : Nat → ClassId) (kd : sK) (ig : sI) (rg : sR) (lg : sG) (sz : Nat) (x : Int32) (y : Int32) (u : Int32) (k i : Nat) (w : Int) (h6 : (ig (B + 1) 6).toInt = (k : Int)) (hk0 : k ≤ 120) (hy : y.toInt = (i : Int)) (hw0 : (x.toInt = 0 ∧ w = 0) ∨ (i < τ.length ∧ u.toInt = (tE τ i : Int) ∧ x.toInt = kAt τ i ∧ w = vAt τ i)) (hI : IC τ B kd ig rg) : MC l B D cA yX7_addToken cX7_addToken 4 none (rL 1 0 0) [.ref (B + 1), .int x, .int y, .int u] kd ig rg lg sz (PI 1022 τ B none kd ig rg lg (fun r kd' ig' rg' lg' => (r = none ∧ AT B k x.toInt y.toInt w ig ig'))) := by
  refine MC.of (own := RX7) (by decide +kernel) rfl (Nat.le_of_ble_eq_true rfl) ?_
  intro p e s m args below meth c ls C hr hlk hnm hw hsz hl
  have hx := C.1.1
  have hb := C.1.2.1
  have hown := C.1.2.2.2.1
  have hts := C.1.2.2.2.2
  have hl : lv_has ls 4 [(0, .ref (B + 1)), (1, .int x), (2, .int y), (3, .int u)] := hl
  have hN : Nx 1022 B none kd ig rg lg kd ig rg lg := Nx.rf
  have hsh := hI.sh
  have hrs := hI.rs
  refine lv_aload_n hx hb dX7_addToken_0 rfl (lv_at hl 0 rfl) ?_
  refine r_get C hw (hsh 1 _ rfl) fl_X7_69 (oV_i rfl) dX7_addToken_1 (ti_c (ig (B + 1) 6).toInt rfl fun z1 hz1 => ?_)
  have k2 : 0 ≤ (ig (B + 1) 6).toInt ∧ (ig (B + 1) 6).toInt ≤ 121 := hI.i 1 6 (by decide)
  refine lv_bipush (v := 120) hx hb dX7_addToken_4 (by decide) (ti_c 120 (by decide) fun z3 hz3 => ?_)
  refine b_gt (tgt := 79) hx hb dX7_addToken_6 (by decide) (fun c6 => ?_) (fun c6 => ?_)
  · exact absurd c6 (by omega)
  · refine lv_aload_n hx hb dX7_addToken_9 rfl (lv_at hl 0 rfl) ?_
    refine r_get C hw (hsh 1 _ rfl) fl_X7_19 (oV_r rfl (hrs (1, 3, 3) (by decide))) dX7_addToken_10 ?_
    refine lv_aload_n hx hb dX7_addToken_13 rfl (lv_at hl 0 rfl) ?_
    refine r_get C hw (hsh 1 _ rfl) fl_X7_69 (oV_i rfl) dX7_addToken_14 (ti_c (ig (B + 1) 6).toInt rfl fun z4 hz4 => ?_)
    have k5 : 0 ≤ (ig (B + 1) 6).toInt ∧ (ig (B + 1) 6).toInt ≤ 121 := hI.i 1 6 (by decide)
    refine lv_iload_n hx hb dX7_addToken_17 rfl (lv_at hl 1 rfl) ?_
    refine r_iast C hw (hsh 3 _ rfl) (by omega) (by omega) dX7_addToken_18 (fun H locs hH hw => ?_)
    obtain ⟨ig6, eig6⟩ : ∃ f, f = up2 ig (B + 3) z4.toInt.toNat x := ⟨_, rfl⟩
    rw [← eig6] at hw
    have hN : Nx 1022 B none kd ig rg lg kd ig6 rg lg := by rw [eig6]; exact hN.pi (by omega)
    have hI : IC τ B kd ig6 rg := by rw [eig6]; exact hI.pi (show okR none _ from trivial)
    have wig6_1_6 : (ig6 (B + 1) 6).toInt = (ig (B + 1) 6).toInt := by rw [eig6, up2_a (by omega)]
    refine lv_aload_n hx hb dX7_addToken_19 rfl (lv_at hl 0 rfl) ?_
    refine r_get C hw (hsh 1 _ rfl) fl_X7_26 (oV_r rfl (hrs (1, 5, 5) (by decide))) dX7_addToken_20 ?_
    refine lv_aload_n hx hb dX7_addToken_23 rfl (lv_at hl 0 rfl) ?_
    refine r_get C hw (hsh 1 _ rfl) fl_X7_69 (oV_i rfl) dX7_addToken_24 (ti_c (ig6 (B + 1) 6).toInt rfl fun z7 hz7 => ?_)
    have k8 : 0 ≤ (ig6 (B + 1) 6).toInt ∧ (ig6 (B + 1) 6).toInt ≤ 121 := hI.i 1 6 (by decide)
    refine lv_iload_n hx hb dX7_addToken_27 rfl (lv_at hl 2 rfl) ?_
    refine r_iast C hw (hsh 5 _ rfl) (by omega) (by omega) dX7_addToken_28 (fun H locs hH hw => ?_)
    obtain ⟨ig9, eig9⟩ : ∃ f, f = up2 ig6 (B + 5) z7.toInt.toNat y := ⟨_, rfl⟩
    rw [← eig9] at hw
    have hN : Nx 1022 B none kd ig rg lg kd ig9 rg lg := by rw [eig9]; exact hN.pi (by omega)
    have hI : IC τ B kd ig9 rg := by rw [eig9]; exact hI.pi (show okR none _ from trivial)
    have wig9_1_6 : (ig9 (B + 1) 6).toInt = (ig6 (B + 1) 6).toInt := by rw [eig9, up2_a (by omega)]
    refine lv_aload_n hx hb dX7_addToken_29 rfl (lv_at hl 0 rfl) ?_
    refine r_get C hw (hsh 1 _ rfl) fl_X7_23 (oV_r rfl (hrs (1, 4, 4) (by decide))) dX7_addToken_30 ?_
    refine lv_aload_n hx hb dX7_addToken_33 rfl (lv_at hl 0 rfl) ?_
    refine r_get C hw (hsh 1 _ rfl) fl_X7_69 (oV_i rfl) dX7_addToken_34 (ti_c (ig9 (B + 1) 6).toInt rfl fun z10 hz10 => ?_)
    have k11 : 0 ≤ (ig9 (B + 1) 6).toInt ∧ (ig9 (B + 1) 6).toInt ≤ 121 := hI.i 1 6 (by decide)
    refine lv_iload_n hx hb dX7_addToken_37 rfl (lv_at hl 1 rfl) ?_
    refine lv_bipush (v := 119) hx hb dX7_addToken_38 (by decide) (ti_c 119 (by decide) fun z12 hz12 => ?_)
    have J68 : ∀ (ls : Array Slot) (H : Heap) (locs : List Loc) (kd14 : sK) (ig15 : sI) (rg16 : sR) (lg17 : sG) (u13 : Int32), lv_has ls 4 [(0, .ref (B + 1))] → WD B D cA s.heap kd14 ig15 rg16 lg17 H locs → IC τ B kd14 ig15 rg16 → Nx 1022 B none kd ig rg lg kd14 ig15 rg16 lg17 → (A2 B k x.toInt y.toInt ig ig15) → (u13.toInt = w) → ((ig15 (B + 1) 6).toInt = (k : Int)) → W p l e (rL 1 0 0) s m args below meth c H locs 0 0 (MQ below (QcW B D cA (PI 1022 τ B none kd ig rg lg (fun r kd' ig' rg' lg' => (r = none ∧ AT B k x.toInt y.toInt w ig ig')))) args s 0 0 (fun q => B ≤ q)) (F0 m 68 ls [.int u13, .int z10, .ref (B + 4)]) := by
      intro ls H locs kd14 ig15 rg16 lg17 u13 hl hw hI hN g68_0 g68_1 g68_2
      have hsh := hI.sh
      have hrs := hI.rs
      refine r_iast C hw (hsh 4 _ rfl) (by omega) (by omega) dX7_addToken_68 (fun H locs hH hw => ?_)
      obtain ⟨ig18, eig18⟩ : ∃ f, f = up2 ig15 (B + 4) z10.toInt.toNat u13 := ⟨_, rfl⟩
      rw [← eig18] at hw
      have hN : Nx 1022 B none kd ig rg lg kd14 ig18 rg16 lg17 := by rw [eig18]; exact hN.pi (by omega)
      have hI : IC τ B kd14 ig18 rg16 := by rw [eig18]; exact hI.pi (show okR none _ from trivial)
      have wig18_1_6 : (ig18 (B + 1) 6).toInt = (ig15 (B + 1) 6).toInt := by rw [eig18, up2_a (by omega)]
      have hx4 := g68_0
      refine lv_aload_n hx hb dX7_addToken_69 rfl (lv_at hl 0 rfl) ?_
      refine lv_dup hx hb dX7_addToken_70 rfl ?_
      refine r_get C hw (hsh 1 _ rfl) fl_X7_69 (oV_i rfl) dX7_addToken_71 (ti_c (ig18 (B + 1) 6).toInt rfl fun z19 hz19 => ?_)
      have k20 : 0 ≤ (ig18 (B + 1) 6).toInt ∧ (ig18 (B + 1) 6).toInt ≤ 121 := hI.i 1 6 (by decide)
      refine lv_iconst (v := 1) hx hb dX7_addToken_74 (by decide) (ti_c 1 (by decide) fun z21 hz21 => ?_)
      refine lv_iadd hx hb dX7_addToken_75 (tc_add fun z22 hz22 => ?_)
      first | replace hz22 := hz22 (by omega) | clear hz22
      refine r_puti C hw (hsh 1 _ rfl) fl_X7_69 rfl rfl rfl dX7_addToken_76 (fun H locs hH hw => ?_)
      obtain ⟨ig23, eig23⟩ : ∃ f, f = up2 ig18 (B + 1) 6 z22 := ⟨_, rfl⟩
      rw [← eig23] at hw
      have hN : Nx 1022 B none kd ig rg lg kd14 ig23 rg16 lg17 := by rw [eig23]; exact hN.pi (by omega)
      have hI : IC τ B kd14 ig23 rg16 := by rw [eig23]; exact hI.pi (show okR (some (0, 121)) _ from ⟨by show (0 : Int) ≤ _; omega, by show _ ≤ (121 : Int); omega⟩)
      have wig23 : (ig23 (B + 1) 6).toInt = z22.toInt := by rw [eig23, up2_eq]
      exact r_vret C hw hr hlk (Nat.le_of_ble_eq_true rfl) (Nat.le_of_ble_eq_true rfl) dX7_addToken_79 ⟨hI, hN, ⟨rfl, (by rw [eig23, eig18]; exact A2.fin g68_0 (by omega) (by omega) (by omega))⟩⟩
    refine b_ne (tgt := 52) hx hb dX7_addToken_40 (by decide) (fun c40 => ?_) (fun c40 => ?_)
    · refine lv_iload_n hx hb dX7_addToken_52 rfl (lv_at hl 1 rfl) ?_
      refine lv_bipush (v := 110) hx hb dX7_addToken_53 (by decide) (ti_c 110 (by decide) fun z24 hz24 => ?_)
      refine b_ne (tgt := 67) hx hb dX7_addToken_55 (by decide) (fun c55 => ?_) (fun c55 => ?_)
      · refine lv_iconst (v := 0) hx hb dX7_addToken_67 (by decide) (ti_c 0 (by decide) fun z25 hz25 => ?_)
        exact J68 ls H locs kd ig9 rg lg z25 (lv_sub hl [0] rfl) hw hI hN ((by rw [eig9, eig6]; exact A2.mk h6 (by omega) (by omega) rfl rfl)) ((by rcases hw0 with ⟨-, q⟩ | ⟨-, -, q1, q2⟩; omega; rw [q2, vAt_0 (by omega) (by omega)]; omega)) (by omega)
      · refine lv_aload_n hx hb dX7_addToken_58 rfl (lv_at hl 0 rfl) ?_
        refine lv_iload_n hx hb dX7_addToken_59 rfl (lv_at hl 2 rfl) ?_
        refine lv_iload_n hx hb dX7_addToken_60 rfl (lv_at hl 3 rfl) ?_
        refine r_callV (As := [.int y, .int u]) (rest := [.int z10, .ref (B + 4)]) C hw (t_X7_digitsAmount l B D cA kd ig9 rg lg _ y u i (by omega) (by omega) (by omega) (by omega) hI) sv_X7_106 (hsh 1 _ rfl) rfl hl.1 rfl (Nat.le_of_ble_eq_true rfl) ⟨Nat.le_of_ble_eq_true rfl, Nat.le_of_ble_eq_true rfl⟩ ⟨Nat.le_of_ble_eq_true rfl, Nat.le_of_ble_eq_true rfl⟩ dX7_addToken_61 (fun r30 kd26 ig27 rg28 lg29 H locs hw hH hp31 => ?_)
        obtain ⟨rfl, rfl, rfl, rfl, hzhp31, hrhp31⟩ := hp31
        obtain ⟨z32, rfl, hz32⟩ := hrhp31
        refine lv_goto (tgt := 68) hx hb dX7_addToken_64 (by decide) ?_
        exact J68 ls H locs kd ig9 rg lg z32 (lv_sub hl [0] rfl) hw hI hN ((by rw [eig9, eig6]; exact A2.mk h6 (by omega) (by omega) rfl rfl)) ((by rcases hw0 with ⟨q, -⟩ | ⟨-, -, q1, q2⟩; omega; rw [q2, vAt_n (by omega)]; exact hz32)) (by omega)
    · refine lv_aload_n hx hb dX7_addToken_43 rfl (lv_at hl 0 rfl) ?_
      refine lv_iload_n hx hb dX7_addToken_44 rfl (lv_at hl 2 rfl) ?_
      refine lv_iload_n hx hb dX7_addToken_45 rfl (lv_at hl 3 rfl) ?_
      refine r_callV (As := [.int y, .int u]) (rest := [.int z10, .ref (B + 4)]) C hw (t_X7_wordAmount l B D cA kd ig9 rg lg _ y u i (by omega) (by omega) (by omega) (by omega) hI) sv_X7_103 (hsh 1 _ rfl) rfl hl.1 rfl (Nat.le_of_ble_eq_true rfl) ⟨Nat.le_of_ble_eq_true rfl, Nat.le_of_ble_eq_true rfl⟩ ⟨Nat.le_of_ble_eq_true rfl, Nat.le_of_ble_eq_true rfl⟩ dX7_addToken_46 (fun r37 kd33 ig34 rg35 lg36 H locs hw hH hp38 => ?_)
      obtain ⟨rfl, rfl, rfl, rfl, hzhp38, hrhp38⟩ := hp38
      obtain ⟨z39, rfl, hz39⟩ := hrhp38
      refine lv_goto (tgt := 68) hx hb dX7_addToken_49 (by decide) ?_
      exact J68 ls H locs kd ig9 rg lg z39 (lv_sub hl [0] rfl) hw hI hN ((by rw [eig9, eig6]; exact A2.mk h6 (by omega) (by omega) rfl rfl)) ((by rcases hw0 with ⟨q, -⟩ | ⟨-, -, q1, q2⟩; omega; rw [q2, vAt_w (by omega)]; exact hz39)) (by omega)

set_option maxHeartbeats 4000000 in
set_option maxRecDepth 100000 in
theorem t_X7_findTokens {τ : Tp} (l : Launch) (B : Nat) (D : va_G) (cA : Nat → ClassId) (kd : sK) (ig : sI) (rg : sR) (lg : sG) (sz : Nat) (hP : Prt τ) (hI : IC τ B kd ig rg) : MC l B D cA yX7_findTokens cX7_findTokens 3 none (rL 5 0 0) [.ref (B + 1)] kd ig rg lg sz (PI 1022 τ B none kd ig rg lg (fun r kd' ig' rg' lg' => (r = none ∧ ((∃ N, CK B τ N ig') ∧ (ig' (B + 1) 2).toInt = (ig (B + 1) 2).toInt)))) := by
  refine MC.of (own := RX7) (by decide +kernel) rfl (Nat.le_of_ble_eq_true rfl) ?_
  intro p e s m args below meth c ls C hr hlk hnm hw hsz hl
  have hx := C.1.1
  have hb := C.1.2.1
  have hown := C.1.2.2.2.1
  have hts := C.1.2.2.2.2
  have hl : lv_has ls 3 [(0, .ref (B + 1))] := hl
  have hN : Nx 1022 B none kd ig rg lg kd ig rg lg := Nx.rf
  have hsh := hI.sh
  have hrs := hI.rs
  obtain ⟨hlen, hl120⟩ := hI.len
  refine lv_aload_n hx hb dX7_findTokens_0 rfl (lv_at hl 0 rfl) ?_
  refine lv_iconst (v := 0) hx hb dX7_findTokens_1 (by decide) (ti_c 0 (by decide) fun z1 hz1 => ?_)
  refine r_puti C hw (hsh 1 _ rfl) fl_X7_69 rfl rfl rfl dX7_findTokens_2 (fun H locs hH hw => ?_)
  obtain ⟨ig2, eig2⟩ : ∃ f, f = up2 ig (B + 1) 6 z1 := ⟨_, rfl⟩
  rw [← eig2] at hw
  have hN : Nx 1022 B none kd ig rg lg kd ig2 rg lg := by rw [eig2]; exact hN.pi (by omega)
  have hI : IC τ B kd ig2 rg := by rw [eig2]; exact hI.pi (show okR (some (0, 121)) _ from ⟨by show (0 : Int) ≤ _; omega, by show _ ≤ (121 : Int); omega⟩)
  have wig2_1_1 : (ig2 (B + 1) 1).toInt = (ig (B + 1) 1).toInt := by rw [eig2, up2_j (by decide)]
  refine lv_iconst (v := 0) hx hb dX7_findTokens_5 (by decide) (ti_c 0 (by decide) fun z3 hz3 => ?_)
  refine lv_istore_n (lv' := [(1, .int z3), (0, .ref (B + 1))]) hx hb dX7_findTokens_6 rfl hl (by decide) rfl (fun ls hl => ?_)
  refine lv_iconst (v := 0) hx hb dX7_findTokens_7 (by decide) (ti_c 0 (by decide) fun z4 hz4 => ?_)
  refine lv_istore_n (lv' := [(2, .int z4), (1, .int z3), (0, .ref (B + 1))]) hx hb dX7_findTokens_8 rfl hl (by decide) rfl (fun ls hl => ?_)
  have L9 : ∀ (n : Nat) (ls : Array Slot) (H : Heap) (locs : List Loc) (kd6 : sK) (ig7 : sI) (rg8 : sR) (lg9 : sG) (v5 : Int32), lv_has ls 3 [(2, .int v5), (0, .ref (B + 1))] → WD B D cA s.heap kd6 ig7 rg8 lg9 H locs → IC τ B kd6 ig7 rg8 → Nx 1022 B none kd ig rg lg kd6 ig7 rg8 lg9 → (∃ i k : Nat, v5.toInt = (i : Int) ∧ CT B τ i k ig7) → ((ig7 (B + 1) 2).toInt = (ig (B + 1) 2).toInt) → (v5.toInt ≤ (τ.length : Int)) → (τ.length : Int) - v5.toInt < (n : Int) → W p l e (rL 5 0 0) s m args below meth c H locs 0 0 (MQ below (QcW B D cA (PI 1022 τ B none kd ig rg lg (fun r kd' ig' rg' lg' => (r = none ∧ ((∃ N, CK B τ N ig') ∧ (ig' (B + 1) 2).toInt = (ig (B + 1) 2).toInt))))) args s 0 0 (fun q => B ≤ q)) (F0 m 9 ls []) := by
    intro n9
    induction n9 with
    | zero => intro ls H locs kd6 ig7 rg8 lg9 v5 hl hw hI hN g9_0 g9_1 g9_2 hmu; exact absurd hmu (by omega)
    | succ n9 ih9 =>
      intro ls H locs kd6 ig7 rg8 lg9 v5 hl hw hI hN g9_0 g9_1 g9_2 hmu
      have hsh := hI.sh
      have hrs := hI.rs
      obtain ⟨i, k, hi, hct⟩ := g9_0
      obtain ⟨hki, hit, hk6⟩ := hct.le
      obtain ⟨hlen, hl120⟩ := hI.len
      refine lv_iload_n hx hb dX7_findTokens_9 rfl (lv_at hl 0 rfl) ?_
      refine lv_aload_n hx hb dX7_findTokens_10 rfl (lv_at hl 1 rfl) ?_
      refine r_get C hw (hsh 1 _ rfl) fl_X7_15 (oV_i rfl) dX7_findTokens_11 (ti_c (ig7 (B + 1) 1).toInt rfl fun z10 hz10 => ?_)
      have k11 : 0 ≤ (ig7 (B + 1) 1).toInt ∧ (ig7 (B + 1) 1).toInt ≤ 120 := hI.i 1 1 (by decide)
      refine b_ge (tgt := 57) hx hb dX7_findTokens_14 (by decide) (fun c14 => ?_) (fun c14 => ?_)
      · refine lv_aload_n hx hb dX7_findTokens_57 rfl (lv_at hl 1 rfl) ?_
        refine lv_iconst (v := 0) hx hb dX7_findTokens_58 (by decide) (ti_c 0 (by decide) fun z12 hz12 => ?_)
        refine lv_aload_n hx hb dX7_findTokens_59 rfl (lv_at hl 1 rfl) ?_
        refine r_get C hw (hsh 1 _ rfl) fl_X7_15 (oV_i rfl) dX7_findTokens_60 (ti_c (ig7 (B + 1) 1).toInt rfl fun z13 hz13 => ?_)
        have k14 : 0 ≤ (ig7 (B + 1) 1).toInt ∧ (ig7 (B + 1) 1).toInt ≤ 120 := hI.i 1 1 (by decide)
        refine lv_aload_n hx hb dX7_findTokens_63 rfl (lv_at hl 1 rfl) ?_
        refine r_get C hw (hsh 1 _ rfl) fl_X7_15 (oV_i rfl) dX7_findTokens_64 (ti_c (ig7 (B + 1) 1).toInt rfl fun z15 hz15 => ?_)
        have k16 : 0 ≤ (ig7 (B + 1) 1).toInt ∧ (ig7 (B + 1) 1).toInt ≤ 120 := hI.i 1 1 (by decide)
        refine r_callV (As := [.int z12, .int z13, .int z15]) (rest := []) C hw (t_X7_addToken l B D cA kd6 ig7 rg8 lg9 _ z12 z13 z15 k i 0 (by omega) (by omega) (by omega) (Or.inl ⟨by omega, rfl⟩) hI) sv_X7_85 (hsh 1 _ rfl) rfl hl.1 rfl (Nat.le_of_ble_eq_true rfl) ⟨Nat.le_of_ble_eq_true rfl, Nat.le_of_ble_eq_true rfl⟩ ⟨Nat.le_of_ble_eq_true rfl, Nat.le_of_ble_eq_true rfl⟩ dX7_findTokens_67 (fun r21 kd17 ig18 rg19 lg20 H locs hw hH hp22 => ?_)
        obtain ⟨hI, hchp22, hrhp22⟩ := hp22
        have hN := hN.tr hchp22
        have hsh := hI.sh
        have hrs := hI.rs
        obtain ⟨rfl, hvhp22⟩ := hrhp22
        exact r_vret C hw hr hlk (Nat.le_of_ble_eq_true rfl) (Nat.le_of_ble_eq_true rfl) dX7_findTokens_70 ⟨hI, hN, ⟨rfl, ⟨⟨k, hct.fin hl120 (by omega) (by have q := hvhp22; rw [hz12, show z13.toInt = (i : Int) by omega] at q; exact q)⟩, by have q := hvhp22.2.2.2; omega⟩⟩⟩
      · have hil : i < τ.length := by omega
        have tg := tE_gt hl120 hil
        refine lv_iload_n hx hb dX7_findTokens_17 rfl (lv_at hl 0 rfl) ?_
        refine lv_iconst (v := 1) hx hb dX7_findTokens_18 (by decide) (ti_c 1 (by decide) fun z23 hz23 => ?_)
        refine lv_iadd hx hb dX7_findTokens_19 (tc_add fun z24 hz24 => ?_)
        first | replace hz24 := hz24 (by omega) | clear hz24
        refine lv_aload_n hx hb dX7_findTokens_20 rfl (lv_at hl 1 rfl) ?_
        refine lv_iload_n hx hb dX7_findTokens_21 rfl (lv_at hl 0 rfl) ?_
        refine r_callV (As := [.int v5]) (rest := [.int z24]) C hw (t_X7_endOfToken l B D cA kd6 ig7 rg8 lg9 _ v5 i (by omega) (by omega) hI) sv_X7_72 (hsh 1 _ rfl) rfl hl.1 rfl (Nat.le_of_ble_eq_true rfl) ⟨Nat.le_of_ble_eq_true rfl, Nat.le_of_ble_eq_true rfl⟩ ⟨Nat.le_of_ble_eq_true rfl, Nat.le_of_ble_eq_true rfl⟩ dX7_findTokens_22 (fun r29 kd25 ig26 rg27 lg28 H locs hw hH hp30 => ?_)
        obtain ⟨rfl, rfl, rfl, rfl, hzhp30, hrhp30⟩ := hp30
        obtain ⟨z31, rfl, hz31⟩ := hrhp30
        refine r_max C ss_X7_76 hl.1 (Nat.le_of_ble_eq_true rfl) (Nat.le_of_ble_eq_true rfl) (Nat.le_of_ble_eq_true rfl) (Nat.le_of_ble_eq_true rfl) dX7_findTokens_25 (fun z32 hz32 => ?_)
        refine lv_istore_n (lv' := [(1, .int z32), (2, .int v5), (0, .ref (B + 1))]) hx hb dX7_findTokens_28 rfl hl (by decide) rfl (fun ls hl => ?_)
        refine lv_aload_n hx hb dX7_findTokens_29 rfl (lv_at hl 2 rfl) ?_
        refine r_get C hw (hsh 1 _ rfl) fl_X7_9 (oV_r rfl (hrs (1, 0, 2) (by decide))) dX7_findTokens_30 ?_
        refine lv_iload_n hx hb dX7_findTokens_33 rfl (lv_at hl 1 rfl) ?_
        refine r_cald C hw (hsh 2 _ rfl) (by omega) (by omega) dX7_findTokens_34 (ti_c (ig7 (B + 2) v5.toInt.toNat).toInt rfl fun z33 hz33 => ?_)
        have hch : z33.toInt = ch τ (i) := by rw [hz33]; exact hI.tchn (by omega) (by omega)
        refine lv_bipush (v := 32) hx hb dX7_findTokens_35 (by decide) (ti_c 32 (by decide) fun z34 hz34 => ?_)
        have J52 : ∀ (ls : Array Slot) (H : Heap) (locs : List Loc) (kd35 : sK) (ig36 : sI) (rg37 : sR) (lg38 : sG) , lv_has ls 3 [(1, .int z32), (0, .ref (B + 1))] → WD B D cA s.heap kd35 ig36 rg37 lg38 H locs → IC τ B kd35 ig36 rg37 → Nx 1022 B none kd ig rg lg kd35 ig36 rg37 lg38 → (∃ i2 k2 : Nat, z32.toInt = (i2 : Int) ∧ i < i2 ∧ CT B τ i2 k2 ig36) → ((ig36 (B + 1) 2).toInt = (ig (B + 1) 2).toInt) → W p l e (rL 5 0 0) s m args below meth c H locs 0 0 (MQ below (QcW B D cA (PI 1022 τ B none kd ig rg lg (fun r kd' ig' rg' lg' => (r = none ∧ ((∃ N, CK B τ N ig') ∧ (ig' (B + 1) 2).toInt = (ig (B + 1) 2).toInt))))) args s 0 0 (fun q => B ≤ q)) (F0 m 52 ls []) := by
          intro ls H locs kd35 ig36 rg37 lg38 hl hw hI hN g52_0 g52_1
          have hsh := hI.sh
          have hrs := hI.rs
          obtain ⟨i2, k2, hi2, hii, hct2⟩ := g52_0
          have hhm2 := g52_1
          obtain ⟨hki2, hit2, hk62⟩ := hct2.le
          refine lv_iload_n hx hb dX7_findTokens_52 rfl (lv_at hl 0 rfl) ?_
          refine lv_istore_n (lv' := [(2, .int z32), (1, .int z32), (0, .ref (B + 1))]) hx hb dX7_findTokens_53 rfl hl (by decide) rfl (fun ls hl => ?_)
          refine lv_goto (tgt := 9) hx hb dX7_findTokens_54 (by decide) ?_
          exact ih9 ls H locs kd35 ig36 rg37 lg38 z32 (lv_sub hl [0, 2] rfl) hw hI hN (⟨i2, k2, by omega, hct2⟩) (hhm2) (by omega) (by omega)
        refine b_eq (tgt := 52) hx hb dX7_findTokens_37 (by decide) (fun c37 => ?_) (fun c37 => ?_)
        · exact J52 ls H locs kd6 ig7 rg8 lg9 (lv_sub hl [0, 2] rfl) hw hI hN (⟨i + 1, k, by rw [← tE_b (i := i) (τ := τ) (by omega)]; omega, by omega, hct.bl hl120 (by omega)⟩) (g9_1)
        · refine lv_aload_n hx hb dX7_findTokens_40 rfl (lv_at hl 2 rfl) ?_
          refine lv_aload_n hx hb dX7_findTokens_41 rfl (lv_at hl 2 rfl) ?_
          refine lv_iload_n hx hb dX7_findTokens_42 rfl (lv_at hl 1 rfl) ?_
          refine lv_iload_n hx hb dX7_findTokens_43 rfl (lv_at hl 0 rfl) ?_
          refine r_callV (As := [.int v5, .int z32]) (rest := [.ref (B + 1)]) C hw (t_X7_kindOf l B D cA kd6 ig7 rg8 lg9 _ v5 z32 i (by omega) (by omega) (by omega) hP hI) sv_X7_82 (hsh 1 _ rfl) rfl hl.1 rfl (Nat.le_of_ble_eq_true rfl) ⟨Nat.le_of_ble_eq_true rfl, Nat.le_of_ble_eq_true rfl⟩ ⟨Nat.le_of_ble_eq_true rfl, Nat.le_of_ble_eq_true rfl⟩ dX7_findTokens_44 (fun r43 kd39 ig40 rg41 lg42 H locs hw hH hp44 => ?_)
          obtain ⟨rfl, rfl, rfl, rfl, hzhp44, hrhp44⟩ := hp44
          obtain ⟨z45, rfl, hz45⟩ := hrhp44
          refine lv_iload_n hx hb dX7_findTokens_47 rfl (lv_at hl 1 rfl) ?_
          refine lv_iload_n hx hb dX7_findTokens_48 rfl (lv_at hl 0 rfl) ?_
          refine r_callV (As := [.int z45, .int v5, .int z32]) (rest := []) C hw (t_X7_addToken l B D cA kd6 ig7 rg8 lg9 _ z45 v5 z32 k i (vAt τ i) (by omega) (by omega) (by omega) (Or.inr ⟨by omega, by omega, by omega, rfl⟩) hI) sv_X7_85 (hsh 1 _ rfl) rfl hl.1 rfl (Nat.le_of_ble_eq_true rfl) ⟨Nat.le_of_ble_eq_true rfl, Nat.le_of_ble_eq_true rfl⟩ ⟨Nat.le_of_ble_eq_true rfl, Nat.le_of_ble_eq_true rfl⟩ dX7_findTokens_49 (fun r50 kd46 ig47 rg48 lg49 H locs hw hH hp51 => ?_)
          obtain ⟨hI, hchp51, hrhp51⟩ := hp51
          have hN := hN.tr hchp51
          have hsh := hI.sh
          have hrs := hI.rs
          obtain ⟨rfl, hvhp51⟩ := hrhp51
          exact J52 ls H locs kd46 ig47 rg48 lg49 (lv_sub hl [0, 2] rfl) hw hI hN (⟨tE τ i, k + 1, by omega, by omega, hct.add hl120 hil (by omega) (by have q := hvhp51; rw [hz45, hi] at q; exact q)⟩) (by have q := hvhp51.2.2.2; omega)
  exact L9 (((τ.length : Int) - z4.toInt) + 1).toNat ls H locs kd ig2 rg lg z4 (lv_sub hl [0, 2] rfl) hw hI hN (⟨0, 0, by omega, CT.init (by rw [eig2, up2_eq]; omega)⟩) (by rw [eig2, up2_j (by decide)]) (by omega) (by omega)

