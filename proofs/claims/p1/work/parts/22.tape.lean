/-- the i-th sign of eight, the highest first -/
def sh8 (i : Nat) : Int32 := Int32.ofInt (56 - 8 * (i : Int))
theorem sh8_toInt {i : Nat} (h : i ≤ 8) : (sh8 i).toInt = 56 - 8 * (i : Int) := by
  have h2 : ∀ i : Nat, i ≤ 8 → (sh8 i).toInt = 56 - 8 * (i : Int) := by decide
  exact h2 i h
def by8 (x : Int64) (i : Nat) : Int32 := (x.toUInt64 >>> ((sh8 i).toInt64.toUInt64 &&& Int64.toUInt64 63)).toInt64.toInt32 &&& 255
def cn (f : Nat → Int32) : Nat → Nat
  | 0 => 0
  | i + 1 => cn f i + if 32 ≤ (f i).toInt ∧ (f i).toInt ≤ 126 then 1 else 0
theorem cn_le (f : Nat → Int32) : ∀ i, cn f i ≤ i
  | 0 => Nat.le_refl 0
  | i + 1 => by
    have h := cn_le f i
    unfold cn
    split <;> omega
/-- the tape where one token stands, the end -/
def TS (B : Nat) (ig : sI) : Prop := ig (B + 1) 7 = 0 ∧ ig (B + 1) 6 = 1 ∧ ig (B + 3) 0 = 0 ∧ ig (B + 5) 0 = 0
theorem zz1 {x : Int32} (h : x = 1) : x.toInt = 1 := by rw [h]; rfl
theorem eq1 {v : Int32} (h : v.toInt = 1) : v = 1 := i32_inj (h.trans rfl)

set_option maxHeartbeats 4000000 in
set_option maxRecDepth 100000 in
theorem t_X7_append (l : Launch) (B : Nat) (D : va_G) (cA : Nat → ClassId) (kd : sK) (ig : sI) (rg : sR) (lg : sG) (sz : Nat) (x : Int64) (hsh : Sh B kd) (hrs : Rs B rg) (hle : 0 ≤ (ig (B + 1) 1).toInt ∧ (ig (B + 1) 1).toInt ≤ 112) : MC l B D cA yX7_append cX7_append 5 none (rL 0 0 0) [.ref (B + 1), .long x] kd ig rg lg sz (fun r kd' ig' rg' lg' n => kd = kd' ∧ rg = rg' ∧ lg = lg' ∧ n = sz ∧ (r = none) ∧ Off B 1 3 ig' ig ∧ (ig' (B + 1) 1).toInt = (ig (B + 1) 1).toInt + (cn (by8 x) 8 : Nat)) := by
  refine MC.of (own := RX7) (by decide +kernel) rfl (Nat.le_of_ble_eq_true rfl) ?_
  intro p e s m args below meth c ls C hr hlk hnm hw hsz hl
  have hx := C.1.1
  have hb := C.1.2.1
  have hown := C.1.2.2.2.1
  have hts := C.1.2.2.2.2
  have hl : lv_has ls 5 [(0, .ref (B + 1)), (1, .long x)] := hl
  have oig : Off B 1 3 ig ig := Off.rf
  refine lv_bipush (v := 56) hx hb dX7_append_0 (by decide) (ti_c 56 (by decide) fun z1 hz1 => ?_)
  refine lv_istore_n (lv' := [(3, .int z1), (0, .ref (B + 1)), (1, .long x)]) hx hb dX7_append_2 rfl hl (by decide) rfl (fun ls hl => ?_)
  have L3 : ∀ (n : Nat) (ls : Array Slot) (H : Heap) (locs : List Loc) (ig3 : sI) (v2 : Int32), lv_has ls 5 [(3, .int v2), (0, .ref (B + 1)), (1, .long x)] → WD B D cA s.heap kd ig3 rg lg H locs → H.size = sz → (∃ i : Nat, i ≤ 8 ∧ v2.toInt = 56 - 8 * (i : Int) ∧ (ig3 (B + 1) 1).toInt = (ig (B + 1) 1).toInt + (cn (by8 x) i : Nat)) → (Off B 1 3 ig3 ig) → v2.toInt + 8 < (n : Int) → W p l e (rL 0 0 0) s m args below meth c H locs 0 0 (MQ below (QcW B D cA (fun r kd' ig' rg' lg' n => kd = kd' ∧ rg = rg' ∧ lg = lg' ∧ n = sz ∧ (r = none) ∧ Off B 1 3 ig' ig ∧ (ig' (B + 1) 1).toInt = (ig (B + 1) 1).toInt + (cn (by8 x) 8 : Nat))) args s 0 0 (fun q => B ≤ q)) (F0 m 3 ls []) := by
    intro n
    induction n with
    | zero => intro ls H locs ig3 v2 hl hw hsz g3_0 g3_1 hmu; exact absurd hmu (by omega)
    | succ n ih =>
      intro ls H locs ig3 v2 hl hw hsz g3_0 g3_1 hmu
      have oig := g3_1
      obtain ⟨i, hi8, hs3, hlen⟩ := g3_0
      have hcn := cn_le (by8 x) i
      refine lv_iload_n hx hb dX7_append_3 rfl (lv_at hl 0 rfl) ?_
      refine z_lt (tgt := 68) hx hb dX7_append_4 (by decide) (fun c4 => ?_) (fun c4 => ?_)
      · exact r_vret C hw hr hlk (Nat.le_of_ble_eq_true rfl) (Nat.le_of_ble_eq_true rfl) dX7_append_68 ⟨rfl, rfl, rfl, hsz, rfl, oig, by rw [hlen]; rw [show i = 8 by omega]⟩
      · refine lv_lload_n hx hb dX7_append_7 rfl (lv_at hl 2 rfl) ?_
        refine lv_iload_n hx hb dX7_append_8 rfl (lv_at hl 0 rfl) ?_
        refine lv_lushr hx hb dX7_append_9 rfl (lv_topl fun x4 hx4 => ?_)
        refine lv_l2i hx hb dX7_append_10 rfl (lv_topi fun z5 hz5 => ?_)
        refine lv_sipush (v := 255) hx hb dX7_append_11 (by decide) (ti_c 255 (by decide) fun z6 hz6 => ?_)
        refine lv_iand hx hb dX7_append_14 (lv_topi fun z7 hz7 => ?_)
        refine lv_istore (lv' := [(4, .int z7), (3, .int v2), (0, .ref (B + 1)), (1, .long x)]) hx hb dX7_append_15 hl (by decide) rfl (fun ls hl => ?_)
        have hby : z7 = by8 x i := by rw [hz7, hz5, hx4, i32_inj (hz6.trans (show (255 : Int) = (255 : Int32).toInt from rfl)), show v2 = sh8 i from i32_inj (hs3.trans (sh8_toInt (by omega)).symm)]; rfl
        refine lv_iload hx hb dX7_append_17 (lv_at hl 0 rfl) ?_
        refine lv_bipush (v := 32) hx hb dX7_append_19 (by decide) (ti_c 32 (by decide) fun z8 hz8 => ?_)
        have J62 : ∀ (ls : Array Slot) (H : Heap) (locs : List Loc) (ig9 : sI), lv_has ls 5 [(3, .int v2), (0, .ref (B + 1)), (1, .long x)] → WD B D cA s.heap kd ig9 rg lg H locs → H.size = sz → ((ig9 (B + 1) 1).toInt = (ig (B + 1) 1).toInt + (cn (by8 x) (i + 1) : Nat)) → (Off B 1 3 ig9 ig) → W p l e (rL 0 0 0) s m args below meth c H locs 0 0 (MQ below (QcW B D cA (fun r kd' ig' rg' lg' n => kd = kd' ∧ rg = rg' ∧ lg = lg' ∧ n = sz ∧ (r = none) ∧ Off B 1 3 ig' ig ∧ (ig' (B + 1) 1).toInt = (ig (B + 1) 1).toInt + (cn (by8 x) 8 : Nat))) args s 0 0 (fun q => B ≤ q)) (F0 m 62 ls []) := by
          intro ls H locs ig9 hl hw hsz g62_0 g62_1
          have oig := g62_1
          refine ti_inc hx hb dX7_append_62 hl (k := 0) rfl (by decide) (by decide) (by omega) (fun z10 hz10 ls hl => ?_)
          have hl : lv_has ls 5 [(3, .int z10), (0, .ref (B + 1)), (1, .long x)] := hl
          refine lv_goto (tgt := 3) hx hb dX7_append_65 (by decide) ?_
          exact ih ls H locs ig9 z10 (lv_sub hl [0, 1, 2] rfl) hw hsz (⟨i + 1, by omega, by omega, g62_0⟩) oig (by omega)
        refine b_lt (tgt := 62) hx hb dX7_append_21 (by decide) (fun c21 => ?_) (fun c21 => ?_)
        · exact J62 ls H locs ig3  (lv_sub hl [1, 2, 3] rfl) hw hsz (by rw [cn, if_neg (by rw [← hby]; omega)]; exact hlen) oig
        · refine lv_iload hx hb dX7_append_24 (lv_at hl 0 rfl) ?_
          refine lv_bipush (v := 126) hx hb dX7_append_26 (by decide) (ti_c 126 (by decide) fun z11 hz11 => ?_)
          refine b_gt (tgt := 62) hx hb dX7_append_28 (by decide) (fun c28 => ?_) (fun c28 => ?_)
          · exact J62 ls H locs ig3  (lv_sub hl [1, 2, 3] rfl) hw hsz (by rw [cn, if_neg (by rw [← hby]; omega)]; exact hlen) oig
          · refine lv_aload_n hx hb dX7_append_31 rfl (lv_at hl 2 rfl) ?_
            refine r_get C hw (hsh 1 _ rfl) fl_X7_15 (oV_i rfl) dX7_append_32 (ti_c (ig3 (B + 1) 1).toInt rfl fun z12 hz12 => ?_)
            refine lv_bipush (v := 120) hx hb dX7_append_35 (by decide) (ti_c 120 (by decide) fun z13 hz13 => ?_)
            refine b_ge (tgt := 62) hx hb dX7_append_37 (by decide) (fun c37 => ?_) (fun c37 => ?_)
            · exact absurd c37 (by omega)
            · refine lv_aload_n hx hb dX7_append_40 rfl (lv_at hl 2 rfl) ?_
              refine r_get C hw (hsh 1 _ rfl) fl_X7_9 (oV_r rfl (hrs (1, 0, 2) (by decide))) dX7_append_41 ?_
              refine lv_aload_n hx hb dX7_append_44 rfl (lv_at hl 2 rfl) ?_
              refine r_get C hw (hsh 1 _ rfl) fl_X7_15 (oV_i rfl) dX7_append_45 (ti_c (ig3 (B + 1) 1).toInt rfl fun z14 hz14 => ?_)
              refine lv_iload hx hb dX7_append_48 (lv_at hl 0 rfl) ?_
              refine lv_i2c hx hb dX7_append_50 rfl (lv_topi fun z15 hz15 => ?_)
              refine r_cast C hw (hsh 2 _ rfl) (by omega) (by omega) (by rw [hz15]; exact pk_nc _) dX7_append_51 (fun H locs hH hw => ?_)
              obtain ⟨ig16, eig16⟩ : ∃ f, f = up2 ig3 (B + 2) z14.toInt.toNat z15 := ⟨_, rfl⟩
              rw [← eig16] at hw
              have hsz := hH.trans hsz
              have oig : Off B 1 3 ig16 ig := fun a j h => by rw [eig16]; exact (up2_a (by omega)).trans (oig a j h)
              refine lv_aload_n hx hb dX7_append_52 rfl (lv_at hl 2 rfl) ?_
              refine lv_dup hx hb dX7_append_53 rfl ?_
              refine r_get C hw (hsh 1 _ rfl) fl_X7_15 (oV_i rfl) dX7_append_54 (ti_c (ig16 (B + 1) 1).toInt rfl fun z17 hz17 => ?_)
              have k18 : (ig16 (B + 1) 1).toInt = (ig3 (B + 1) 1).toInt := by rw [eig16, up2_a (by omega)]
              refine lv_iconst (v := 1) hx hb dX7_append_57 (by decide) (ti_c 1 (by decide) fun z19 hz19 => ?_)
              refine lv_iadd hx hb dX7_append_58 (ti_add (by omega) fun z20 hz20 => ?_)
              refine r_puti C hw (hsh 1 _ rfl) fl_X7_15 rfl rfl rfl dX7_append_59 (fun H locs hH hw => ?_)
              obtain ⟨ig21, eig21⟩ : ∃ f, f = up2 ig16 (B + 1) 1 z20 := ⟨_, rfl⟩
              rw [← eig21] at hw
              have hsz := hH.trans hsz
              have oig : Off B 1 3 ig21 ig := fun a j h => by rw [eig21]; exact (up2_a (by omega)).trans (oig a j h)
              exact J62 ls H locs ig21  (lv_sub hl [1, 2, 3] rfl) hw hsz (by rw [cn, if_pos (by rw [← hby]; omega)]; rw [eig21, up2_eq]; omega) oig
  exact L3 ((z1.toInt + 8) + 1).toNat ls s.heap [] ig z1 (lv_sub hl [0, 1, 2] rfl) hw hsz (⟨0, by omega, by omega, by simp [cn]⟩) oig (by omega)

set_option maxHeartbeats 4000000 in
set_option maxRecDepth 100000 in
theorem t_X7_addToken (l : Launch) (B : Nat) (D : va_G) (cA : Nat → ClassId) (kd : sK) (ig : sI) (rg : sR) (lg : sG) (sz : Nat) (x y z0_ : Int32) (hsh : Sh B kd) (hrs : Rs B rg) (h6 : ig (B + 1) 6 = 0) (hx0 : x.toInt = 0) (hy0 : y.toInt = 0) : MC l B D cA yX7_addToken cX7_addToken 4 none (rL 0 0 0) [.ref (B + 1), .int x, .int y, .int z0_] kd ig rg lg sz (fun r kd' ig' rg' lg' n => kd = kd' ∧ rg = rg' ∧ lg = lg' ∧ n = sz ∧ (r = none) ∧ Off B 1 9 ig' ig ∧ ig' (B + 1) 6 = 1 ∧ ig' (B + 3) 0 = 0 ∧ ig' (B + 5) 0 = 0) := by
  refine MC.of (own := RX7) (by decide +kernel) rfl (Nat.le_of_ble_eq_true rfl) ?_
  intro p e s m args below meth c ls C hr hlk hnm hw hsz hl
  have hx := C.1.1
  have hb := C.1.2.1
  have hown := C.1.2.2.2.1
  have hts := C.1.2.2.2.2
  have hl : lv_has ls 4 [(0, .ref (B + 1)), (1, .int x), (2, .int y), (3, .int z0_)] := hl
  have oig : Off B 1 9 ig ig := Off.rf
  refine lv_aload_n hx hb dX7_addToken_0 rfl (lv_at hl 0 rfl) ?_
  refine r_get C hw (hsh 1 _ rfl) fl_X7_69 (oV_i rfl) dX7_addToken_1 (ti_c (ig (B + 1) 6).toInt rfl fun z1 hz1 => ?_)
  have k2 : (ig (B + 1) (6)).toInt = 0 := by exact z0 (h6)
  refine lv_bipush (v := 120) hx hb dX7_addToken_4 (by decide) (ti_c 120 (by decide) fun z3 hz3 => ?_)
  refine b_gt (tgt := 79) hx hb dX7_addToken_6 (by decide) (fun c6 => ?_) (fun c6 => ?_)
  · exact absurd c6 (by omega)
  · refine lv_aload_n hx hb dX7_addToken_9 rfl (lv_at hl 0 rfl) ?_
    refine r_get C hw (hsh 1 _ rfl) fl_X7_19 (oV_r rfl (hrs (1, 3, 3) (by decide))) dX7_addToken_10 ?_
    refine lv_aload_n hx hb dX7_addToken_13 rfl (lv_at hl 0 rfl) ?_
    refine r_get C hw (hsh 1 _ rfl) fl_X7_69 (oV_i rfl) dX7_addToken_14 (ti_c (ig (B + 1) 6).toInt rfl fun z4 hz4 => ?_)
    have k5 : (ig (B + 1) (6)).toInt = 0 := by exact z0 (h6)
    refine lv_iload_n hx hb dX7_addToken_17 rfl (lv_at hl 1 rfl) ?_
    refine r_iast C hw (hsh 3 _ rfl) (by omega) (by omega) dX7_addToken_18 (fun H locs hH hw => ?_)
    obtain ⟨ig6, eig6⟩ : ∃ f, f = up2 ig (B + 3) z4.toInt.toNat x := ⟨_, rfl⟩
    rw [← eig6] at hw
    have hsz := hH.trans hsz
    have oig : Off B 1 9 ig6 ig := fun a j h => by rw [eig6]; exact (up2_a (by omega)).trans (oig a j h)
    refine lv_aload_n hx hb dX7_addToken_19 rfl (lv_at hl 0 rfl) ?_
    refine r_get C hw (hsh 1 _ rfl) fl_X7_26 (oV_r rfl (hrs (1, 5, 5) (by decide))) dX7_addToken_20 ?_
    refine lv_aload_n hx hb dX7_addToken_23 rfl (lv_at hl 0 rfl) ?_
    refine r_get C hw (hsh 1 _ rfl) fl_X7_69 (oV_i rfl) dX7_addToken_24 (ti_c (ig6 (B + 1) 6).toInt rfl fun z7 hz7 => ?_)
    have k8 : (ig6 (B + 1) (6)).toInt = 0 := by rw [eig6, up2_a (by omega)]; exact z0 (h6)
    refine lv_iload_n hx hb dX7_addToken_27 rfl (lv_at hl 2 rfl) ?_
    refine r_iast C hw (hsh 5 _ rfl) (by omega) (by omega) dX7_addToken_28 (fun H locs hH hw => ?_)
    obtain ⟨ig9, eig9⟩ : ∃ f, f = up2 ig6 (B + 5) z7.toInt.toNat y := ⟨_, rfl⟩
    rw [← eig9] at hw
    have hsz := hH.trans hsz
    have oig : Off B 1 9 ig9 ig := fun a j h => by rw [eig9]; exact (up2_a (by omega)).trans (oig a j h)
    refine lv_aload_n hx hb dX7_addToken_29 rfl (lv_at hl 0 rfl) ?_
    refine r_get C hw (hsh 1 _ rfl) fl_X7_23 (oV_r rfl (hrs (1, 4, 4) (by decide))) dX7_addToken_30 ?_
    refine lv_aload_n hx hb dX7_addToken_33 rfl (lv_at hl 0 rfl) ?_
    refine r_get C hw (hsh 1 _ rfl) fl_X7_69 (oV_i rfl) dX7_addToken_34 (ti_c (ig9 (B + 1) 6).toInt rfl fun z10 hz10 => ?_)
    have k11 : (ig9 (B + 1) (6)).toInt = 0 := by rw [eig9, up2_a (by omega), eig6, up2_a (by omega)]; exact z0 (h6)
    refine lv_iload_n hx hb dX7_addToken_37 rfl (lv_at hl 1 rfl) ?_
    refine lv_bipush (v := 119) hx hb dX7_addToken_38 (by decide) (ti_c 119 (by decide) fun z12 hz12 => ?_)
    refine b_ne (tgt := 52) hx hb dX7_addToken_40 (by decide) (fun c40 => ?_) (fun c40 => ?_)
    · refine lv_iload_n hx hb dX7_addToken_52 rfl (lv_at hl 1 rfl) ?_
      refine lv_bipush (v := 110) hx hb dX7_addToken_53 (by decide) (ti_c 110 (by decide) fun z13 hz13 => ?_)
      refine b_ne (tgt := 67) hx hb dX7_addToken_55 (by decide) (fun c55 => ?_) (fun c55 => ?_)
      · refine lv_iconst (v := 0) hx hb dX7_addToken_67 (by decide) (ti_c 0 (by decide) fun z14 hz14 => ?_)
        refine r_iast C hw (hsh 4 _ rfl) (by omega) (by omega) dX7_addToken_68 (fun H locs hH hw => ?_)
        obtain ⟨ig15, eig15⟩ : ∃ f, f = up2 ig9 (B + 4) z10.toInt.toNat z14 := ⟨_, rfl⟩
        rw [← eig15] at hw
        have hsz := hH.trans hsz
        have oig : Off B 1 9 ig15 ig := fun a j h => by rw [eig15]; exact (up2_a (by omega)).trans (oig a j h)
        refine lv_aload_n hx hb dX7_addToken_69 rfl (lv_at hl 0 rfl) ?_
        refine lv_dup hx hb dX7_addToken_70 rfl ?_
        refine r_get C hw (hsh 1 _ rfl) fl_X7_69 (oV_i rfl) dX7_addToken_71 (ti_c (ig15 (B + 1) 6).toInt rfl fun z16 hz16 => ?_)
        have k17 : (ig15 (B + 1) (6)).toInt = 0 := by rw [eig15, up2_a (by omega), eig9, up2_a (by omega), eig6, up2_a (by omega)]; exact z0 (h6)
        refine lv_iconst (v := 1) hx hb dX7_addToken_74 (by decide) (ti_c 1 (by decide) fun z18 hz18 => ?_)
        refine lv_iadd hx hb dX7_addToken_75 (ti_add (by omega) fun z19 hz19 => ?_)
        refine r_puti C hw (hsh 1 _ rfl) fl_X7_69 rfl rfl rfl dX7_addToken_76 (fun H locs hH hw => ?_)
        obtain ⟨ig20, eig20⟩ : ∃ f, f = up2 ig15 (B + 1) 6 z19 := ⟨_, rfl⟩
        rw [← eig20] at hw
        have hsz := hH.trans hsz
        have oig : Off B 1 9 ig20 ig := fun a j h => by rw [eig20]; exact (up2_a (by omega)).trans (oig a j h)
        exact r_vret C hw hr hlk (Nat.le_of_ble_eq_true rfl) (Nat.le_of_ble_eq_true rfl) dX7_addToken_79 ⟨rfl, rfl, rfl, hsz, rfl, oig, by rw [eig20, up2_eq]; exact eq1 (by omega), by rw [eig20, up2_a (by omega), eig15, up2_a (by omega), eig9, up2_a (by omega), eig6, show z4.toInt.toNat = 0 by omega, up2_eq]; exact eq0 (by omega), by rw [eig20, up2_a (by omega), eig15, up2_a (by omega), eig9, show z7.toInt.toNat = 0 by omega, up2_eq]; exact eq0 (by omega)⟩
      · exact absurd c55 (by omega)
    · exact absurd c40 (by omega)

set_option maxHeartbeats 4000000 in
set_option maxRecDepth 100000 in
theorem t_X7_findTokens (l : Launch) (B : Nat) (D : va_G) (cA : Nat → ClassId) (kd : sK) (ig : sI) (rg : sR) (lg : sG) (sz : Nat) (hsh : Sh B kd) (hrs : Rs B rg) (hle : ig (B + 1) 1 = 0) : MC l B D cA yX7_findTokens cX7_findTokens 3 none (rL 1 0 0) [.ref (B + 1)] kd ig rg lg sz (fun r kd' ig' rg' lg' n => kd = kd' ∧ rg = rg' ∧ lg = lg' ∧ n = sz ∧ (r = none) ∧ Off B 1 9 ig' ig ∧ ig' (B + 1) 6 = 1 ∧ ig' (B + 3) 0 = 0 ∧ ig' (B + 5) 0 = 0) := by
  refine MC.of (own := RX7) (by decide +kernel) rfl (Nat.le_of_ble_eq_true rfl) ?_
  intro p e s m args below meth c ls C hr hlk hnm hw hsz hl
  have hx := C.1.1
  have hb := C.1.2.1
  have hown := C.1.2.2.2.1
  have hts := C.1.2.2.2.2
  have hl : lv_has ls 3 [(0, .ref (B + 1))] := hl
  have oig : Off B 1 9 ig ig := Off.rf
  refine lv_aload_n hx hb dX7_findTokens_0 rfl (lv_at hl 0 rfl) ?_
  refine lv_iconst (v := 0) hx hb dX7_findTokens_1 (by decide) (ti_c 0 (by decide) fun z1 hz1 => ?_)
  refine r_puti C hw (hsh 1 _ rfl) fl_X7_69 rfl rfl rfl dX7_findTokens_2 (fun H locs hH hw => ?_)
  obtain ⟨ig2, eig2⟩ : ∃ f, f = up2 ig (B + 1) 6 z1 := ⟨_, rfl⟩
  rw [← eig2] at hw
  have hsz := hH.trans hsz
  have oig : Off B 1 9 ig2 ig := fun a j h => by rw [eig2]; exact (up2_a (by omega)).trans (oig a j h)
  refine lv_iconst (v := 0) hx hb dX7_findTokens_5 (by decide) (ti_c 0 (by decide) fun z3 hz3 => ?_)
  refine lv_istore_n (lv' := [(1, .int z3), (0, .ref (B + 1))]) hx hb dX7_findTokens_6 rfl hl (by decide) rfl (fun ls hl => ?_)
  refine lv_iconst (v := 0) hx hb dX7_findTokens_7 (by decide) (ti_c 0 (by decide) fun z4 hz4 => ?_)
  refine lv_istore_n (lv' := [(2, .int z4), (1, .int z3), (0, .ref (B + 1))]) hx hb dX7_findTokens_8 rfl hl (by decide) rfl (fun ls hl => ?_)
  refine lv_iload_n hx hb dX7_findTokens_9 rfl (lv_at hl 0 rfl) ?_
  refine lv_aload_n hx hb dX7_findTokens_10 rfl (lv_at hl 2 rfl) ?_
  refine r_get C hw (hsh 1 _ rfl) fl_X7_15 (oV_i rfl) dX7_findTokens_11 (ti_c (ig2 (B + 1) 1).toInt rfl fun z5 hz5 => ?_)
  have k6 : (ig2 (B + 1) (1)).toInt = 0 := by rw [eig2, up2_j (by decide)]; exact z0 (hle)
  refine b_ge (tgt := 57) hx hb dX7_findTokens_14 (by decide) (fun c14 => ?_) (fun c14 => ?_)
  · refine lv_aload_n hx hb dX7_findTokens_57 rfl (lv_at hl 2 rfl) ?_
    refine lv_iconst (v := 0) hx hb dX7_findTokens_58 (by decide) (ti_c 0 (by decide) fun z7 hz7 => ?_)
    refine lv_aload_n hx hb dX7_findTokens_59 rfl (lv_at hl 2 rfl) ?_
    refine r_get C hw (hsh 1 _ rfl) fl_X7_15 (oV_i rfl) dX7_findTokens_60 (ti_c (ig2 (B + 1) 1).toInt rfl fun z8 hz8 => ?_)
    have k9 : (ig2 (B + 1) (1)).toInt = 0 := by rw [eig2, up2_j (by decide)]; exact z0 (hle)
    refine lv_aload_n hx hb dX7_findTokens_63 rfl (lv_at hl 2 rfl) ?_
    refine r_get C hw (hsh 1 _ rfl) fl_X7_15 (oV_i rfl) dX7_findTokens_64 (ti_c (ig2 (B + 1) 1).toInt rfl fun z10 hz10 => ?_)
    have k11 : (ig2 (B + 1) (1)).toInt = 0 := by rw [eig2, up2_j (by decide)]; exact z0 (hle)
    refine r_callV (As := [.int z7, .int z8, .int z10]) (rest := []) C hw (t_X7_addToken l B D cA kd ig2 rg lg _ z7 z8 z10 hsh hrs (by rw [eig2, up2_eq]; exact eq0 (by omega)) (by omega) (by omega)) sv_X7_85 (hsh 1 _ rfl) rfl hl.1 rfl (Nat.le_of_ble_eq_true rfl) ⟨Nat.le_of_ble_eq_true rfl, Nat.le_of_ble_eq_true rfl⟩ ⟨Nat.le_of_ble_eq_true rfl, Nat.le_of_ble_eq_true rfl⟩ dX7_findTokens_67 (fun r17 kd13 ig14 rg15 lg16 H locs hw hH hp18 => ?_)
    obtain ⟨rfl, rfl, rfl, hq12, rfl, oa12, ht6, ht3, ht5⟩ := hp18
    have hsz := hq12.trans hsz
    have oig := Off.tr (lo := 1) (hi := 9) oa12 oig (by decide) (by decide)
    exact r_vret C hw hr hlk (Nat.le_of_ble_eq_true rfl) (Nat.le_of_ble_eq_true rfl) dX7_findTokens_70 ⟨rfl, rfl, rfl, hsz, rfl, oig, ht6, ht3, ht5⟩
  · exact absurd c14 (by omega)

set_option maxHeartbeats 4000000 in
set_option maxRecDepth 100000 in
theorem t_X7_kind (l : Launch) (B : Nat) (D : va_G) (cA : Nat → ClassId) (kd : sK) (ig : sI) (rg : sR) (lg : sG) (sz : Nat) (hsh : Sh B kd) (hrs : Rs B rg) (hts1 : TS B ig) : MC l B D cA yX7_kind cX7_kind 1 (some .int) (rL 0 0 0) [.ref (B + 1)] kd ig rg lg sz (Pu kd ig rg lg sz (fun r => ∃ z : Int32, r = some (.int z) ∧ z.toInt = 0)) := by
  refine MC.of (own := RX7) (by decide +kernel) rfl (Nat.le_of_ble_eq_true rfl) ?_
  intro p e s m args below meth c ls C hr hlk hnm hw hsz hl
  have hx := C.1.1
  have hb := C.1.2.1
  have hown := C.1.2.2.2.1
  have hts := C.1.2.2.2.2
  have hl : lv_has ls 1 [(0, .ref (B + 1))] := hl
  refine lv_aload_n hx hb dX7_kind_0 rfl (lv_at hl 0 rfl) ?_
  refine r_get C hw (hsh 1 _ rfl) fl_X7_50 (oV_i rfl) dX7_kind_1 (ti_c (ig (B + 1) 7).toInt rfl fun z1 hz1 => ?_)
  have k2 : (ig (B + 1) (7)).toInt = 0 := by exact z0 (hts1.1)
  refine z_lt (tgt := 30) hx hb dX7_kind_4 (by decide) (fun c4 => ?_) (fun c4 => ?_)
  · exact absurd c4 (by omega)
  · refine lv_aload_n hx hb dX7_kind_7 rfl (lv_at hl 0 rfl) ?_
    refine r_get C hw (hsh 1 _ rfl) fl_X7_50 (oV_i rfl) dX7_kind_8 (ti_c (ig (B + 1) 7).toInt rfl fun z3 hz3 => ?_)
    have k4 : (ig (B + 1) (7)).toInt = 0 := by exact z0 (hts1.1)
    refine lv_aload_n hx hb dX7_kind_11 rfl (lv_at hl 0 rfl) ?_
    refine r_get C hw (hsh 1 _ rfl) fl_X7_69 (oV_i rfl) dX7_kind_12 (ti_c (ig (B + 1) 6).toInt rfl fun z5 hz5 => ?_)
    have k6 := zz1 hts1.2.1
    refine b_ge (tgt := 30) hx hb dX7_kind_15 (by decide) (fun c15 => ?_) (fun c15 => ?_)
    · exact absurd c15 (by omega)
    · refine lv_aload_n hx hb dX7_kind_18 rfl (lv_at hl 0 rfl) ?_
      refine r_get C hw (hsh 1 _ rfl) fl_X7_19 (oV_r rfl (hrs (1, 3, 3) (by decide))) dX7_kind_19 ?_
      refine lv_aload_n hx hb dX7_kind_22 rfl (lv_at hl 0 rfl) ?_
      refine r_get C hw (hsh 1 _ rfl) fl_X7_50 (oV_i rfl) dX7_kind_23 (ti_c (ig (B + 1) 7).toInt rfl fun z7 hz7 => ?_)
      have k8 : (ig (B + 1) (7)).toInt = 0 := by exact z0 (hts1.1)
      refine r_iald C hw (hsh 3 _ rfl) (by omega) (by omega) dX7_kind_26 (ti_c (ig (B + 3) z7.toInt.toNat).toInt rfl fun z9 hz9 => ?_)
      have k10 : (ig (B + 3) z7.toInt.toNat).toInt = 0 := by rw [show z7.toInt.toNat = 0 by omega]; exact z0 hts1.2.2.1
      refine lv_goto (tgt := 31) hx hb dX7_kind_27 (by decide) ?_
      exact r_iret C hw hr hlk rfl (Nat.le_of_ble_eq_true rfl) (Nat.le_of_ble_eq_true rfl) dX7_kind_31 ⟨rfl, rfl, rfl, rfl, hsz, _, rfl, by omega⟩

set_option maxHeartbeats 4000000 in
set_option maxRecDepth 100000 in
theorem t_X7_startsPart (l : Launch) (B : Nat) (D : va_G) (cA : Nat → ClassId) (kd : sK) (ig : sI) (rg : sR) (lg : sG) (sz : Nat) (hsh : Sh B kd) (hrs : Rs B rg) (hts1 : TS B ig) : MC l B D cA yX7_startsPart cX7_startsPart 1 (some .boolean) (rL 1 0 0) [.ref (B + 1)] kd ig rg lg sz (Pu kd ig rg lg sz (fun r => ∃ z : Int32, r = some (.int z) ∧ z.toInt = 0)) := by
  refine MC.of (own := RX7) (by decide +kernel) rfl (Nat.le_of_ble_eq_true rfl) ?_
  intro p e s m args below meth c ls C hr hlk hnm hw hsz hl
  have hx := C.1.1
  have hb := C.1.2.1
  have hown := C.1.2.2.2.1
  have hts := C.1.2.2.2.2
  have hl : lv_has ls 1 [(0, .ref (B + 1))] := hl
  refine lv_aload_n hx hb dX7_startsPart_0 rfl (lv_at hl 0 rfl) ?_
  refine r_callV (As := []) (rest := []) C hw (t_X7_kind l B D cA kd ig rg lg _ hsh hrs hts1) sv_X7_57 (hsh 1 _ rfl) rfl hl.1 rfl (Nat.le_of_ble_eq_true rfl) ⟨Nat.le_of_ble_eq_true rfl, Nat.le_of_ble_eq_true rfl⟩ ⟨Nat.le_of_ble_eq_true rfl, Nat.le_of_ble_eq_true rfl⟩ dX7_startsPart_1 (fun r6 kd2 ig3 rg4 lg5 H locs hw hH hp7 => ?_)
  obtain ⟨rfl, rfl, rfl, rfl, hzz1, z1, rfl, hz1⟩ := hp7
  have hsz := hzz1.trans hsz
  refine lv_bipush (v := 119) hx hb dX7_startsPart_4 (by decide) (ti_c 119 (by decide) fun z8 hz8 => ?_)
  refine b_ne (tgt := 33) hx hb dX7_startsPart_6 (by decide) (fun c6 => ?_) (fun c6 => ?_)
  · refine lv_aload_n hx hb dX7_startsPart_33 rfl (lv_at hl 0 rfl) ?_
    refine r_callV (As := []) (rest := []) C hw (t_X7_kind l B D cA kd ig rg lg _ hsh hrs hts1) sv_X7_57 (hsh 1 _ rfl) rfl hl.1 rfl (Nat.le_of_ble_eq_true rfl) ⟨Nat.le_of_ble_eq_true rfl, Nat.le_of_ble_eq_true rfl⟩ ⟨Nat.le_of_ble_eq_true rfl, Nat.le_of_ble_eq_true rfl⟩ dX7_startsPart_34 (fun r14 kd10 ig11 rg12 lg13 H locs hw hH hp15 => ?_)
    obtain ⟨rfl, rfl, rfl, rfl, hzz9, z9, rfl, hz9⟩ := hp15
    have hsz := hzz9.trans hsz
    refine lv_bipush (v := 110) hx hb dX7_startsPart_37 (by decide) (ti_c 110 (by decide) fun z16 hz16 => ?_)
    refine b_eq (tgt := 69) hx hb dX7_startsPart_39 (by decide) (fun c39 => ?_) (fun c39 => ?_)
    · exact absurd c39 (by omega)
    · refine lv_aload_n hx hb dX7_startsPart_42 rfl (lv_at hl 0 rfl) ?_
      refine r_callV (As := []) (rest := []) C hw (t_X7_kind l B D cA kd ig rg lg _ hsh hrs hts1) sv_X7_57 (hsh 1 _ rfl) rfl hl.1 rfl (Nat.le_of_ble_eq_true rfl) ⟨Nat.le_of_ble_eq_true rfl, Nat.le_of_ble_eq_true rfl⟩ ⟨Nat.le_of_ble_eq_true rfl, Nat.le_of_ble_eq_true rfl⟩ dX7_startsPart_43 (fun r22 kd18 ig19 rg20 lg21 H locs hw hH hp23 => ?_)
      obtain ⟨rfl, rfl, rfl, rfl, hzz17, z17, rfl, hz17⟩ := hp23
      have hsz := hzz17.trans hsz
      refine lv_bipush (v := 40) hx hb dX7_startsPart_46 (by decide) (ti_c 40 (by decide) fun z24 hz24 => ?_)
      refine b_eq (tgt := 69) hx hb dX7_startsPart_48 (by decide) (fun c48 => ?_) (fun c48 => ?_)
      · exact absurd c48 (by omega)
      · refine lv_aload_n hx hb dX7_startsPart_51 rfl (lv_at hl 0 rfl) ?_
        refine r_callV (As := []) (rest := []) C hw (t_X7_kind l B D cA kd ig rg lg _ hsh hrs hts1) sv_X7_57 (hsh 1 _ rfl) rfl hl.1 rfl (Nat.le_of_ble_eq_true rfl) ⟨Nat.le_of_ble_eq_true rfl, Nat.le_of_ble_eq_true rfl⟩ ⟨Nat.le_of_ble_eq_true rfl, Nat.le_of_ble_eq_true rfl⟩ dX7_startsPart_52 (fun r30 kd26 ig27 rg28 lg29 H locs hw hH hp31 => ?_)
        obtain ⟨rfl, rfl, rfl, rfl, hzz25, z25, rfl, hz25⟩ := hp31
        have hsz := hzz25.trans hsz
        refine lv_bipush (v := 45) hx hb dX7_startsPart_55 (by decide) (ti_c 45 (by decide) fun z32 hz32 => ?_)
        refine b_eq (tgt := 69) hx hb dX7_startsPart_57 (by decide) (fun c57 => ?_) (fun c57 => ?_)
        · exact absurd c57 (by omega)
        · refine lv_aload_n hx hb dX7_startsPart_60 rfl (lv_at hl 0 rfl) ?_
          refine r_callV (As := []) (rest := []) C hw (t_X7_kind l B D cA kd ig rg lg _ hsh hrs hts1) sv_X7_57 (hsh 1 _ rfl) rfl hl.1 rfl (Nat.le_of_ble_eq_true rfl) ⟨Nat.le_of_ble_eq_true rfl, Nat.le_of_ble_eq_true rfl⟩ ⟨Nat.le_of_ble_eq_true rfl, Nat.le_of_ble_eq_true rfl⟩ dX7_startsPart_61 (fun r38 kd34 ig35 rg36 lg37 H locs hw hH hp39 => ?_)
          obtain ⟨rfl, rfl, rfl, rfl, hzz33, z33, rfl, hz33⟩ := hp39
          have hsz := hzz33.trans hsz
          refine lv_bipush (v := 36) hx hb dX7_startsPart_64 (by decide) (ti_c 36 (by decide) fun z40 hz40 => ?_)
          refine b_ne (tgt := 73) hx hb dX7_startsPart_66 (by decide) (fun c66 => ?_) (fun c66 => ?_)
          · refine lv_iconst (v := 0) hx hb dX7_startsPart_73 (by decide) (ti_c 0 (by decide) fun z41 hz41 => ?_)
            exact r_iret C hw hr hlk (nar_b (by omega)) (Nat.le_of_ble_eq_true rfl) (Nat.le_of_ble_eq_true rfl) dX7_startsPart_74 ⟨rfl, rfl, rfl, rfl, hsz, _, rfl, by omega⟩
          · exact absurd c66 (by omega)
  · exact absurd c6 (by omega)

set_option maxHeartbeats 4000000 in
set_option maxRecDepth 100000 in
theorem t_X7_wrong (l : Launch) (B : Nat) (D : va_G) (cA : Nat → ClassId) (kd : sK) (ig : sI) (rg : sR) (lg : sG) (sz : Nat) (x : Int32) (hsh : Sh B kd) (hrs : Rs B rg) (hts1 : TS B ig) (hx0 : x.toInt = 1) : MC l B D cA yX7_wrong cX7_wrong 3 (some .boolean) (rL 0 0 0) [.ref (B + 1), .int x] kd ig rg lg sz (fun r kd' ig' rg' lg' n => kd = kd' ∧ rg = rg' ∧ lg = lg' ∧ n = sz ∧ (∃ z : Int32, r = some (.int z) ∧ z.toInt = 0) ∧ Off B 1 9 ig' ig ∧ (ig' (B + 1) 8).toInt = 1) := by
  refine MC.of (own := RX7) (by decide +kernel) rfl (Nat.le_of_ble_eq_true rfl) ?_
  intro p e s m args below meth c ls C hr hlk hnm hw hsz hl
  have hx := C.1.1
  have hb := C.1.2.1
  have hown := C.1.2.2.2.1
  have hts := C.1.2.2.2.2
  have hl : lv_has ls 3 [(0, .ref (B + 1)), (1, .int x)] := hl
  have oig : Off B 1 9 ig ig := Off.rf
  refine lv_aload_n hx hb dX7_wrong_0 rfl (lv_at hl 0 rfl) ?_
  refine r_get C hw (hsh 1 _ rfl) fl_X7_50 (oV_i rfl) dX7_wrong_1 (ti_c (ig (B + 1) 7).toInt rfl fun z1 hz1 => ?_)
  have k2 : (ig (B + 1) (7)).toInt = 0 := by exact z0 (hts1.1)
  refine z_lt (tgt := 30) hx hb dX7_wrong_4 (by decide) (fun c4 => ?_) (fun c4 => ?_)
  · exact absurd c4 (by omega)
  · refine lv_aload_n hx hb dX7_wrong_7 rfl (lv_at hl 0 rfl) ?_
    refine r_get C hw (hsh 1 _ rfl) fl_X7_50 (oV_i rfl) dX7_wrong_8 (ti_c (ig (B + 1) 7).toInt rfl fun z3 hz3 => ?_)
    have k4 : (ig (B + 1) (7)).toInt = 0 := by exact z0 (hts1.1)
    refine lv_aload_n hx hb dX7_wrong_11 rfl (lv_at hl 0 rfl) ?_
    refine r_get C hw (hsh 1 _ rfl) fl_X7_69 (oV_i rfl) dX7_wrong_12 (ti_c (ig (B + 1) 6).toInt rfl fun z5 hz5 => ?_)
    have k6 := zz1 hts1.2.1
    refine b_ge (tgt := 30) hx hb dX7_wrong_15 (by decide) (fun c15 => ?_) (fun c15 => ?_)
    · exact absurd c15 (by omega)
    · refine lv_aload_n hx hb dX7_wrong_18 rfl (lv_at hl 0 rfl) ?_
      refine r_get C hw (hsh 1 _ rfl) fl_X7_26 (oV_r rfl (hrs (1, 5, 5) (by decide))) dX7_wrong_19 ?_
      refine lv_aload_n hx hb dX7_wrong_22 rfl (lv_at hl 0 rfl) ?_
      refine r_get C hw (hsh 1 _ rfl) fl_X7_50 (oV_i rfl) dX7_wrong_23 (ti_c (ig (B + 1) 7).toInt rfl fun z7 hz7 => ?_)
      have k8 : (ig (B + 1) (7)).toInt = 0 := by exact z0 (hts1.1)
      refine r_iald C hw (hsh 5 _ rfl) (by omega) (by omega) dX7_wrong_26 (ti_c (ig (B + 5) z7.toInt.toNat).toInt rfl fun z9 hz9 => ?_)
      have k10 : (ig (B + 5) z7.toInt.toNat).toInt = 0 := by rw [show z7.toInt.toNat = 0 by omega]; exact z0 hts1.2.2.2
      refine lv_goto (tgt := 34) hx hb dX7_wrong_27 (by decide) ?_
      refine lv_istore_n (lv' := [(2, .int z9), (0, .ref (B + 1)), (1, .int x)]) hx hb dX7_wrong_34 rfl hl (by decide) rfl (fun ls hl => ?_)
      refine lv_aload_n hx hb dX7_wrong_35 rfl (lv_at hl 1 rfl) ?_
      refine lv_iload_n hx hb dX7_wrong_36 rfl (lv_at hl 2 rfl) ?_
      refine lv_bipush (v := 16) hx hb dX7_wrong_37 (by decide) (ti_c 16 (by decide) fun z11 hz11 => ?_)
      refine lv_iload_n hx hb dX7_wrong_39 rfl (lv_at hl 0 rfl) ?_
      refine lv_imul hx hb dX7_wrong_40 (ti_mulL 16 hz11 (by omega) fun z12 hz12 => ?_)
      refine lv_iadd hx hb dX7_wrong_41 (ti_add (by omega) fun z13 hz13 => ?_)
      refine r_puti C hw (hsh 1 _ rfl) fl_X7_44 rfl rfl rfl dX7_wrong_42 (fun H locs hH hw => ?_)
      obtain ⟨ig14, eig14⟩ : ∃ f, f = up2 ig (B + 1) 8 z13 := ⟨_, rfl⟩
      rw [← eig14] at hw
      have hsz := hH.trans hsz
      have oig : Off B 1 9 ig14 ig := fun a j h => by rw [eig14]; exact (up2_a (by omega)).trans (oig a j h)
      refine lv_iconst (v := 0) hx hb dX7_wrong_45 (by decide) (ti_c 0 (by decide) fun z15 hz15 => ?_)
      exact r_iret C hw hr hlk (nar_b (by omega)) (Nat.le_of_ble_eq_true rfl) (Nat.le_of_ble_eq_true rfl) dX7_wrong_46 ⟨rfl, rfl, rfl, hsz, ⟨_, rfl, by omega⟩, oig, by rw [eig14, up2_eq]; omega⟩

set_option maxHeartbeats 4000000 in
set_option maxRecDepth 100000 in
theorem t_X7_part (l : Launch) (B : Nat) (D : va_G) (cA : Nat → ClassId) (kd : sK) (ig : sI) (rg : sR) (lg : sG) (sz : Nat) (x : Int32) (hsh : Sh B kd) (hrs : Rs B rg) (hts1 : TS B ig) : MC l B D cA yX7_part cX7_part 2 (some .boolean) (rL 2 0 0) [.ref (B + 1), .int x] kd ig rg lg sz (fun r kd' ig' rg' lg' n => kd = kd' ∧ rg = rg' ∧ lg = lg' ∧ n = sz ∧ (∃ z : Int32, r = some (.int z) ∧ z.toInt = 0) ∧ Off B 1 9 ig' ig ∧ (ig' (B + 1) 8).toInt = 1) := by
  refine MC.of (own := RX7) (by decide +kernel) rfl (Nat.le_of_ble_eq_true rfl) ?_
  intro p e s m args below meth c ls C hr hlk hnm hw hsz hl
  have hx := C.1.1
  have hb := C.1.2.1
  have hown := C.1.2.2.2.1
  have hts := C.1.2.2.2.2
  have hl : lv_has ls 2 [(0, .ref (B + 1)), (1, .int x)] := hl
  have oig : Off B 1 9 ig ig := Off.rf
  refine lv_aload_n hx hb dX7_part_0 rfl (lv_at hl 0 rfl) ?_
  refine r_callV (As := []) (rest := []) C hw (t_X7_startsPart l B D cA kd ig rg lg _ hsh hrs hts1) sv_X7_118 (hsh 1 _ rfl) rfl hl.1 rfl (Nat.le_of_ble_eq_true rfl) ⟨Nat.le_of_ble_eq_true rfl, Nat.le_of_ble_eq_true rfl⟩ ⟨Nat.le_of_ble_eq_true rfl, Nat.le_of_ble_eq_true rfl⟩ dX7_part_1 (fun r6 kd2 ig3 rg4 lg5 H locs hw hH hp7 => ?_)
  obtain ⟨rfl, rfl, rfl, rfl, hzz1, z1, rfl, hz1⟩ := hp7
  have hsz := hzz1.trans hsz
  refine z_ne (tgt := 13) hx hb dX7_part_4 (by decide) (fun c4 => ?_) (fun c4 => ?_)
  · exact absurd c4 (by omega)
  · refine lv_aload_n hx hb dX7_part_7 rfl (lv_at hl 0 rfl) ?_
    refine lv_iconst (v := 1) hx hb dX7_part_8 (by decide) (ti_c 1 (by decide) fun z8 hz8 => ?_)
    refine r_callV (As := [.int z8]) (rest := []) C hw (t_X7_wrong l B D cA kd ig rg lg _ z8 hsh hrs hts1 (by omega)) sv_X7_61 (hsh 1 _ rfl) rfl hl.1 rfl (Nat.le_of_ble_eq_true rfl) ⟨Nat.le_of_ble_eq_true rfl, Nat.le_of_ble_eq_true rfl⟩ ⟨Nat.le_of_ble_eq_true rfl, Nat.le_of_ble_eq_true rfl⟩ dX7_part_9 (fun r14 kd10 ig11 rg12 lg13 H locs hw hH hp15 => ?_)
    obtain ⟨rfl, rfl, rfl, hq9, ⟨zr9, rfl, hzr9⟩, oa9, hf8⟩ := hp15
    have hsz := hq9.trans hsz
    have oig := Off.tr (lo := 1) (hi := 9) oa9 oig (by decide) (by decide)
    exact r_iret C hw hr hlk (nar_b (by omega)) (Nat.le_of_ble_eq_true rfl) (Nat.le_of_ble_eq_true rfl) dX7_part_12 ⟨rfl, rfl, rfl, hsz, ⟨_, rfl, by omega⟩, oig, hf8⟩

set_option maxHeartbeats 4000000 in
set_option maxRecDepth 100000 in
theorem t_X7_product (l : Launch) (B : Nat) (D : va_G) (cA : Nat → ClassId) (kd : sK) (ig : sI) (rg : sR) (lg : sG) (sz : Nat) (x : Int32) (hsh : Sh B kd) (hrs : Rs B rg) (hts1 : TS B ig) : MC l B D cA yX7_product cX7_product 4 (some .boolean) (rL 3 0 0) [.ref (B + 1), .int x] kd ig rg lg sz (fun r kd' ig' rg' lg' n => kd = kd' ∧ rg = rg' ∧ lg = lg' ∧ n = sz ∧ (∃ z : Int32, r = some (.int z) ∧ z.toInt = 0) ∧ Off B 1 9 ig' ig ∧ (ig' (B + 1) 8).toInt = 1) := by
  refine MC.of (own := RX7) (by decide +kernel) rfl (Nat.le_of_ble_eq_true rfl) ?_
  intro p e s m args below meth c ls C hr hlk hnm hw hsz hl
  have hx := C.1.1
  have hb := C.1.2.1
  have hown := C.1.2.2.2.1
  have hts := C.1.2.2.2.2
  have hl : lv_has ls 4 [(0, .ref (B + 1)), (1, .int x)] := hl
  have oig : Off B 1 9 ig ig := Off.rf
  refine lv_aload_n hx hb dX7_product_0 rfl (lv_at hl 0 rfl) ?_
  refine lv_iload_n hx hb dX7_product_1 rfl (lv_at hl 1 rfl) ?_
  refine r_callV (As := [.int x]) (rest := []) C hw (t_X7_part l B D cA kd ig rg lg _ x hsh hrs hts1) sv_X7_115 (hsh 1 _ rfl) rfl hl.1 rfl (Nat.le_of_ble_eq_true rfl) ⟨Nat.le_of_ble_eq_true rfl, Nat.le_of_ble_eq_true rfl⟩ ⟨Nat.le_of_ble_eq_true rfl, Nat.le_of_ble_eq_true rfl⟩ dX7_product_2 (fun r6 kd2 ig3 rg4 lg5 H locs hw hH hp7 => ?_)
  obtain ⟨rfl, rfl, rfl, hq1, ⟨zr1, rfl, hzr1⟩, oa1, hf8⟩ := hp7
  have hsz := hq1.trans hsz
  have oig := Off.tr (lo := 1) (hi := 9) oa1 oig (by decide) (by decide)
  refine z_ne (tgt := 10) hx hb dX7_product_5 (by decide) (fun c5 => ?_) (fun c5 => ?_)
  · exact absurd c5 (by omega)
  · refine lv_iconst (v := 0) hx hb dX7_product_8 (by decide) (ti_c 0 (by decide) fun z8 hz8 => ?_)
    exact r_iret C hw hr hlk (nar_b (by omega)) (Nat.le_of_ble_eq_true rfl) (Nat.le_of_ble_eq_true rfl) dX7_product_9 ⟨rfl, rfl, rfl, hsz, ⟨_, rfl, by omega⟩, oig, hf8⟩

set_option maxHeartbeats 4000000 in
set_option maxRecDepth 100000 in
theorem t_X7_sum (l : Launch) (B : Nat) (D : va_G) (cA : Nat → ClassId) (kd : sK) (ig : sI) (rg : sR) (lg : sG) (sz : Nat) (x : Int32) (hsh : Sh B kd) (hrs : Rs B rg) (hts1 : TS B ig) : MC l B D cA yX7_sum cX7_sum 4 (some .boolean) (rL 4 0 0) [.ref (B + 1), .int x] kd ig rg lg sz (fun r kd' ig' rg' lg' n => kd = kd' ∧ rg = rg' ∧ lg = lg' ∧ n = sz ∧ (∃ z : Int32, r = some (.int z) ∧ z.toInt = 0) ∧ Off B 1 9 ig' ig ∧ (ig' (B + 1) 8).toInt = 1) := by
  refine MC.of (own := RX7) (by decide +kernel) rfl (Nat.le_of_ble_eq_true rfl) ?_
  intro p e s m args below meth c ls C hr hlk hnm hw hsz hl
  have hx := C.1.1
  have hb := C.1.2.1
  have hown := C.1.2.2.2.1
  have hts := C.1.2.2.2.2
  have hl : lv_has ls 4 [(0, .ref (B + 1)), (1, .int x)] := hl
  have oig : Off B 1 9 ig ig := Off.rf
  refine lv_aload_n hx hb dX7_sum_0 rfl (lv_at hl 0 rfl) ?_
  refine lv_iload_n hx hb dX7_sum_1 rfl (lv_at hl 1 rfl) ?_
  refine r_callV (As := [.int x]) (rest := []) C hw (t_X7_product l B D cA kd ig rg lg _ x hsh hrs hts1) sv_X7_109 (hsh 1 _ rfl) rfl hl.1 rfl (Nat.le_of_ble_eq_true rfl) ⟨Nat.le_of_ble_eq_true rfl, Nat.le_of_ble_eq_true rfl⟩ ⟨Nat.le_of_ble_eq_true rfl, Nat.le_of_ble_eq_true rfl⟩ dX7_sum_2 (fun r6 kd2 ig3 rg4 lg5 H locs hw hH hp7 => ?_)
  obtain ⟨rfl, rfl, rfl, hq1, ⟨zr1, rfl, hzr1⟩, oa1, hf8⟩ := hp7
  have hsz := hq1.trans hsz
  have oig := Off.tr (lo := 1) (hi := 9) oa1 oig (by decide) (by decide)
  refine z_ne (tgt := 10) hx hb dX7_sum_5 (by decide) (fun c5 => ?_) (fun c5 => ?_)
  · exact absurd c5 (by omega)
  · refine lv_iconst (v := 0) hx hb dX7_sum_8 (by decide) (ti_c 0 (by decide) fun z8 hz8 => ?_)
    exact r_iret C hw hr hlk (nar_b (by omega)) (Nat.le_of_ble_eq_true rfl) (Nat.le_of_ble_eq_true rfl) dX7_sum_9 ⟨rfl, rfl, rfl, hsz, ⟨_, rfl, by omega⟩, oig, hf8⟩

set_option maxHeartbeats 4000000 in
set_option maxRecDepth 100000 in
theorem t_X7_read (l : Launch) (B : Nat) (D : va_G) (cA : Nat → ClassId) (kd : sK) (ig : sI) (rg : sR) (lg : sG) (sz : Nat) (x : Int32) (hsh : Sh B kd) (hrs : Rs B rg) (hle : ig (B + 1) 1 = 0) : MC l B D cA yX7_read cX7_read 2 (some (.object "SheetDoctor$Formula")) (rL 5 0 0) [.ref (B + 1), .int x] kd ig rg lg sz (fun r kd' ig' rg' lg' n => kd = kd' ∧ rg = rg' ∧ lg = lg' ∧ n = sz ∧ (r = some .null) ∧ Off B 1 9 ig' ig ∧ (ig' (B + 1) 8).toInt = 1) := by
  refine MC.of (own := RX7) (by decide +kernel) rfl (Nat.le_of_ble_eq_true rfl) ?_
  intro p e s m args below meth c ls C hr hlk hnm hw hsz hl
  have hx := C.1.1
  have hb := C.1.2.1
  have hown := C.1.2.2.2.1
  have hts := C.1.2.2.2.2
  have hl : lv_has ls 2 [(0, .ref (B + 1)), (1, .int x)] := hl
  have oig : Off B 1 9 ig ig := Off.rf
  refine lv_aload_n hx hb dX7_read_0 rfl (lv_at hl 0 rfl) ?_
  refine lv_iload_n hx hb dX7_read_1 rfl (lv_at hl 1 rfl) ?_
  refine r_puti C hw (hsh 1 _ rfl) fl_X7_38 rfl rfl rfl dX7_read_2 (fun H locs hH hw => ?_)
  obtain ⟨ig1, eig1⟩ : ∃ f, f = up2 ig (B + 1) 2 x := ⟨_, rfl⟩
  rw [← eig1] at hw
  have hsz := hH.trans hsz
  have oig : Off B 1 9 ig1 ig := fun a j h => by rw [eig1]; exact (up2_a (by omega)).trans (oig a j h)
  refine lv_aload_n hx hb dX7_read_5 rfl (lv_at hl 0 rfl) ?_
  refine lv_iconst (v := 0) hx hb dX7_read_6 (by decide) (ti_c 0 (by decide) fun z2 hz2 => ?_)
  refine r_puti C hw (hsh 1 _ rfl) fl_X7_41 rfl rfl rfl dX7_read_7 (fun H locs hH hw => ?_)
  obtain ⟨ig3, eig3⟩ : ∃ f, f = up2 ig1 (B + 1) 12 z2 := ⟨_, rfl⟩
  rw [← eig3] at hw
  have hsz := hH.trans hsz
  have oig : Off B 1 9 ig3 ig := fun a j h => by rw [eig3]; exact (up2_a (by omega)).trans (oig a j h)
  refine lv_aload_n hx hb dX7_read_10 rfl (lv_at hl 0 rfl) ?_
  refine lv_iconst (v := 0) hx hb dX7_read_11 (by decide) (ti_c 0 (by decide) fun z4 hz4 => ?_)
  refine r_puti C hw (hsh 1 _ rfl) fl_X7_44 rfl rfl rfl dX7_read_12 (fun H locs hH hw => ?_)
  obtain ⟨ig5, eig5⟩ : ∃ f, f = up2 ig3 (B + 1) 8 z4 := ⟨_, rfl⟩
  rw [← eig5] at hw
  have hsz := hH.trans hsz
  have oig : Off B 1 9 ig5 ig := fun a j h => by rw [eig5]; exact (up2_a (by omega)).trans (oig a j h)
  refine lv_aload_n hx hb dX7_read_15 rfl (lv_at hl 0 rfl) ?_
  refine r_callV (As := []) (rest := []) C hw (t_X7_findTokens l B D cA kd ig5 rg lg _ hsh hrs (by rw [eig5, up2_j (by decide), eig3, up2_j (by decide), eig1, up2_j (by decide)]; exact hle)) sv_X7_47 (hsh 1 _ rfl) rfl hl.1 rfl (Nat.le_of_ble_eq_true rfl) ⟨Nat.le_of_ble_eq_true rfl, Nat.le_of_ble_eq_true rfl⟩ ⟨Nat.le_of_ble_eq_true rfl, Nat.le_of_ble_eq_true rfl⟩ dX7_read_16 (fun r11 kd7 ig8 rg9 lg10 H locs hw hH hp12 => ?_)
  obtain ⟨rfl, rfl, rfl, hq6, rfl, oa6, ht6, ht3, ht5⟩ := hp12
  have hsz := hq6.trans hsz
  have oig := Off.tr (lo := 1) (hi := 9) oa6 oig (by decide) (by decide)
  refine lv_aload_n hx hb dX7_read_19 rfl (lv_at hl 0 rfl) ?_
  refine lv_iconst (v := 0) hx hb dX7_read_20 (by decide) (ti_c 0 (by decide) fun z13 hz13 => ?_)
  refine r_puti C hw (hsh 1 _ rfl) fl_X7_50 rfl rfl rfl dX7_read_21 (fun H locs hH hw => ?_)
  obtain ⟨ig14, eig14⟩ : ∃ f, f = up2 ig8 (B + 1) 7 z13 := ⟨_, rfl⟩
  rw [← eig14] at hw
  have hsz := hH.trans hsz
  have oig : Off B 1 9 ig14 ig := fun a j h => by rw [eig14]; exact (up2_a (by omega)).trans (oig a j h)
  refine lv_aload_n hx hb dX7_read_24 rfl (lv_at hl 0 rfl) ?_
  refine lv_iconst (v := 0) hx hb dX7_read_25 (by decide) (ti_c 0 (by decide) fun z15 hz15 => ?_)
  refine r_callV (As := [.int z15]) (rest := []) C hw (t_X7_sum l B D cA kd ig14 rg lg _ z15 hsh hrs ⟨by rw [eig14, up2_eq]; exact eq0 (by omega), by rw [eig14, up2_j (by decide)]; exact ht6, by rw [eig14, up2_a (by omega)]; exact ht3, by rw [eig14, up2_a (by omega)]; exact ht5⟩) sv_X7_53 (hsh 1 _ rfl) rfl hl.1 rfl (Nat.le_of_ble_eq_true rfl) ⟨Nat.le_of_ble_eq_true rfl, Nat.le_of_ble_eq_true rfl⟩ ⟨Nat.le_of_ble_eq_true rfl, Nat.le_of_ble_eq_true rfl⟩ dX7_read_26 (fun r21 kd17 ig18 rg19 lg20 H locs hw hH hp22 => ?_)
  obtain ⟨rfl, rfl, rfl, hq16, ⟨zr16, rfl, hzr16⟩, oa16, hf8⟩ := hp22
  have hsz := hq16.trans hsz
  have oig := Off.tr (lo := 1) (hi := 9) oa16 oig (by decide) (by decide)
  refine z_ne (tgt := 34) hx hb dX7_read_29 (by decide) (fun c29 => ?_) (fun c29 => ?_)
  · exact absurd c29 (by omega)
  · refine lv_null hx hb dX7_read_32 ?_
    exact r_aret C hw hr hlk (Or.inl rfl) (Nat.le_of_ble_eq_true rfl) (Nat.le_of_ble_eq_true rfl) dX7_read_33 ⟨rfl, rfl, rfl, hsz, rfl, oig, hf8⟩
