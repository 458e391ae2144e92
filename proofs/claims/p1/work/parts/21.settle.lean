theorem fill1 {ig : sI} {a : Nat} {i v w : Int32} (h : ∀ j : Nat, (j : Int) < i.toInt → ig a j = w) (hi : 0 ≤ i.toInt) (hv : v = w) : ∀ j : Nat, (j : Int) < i.toInt + 1 → up2 ig a i.toInt.toNat v a j = w := by
  intro j hj
  by_cases e1 : j = i.toInt.toNat
  · subst e1; rw [up2_eq]; exact hv
  · rw [up2_j e1]; exact h j (by omega)
theorem Off.tr {α : Type} {B lo hi a b c d : Nat} {f g h : Nat → Nat → α} (h1 : Off B a b f g) (h2 : Off B c d g h) (e1 : lo ≤ a ∧ b ≤ hi) (e2 : lo ≤ c ∧ d ≤ hi) : Off B lo hi f h := fun x j q => (h1 x j (by omega)).trans (h2 x j (by omega))
theorem Off.rf {α : Type} {B lo hi : Nat} {f : Nat → Nat → α} : Off B lo hi f f := fun _ _ _ => rfl

set_option maxHeartbeats 4000000 in
set_option maxRecDepth 100000 in
theorem t_X2_settle (l : Launch) (B : Nat) (D : va_G) (cA : Nat → ClassId) (kd : sK) (ig : sI) (rg : sR) (lg : sG) (sz : Nat) (F : FS B kd ig rg) (hv : ig (B + 29) 4 = -1) : MC l B D cA yX2_settle cX2_settle 3 none (rL 2 0 0) [.ref (B + 29)] kd ig rg lg sz (fun r kd' ig' rg' lg' n => kd = kd' ∧ rg = rg' ∧ lg = lg' ∧ n = sz ∧ r = none ∧ Off B 29 32 ig' ig ∧ (∀ j : Nat, j < 288 → ig' (B + 30) j = -1) ∧ ig' (B + 29) 3 = 0) := by
  refine MC.of (own := RX2) (by decide +kernel) rfl (Nat.le_of_ble_eq_true rfl) ?_
  intro p e s m args below meth c ls C hr hlk hnm hw hsz hl
  have hx := C.1.1
  have hb := C.1.2.1
  have hown := C.1.2.2.2.1
  have hts := C.1.2.2.2.2
  have hl : lv_has ls 3 [(0, .ref (B + 29))] := hl
  have F0 := F
  obtain ⟨hsh, hrs, hce, hbf, hbi, hsi, hke⟩ := F
  refine lv_aload_n hx hb dX2_settle_0 rfl (lv_at hl 0 rfl) ?_
  refine r_get C hw (hsh 29 _ rfl) fl_X2_22 (oV_i rfl) dX2_settle_1 (ti_c _ rfl fun z1 hz1 => ?_)
  have k2 : (ig (B + 29) (4)).toInt = -1 := by exact zm1 (hv)
  refine lv_aload_n hx hb dX2_settle_4 rfl (lv_at hl 0 rfl) ?_
  refine r_get C hw (hsh 29 _ rfl) fl_X2_9 (oV_r rfl (hrs (29, 0, 9) (by decide))) dX2_settle_5 ?_
  refine r_get C hw (hsh 9 _ rfl) fl_X2_26 (oV_i rfl) dX2_settle_8 (ti_c _ rfl fun z3 hz3 => ?_)
  have k4 : (ig (B + 9) (6)).toInt = 0 := by exact z0 (hsi (6))
  refine b_ne (tgt := 15) hx hb dX2_settle_11 (by decide) (fun c11 => ?_) (fun c11 => ?_)
  · refine lv_aload_n hx hb dX2_settle_15 rfl (lv_at hl 0 rfl) ?_
    refine lv_aload_n hx hb dX2_settle_16 rfl (lv_at hl 0 rfl) ?_
    refine r_get C hw (hsh 29 _ rfl) fl_X2_9 (oV_r rfl (hrs (29, 0, 9) (by decide))) dX2_settle_17 ?_
    refine r_get C hw (hsh 9 _ rfl) fl_X2_26 (oV_i rfl) dX2_settle_20 (ti_c _ rfl fun z5 hz5 => ?_)
    have k6 : (ig (B + 9) (6)).toInt = 0 := by exact z0 (hsi (6))
    refine r_puti C hw (hsh 29 _ rfl) fl_X2_22 rfl rfl rfl dX2_settle_23 (fun H locs hH hw => ?_)
    obtain ⟨ig7, eig7⟩ : ∃ f, f = up2 ig (B + 29) 4 z5 := ⟨_, rfl⟩
    rw [← eig7] at hw
    have hsz := hH.trans hsz
    refine lv_aload_n hx hb dX2_settle_26 rfl (lv_at hl 0 rfl) ?_
    refine lv_iconst (v := 0) hx hb dX2_settle_27 (by decide) (ti_c 0 (by decide) fun z8 hz8 => ?_)
    refine r_puti C hw (hsh 29 _ rfl) fl_X2_29 rfl rfl rfl dX2_settle_28 (fun H locs hH hw => ?_)
    obtain ⟨ig9, eig9⟩ : ∃ f, f = up2 ig7 (B + 29) 3 z8 := ⟨_, rfl⟩
    rw [← eig9] at hw
    have hsz := hH.trans hsz
    refine lv_iconst (v := 0) hx hb dX2_settle_31 (by decide) (ti_c 0 (by decide) fun z10 hz10 => ?_)
    refine lv_istore_n (lv' := [(1, .int z10), (0, .ref (B + 29))]) hx hb dX2_settle_32 rfl hl (by decide) rfl (fun ls hl => ?_)
    have L33 : ∀ (n : Nat) (ls : Array Slot) (H : Heap) (locs : List Loc) (ig12 : sI) (v11 : Int32), lv_has ls 3 [(1, .int v11), (0, .ref (B + 29))] → WD B D cA s.heap kd ig12 rg lg H locs → H.size = sz → (0 ≤ v11.toInt) → (v11.toInt ≤ 288) → (Off B 29 32 ig12 ig) → (∀ j : Nat, (j : Int) < v11.toInt → ig12 (B + 30) j = -1) → (ig12 (B + 29) 3 = 0) → 288 - v11.toInt < (n : Int) → W p l e (rL 2 0 0) s m args below meth c H locs 0 0 (MQ below (QcW B D cA (fun r kd' ig' rg' lg' n => kd = kd' ∧ rg = rg' ∧ lg = lg' ∧ n = sz ∧ r = none ∧ Off B 29 32 ig' ig ∧ (∀ j : Nat, j < 288 → ig' (B + 30) j = -1) ∧ ig' (B + 29) 3 = 0)) args s 0 0 (fun q => B ≤ q)) (F0 m 33 ls []) := by
      intro n
      induction n with
      | zero => intro ls H locs ig12 v11 hl hw hsz g33_0 g33_1 g33_2 g33_3 g33_4 hmu; exact absurd hmu (by omega)
      | succ n ih =>
        intro ls H locs ig12 v11 hl hw hsz g33_0 g33_1 g33_2 g33_3 g33_4 hmu
        have F0 := F0.off g33_2 (by decide)
        obtain ⟨hsh, hrs, hce, hbf, hbi, hsi, hke⟩ := F0
        refine lv_iload_n hx hb dX2_settle_33 rfl (lv_at hl 0 rfl) ?_
        refine lv_sipush (v := 288) hx hb dX2_settle_34 (by decide) (ti_c 288 (by decide) fun z13 hz13 => ?_)
        refine b_ge (tgt := 75) hx hb dX2_settle_37 (by decide) (fun c37 => ?_) (fun c37 => ?_)
        · exact r_vret C hw hr hlk (Nat.le_of_ble_eq_true rfl) (Nat.le_of_ble_eq_true rfl) dX2_settle_75 ⟨rfl, rfl, rfl, hsz, rfl, g33_2, fun j hj => g33_3 j (by omega), g33_4⟩
        · refine lv_aload_n hx hb dX2_settle_40 rfl (lv_at hl 1 rfl) ?_
          refine r_get C hw (hsh 29 _ rfl) fl_X2_9 (oV_r rfl (hrs (29, 0, 9) (by decide))) dX2_settle_41 ?_
          refine lv_iload_n hx hb dX2_settle_44 rfl (lv_at hl 0 rfl) ?_
          refine r_callV (As := [.int v11]) (rest := []) C hw (t_X6_formulaAt l B D cA kd ig12 rg lg _ v11 F0) sv_X2_32 (hsh 9 _ rfl) rfl hl.1 rfl (Nat.le_of_ble_eq_true rfl) ⟨Nat.le_of_ble_eq_true rfl, Nat.le_of_ble_eq_true rfl⟩ ⟨Nat.le_of_ble_eq_true rfl, Nat.le_of_ble_eq_true rfl⟩ dX2_settle_45 (fun r18 kd14 ig15 rg16 lg17 H locs hw hH hp19 => ?_)
          obtain ⟨rfl, rfl, rfl, rfl, hzhp19, rfl⟩ := hp19
          have hsz := hzhp19.trans hsz
          refine lv_astore_nN (lv' := [(2, .null), (1, .int v11), (0, .ref (B + 29))]) hx hb dX2_settle_48 rfl hl (by decide) rfl (fun ls hl => ?_)
          refine lv_aload_n hx hb dX2_settle_49 rfl (lv_at hl 2 rfl) ?_
          refine r_get C hw (hsh 29 _ rfl) fl_X2_15 (oV_r rfl (hrs (29, 1, 30) (by decide))) dX2_settle_50 ?_
          refine lv_iload_n hx hb dX2_settle_53 rfl (lv_at hl 1 rfl) ?_
          refine lv_aload_nN hx hb dX2_settle_54 rfl (lv_at hl 0 rfl) ?_
          refine lv_ifnonnullN hx hb dX2_settle_55 ?_
          refine lv_iconst (v := (-1)) hx hb dX2_settle_58 (by decide) (ti_c (-1) (by decide) fun z20 hz20 => ?_)
          refine lv_goto (tgt := 68) hx hb dX2_settle_59 (by decide) ?_
          refine r_iast C hw (hsh 30 _ rfl) (by omega) (by omega) dX2_settle_68 (fun H locs hH hw => ?_)
          obtain ⟨ig21, eig21⟩ : ∃ f, f = up2 ig12 (B + 30) v11.toInt.toNat z20 := ⟨_, rfl⟩
          rw [← eig21] at hw
          have hsz := hH.trans hsz
          refine ti_inc hx hb dX2_settle_69 hl (k := 1) rfl (by decide) (by decide) (by omega) (fun z22 hz22 ls hl => ?_)
          have hl : lv_has ls 3 [(1, .int z22), (2, .null), (0, .ref (B + 29))] := hl
          refine lv_goto (tgt := 33) hx hb dX2_settle_72 (by decide) ?_
          exact ih ls H locs ig21 z22 (lv_sub hl [0, 2] rfl) hw hsz (by omega) (by omega) (fun a j h => by rw [eig21, up2_a (by omega)]; exact g33_2 a j h) (by intro j hj; rw [eig21]; exact fill1 g33_3 (by omega) (i32_inj hz20) j (by omega)) (by rw [eig21, up2_a (by omega)]; exact g33_4) (by omega)
    exact L33 ((288 - z10.toInt) + 1).toNat ls H locs ig9 z10 (lv_sub hl [0, 1] rfl) hw hsz (by omega) (by omega) (fun a j h => by rw [eig9, up2_a (by omega), eig7, up2_a (by omega)]) (fun j hj => absurd hj (by omega)) (by rw [eig9, up2_eq]; exact i32_inj hz8) (by omega)
  · exact absurd c11 (by omega)
