theorem fill1 {ig : sI} {a : Nat} {i v w : Int32} (h : ∀ j : Nat, (j : Int) < i.toInt → ig a j = w) (hi : 0 ≤ i.toInt) (hv : v = w) : ∀ j : Nat, (j : Int) < i.toInt + 1 → up2 ig a i.toInt.toNat v a j = w := by
  intro j hj
  by_cases e1 : j = i.toInt.toNat
  · subst e1; rw [up2_eq]; exact hv
  · rw [up2_j e1]; exact h j (by omega)
theorem fillk {ig : sI} {a n : Nat} {i v w : Int32} (h : ∀ j : Nat, j < n → ig a j = w) (hv : v = w) : ∀ j : Nat, j < n → up2 ig a i.toInt.toNat v a j = w := by
  intro j hj
  by_cases e1 : j = i.toInt.toNat
  · subst e1; rw [up2_eq]; exact hv
  · rw [up2_j e1]; exact h j hj
theorem eq0 {v : Int32} (h : v.toInt = 0) : v = 0 := i32_inj (h.trans rfl)
theorem eqm1 {v : Int32} (h : v.toInt = -1) : v = -1 := i32_inj (h.trans rfl)
theorem fill3 {ig : sI} {a : Nat} {n : Int} {i1 i2 i3 v1 v2 v3 w : Int32} (h : ∀ j : Nat, (j : Int) < n → ig a j = w) (h0 : 0 ≤ n) (e1 : i1.toInt = n) (e2 : i2.toInt = n + 1) (e3 : i3.toInt = n + 2) (q1 : v1 = w) (q2 : v2 = w) (q3 : v3 = w) : ∀ j : Nat, (j : Int) < n + 3 → up2 (up2 (up2 ig a i1.toInt.toNat v1) a i2.toInt.toNat v2) a i3.toInt.toNat v3 a j = w := by
  intro j hj
  by_cases c3 : j = i3.toInt.toNat
  · subst c3; rw [up2_eq]; exact q3
  · rw [up2_j c3]
    by_cases c2 : j = i2.toInt.toNat
    · subst c2; rw [up2_eq]; exact q2
    · rw [up2_j c2]
      by_cases c1 : j = i1.toInt.toNat
      · subst c1; rw [up2_eq]; exact q1
      · rw [up2_j c1]; exact h j (by omega)
theorem Off.tr {α : Type} {B lo hi a b c d : Nat} {f g h : Nat → Nat → α} (h1 : Off B a b f g) (h2 : Off B c d g h) (e1 : lo ≤ a ∧ b ≤ hi) (e2 : lo ≤ c ∧ d ≤ hi) : Off B lo hi f h := fun x j q => (h1 x j (by omega)).trans (h2 x j (by omega))
theorem Off.rf {α : Type} {B lo hi : Nat} {f : Nat → Nat → α} : Off B lo hi f f := fun _ _ _ => rfl
theorem Off.wd {α : Type} {B lo hi a b : Nat} {f g : Nat → Nat → α} (h1 : Off B a b f g) (e1 : lo ≤ a ∧ b ≤ hi) : Off B lo hi f g := fun x j q => h1 x j (by omega)

set_option maxHeartbeats 4000000 in
set_option maxRecDepth 100000 in
theorem t_X2_settle (l : Launch) (B : Nat) (D : va_G) (cA : Nat → ClassId) (kd : sK) (ig : sI) (rg : sR) (lg : sG) (sz : Nat) (F : FS B kd ig rg) (hv : ig (B + 29) 4 = -1) : MC l B D cA yX2_settle cX2_settle 3 none (rL 2 0 0) [.ref (B + 29)] kd ig rg lg sz (fun r kd' ig' rg' lg' n => kd = kd' ∧ rg = rg' ∧ lg = lg' ∧ n = sz ∧ (r = none) ∧ Off B 29 32 ig' ig ∧ (∀ j : Nat, j < 288 → ig' (B + 30) j = -1) ∧ ig' (B + 29) 3 = 0) := by
  refine MC.of (own := RX2) (by decide +kernel) rfl (Nat.le_of_ble_eq_true rfl) ?_
  intro p e s m args below meth c ls C hr hlk hnm hw hsz hl
  have hx := C.1.1
  have hb := C.1.2.1
  have hown := C.1.2.2.2.1
  have hts := C.1.2.2.2.2
  have hl : lv_has ls 3 [(0, .ref (B + 29))] := hl
  have Fs := F
  obtain ⟨hsh, hrs, hce, hbf, hbi, hsi, hke⟩ := F
  have oig : Off B 29 32 ig ig := Off.rf
  refine lv_aload_n hx hb dX2_settle_0 rfl (lv_at hl 0 rfl) ?_
  refine r_get C hw (hsh 29 _ rfl) fl_X2_22 (oV_i rfl) dX2_settle_1 (ti_c (ig (B + 29) 4).toInt rfl fun z1 hz1 => ?_)
  have k2 : (ig (B + 29) (4)).toInt = -1 := by exact zm1 (hv)
  refine lv_aload_n hx hb dX2_settle_4 rfl (lv_at hl 0 rfl) ?_
  refine r_get C hw (hsh 29 _ rfl) fl_X2_9 (oV_r rfl (hrs (29, 0, 9) (by decide))) dX2_settle_5 ?_
  refine r_get C hw (hsh 9 _ rfl) fl_X2_26 (oV_i rfl) dX2_settle_8 (ti_c (ig (B + 9) 6).toInt rfl fun z3 hz3 => ?_)
  have k4 : (ig (B + 9) (6)).toInt = 0 := z0 (Fs.si (6))
  refine b_ne (tgt := 15) hx hb dX2_settle_11 (by decide) (fun c11 => ?_) (fun c11 => ?_)
  · refine lv_aload_n hx hb dX2_settle_15 rfl (lv_at hl 0 rfl) ?_
    refine lv_aload_n hx hb dX2_settle_16 rfl (lv_at hl 0 rfl) ?_
    refine r_get C hw (hsh 29 _ rfl) fl_X2_9 (oV_r rfl (hrs (29, 0, 9) (by decide))) dX2_settle_17 ?_
    refine r_get C hw (hsh 9 _ rfl) fl_X2_26 (oV_i rfl) dX2_settle_20 (ti_c (ig (B + 9) 6).toInt rfl fun z5 hz5 => ?_)
    have k6 : (ig (B + 9) (6)).toInt = 0 := z0 (Fs.si (6))
    refine r_puti C hw (hsh 29 _ rfl) fl_X2_22 rfl rfl rfl dX2_settle_23 (fun H locs hH hw => ?_)
    obtain ⟨ig7, eig7⟩ : ∃ f, f = up2 ig (B + 29) 4 z5 := ⟨_, rfl⟩
    rw [← eig7] at hw
    have hsz := hH.trans hsz
    have oig : Off B 29 32 ig7 ig := fun a j h => by rw [eig7]; exact (up2_a (by omega)).trans (oig a j h)
    refine lv_aload_n hx hb dX2_settle_26 rfl (lv_at hl 0 rfl) ?_
    refine lv_iconst (v := 0) hx hb dX2_settle_27 (by decide) (ti_c 0 (by decide) fun z8 hz8 => ?_)
    refine r_puti C hw (hsh 29 _ rfl) fl_X2_29 rfl rfl rfl dX2_settle_28 (fun H locs hH hw => ?_)
    obtain ⟨ig9, eig9⟩ : ∃ f, f = up2 ig7 (B + 29) 3 z8 := ⟨_, rfl⟩
    rw [← eig9] at hw
    have hsz := hH.trans hsz
    have oig : Off B 29 32 ig9 ig := fun a j h => by rw [eig9]; exact (up2_a (by omega)).trans (oig a j h)
    refine lv_iconst (v := 0) hx hb dX2_settle_31 (by decide) (ti_c 0 (by decide) fun z10 hz10 => ?_)
    refine lv_istore_n (lv' := [(1, .int z10), (0, .ref (B + 29))]) hx hb dX2_settle_32 rfl hl (by decide) rfl (fun ls hl => ?_)
    have L33 : ∀ (n : Nat) (ls : Array Slot) (H : Heap) (locs : List Loc) (ig12 : sI) (v11 : Int32), lv_has ls 3 [(1, .int v11), (0, .ref (B + 29))] → WD B D cA s.heap kd ig12 rg lg H locs → H.size = sz → (0 ≤ v11.toInt) → (v11.toInt ≤ 288) → (∀ j : Nat, (j : Int) < v11.toInt → ig12 (B + 30) j = -1) → (ig12 (B + 29) 3 = 0) → (Off B 29 32 ig12 ig) → 288 - v11.toInt < (n : Int) → W p l e (rL 2 0 0) s m args below meth c H locs 0 0 (MQ below (QcW B D cA (fun r kd' ig' rg' lg' n => kd = kd' ∧ rg = rg' ∧ lg = lg' ∧ n = sz ∧ (r = none) ∧ Off B 29 32 ig' ig ∧ (∀ j : Nat, j < 288 → ig' (B + 30) j = -1) ∧ ig' (B + 29) 3 = 0)) args s 0 0 (fun q => B ≤ q)) (F0 m 33 ls []) := by
      intro n
      induction n with
      | zero => intro ls H locs ig12 v11 hl hw hsz g33_0 g33_1 g33_2 g33_3 g33_4 hmu; exact absurd hmu (by omega)
      | succ n ih =>
        intro ls H locs ig12 v11 hl hw hsz g33_0 g33_1 g33_2 g33_3 g33_4 hmu
        have oig := g33_4
        refine lv_iload_n hx hb dX2_settle_33 rfl (lv_at hl 0 rfl) ?_
        refine lv_sipush (v := 288) hx hb dX2_settle_34 (by decide) (ti_c 288 (by decide) fun z13 hz13 => ?_)
        refine b_ge (tgt := 75) hx hb dX2_settle_37 (by decide) (fun c37 => ?_) (fun c37 => ?_)
        · exact r_vret C hw hr hlk (Nat.le_of_ble_eq_true rfl) (Nat.le_of_ble_eq_true rfl) dX2_settle_75 ⟨rfl, rfl, rfl, hsz, rfl, oig, fun j hj => g33_2 j (by omega), g33_3⟩
        · refine lv_aload_n hx hb dX2_settle_40 rfl (lv_at hl 1 rfl) ?_
          refine r_get C hw (hsh 29 _ rfl) fl_X2_9 (oV_r rfl (hrs (29, 0, 9) (by decide))) dX2_settle_41 ?_
          refine lv_iload_n hx hb dX2_settle_44 rfl (lv_at hl 0 rfl) ?_
          refine r_callV (As := [.int v11]) (rest := []) C hw (t_X6_formulaAt l B D cA kd ig12 rg lg _ v11 (FS.off Fs oig (by decide))) sv_X2_32 (hsh 9 _ rfl) rfl hl.1 rfl (Nat.le_of_ble_eq_true rfl) ⟨Nat.le_of_ble_eq_true rfl, Nat.le_of_ble_eq_true rfl⟩ ⟨Nat.le_of_ble_eq_true rfl, Nat.le_of_ble_eq_true rfl⟩ dX2_settle_45 (fun r18 kd14 ig15 rg16 lg17 H locs hw hH hp19 => ?_)
          obtain ⟨rfl, rfl, rfl, rfl, hzhp19, rfl⟩ := hp19
          have hsz := hzhp19.trans hsz
          refine lv_astore_nN (lv' := [(2, .null), (1, .int v11), (0, .ref (B + 29))]) hx hb dX2_settle_48 rfl hl (by decide) rfl (fun ls hl => ?_)
          refine lv_aload_n hx hb dX2_settle_49 rfl (lv_at hl 2 rfl) ?_
          refine r_get C hw (hsh 29 _ rfl) fl_X2_15 (oV_r rfl (hrs (29, 1, 30) (by decide))) dX2_settle_50 ?_
          refine lv_iload_n hx hb dX2_settle_53 rfl (lv_at hl 1 rfl) ?_
          refine lv_aload_nN hx hb dX2_settle_54 rfl (lv_at hl 0 rfl) ?_
          refine lv_ifnonnullN hx hb dX2_settle_55 ?_
          refine lv_iconst (v := (-1)) hx hb dX2_settle_58 (by decide) (ti_c (-1) (by decide) fun z20 hz20 => ?_)
          refine lv_goto (tgt := 68) hx hb dX2_settle_59 (by decide) ?_
          refine r_iast C hw (hsh 30 _ rfl) (by omega) (by omega) dX2_settle_68 (fun H locs hH hw => ?_)
          obtain ⟨ig21, eig21⟩ : ∃ f, f = up2 ig12 (B + 30) v11.toInt.toNat z20 := ⟨_, rfl⟩
          rw [← eig21] at hw
          have hsz := hH.trans hsz
          have oig : Off B 29 32 ig21 ig := fun a j h => by rw [eig21]; exact (up2_a (by omega)).trans (oig a j h)
          refine ti_inc hx hb dX2_settle_69 hl (k := 1) rfl (by decide) (by decide) (by omega) (fun z22 hz22 ls hl => ?_)
          have hl : lv_has ls 3 [(1, .int z22), (2, .null), (0, .ref (B + 29))] := hl
          refine lv_goto (tgt := 33) hx hb dX2_settle_72 (by decide) ?_
          exact ih ls H locs ig21 z22 (lv_sub hl [0, 2] rfl) hw hsz (by omega) (by omega) (by intro j hj; rw [eig21]; exact fill1 g33_2 (by omega) (i32_inj hz20) j (by omega)) (by rw [eig21, up2_a (by omega)]; exact g33_3) oig (by omega)
    exact L33 ((288 - z10.toInt) + 1).toNat ls H locs ig9 z10 (lv_sub hl [0, 1] rfl) hw hsz (by omega) (by omega) (fun j hj => absurd hj (by omega)) (by rw [eig9, up2_eq]; exact i32_inj hz8) oig (by omega)
  · exact absurd c11 (by omega)

set_option maxHeartbeats 4000000 in
set_option maxRecDepth 100000 in
theorem t_X2_familyAt (l : Launch) (B : Nat) (D : va_G) (cA : Nat → ClassId) (kd : sK) (ig : sI) (rg : sR) (lg : sG) (sz : Nat) (x : Int32) (hsh : Sh B kd) (hrs : Rs B rg) (hx0 : (0 ≤ x.toInt ∧ x.toInt < 288)) (hf : ∀ j : Nat, j < 288 → ig (B + 30) j = -1) : MC l B D cA yX2_familyAt cX2_familyAt 2 (some .int) (rL 1 0 0) [.ref (B + 29), .int x] kd ig rg lg sz (Pu kd ig rg lg sz (fun r => ∃ z : Int32, r = some (.int z) ∧ z.toInt = -1)) := by
  refine MC.of (own := RX2) (by decide +kernel) rfl (Nat.le_of_ble_eq_true rfl) ?_
  intro p e s m args below meth c ls C hr hlk hnm hw hsz hl
  have hx := C.1.1
  have hb := C.1.2.1
  have hown := C.1.2.2.2.1
  have hts := C.1.2.2.2.2
  have hl : lv_has ls 2 [(0, .ref (B + 29)), (1, .int x)] := hl
  refine lv_iload_n hx hb dX2_familyAt_0 rfl (lv_at hl 1 rfl) ?_
  refine r_callN (As := [.int x]) (rest := []) C hw (t_X11_onSheet l B D cA kd ig rg lg _ x) sn_X2_46 rfl hl.1 rfl (Nat.le_of_ble_eq_true rfl) ⟨Nat.le_of_ble_eq_true rfl, Nat.le_of_ble_eq_true rfl⟩ ⟨Nat.le_of_ble_eq_true rfl, Nat.le_of_ble_eq_true rfl⟩ dX2_familyAt_1 (fun r6 kd2 ig3 rg4 lg5 H locs hw hH hp7 => ?_)
  obtain ⟨rfl, rfl, rfl, rfl, hzz1, z1, rfl, hz1⟩ := hp7
  have hsz := hzz1.trans hsz
  refine z_eq (tgt := 16) hx hb dX2_familyAt_4 (by decide) (fun c4 => ?_) (fun c4 => ?_)
  · refine lv_iconst (v := (-1)) hx hb dX2_familyAt_16 (by decide) (ti_c (-1) (by decide) fun z8 hz8 => ?_)
    exact r_iret C hw hr hlk rfl (Nat.le_of_ble_eq_true rfl) (Nat.le_of_ble_eq_true rfl) dX2_familyAt_17 ⟨rfl, rfl, rfl, rfl, hsz, _, rfl, by omega⟩
  · refine lv_aload_n hx hb dX2_familyAt_7 rfl (lv_at hl 0 rfl) ?_
    refine r_get C hw (hsh 29 _ rfl) fl_X2_15 (oV_r rfl (hrs (29, 1, 30) (by decide))) dX2_familyAt_8 ?_
    refine lv_iload_n hx hb dX2_familyAt_11 rfl (lv_at hl 1 rfl) ?_
    refine r_iald C hw (hsh 30 _ rfl) (by omega) (by omega) dX2_familyAt_12 (ti_c (ig (B + 30) x.toInt.toNat).toInt rfl fun z9 hz9 => ?_)
    have k := zm1 (hf (x.toInt.toNat) (by omega))
    refine lv_goto (tgt := 17) hx hb dX2_familyAt_13 (by decide) ?_
    exact r_iret C hw hr hlk rfl (Nat.le_of_ble_eq_true rfl) (Nat.le_of_ble_eq_true rfl) dX2_familyAt_17 ⟨rfl, rfl, rfl, rfl, hsz, _, rfl, by omega⟩

set_option maxHeartbeats 4000000 in
set_option maxRecDepth 100000 in
theorem t_X2_neighbourToCopy (l : Launch) (B : Nat) (D : va_G) (cA : Nat → ClassId) (kd : sK) (ig : sI) (rg : sR) (lg : sG) (sz : Nat) (x : Int32) (F : FS B kd ig rg) : MC l B D cA yX2_neighbourToCopy cX2_neighbourToCopy 3 (some .int) (rL 2 0 0) [.ref (B + 29), .int x] kd ig rg lg sz (Pu kd ig rg lg sz (fun r => ∃ z : Int32, r = some (.int z) ∧ z.toInt = -1)) := by
  refine MC.of (own := RX2) (by decide +kernel) rfl (Nat.le_of_ble_eq_true rfl) ?_
  intro p e s m args below meth c ls C hr hlk hnm hw hsz hl
  have hx := C.1.1
  have hb := C.1.2.1
  have hown := C.1.2.2.2.1
  have hts := C.1.2.2.2.2
  have hl : lv_has ls 3 [(0, .ref (B + 29)), (1, .int x)] := hl
  have Fs := F
  obtain ⟨hsh, hrs, hce, hbf, hbi, hsi, hke⟩ := F
  refine lv_aload_n hx hb dX2_neighbourToCopy_0 rfl (lv_at hl 0 rfl) ?_
  refine r_get C hw (hsh 29 _ rfl) fl_X2_9 (oV_r rfl (hrs (29, 0, 9) (by decide))) dX2_neighbourToCopy_1 ?_
  refine lv_iload_n hx hb dX2_neighbourToCopy_4 rfl (lv_at hl 1 rfl) ?_
  refine r_callV (As := [.int x]) (rest := []) C hw (t_X6_kindAt l B D cA kd ig rg lg _ x Fs) sv_X2_50 (hsh 9 _ rfl) rfl hl.1 rfl (Nat.le_of_ble_eq_true rfl) ⟨Nat.le_of_ble_eq_true rfl, Nat.le_of_ble_eq_true rfl⟩ ⟨Nat.le_of_ble_eq_true rfl, Nat.le_of_ble_eq_true rfl⟩ dX2_neighbourToCopy_5 (fun r6 kd2 ig3 rg4 lg5 H locs hw hH hp7 => ?_)
  obtain ⟨rfl, rfl, rfl, rfl, hzz1, z1, rfl, hz1⟩ := hp7
  have hsz := hzz1.trans hsz
  refine z_ne (tgt := 13) hx hb dX2_neighbourToCopy_8 (by decide) (fun c8 => ?_) (fun c8 => ?_)
  · exact absurd c8 (by omega)
  · refine lv_iconst (v := (-1)) hx hb dX2_neighbourToCopy_11 (by decide) (ti_c (-1) (by decide) fun z8 hz8 => ?_)
    exact r_iret C hw hr hlk rfl (Nat.le_of_ble_eq_true rfl) (Nat.le_of_ble_eq_true rfl) dX2_neighbourToCopy_12 ⟨rfl, rfl, rfl, rfl, hsz, _, rfl, by omega⟩

set_option maxHeartbeats 4000000 in
set_option maxRecDepth 100000 in
theorem t_X5_orderSize (l : Launch) (B : Nat) (D : va_G) (cA : Nat → ClassId) (kd : sK) (ig : sI) (rg : sR) (lg : sG) (sz : Nat) (hsh : Sh B kd) (hfo : ig (B + 15) 9 = 0) : MC l B D cA yX5_orderSize cX5_orderSize 1 (some .int) (rL 0 0 0) [.ref (B + 15)] kd ig rg lg sz (Pu kd ig rg lg sz (fun r => ∃ z : Int32, r = some (.int z) ∧ z.toInt = 0)) := by
  refine MC.of (own := RX5) (by decide +kernel) rfl (Nat.le_of_ble_eq_true rfl) ?_
  intro p e s m args below meth c ls C hr hlk hnm hw hsz hl
  have hx := C.1.1
  have hb := C.1.2.1
  have hown := C.1.2.2.2.1
  have hts := C.1.2.2.2.2
  have hl : lv_has ls 1 [(0, .ref (B + 15))] := hl
  refine lv_aload_n hx hb dX5_orderSize_0 rfl (lv_at hl 0 rfl) ?_
  refine r_get C hw (hsh 15 _ rfl) fl_X5_55 (oV_i rfl) dX5_orderSize_1 (ti_c (ig (B + 15) 9).toInt rfl fun z1 hz1 => ?_)
  have k2 : (ig (B + 15) (9)).toInt = 0 := by exact z0 (hfo)
  exact r_iret C hw hr hlk rfl (Nat.le_of_ble_eq_true rfl) (Nat.le_of_ble_eq_true rfl) dX5_orderSize_4 ⟨rfl, rfl, rfl, rfl, hsz, _, rfl, by omega⟩

set_option maxHeartbeats 4000000 in
set_option maxRecDepth 100000 in
theorem t_X5_forgetReads (l : Launch) (B : Nat) (D : va_G) (cA : Nat → ClassId) (kd : sK) (ig : sI) (rg : sR) (lg : sG) (sz : Nat) (hsh : Sh B kd) (hrs : Rs B rg) (hfc : ig (B + 15) 2 = 0) : MC l B D cA yX5_forgetReads cX5_forgetReads 3 none (rL 0 0 0) [.ref (B + 15)] kd ig rg lg sz (fun r kd' ig' rg' lg' n => kd = kd' ∧ rg = rg' ∧ Off B 17 18 lg' lg ∧ n = sz ∧ (r = none) ∧ Off B 15 16 ig' ig ∧ ig' (B + 15) 2 = 0) := by
  refine MC.of (own := RX5) (by decide +kernel) rfl (Nat.le_of_ble_eq_true rfl) ?_
  intro p e s m args below meth c ls C hr hlk hnm hw hsz hl
  have hx := C.1.1
  have hb := C.1.2.1
  have hown := C.1.2.2.2.1
  have hts := C.1.2.2.2.2
  have hl : lv_has ls 3 [(0, .ref (B + 15))] := hl
  have oig : Off B 15 16 ig ig := Off.rf
  have olg : Off B 17 18 lg lg := Off.rf
  refine lv_iconst (v := 0) hx hb dX5_forgetReads_0 (by decide) (ti_c 0 (by decide) fun z1 hz1 => ?_)
  refine lv_istore_n (lv' := [(1, .int z1), (0, .ref (B + 15))]) hx hb dX5_forgetReads_1 rfl hl (by decide) rfl (fun ls hl => ?_)
  refine lv_iload_n hx hb dX5_forgetReads_2 rfl (lv_at hl 0 rfl) ?_
  refine lv_aload_n hx hb dX5_forgetReads_3 rfl (lv_at hl 1 rfl) ?_
  refine r_get C hw (hsh 15 _ rfl) fl_X5_58 (oV_i rfl) dX5_forgetReads_4 (ti_c (ig (B + 15) 2).toInt rfl fun z2 hz2 => ?_)
  have k3 : (ig (B + 15) (2)).toInt = 0 := by exact z0 (hfc)
  refine b_ge (tgt := 45) hx hb dX5_forgetReads_7 (by decide) (fun c7 => ?_) (fun c7 => ?_)
  · refine lv_iconst (v := 0) hx hb dX5_forgetReads_45 (by decide) (ti_c 0 (by decide) fun z4 hz4 => ?_)
    refine lv_istore_n (lv' := [(1, .int z4), (0, .ref (B + 15))]) hx hb dX5_forgetReads_46 rfl hl (by decide) rfl (fun ls hl => ?_)
    have L47 : ∀ (n : Nat) (ls : Array Slot) (H : Heap) (locs : List Loc) (lg6 : sG) (v5 : Int32), lv_has ls 3 [(1, .int v5), (0, .ref (B + 15))] → WD B D cA s.heap kd ig rg lg6 H locs → H.size = sz → (0 ≤ v5.toInt) → (v5.toInt ≤ 5) → (Off B 17 18 lg6 lg) → 5 - v5.toInt < (n : Int) → W p l e (rL 0 0 0) s m args below meth c H locs 0 0 (MQ below (QcW B D cA (fun r kd' ig' rg' lg' n => kd = kd' ∧ rg = rg' ∧ Off B 17 18 lg' lg ∧ n = sz ∧ (r = none) ∧ Off B 15 16 ig' ig ∧ ig' (B + 15) 2 = 0)) args s 0 0 (fun q => B ≤ q)) (F0 m 47 ls []) := by
      intro n
      induction n with
      | zero => intro ls H locs lg6 v5 hl hw hsz g47_0 g47_1 g47_2 hmu; exact absurd hmu (by omega)
      | succ n ih =>
        intro ls H locs lg6 v5 hl hw hsz g47_0 g47_1 g47_2 hmu
        have olg := g47_2
        refine lv_iload_n hx hb dX5_forgetReads_47 rfl (lv_at hl 0 rfl) ?_
        refine lv_iconst (v := 5) hx hb dX5_forgetReads_48 (by decide) (ti_c 5 (by decide) fun z7 hz7 => ?_)
        refine b_ge (tgt := 65) hx hb dX5_forgetReads_49 (by decide) (fun c49 => ?_) (fun c49 => ?_)
        · refine lv_aload_n hx hb dX5_forgetReads_65 rfl (lv_at hl 1 rfl) ?_
          refine lv_iconst (v := 0) hx hb dX5_forgetReads_66 (by decide) (ti_c 0 (by decide) fun z8 hz8 => ?_)
          refine r_puti C hw (hsh 15 _ rfl) fl_X5_58 rfl rfl rfl dX5_forgetReads_67 (fun H locs hH hw => ?_)
          obtain ⟨ig9, eig9⟩ : ∃ f, f = up2 ig (B + 15) 2 z8 := ⟨_, rfl⟩
          rw [← eig9] at hw
          have hsz := hH.trans hsz
          have oig : Off B 15 16 ig9 ig := fun a j h => by rw [eig9]; exact (up2_a (by omega)).trans (oig a j h)
          exact r_vret C hw hr hlk (Nat.le_of_ble_eq_true rfl) (Nat.le_of_ble_eq_true rfl) dX5_forgetReads_70 ⟨rfl, rfl, olg, hsz, rfl, oig, by rw [eig9, up2_eq]; exact i32_inj hz8⟩
        · refine lv_aload_n hx hb dX5_forgetReads_52 rfl (lv_at hl 1 rfl) ?_
          refine r_get C hw (hsh 15 _ rfl) fl_X5_19 (oV_r rfl (hrs (15, 3, 17) (by decide))) dX5_forgetReads_53 ?_
          refine lv_iload_n hx hb dX5_forgetReads_56 rfl (lv_at hl 0 rfl) ?_
          refine lv_lconst (v := 0) hx hb dX5_forgetReads_57 (by decide) (lv_topl fun x10 hx10 => ?_)
          refine r_last C hw (hsh 17 _ rfl) (by omega) (by omega) dX5_forgetReads_58 (fun H locs hH hw => ?_)
          obtain ⟨lg11, elg11⟩ : ∃ f, f = up2 lg6 (B + 17) v5.toInt.toNat x10 := ⟨_, rfl⟩
          rw [← elg11] at hw
          have hsz := hH.trans hsz
          have olg : Off B 17 18 lg11 lg := fun a j h => by rw [elg11]; exact (up2_a (by omega)).trans (olg a j h)
          refine ti_inc hx hb dX5_forgetReads_59 hl (k := 0) rfl (by decide) (by decide) (by omega) (fun z12 hz12 ls hl => ?_)
          have hl : lv_has ls 3 [(1, .int z12), (0, .ref (B + 15))] := hl
          refine lv_goto (tgt := 47) hx hb dX5_forgetReads_62 (by decide) ?_
          exact ih ls H locs lg11 z12 (lv_sub hl [0, 1] rfl) hw hsz (by omega) (by omega) olg (by omega)
    exact L47 ((5 - z4.toInt) + 1).toNat ls s.heap [] lg z4 (lv_sub hl [0, 1] rfl) hw hsz (by omega) (by omega) olg (by omega)
  · exact absurd c7 (by omega)

set_option maxHeartbeats 4000000 in
set_option maxRecDepth 100000 in
theorem t_X5_gatherReads (l : Launch) (B : Nat) (D : va_G) (cA : Nat → ClassId) (kd : sK) (ig : sI) (rg : sR) (lg : sG) (sz : Nat) (F : FS B kd ig rg) : MC l B D cA yX5_gatherReads cX5_gatherReads 3 none (rL 2 0 0) [.ref (B + 15)] kd ig rg lg sz (fun r kd' ig' rg' lg' n => kd = kd' ∧ rg = rg' ∧ lg = lg' ∧ n = sz ∧ (r = none) ∧ Off B 20 22 ig' ig) := by
  refine MC.of (own := RX5) (by decide +kernel) rfl (Nat.le_of_ble_eq_true rfl) ?_
  intro p e s m args below meth c ls C hr hlk hnm hw hsz hl
  have hx := C.1.1
  have hb := C.1.2.1
  have hown := C.1.2.2.2.1
  have hts := C.1.2.2.2.2
  have hl : lv_has ls 3 [(0, .ref (B + 15))] := hl
  have Fs := F
  obtain ⟨hsh, hrs, hce, hbf, hbi, hsi, hke⟩ := F
  have oig : Off B 20 22 ig ig := Off.rf
  refine lv_iconst (v := 0) hx hb dX5_gatherReads_0 (by decide) (ti_c 0 (by decide) fun z1 hz1 => ?_)
  refine lv_istore_n (lv' := [(1, .int z1), (0, .ref (B + 15))]) hx hb dX5_gatherReads_1 rfl hl (by decide) rfl (fun ls hl => ?_)
  have L2 : ∀ (n : Nat) (ls : Array Slot) (H : Heap) (locs : List Loc) (ig3 : sI) (v2 : Int32), lv_has ls 3 [(1, .int v2), (0, .ref (B + 15))] → WD B D cA s.heap kd ig3 rg lg H locs → H.size = sz → (0 ≤ v2.toInt) → (v2.toInt ≤ 288) → (Off B 20 22 ig3 ig) → 288 - v2.toInt < (n : Int) → W p l e (rL 2 0 0) s m args below meth c H locs 0 0 (MQ below (QcW B D cA (fun r kd' ig' rg' lg' n => kd = kd' ∧ rg = rg' ∧ lg = lg' ∧ n = sz ∧ (r = none) ∧ Off B 20 22 ig' ig)) args s 0 0 (fun q => B ≤ q)) (F0 m 2 ls []) := by
    intro n
    induction n with
    | zero => intro ls H locs ig3 v2 hl hw hsz g2_0 g2_1 g2_2 hmu; exact absurd hmu (by omega)
    | succ n ih =>
      intro ls H locs ig3 v2 hl hw hsz g2_0 g2_1 g2_2 hmu
      have oig := g2_2
      refine lv_iload_n hx hb dX5_gatherReads_2 rfl (lv_at hl 0 rfl) ?_
      refine lv_sipush (v := 288) hx hb dX5_gatherReads_3 (by decide) (ti_c 288 (by decide) fun z4 hz4 => ?_)
      refine b_ge (tgt := 87) hx hb dX5_gatherReads_6 (by decide) (fun c6 => ?_) (fun c6 => ?_)
      · exact r_vret C hw hr hlk (Nat.le_of_ble_eq_true rfl) (Nat.le_of_ble_eq_true rfl) dX5_gatherReads_87 ⟨rfl, rfl, rfl, hsz, rfl, oig⟩
      · refine lv_aload_n hx hb dX5_gatherReads_9 rfl (lv_at hl 1 rfl) ?_
        refine r_get C hw (hsh 15 _ rfl) fl_X5_29 (oV_r rfl (hrs (15, 6, 20) (by decide))) dX5_gatherReads_10 ?_
        refine lv_iload_n hx hb dX5_gatherReads_13 rfl (lv_at hl 0 rfl) ?_
        refine lv_iconst (v := 0) hx hb dX5_gatherReads_14 (by decide) (ti_c 0 (by decide) fun z5 hz5 => ?_)
        refine r_zast C hw (hsh 20 _ rfl) (by omega) (by omega) (nar_b (by omega)) dX5_gatherReads_15 (fun H locs hH hw => ?_)
        obtain ⟨ig6, eig6⟩ : ∃ f, f = up2 ig3 (B + 20) v2.toInt.toNat z5 := ⟨_, rfl⟩
        rw [← eig6] at hw
        have hsz := hH.trans hsz
        have oig : Off B 20 22 ig6 ig := fun a j h => by rw [eig6]; exact (up2_a (by omega)).trans (oig a j h)
        refine lv_aload_n hx hb dX5_gatherReads_16 rfl (lv_at hl 1 rfl) ?_
        refine r_get C hw (hsh 15 _ rfl) fl_X5_33 (oV_r rfl (hrs (15, 7, 21) (by decide))) dX5_gatherReads_17 ?_
        refine lv_iload_n hx hb dX5_gatherReads_20 rfl (lv_at hl 0 rfl) ?_
        refine lv_iconst (v := 0) hx hb dX5_gatherReads_21 (by decide) (ti_c 0 (by decide) fun z7 hz7 => ?_)
        refine r_iast C hw (hsh 21 _ rfl) (by omega) (by omega) dX5_gatherReads_22 (fun H locs hH hw => ?_)
        obtain ⟨ig8, eig8⟩ : ∃ f, f = up2 ig6 (B + 21) v2.toInt.toNat z7 := ⟨_, rfl⟩
        rw [← eig8] at hw
        have hsz := hH.trans hsz
        have oig : Off B 20 22 ig8 ig := fun a j h => by rw [eig8]; exact (up2_a (by omega)).trans (oig a j h)
        refine lv_aload_n hx hb dX5_gatherReads_23 rfl (lv_at hl 1 rfl) ?_
        refine r_get C hw (hsh 15 _ rfl) fl_X5_9 (oV_r rfl (hrs (15, 0, 9) (by decide))) dX5_gatherReads_24 ?_
        refine lv_iload_n hx hb dX5_gatherReads_27 rfl (lv_at hl 0 rfl) ?_
        refine r_callV (As := [.int v2]) (rest := []) C hw (t_X6_formulaAt l B D cA kd ig8 rg lg _ v2 (FS.off Fs oig (by decide))) sv_X5_89 (hsh 9 _ rfl) rfl hl.1 rfl (Nat.le_of_ble_eq_true rfl) ⟨Nat.le_of_ble_eq_true rfl, Nat.le_of_ble_eq_true rfl⟩ ⟨Nat.le_of_ble_eq_true rfl, Nat.le_of_ble_eq_true rfl⟩ dX5_gatherReads_28 (fun r13 kd9 ig10 rg11 lg12 H locs hw hH hp14 => ?_)
        obtain ⟨rfl, rfl, rfl, rfl, hzhp14, rfl⟩ := hp14
        have hsz := hzhp14.trans hsz
        refine lv_astore_nN (lv' := [(2, .null), (1, .int v2), (0, .ref (B + 15))]) hx hb dX5_gatherReads_31 rfl hl (by decide) rfl (fun ls hl => ?_)
        refine lv_aload_nN hx hb dX5_gatherReads_32 rfl (lv_at hl 0 rfl) ?_
        refine lv_ifnullN (tgt := 81) hx hb dX5_gatherReads_33 (by decide) ?_
        refine ti_inc hx hb dX5_gatherReads_81 hl (k := 1) rfl (by decide) (by decide) (by omega) (fun z15 hz15 ls hl => ?_)
        have hl : lv_has ls 3 [(1, .int z15), (2, .null), (0, .ref (B + 15))] := hl
        refine lv_goto (tgt := 2) hx hb dX5_gatherReads_84 (by decide) ?_
        exact ih ls H locs ig8 z15 (lv_sub hl [0, 2] rfl) hw hsz (by omega) (by omega) oig (by omega)
  exact L2 ((288 - z1.toInt) + 1).toNat ls s.heap [] ig z1 (lv_sub hl [0, 1] rfl) hw hsz (by omega) (by omega) oig (by omega)

set_option maxHeartbeats 4000000 in
set_option maxRecDepth 100000 in
theorem t_X5_release (l : Launch) (B : Nat) (D : va_G) (cA : Nat → ClassId) (kd : sK) (ig : sI) (rg : sR) (lg : sG) (sz : Nat) (x : Int32) (hsh : Sh B kd) (hx0 : x.toInt = 0) (hfo : ig (B + 15) 9 = 0) : MC l B D cA yX5_release cX5_release 5 none (rL 0 0 0) [.ref (B + 15), .int x] kd ig rg lg sz (Pu kd ig rg lg sz (fun r => r = none)) := by
  refine MC.of (own := RX5) (by decide +kernel) rfl (Nat.le_of_ble_eq_true rfl) ?_
  intro p e s m args below meth c ls C hr hlk hnm hw hsz hl
  have hx := C.1.1
  have hb := C.1.2.1
  have hown := C.1.2.2.2.1
  have hts := C.1.2.2.2.2
  have hl : lv_has ls 5 [(0, .ref (B + 15)), (1, .int x)] := hl
  refine lv_iload_n hx hb dX5_release_0 rfl (lv_at hl 1 rfl) ?_
  refine lv_istore_n (lv' := [(2, .int x), (0, .ref (B + 15)), (1, .int x)]) hx hb dX5_release_1 rfl hl (by decide) rfl (fun ls hl => ?_)
  refine lv_iload_n hx hb dX5_release_2 rfl (lv_at hl 0 rfl) ?_
  refine lv_aload_n hx hb dX5_release_3 rfl (lv_at hl 1 rfl) ?_
  refine r_get C hw (hsh 15 _ rfl) fl_X5_55 (oV_i rfl) dX5_release_4 (ti_c (ig (B + 15) 9).toInt rfl fun z1 hz1 => ?_)
  have k2 : (ig (B + 15) (9)).toInt = 0 := by exact z0 (hfo)
  refine b_ge (tgt := 102) hx hb dX5_release_7 (by decide) (fun c7 => ?_) (fun c7 => ?_)
  · exact r_vret C hw hr hlk (Nat.le_of_ble_eq_true rfl) (Nat.le_of_ble_eq_true rfl) dX5_release_102 ⟨rfl, rfl, rfl, rfl, hsz, rfl⟩
  · exact absurd c7 (by omega)

set_option maxHeartbeats 4000000 in
set_option maxRecDepth 100000 in
theorem t_X5_settle (l : Launch) (B : Nat) (D : va_G) (cA : Nat → ClassId) (kd : sK) (ig : sI) (rg : sR) (lg : sG) (sz : Nat) (F : FS B kd ig rg) (hfc : ig (B + 15) 2 = 0) (hfo : ig (B + 15) 9 = 0) : MC l B D cA yX5_settle cX5_settle 3 none (rL 3 0 0) [.ref (B + 15)] kd ig rg lg sz (fun r kd' ig' rg' lg' n => kd = kd' ∧ rg = rg' ∧ Off B 17 18 lg' lg ∧ n = sz ∧ (r = none) ∧ Off B 15 24 ig' ig ∧ ig' (B + 15) 2 = 0 ∧ ig' (B + 15) 9 = 0) := by
  refine MC.of (own := RX5) (by decide +kernel) rfl (Nat.le_of_ble_eq_true rfl) ?_
  intro p e s m args below meth c ls C hr hlk hnm hw hsz hl
  have hx := C.1.1
  have hb := C.1.2.1
  have hown := C.1.2.2.2.1
  have hts := C.1.2.2.2.2
  have hl : lv_has ls 3 [(0, .ref (B + 15))] := hl
  have Fs := F
  obtain ⟨hsh, hrs, hce, hbf, hbi, hsi, hke⟩ := F
  have oig : Off B 15 24 ig ig := Off.rf
  have olg : Off B 17 18 lg lg := Off.rf
  refine lv_aload_n hx hb dX5_settle_0 rfl (lv_at hl 0 rfl) ?_
  refine r_get C hw (hsh 15 _ rfl) fl_X5_42 (oV_i rfl) dX5_settle_1 (ti_c (ig (B + 15) 11).toInt rfl fun z1 hz1 => ?_)
  refine lv_aload_n hx hb dX5_settle_4 rfl (lv_at hl 0 rfl) ?_
  refine r_get C hw (hsh 15 _ rfl) fl_X5_9 (oV_r rfl (hrs (15, 0, 9) (by decide))) dX5_settle_5 ?_
  refine r_get C hw (hsh 9 _ rfl) fl_X5_46 (oV_i rfl) dX5_settle_8 (ti_c (ig (B + 9) 6).toInt rfl fun z3 hz3 => ?_)
  have k4 : (ig (B + 9) (6)).toInt = 0 := z0 (Fs.si (6))
  refine b_ne (tgt := 15) hx hb dX5_settle_11 (by decide) (fun c11 => ?_) (fun c11 => ?_)
  · refine lv_aload_n hx hb dX5_settle_15 rfl (lv_at hl 0 rfl) ?_
    refine lv_aload_n hx hb dX5_settle_16 rfl (lv_at hl 0 rfl) ?_
    refine r_get C hw (hsh 15 _ rfl) fl_X5_9 (oV_r rfl (hrs (15, 0, 9) (by decide))) dX5_settle_17 ?_
    refine r_get C hw (hsh 9 _ rfl) fl_X5_46 (oV_i rfl) dX5_settle_20 (ti_c (ig (B + 9) 6).toInt rfl fun z5 hz5 => ?_)
    have k6 : (ig (B + 9) (6)).toInt = 0 := z0 (Fs.si (6))
    refine r_puti C hw (hsh 15 _ rfl) fl_X5_42 rfl rfl rfl dX5_settle_23 (fun H locs hH hw => ?_)
    obtain ⟨ig7, eig7⟩ : ∃ f, f = up2 ig (B + 15) 11 z5 := ⟨_, rfl⟩
    rw [← eig7] at hw
    have hsz := hH.trans hsz
    have oig : Off B 15 24 ig7 ig := fun a j h => by rw [eig7]; exact (up2_a (by omega)).trans (oig a j h)
    refine lv_aload_n hx hb dX5_settle_26 rfl (lv_at hl 0 rfl) ?_
    refine r_callV (As := []) (rest := []) C hw (t_X5_forgetReads l B D cA kd ig7 rg lg _ hsh hrs (by rw [eig7, up2_j (by decide)]; exact hfc)) sv_X5_49 (hsh 15 _ rfl) rfl hl.1 rfl (Nat.le_of_ble_eq_true rfl) ⟨Nat.le_of_ble_eq_true rfl, Nat.le_of_ble_eq_true rfl⟩ ⟨Nat.le_of_ble_eq_true rfl, Nat.le_of_ble_eq_true rfl⟩ dX5_settle_27 (fun r13 kd9 ig10 rg11 lg12 H locs hw hH hp14 => ?_)
    obtain ⟨rfl, rfl, la8, hq8, rfl, oa8, hfc⟩ := hp14
    have hsz := hq8.trans hsz
    have oig := Off.tr (lo := 15) (hi := 24) oa8 oig (by decide) (by decide)
    have olg := Off.tr (lo := 17) (hi := 18) la8 olg (by decide) (by decide)
    refine lv_aload_n hx hb dX5_settle_30 rfl (lv_at hl 0 rfl) ?_
    refine r_callV (As := []) (rest := []) C hw (t_X5_gatherReads l B D cA kd ig10 rg lg12 _ (FS.off Fs oig (by decide))) sv_X5_52 (hsh 15 _ rfl) rfl hl.1 rfl (Nat.le_of_ble_eq_true rfl) ⟨Nat.le_of_ble_eq_true rfl, Nat.le_of_ble_eq_true rfl⟩ ⟨Nat.le_of_ble_eq_true rfl, Nat.le_of_ble_eq_true rfl⟩ dX5_settle_31 (fun r20 kd16 ig17 rg18 lg19 H locs hw hH hp21 => ?_)
    obtain ⟨rfl, rfl, rfl, hq15, rfl, ob15⟩ := hp21
    have hsz := hq15.trans hsz
    have oig := Off.tr (lo := 15) (hi := 24) ob15 oig (by decide) (by decide)
    have hfc := (ob15 (B + 15) 2 (by omega)).trans hfc
    refine lv_aload_n hx hb dX5_settle_34 rfl (lv_at hl 0 rfl) ?_
    refine lv_iconst (v := 0) hx hb dX5_settle_35 (by decide) (ti_c 0 (by decide) fun z22 hz22 => ?_)
    refine r_puti C hw (hsh 15 _ rfl) fl_X5_55 rfl rfl rfl dX5_settle_36 (fun H locs hH hw => ?_)
    obtain ⟨ig23, eig23⟩ : ∃ f, f = up2 ig17 (B + 15) 9 z22 := ⟨_, rfl⟩
    rw [← eig23] at hw
    have hsz := hH.trans hsz
    have oig : Off B 15 24 ig23 ig := fun a j h => by rw [eig23]; exact (up2_a (by omega)).trans (oig a j h)
    refine lv_iconst (v := 0) hx hb dX5_settle_39 (by decide) (ti_c 0 (by decide) fun z24 hz24 => ?_)
    refine lv_istore_n (lv' := [(1, .int z24), (0, .ref (B + 15))]) hx hb dX5_settle_40 rfl hl (by decide) rfl (fun ls hl => ?_)
    refine lv_iload_n hx hb dX5_settle_41 rfl (lv_at hl 0 rfl) ?_
    refine lv_aload_n hx hb dX5_settle_42 rfl (lv_at hl 1 rfl) ?_
    refine r_get C hw (hsh 15 _ rfl) fl_X5_58 (oV_i rfl) dX5_settle_43 (ti_c (ig23 (B + 15) 2).toInt rfl fun z25 hz25 => ?_)
    have k26 : (ig23 (B + 15) (2)).toInt = 0 := by rw [eig23, up2_j (by decide)]; exact z0 (hfc)
    refine b_ge (tgt := 87) hx hb dX5_settle_46 (by decide) (fun c46 => ?_) (fun c46 => ?_)
    · refine lv_aload_n hx hb dX5_settle_87 rfl (lv_at hl 1 rfl) ?_
      refine lv_iconst (v := 0) hx hb dX5_settle_88 (by decide) (ti_c 0 (by decide) fun z27 hz27 => ?_)
      refine r_callV (As := [.int z27]) (rest := []) C hw (t_X5_release l B D cA kd ig23 rg lg12 _ z27 hsh (by omega) (by rw [eig23, up2_eq]; exact i32_inj hz22)) sv_X5_69 (hsh 15 _ rfl) rfl hl.1 rfl (Nat.le_of_ble_eq_true rfl) ⟨Nat.le_of_ble_eq_true rfl, Nat.le_of_ble_eq_true rfl⟩ ⟨Nat.le_of_ble_eq_true rfl, Nat.le_of_ble_eq_true rfl⟩ dX5_settle_89 (fun r32 kd28 ig29 rg30 lg31 H locs hw hH hp33 => ?_)
      obtain ⟨rfl, rfl, rfl, rfl, hzhp33, rfl⟩ := hp33
      have hsz := hzhp33.trans hsz
      refine lv_aload_n hx hb dX5_settle_92 rfl (lv_at hl 1 rfl) ?_
      refine r_get C hw (hsh 15 _ rfl) fl_X5_55 (oV_i rfl) dX5_settle_93 (ti_c (ig23 (B + 15) 9).toInt rfl fun z34 hz34 => ?_)
      have k35 : (ig23 (B + 15) (9)).toInt = z22.toInt := by rw [eig23, up2_eq]
      refine lv_aload_n hx hb dX5_settle_96 rfl (lv_at hl 1 rfl) ?_
      refine r_get C hw (hsh 15 _ rfl) fl_X5_58 (oV_i rfl) dX5_settle_97 (ti_c (ig23 (B + 15) 2).toInt rfl fun z36 hz36 => ?_)
      have k37 : (ig23 (B + 15) (2)).toInt = 0 := by rw [eig23, up2_j (by decide)]; exact z0 (hfc)
      refine b_ge (tgt := 117) hx hb dX5_settle_100 (by decide) (fun c100 => ?_) (fun c100 => ?_)
      · exact r_vret C hw hr hlk (Nat.le_of_ble_eq_true rfl) (Nat.le_of_ble_eq_true rfl) dX5_settle_117 ⟨rfl, rfl, olg, hsz, rfl, oig, by rw [eig23, up2_j (by decide)]; exact hfc, by rw [eig23, up2_eq]; exact i32_inj hz22⟩
      · exact absurd c100 (by omega)
    · exact absurd c46 (by omega)
  · exact r_vret C hw hr hlk (Nat.le_of_ble_eq_true rfl) (Nat.le_of_ble_eq_true rfl) dX5_settle_14 ⟨rfl, rfl, Off.rf, hsz, rfl, Off.rf, hfc, hfo⟩

set_option maxHeartbeats 4000000 in
set_option maxRecDepth 100000 in
theorem t_X10_settle (l : Launch) (B : Nat) (D : va_G) (cA : Nat → ClassId) (kd : sK) (ig : sI) (rg : sR) (lg : sG) (sz : Nat) (F : FS B kd ig rg) (hv : ig (B + 24) 8 = -1) (hfc : ig (B + 15) 2 = 0) (hfo : ig (B + 15) 9 = 0) : MC l B D cA yX10_settle cX10_settle 4 none (rL 4 0 0) [.ref (B + 24)] kd ig rg lg sz (fun r kd' ig' rg' lg' n => kd = kd' ∧ rg = rg' ∧ Off B 17 18 lg' lg ∧ n = sz ∧ (r = none) ∧ Off B 15 29 ig' ig ∧ (∀ j : Nat, j < 288 → ig' (B + 25) j = 0) ∧ (∀ j : Nat, j < 288 → ig' (B + 26) j = 0)) := by
  refine MC.of (own := RX10) (by decide +kernel) rfl (Nat.le_of_ble_eq_true rfl) ?_
  intro p e s m args below meth c ls C hr hlk hnm hw hsz hl
  have hx := C.1.1
  have hb := C.1.2.1
  have hown := C.1.2.2.2.1
  have hts := C.1.2.2.2.2
  have hl : lv_has ls 4 [(0, .ref (B + 24))] := hl
  have Fs := F
  obtain ⟨hsh, hrs, hce, hbf, hbi, hsi, hke⟩ := F
  have oig : Off B 15 29 ig ig := Off.rf
  have olg : Off B 17 18 lg lg := Off.rf
  refine lv_aload_n hx hb dX10_settle_0 rfl (lv_at hl 0 rfl) ?_
  refine r_get C hw (hsh 24 _ rfl) fl_X10_32 (oV_i rfl) dX10_settle_1 (ti_c (ig (B + 24) 8).toInt rfl fun z1 hz1 => ?_)
  have k2 : (ig (B + 24) (8)).toInt = -1 := by exact zm1 (hv)
  refine lv_aload_n hx hb dX10_settle_4 rfl (lv_at hl 0 rfl) ?_
  refine r_get C hw (hsh 24 _ rfl) fl_X10_9 (oV_r rfl (hrs (24, 0, 9) (by decide))) dX10_settle_5 ?_
  refine r_get C hw (hsh 9 _ rfl) fl_X10_36 (oV_i rfl) dX10_settle_8 (ti_c (ig (B + 9) 6).toInt rfl fun z3 hz3 => ?_)
  have k4 : (ig (B + 9) (6)).toInt = 0 := z0 (Fs.si (6))
  refine b_ne (tgt := 15) hx hb dX10_settle_11 (by decide) (fun c11 => ?_) (fun c11 => ?_)
  · refine lv_aload_n hx hb dX10_settle_15 rfl (lv_at hl 0 rfl) ?_
    refine lv_aload_n hx hb dX10_settle_16 rfl (lv_at hl 0 rfl) ?_
    refine r_get C hw (hsh 24 _ rfl) fl_X10_9 (oV_r rfl (hrs (24, 0, 9) (by decide))) dX10_settle_17 ?_
    refine r_get C hw (hsh 9 _ rfl) fl_X10_36 (oV_i rfl) dX10_settle_20 (ti_c (ig (B + 9) 6).toInt rfl fun z5 hz5 => ?_)
    have k6 : (ig (B + 9) (6)).toInt = 0 := z0 (Fs.si (6))
    refine r_puti C hw (hsh 24 _ rfl) fl_X10_32 rfl rfl rfl dX10_settle_23 (fun H locs hH hw => ?_)
    obtain ⟨ig7, eig7⟩ : ∃ f, f = up2 ig (B + 24) 8 z5 := ⟨_, rfl⟩
    rw [← eig7] at hw
    have hsz := hH.trans hsz
    have oig : Off B 15 29 ig7 ig := fun a j h => by rw [eig7]; exact (up2_a (by omega)).trans (oig a j h)
    refine lv_aload_n hx hb dX10_settle_26 rfl (lv_at hl 0 rfl) ?_
    refine r_get C hw (hsh 24 _ rfl) fl_X10_15 (oV_r rfl (hrs (24, 1, 15) (by decide))) dX10_settle_27 ?_
    refine r_callV (As := []) (rest := []) C hw (t_X5_settle l B D cA kd ig7 rg lg _ (FS.off Fs oig (by decide)) (by rw [eig7, up2_a (by omega)]; exact hfc) (by rw [eig7, up2_a (by omega)]; exact hfo)) sv_X10_39 (hsh 15 _ rfl) rfl hl.1 rfl (Nat.le_of_ble_eq_true rfl) ⟨Nat.le_of_ble_eq_true rfl, Nat.le_of_ble_eq_true rfl⟩ ⟨Nat.le_of_ble_eq_true rfl, Nat.le_of_ble_eq_true rfl⟩ dX10_settle_30 (fun r13 kd9 ig10 rg11 lg12 H locs hw hH hp14 => ?_)
    obtain ⟨rfl, rfl, la8, hq8, rfl, oa8, hfc, hfo⟩ := hp14
    have hsz := hq8.trans hsz
    have oig := Off.tr (lo := 15) (hi := 29) oa8 oig (by decide) (by decide)
    have olg := Off.tr (lo := 17) (hi := 18) la8 olg (by decide) (by decide)
    refine lv_iconst (v := 0) hx hb dX10_settle_33 (by decide) (ti_c 0 (by decide) fun z15 hz15 => ?_)
    refine lv_istore_n (lv' := [(1, .int z15), (0, .ref (B + 24))]) hx hb dX10_settle_34 rfl hl (by decide) rfl (fun ls hl => ?_)
    have L35 : ∀ (n : Nat) (ls : Array Slot) (H : Heap) (locs : List Loc) (ig17 : sI) (v16 : Int32), lv_has ls 4 [(1, .int v16), (0, .ref (B + 24))] → WD B D cA s.heap kd ig17 rg lg12 H locs → H.size = sz → (0 ≤ v16.toInt) → (v16.toInt ≤ 288) → (∀ j : Nat, (j : Int) < v16.toInt → ig17 (B + 25) j = 0) → (∀ j : Nat, (j : Int) < v16.toInt → ig17 (B + 26) j = 0) → (ig17 (B + 15) 9 = 0) → (Off B 15 29 ig17 ig) → 288 - v16.toInt < (n : Int) → W p l e (rL 4 0 0) s m args below meth c H locs 0 0 (MQ below (QcW B D cA (fun r kd' ig' rg' lg' n => kd = kd' ∧ rg = rg' ∧ Off B 17 18 lg' lg ∧ n = sz ∧ (r = none) ∧ Off B 15 29 ig' ig ∧ (∀ j : Nat, j < 288 → ig' (B + 25) j = 0) ∧ (∀ j : Nat, j < 288 → ig' (B + 26) j = 0))) args s 0 0 (fun q => B ≤ q)) (F0 m 35 ls []) := by
      intro n
      induction n with
      | zero => intro ls H locs ig17 v16 hl hw hsz g35_0 g35_1 g35_2 g35_3 g35_4 g35_5 hmu; exact absurd hmu (by omega)
      | succ n ih =>
        intro ls H locs ig17 v16 hl hw hsz g35_0 g35_1 g35_2 g35_3 g35_4 g35_5 hmu
        have oig := g35_5
        have hfo := g35_4
        refine lv_iload_n hx hb dX10_settle_35 rfl (lv_at hl 0 rfl) ?_
        refine lv_sipush (v := 288) hx hb dX10_settle_36 (by decide) (ti_c 288 (by decide) fun z18 hz18 => ?_)
        refine b_ge (tgt := 72) hx hb dX10_settle_39 (by decide) (fun c39 => ?_) (fun c39 => ?_)
        · refine lv_iconst (v := 0) hx hb dX10_settle_72 (by decide) (ti_c 0 (by decide) fun z19 hz19 => ?_)
          refine lv_istore_n (lv' := [(1, .int z19), (0, .ref (B + 24))]) hx hb dX10_settle_73 rfl hl (by decide) rfl (fun ls hl => ?_)
          refine lv_iload_n hx hb dX10_settle_74 rfl (lv_at hl 0 rfl) ?_
          refine lv_aload_n hx hb dX10_settle_75 rfl (lv_at hl 1 rfl) ?_
          refine r_get C hw (hsh 24 _ rfl) fl_X10_15 (oV_r rfl (hrs (24, 1, 15) (by decide))) dX10_settle_76 ?_
          refine r_callV (As := []) (rest := [.int z19]) C hw (t_X5_orderSize l B D cA kd ig17 rg lg12 _ hsh hfo) sv_X10_53 (hsh 15 _ rfl) rfl hl.1 rfl (Nat.le_of_ble_eq_true rfl) ⟨Nat.le_of_ble_eq_true rfl, Nat.le_of_ble_eq_true rfl⟩ ⟨Nat.le_of_ble_eq_true rfl, Nat.le_of_ble_eq_true rfl⟩ dX10_settle_79 (fun r25 kd21 ig22 rg23 lg24 H locs hw hH hp26 => ?_)
          obtain ⟨rfl, rfl, rfl, rfl, hzz20, z20, rfl, hz20⟩ := hp26
          have hsz := hzz20.trans hsz
          refine b_ge (tgt := 126) hx hb dX10_settle_82 (by decide) (fun c82 => ?_) (fun c82 => ?_)
          · exact r_vret C hw hr hlk (Nat.le_of_ble_eq_true rfl) (Nat.le_of_ble_eq_true rfl) dX10_settle_126 ⟨rfl, rfl, olg, hsz, rfl, oig, fun j hj => g35_2 j (by omega), fun j hj => g35_3 j (by omega)⟩
          · exact absurd c82 (by omega)
        · refine lv_aload_n hx hb dX10_settle_42 rfl (lv_at hl 1 rfl) ?_
          refine r_get C hw (hsh 24 _ rfl) fl_X10_19 (oV_r rfl (hrs (24, 2, 25) (by decide))) dX10_settle_43 ?_
          refine lv_iload_n hx hb dX10_settle_46 rfl (lv_at hl 0 rfl) ?_
          refine lv_aload_n hx hb dX10_settle_47 rfl (lv_at hl 1 rfl) ?_
          refine r_get C hw (hsh 24 _ rfl) fl_X10_9 (oV_r rfl (hrs (24, 0, 9) (by decide))) dX10_settle_48 ?_
          refine lv_iload_n hx hb dX10_settle_51 rfl (lv_at hl 0 rfl) ?_
          refine r_callV (As := [.int v16]) (rest := [.int v16, .ref (B + 25)]) C hw (t_X6_at l B D cA kd ig17 rg lg12 _ v16 (FS.off Fs oig (by decide))) sv_X10_44 (hsh 9 _ rfl) rfl hl.1 rfl (Nat.le_of_ble_eq_true rfl) ⟨Nat.le_of_ble_eq_true rfl, Nat.le_of_ble_eq_true rfl⟩ ⟨Nat.le_of_ble_eq_true rfl, Nat.le_of_ble_eq_true rfl⟩ dX10_settle_52 (fun r31 kd27 ig28 rg29 lg30 H locs hw hH hp32 => ?_)
          obtain ⟨rfl, rfl, rfl, rfl, hzhp32, rfl⟩ := hp32
          have hsz := hzhp32.trans hsz
          refine r_get C hw (hsh 10 _ rfl) fl_X10_48 (oV_i rfl) dX10_settle_55 (ti_c (ig17 (B + 10) 1).toInt rfl fun z33 hz33 => ?_)
          have k34 : (ig17 (B + 10) (1)).toInt = 0 := z0 ((FS.off Fs oig (by decide)).bi (1))
          refine r_iast C hw (hsh 25 _ rfl) (by omega) (by omega) dX10_settle_58 (fun H locs hH hw => ?_)
          obtain ⟨ig35, eig35⟩ : ∃ f, f = up2 ig17 (B + 25) v16.toInt.toNat z33 := ⟨_, rfl⟩
          rw [← eig35] at hw
          have hsz := hH.trans hsz
          have oig : Off B 15 29 ig35 ig := fun a j h => by rw [eig35]; exact (up2_a (by omega)).trans (oig a j h)
          refine lv_aload_n hx hb dX10_settle_59 rfl (lv_at hl 1 rfl) ?_
          refine r_get C hw (hsh 24 _ rfl) fl_X10_23 (oV_r rfl (hrs (24, 3, 26) (by decide))) dX10_settle_60 ?_
          refine lv_iload_n hx hb dX10_settle_63 rfl (lv_at hl 0 rfl) ?_
          refine lv_iconst (v := 0) hx hb dX10_settle_64 (by decide) (ti_c 0 (by decide) fun z36 hz36 => ?_)
          refine r_iast C hw (hsh 26 _ rfl) (by omega) (by omega) dX10_settle_65 (fun H locs hH hw => ?_)
          obtain ⟨ig37, eig37⟩ : ∃ f, f = up2 ig35 (B + 26) v16.toInt.toNat z36 := ⟨_, rfl⟩
          rw [← eig37] at hw
          have hsz := hH.trans hsz
          have oig : Off B 15 29 ig37 ig := fun a j h => by rw [eig37]; exact (up2_a (by omega)).trans (oig a j h)
          refine ti_inc hx hb dX10_settle_66 hl (k := 0) rfl (by decide) (by decide) (by omega) (fun z38 hz38 ls hl => ?_)
          have hl : lv_has ls 4 [(1, .int z38), (0, .ref (B + 24))] := hl
          refine lv_goto (tgt := 35) hx hb dX10_settle_69 (by decide) ?_
          exact ih ls H locs ig37 z38 (lv_sub hl [0, 1] rfl) hw hsz (by omega) (by omega) (by intro j hj; rw [eig37, up2_a (by omega), eig35]; exact fill1 g35_2 (by omega) (i32_inj (hz33.trans (z0 (FS.bi (FS.off Fs g35_5 (by decide)) 1)))) j (by omega)) (by intro j hj; rw [eig37]; refine fill1 (fun j hj => ?_) (by omega) (i32_inj hz36) j (by omega); rw [eig35, up2_a (by omega)]; exact g35_3 j hj) (by rw [eig37, up2_a (by omega), eig35, up2_a (by omega)]; exact hfo) oig (by omega)
    exact L35 ((288 - z15.toInt) + 1).toNat ls H locs ig10 z15 (lv_sub hl [0, 1] rfl) hw hsz (by omega) (by omega) (fun j hj => absurd hj (by omega)) (fun j hj => absurd hj (by omega)) (hfo) oig (by omega)
  · exact absurd c11 (by omega)

set_option maxHeartbeats 4000000 in
set_option maxRecDepth 100000 in
theorem t_X10_valueAt (l : Launch) (B : Nat) (D : va_G) (cA : Nat → ClassId) (kd : sK) (ig : sI) (rg : sR) (lg : sG) (sz : Nat) (x : Int32) (hsh : Sh B kd) (hrs : Rs B rg) (hf : ∀ j : Nat, j < 288 → ig (B + 25) j = 0) : MC l B D cA yX10_valueAt cX10_valueAt 2 (some .int) (rL 1 0 0) [.ref (B + 24), .int x] kd ig rg lg sz (Pu kd ig rg lg sz (fun r => ∃ z : Int32, r = some (.int z) ∧ z.toInt = 0)) := by
  refine MC.of (own := RX10) (by decide +kernel) rfl (Nat.le_of_ble_eq_true rfl) ?_
  intro p e s m args below meth c ls C hr hlk hnm hw hsz hl
  have hx := C.1.1
  have hb := C.1.2.1
  have hown := C.1.2.2.2.1
  have hts := C.1.2.2.2.2
  have hl : lv_has ls 2 [(0, .ref (B + 24)), (1, .int x)] := hl
  refine lv_iload_n hx hb dX10_valueAt_0 rfl (lv_at hl 1 rfl) ?_
  refine r_callN (As := [.int x]) (rest := []) C hw (t_X11_onSheet l B D cA kd ig rg lg _ x) sn_X10_65 rfl hl.1 rfl (Nat.le_of_ble_eq_true rfl) ⟨Nat.le_of_ble_eq_true rfl, Nat.le_of_ble_eq_true rfl⟩ ⟨Nat.le_of_ble_eq_true rfl, Nat.le_of_ble_eq_true rfl⟩ dX10_valueAt_1 (fun r6 kd2 ig3 rg4 lg5 H locs hw hH hp7 => ?_)
  obtain ⟨rfl, rfl, rfl, rfl, hzz1, z1, rfl, hz1⟩ := hp7
  have hsz := hzz1.trans hsz
  refine z_eq (tgt := 16) hx hb dX10_valueAt_4 (by decide) (fun c4 => ?_) (fun c4 => ?_)
  · refine lv_iconst (v := 0) hx hb dX10_valueAt_16 (by decide) (ti_c 0 (by decide) fun z8 hz8 => ?_)
    exact r_iret C hw hr hlk rfl (Nat.le_of_ble_eq_true rfl) (Nat.le_of_ble_eq_true rfl) dX10_valueAt_17 ⟨rfl, rfl, rfl, rfl, hsz, _, rfl, by omega⟩
  · refine lv_aload_n hx hb dX10_valueAt_7 rfl (lv_at hl 0 rfl) ?_
    refine r_get C hw (hsh 24 _ rfl) fl_X10_19 (oV_r rfl (hrs (24, 2, 25) (by decide))) dX10_valueAt_8 ?_
    refine lv_iload_n hx hb dX10_valueAt_11 rfl (lv_at hl 1 rfl) ?_
    refine r_iald C hw (hsh 25 _ rfl) (by omega) (by omega) dX10_valueAt_12 (ti_c (ig (B + 25) x.toInt.toNat).toInt rfl fun z9 hz9 => ?_)
    have k := z0 (hf (x.toInt.toNat) (by omega))
    refine lv_goto (tgt := 17) hx hb dX10_valueAt_13 (by decide) ?_
    exact r_iret C hw hr hlk rfl (Nat.le_of_ble_eq_true rfl) (Nat.le_of_ble_eq_true rfl) dX10_valueAt_17 ⟨rfl, rfl, rfl, rfl, hsz, _, rfl, by omega⟩

set_option maxHeartbeats 4000000 in
set_option maxRecDepth 100000 in
theorem t_X10_errorAt (l : Launch) (B : Nat) (D : va_G) (cA : Nat → ClassId) (kd : sK) (ig : sI) (rg : sR) (lg : sG) (sz : Nat) (x : Int32) (hsh : Sh B kd) (hrs : Rs B rg) (hf : ∀ j : Nat, j < 288 → ig (B + 26) j = 0) : MC l B D cA yX10_errorAt cX10_errorAt 2 (some .int) (rL 1 0 0) [.ref (B + 24), .int x] kd ig rg lg sz (Pu kd ig rg lg sz (fun r => ∃ z : Int32, r = some (.int z) ∧ z.toInt = 0)) := by
  refine MC.of (own := RX10) (by decide +kernel) rfl (Nat.le_of_ble_eq_true rfl) ?_
  intro p e s m args below meth c ls C hr hlk hnm hw hsz hl
  have hx := C.1.1
  have hb := C.1.2.1
  have hown := C.1.2.2.2.1
  have hts := C.1.2.2.2.2
  have hl : lv_has ls 2 [(0, .ref (B + 24)), (1, .int x)] := hl
  refine lv_iload_n hx hb dX10_errorAt_0 rfl (lv_at hl 1 rfl) ?_
  refine r_callN (As := [.int x]) (rest := []) C hw (t_X11_onSheet l B D cA kd ig rg lg _ x) sn_X10_65 rfl hl.1 rfl (Nat.le_of_ble_eq_true rfl) ⟨Nat.le_of_ble_eq_true rfl, Nat.le_of_ble_eq_true rfl⟩ ⟨Nat.le_of_ble_eq_true rfl, Nat.le_of_ble_eq_true rfl⟩ dX10_errorAt_1 (fun r6 kd2 ig3 rg4 lg5 H locs hw hH hp7 => ?_)
  obtain ⟨rfl, rfl, rfl, rfl, hzz1, z1, rfl, hz1⟩ := hp7
  have hsz := hzz1.trans hsz
  refine z_eq (tgt := 16) hx hb dX10_errorAt_4 (by decide) (fun c4 => ?_) (fun c4 => ?_)
  · refine lv_iconst (v := 0) hx hb dX10_errorAt_16 (by decide) (ti_c 0 (by decide) fun z8 hz8 => ?_)
    exact r_iret C hw hr hlk rfl (Nat.le_of_ble_eq_true rfl) (Nat.le_of_ble_eq_true rfl) dX10_errorAt_17 ⟨rfl, rfl, rfl, rfl, hsz, _, rfl, by omega⟩
  · refine lv_aload_n hx hb dX10_errorAt_7 rfl (lv_at hl 0 rfl) ?_
    refine r_get C hw (hsh 24 _ rfl) fl_X10_23 (oV_r rfl (hrs (24, 3, 26) (by decide))) dX10_errorAt_8 ?_
    refine lv_iload_n hx hb dX10_errorAt_11 rfl (lv_at hl 1 rfl) ?_
    refine r_iald C hw (hsh 26 _ rfl) (by omega) (by omega) dX10_errorAt_12 (ti_c (ig (B + 26) x.toInt.toNat).toInt rfl fun z9 hz9 => ?_)
    have k := z0 (hf (x.toInt.toNat) (by omega))
    refine lv_goto (tgt := 17) hx hb dX10_errorAt_13 (by decide) ?_
    exact r_iret C hw hr hlk rfl (Nat.le_of_ble_eq_true rfl) (Nat.le_of_ble_eq_true rfl) dX10_errorAt_17 ⟨rfl, rfl, rfl, rfl, hsz, _, rfl, by omega⟩

set_option maxHeartbeats 4000000 in
set_option maxRecDepth 100000 in
theorem t_X10_errors (l : Launch) (B : Nat) (D : va_G) (cA : Nat → ClassId) (kd : sK) (ig : sI) (rg : sR) (lg : sG) (sz : Nat) (hsh : Sh B kd) (hrs : Rs B rg) (hf : ∀ j : Nat, j < 288 → ig (B + 26) j = 0) : MC l B D cA yX10_errors cX10_errors 3 (some .int) (rL 0 0 0) [.ref (B + 24)] kd ig rg lg sz (Pu kd ig rg lg sz (fun r => ∃ z : Int32, r = some (.int z) ∧ z.toInt = 0)) := by
  refine MC.of (own := RX10) (by decide +kernel) rfl (Nat.le_of_ble_eq_true rfl) ?_
  intro p e s m args below meth c ls C hr hlk hnm hw hsz hl
  have hx := C.1.1
  have hb := C.1.2.1
  have hown := C.1.2.2.2.1
  have hts := C.1.2.2.2.2
  have hl : lv_has ls 3 [(0, .ref (B + 24))] := hl
  refine lv_iconst (v := 0) hx hb dX10_errors_0 (by decide) (ti_c 0 (by decide) fun z1 hz1 => ?_)
  refine lv_istore_n (lv' := [(1, .int z1), (0, .ref (B + 24))]) hx hb dX10_errors_1 rfl hl (by decide) rfl (fun ls hl => ?_)
  refine lv_iconst (v := 0) hx hb dX10_errors_2 (by decide) (ti_c 0 (by decide) fun z2 hz2 => ?_)
  refine lv_istore_n (lv' := [(2, .int z2), (1, .int z1), (0, .ref (B + 24))]) hx hb dX10_errors_3 rfl hl (by decide) rfl (fun ls hl => ?_)
  have L4 : ∀ (n : Nat) (ls : Array Slot) (H : Heap) (locs : List Loc) (v3 : Int32), lv_has ls 3 [(2, .int v3), (1, .int z1), (0, .ref (B + 24))] → WD B D cA s.heap kd ig rg lg H locs → H.size = sz → (0 ≤ v3.toInt) → (v3.toInt ≤ 288) → 288 - v3.toInt < (n : Int) → W p l e (rL 0 0 0) s m args below meth c H locs 0 0 (MQ below (QcW B D cA (Pu kd ig rg lg sz (fun r => ∃ z : Int32, r = some (.int z) ∧ z.toInt = 0))) args s 0 0 (fun q => B ≤ q)) (F0 m 4 ls []) := by
    intro n
    induction n with
    | zero => intro ls H locs v3 hl hw hsz g4_0 g4_1 hmu; exact absurd hmu (by omega)
    | succ n ih =>
      intro ls H locs v3 hl hw hsz g4_0 g4_1 hmu
      refine lv_iload_n hx hb dX10_errors_4 rfl (lv_at hl 0 rfl) ?_
      refine lv_sipush (v := 288) hx hb dX10_errors_5 (by decide) (ti_c 288 (by decide) fun z4 hz4 => ?_)
      refine b_ge (tgt := 29) hx hb dX10_errors_8 (by decide) (fun c8 => ?_) (fun c8 => ?_)
      · refine lv_iload_n hx hb dX10_errors_29 rfl (lv_at hl 1 rfl) ?_
        exact r_iret C hw hr hlk rfl (Nat.le_of_ble_eq_true rfl) (Nat.le_of_ble_eq_true rfl) dX10_errors_30 ⟨rfl, rfl, rfl, rfl, hsz, _, rfl, by omega⟩
      · refine lv_aload_n hx hb dX10_errors_11 rfl (lv_at hl 2 rfl) ?_
        refine r_get C hw (hsh 24 _ rfl) fl_X10_23 (oV_r rfl (hrs (24, 3, 26) (by decide))) dX10_errors_12 ?_
        refine lv_iload_n hx hb dX10_errors_15 rfl (lv_at hl 0 rfl) ?_
        refine r_iald C hw (hsh 26 _ rfl) (by omega) (by omega) dX10_errors_16 (ti_c (ig (B + 26) v3.toInt.toNat).toInt rfl fun z5 hz5 => ?_)
        have k := z0 (hf (v3.toInt.toNat) (by omega))
        refine z_eq (tgt := 23) hx hb dX10_errors_17 (by decide) (fun c17 => ?_) (fun c17 => ?_)
        · refine ti_inc hx hb dX10_errors_23 hl (k := 0) rfl (by decide) (by decide) (by omega) (fun z6 hz6 ls hl => ?_)
          have hl : lv_has ls 3 [(2, .int z6), (1, .int z1), (0, .ref (B + 24))] := hl
          refine lv_goto (tgt := 4) hx hb dX10_errors_26 (by decide) ?_
          exact ih ls H locs z6 (lv_sub hl [0, 1, 2] rfl) hw hsz (by omega) (by omega) (by omega)
        · exact absurd c17 (by omega)
  exact L4 ((288 - z2.toInt) + 1).toNat ls s.heap [] z2 (lv_sub hl [0, 1, 2] rfl) hw hsz (by omega) (by omega) (by omega)

set_option maxHeartbeats 4000000 in
set_option maxRecDepth 100000 in
theorem t_X9_settle (l : Launch) (B : Nat) (D : va_G) (cA : Nat → ClassId) (kd : sK) (ig : sI) (rg : sR) (lg : sG) (sz : Nat) (F : FS B kd ig rg) (hv : ig (B + 32) 8 = -1) (hfc : ig (B + 15) 2 = 0) (hfo : ig (B + 15) 9 = 0) : MC l B D cA yX9_settle cX9_settle 4 none (rL 4 0 0) [.ref (B + 32)] kd ig rg lg sz (fun r kd' ig' rg' lg' n => kd = kd' ∧ rg = rg' ∧ Off B 17 18 lg' lg ∧ n = sz ∧ (r = none) ∧ Off B 15 37 ig' ig ∧ ig' (B + 15) 2 = 0 ∧ ig' (B + 15) 9 = 0 ∧ (∀ j : Nat, j < 864 → ig' (B + 33) j = 0)) := by
  refine MC.of (own := RX9) (by decide +kernel) rfl (Nat.le_of_ble_eq_true rfl) ?_
  intro p e s m args below meth c ls C hr hlk hnm hw hsz hl
  have hx := C.1.1
  have hb := C.1.2.1
  have hown := C.1.2.2.2.1
  have hts := C.1.2.2.2.2
  have hl : lv_has ls 4 [(0, .ref (B + 32))] := hl
  have Fs := F
  obtain ⟨hsh, hrs, hce, hbf, hbi, hsi, hke⟩ := F
  have oig : Off B 15 37 ig ig := Off.rf
  have olg : Off B 17 18 lg lg := Off.rf
  refine lv_aload_n hx hb dX9_settle_0 rfl (lv_at hl 0 rfl) ?_
  refine r_get C hw (hsh 32 _ rfl) fl_X9_33 (oV_i rfl) dX9_settle_1 (ti_c (ig (B + 32) 8).toInt rfl fun z1 hz1 => ?_)
  have k2 : (ig (B + 32) (8)).toInt = -1 := by exact zm1 (hv)
  refine lv_aload_n hx hb dX9_settle_4 rfl (lv_at hl 0 rfl) ?_
  refine r_get C hw (hsh 32 _ rfl) fl_X9_9 (oV_r rfl (hrs (32, 0, 9) (by decide))) dX9_settle_5 ?_
  refine r_get C hw (hsh 9 _ rfl) fl_X9_37 (oV_i rfl) dX9_settle_8 (ti_c (ig (B + 9) 6).toInt rfl fun z3 hz3 => ?_)
  have k4 : (ig (B + 9) (6)).toInt = 0 := z0 (Fs.si (6))
  refine b_ne (tgt := 15) hx hb dX9_settle_11 (by decide) (fun c11 => ?_) (fun c11 => ?_)
  · refine lv_aload_n hx hb dX9_settle_15 rfl (lv_at hl 0 rfl) ?_
    refine lv_aload_n hx hb dX9_settle_16 rfl (lv_at hl 0 rfl) ?_
    refine r_get C hw (hsh 32 _ rfl) fl_X9_9 (oV_r rfl (hrs (32, 0, 9) (by decide))) dX9_settle_17 ?_
    refine r_get C hw (hsh 9 _ rfl) fl_X9_37 (oV_i rfl) dX9_settle_20 (ti_c (ig (B + 9) 6).toInt rfl fun z5 hz5 => ?_)
    have k6 : (ig (B + 9) (6)).toInt = 0 := z0 (Fs.si (6))
    refine r_puti C hw (hsh 32 _ rfl) fl_X9_33 rfl rfl rfl dX9_settle_23 (fun H locs hH hw => ?_)
    obtain ⟨ig7, eig7⟩ : ∃ f, f = up2 ig (B + 32) 8 z5 := ⟨_, rfl⟩
    rw [← eig7] at hw
    have hsz := hH.trans hsz
    have oig : Off B 15 37 ig7 ig := fun a j h => by rw [eig7]; exact (up2_a (by omega)).trans (oig a j h)
    refine lv_aload_n hx hb dX9_settle_26 rfl (lv_at hl 0 rfl) ?_
    refine r_get C hw (hsh 32 _ rfl) fl_X9_15 (oV_r rfl (hrs (32, 1, 15) (by decide))) dX9_settle_27 ?_
    refine r_callV (As := []) (rest := []) C hw (t_X5_settle l B D cA kd ig7 rg lg _ (FS.off Fs oig (by decide)) (by rw [eig7, up2_a (by omega)]; exact hfc) (by rw [eig7, up2_a (by omega)]; exact hfo)) sv_X9_40 (hsh 15 _ rfl) rfl hl.1 rfl (Nat.le_of_ble_eq_true rfl) ⟨Nat.le_of_ble_eq_true rfl, Nat.le_of_ble_eq_true rfl⟩ ⟨Nat.le_of_ble_eq_true rfl, Nat.le_of_ble_eq_true rfl⟩ dX9_settle_30 (fun r13 kd9 ig10 rg11 lg12 H locs hw hH hp14 => ?_)
    obtain ⟨rfl, rfl, la8, hq8, rfl, oa8, hfc, hfo⟩ := hp14
    have hsz := hq8.trans hsz
    have oig := Off.tr (lo := 15) (hi := 37) oa8 oig (by decide) (by decide)
    have olg := Off.tr (lo := 17) (hi := 18) la8 olg (by decide) (by decide)
    refine lv_iconst (v := 0) hx hb dX9_settle_33 (by decide) (ti_c 0 (by decide) fun z15 hz15 => ?_)
    refine lv_istore_n (lv' := [(1, .int z15), (0, .ref (B + 32))]) hx hb dX9_settle_34 rfl hl (by decide) rfl (fun ls hl => ?_)
    have L35 : ∀ (n : Nat) (ls : Array Slot) (H : Heap) (locs : List Loc) (ig17 : sI) (v16 : Int32), lv_has ls 4 [(1, .int v16), (0, .ref (B + 32))] → WD B D cA s.heap kd ig17 rg lg12 H locs → H.size = sz → (0 ≤ v16.toInt) → (v16.toInt ≤ 288) → (∀ j : Nat, (j : Int) < 3 * v16.toInt → ig17 (B + 33) j = 0) → (ig17 (B + 15) 2 = 0) → (ig17 (B + 15) 9 = 0) → (Off B 15 37 ig17 ig) → 288 - v16.toInt < (n : Int) → W p l e (rL 4 0 0) s m args below meth c H locs 0 0 (MQ below (QcW B D cA (fun r kd' ig' rg' lg' n => kd = kd' ∧ rg = rg' ∧ Off B 17 18 lg' lg ∧ n = sz ∧ (r = none) ∧ Off B 15 37 ig' ig ∧ ig' (B + 15) 2 = 0 ∧ ig' (B + 15) 9 = 0 ∧ (∀ j : Nat, j < 864 → ig' (B + 33) j = 0))) args s 0 0 (fun q => B ≤ q)) (F0 m 35 ls []) := by
      intro n
      induction n with
      | zero => intro ls H locs ig17 v16 hl hw hsz g35_0 g35_1 g35_2 g35_3 g35_4 g35_5 hmu; exact absurd hmu (by omega)
      | succ n ih =>
        intro ls H locs ig17 v16 hl hw hsz g35_0 g35_1 g35_2 g35_3 g35_4 g35_5 hmu
        have oig := g35_5
        have hfc := g35_3
        have hfo := g35_4
        refine lv_iload_n hx hb dX9_settle_35 rfl (lv_at hl 0 rfl) ?_
        refine lv_sipush (v := 288) hx hb dX9_settle_36 (by decide) (ti_c 288 (by decide) fun z18 hz18 => ?_)
        refine b_ge (tgt := 104) hx hb dX9_settle_39 (by decide) (fun c39 => ?_) (fun c39 => ?_)
        · refine lv_iconst (v := 0) hx hb dX9_settle_104 (by decide) (ti_c 0 (by decide) fun z19 hz19 => ?_)
          refine lv_istore_n (lv' := [(1, .int z19), (0, .ref (B + 32))]) hx hb dX9_settle_105 rfl hl (by decide) rfl (fun ls hl => ?_)
          refine lv_iload_n hx hb dX9_settle_106 rfl (lv_at hl 0 rfl) ?_
          refine lv_aload_n hx hb dX9_settle_107 rfl (lv_at hl 1 rfl) ?_
          refine r_get C hw (hsh 32 _ rfl) fl_X9_15 (oV_r rfl (hrs (32, 1, 15) (by decide))) dX9_settle_108 ?_
          refine r_callV (As := []) (rest := [.int z19]) C hw (t_X5_orderSize l B D cA kd ig17 rg lg12 _ hsh hfo) sv_X9_60 (hsh 15 _ rfl) rfl hl.1 rfl (Nat.le_of_ble_eq_true rfl) ⟨Nat.le_of_ble_eq_true rfl, Nat.le_of_ble_eq_true rfl⟩ ⟨Nat.le_of_ble_eq_true rfl, Nat.le_of_ble_eq_true rfl⟩ dX9_settle_111 (fun r25 kd21 ig22 rg23 lg24 H locs hw hH hp26 => ?_)
          obtain ⟨rfl, rfl, rfl, rfl, hzz20, z20, rfl, hz20⟩ := hp26
          have hsz := hzz20.trans hsz
          refine b_ge (tgt := 169) hx hb dX9_settle_114 (by decide) (fun c114 => ?_) (fun c114 => ?_)
          · exact r_vret C hw hr hlk (Nat.le_of_ble_eq_true rfl) (Nat.le_of_ble_eq_true rfl) dX9_settle_169 ⟨rfl, rfl, olg, hsz, rfl, oig, hfc, hfo, fun j hj => g35_2 j (by omega)⟩
          · exact absurd c114 (by omega)
        · refine lv_aload_n hx hb dX9_settle_42 rfl (lv_at hl 1 rfl) ?_
          refine r_get C hw (hsh 32 _ rfl) fl_X9_9 (oV_r rfl (hrs (32, 0, 9) (by decide))) dX9_settle_43 ?_
          refine lv_iload_n hx hb dX9_settle_46 rfl (lv_at hl 0 rfl) ?_
          refine r_callV (As := [.int v16]) (rest := []) C hw (t_X6_at l B D cA kd ig17 rg lg12 _ v16 (FS.off Fs oig (by decide))) sv_X9_45 (hsh 9 _ rfl) rfl hl.1 rfl (Nat.le_of_ble_eq_true rfl) ⟨Nat.le_of_ble_eq_true rfl, Nat.le_of_ble_eq_true rfl⟩ ⟨Nat.le_of_ble_eq_true rfl, Nat.le_of_ble_eq_true rfl⟩ dX9_settle_47 (fun r31 kd27 ig28 rg29 lg30 H locs hw hH hp32 => ?_)
          obtain ⟨rfl, rfl, rfl, rfl, hzhp32, rfl⟩ := hp32
          have hsz := hzhp32.trans hsz
          refine lv_astore_n (lv' := [(2, .ref (B + 10)), (1, .int v16), (0, .ref (B + 32))]) hx hb dX9_settle_50 rfl hl (by decide) rfl (fun ls hl => ?_)
          refine lv_aload_n hx hb dX9_settle_51 rfl (lv_at hl 2 rfl) ?_
          refine r_get C hw (hsh 32 _ rfl) fl_X9_19 (oV_r rfl (hrs (32, 2, 33) (by decide))) dX9_settle_52 ?_
          refine lv_iload_n hx hb dX9_settle_55 rfl (lv_at hl 1 rfl) ?_
          refine lv_iconst (v := 3) hx hb dX9_settle_56 (by decide) (ti_c 3 (by decide) fun z33 hz33 => ?_)
          refine lv_imul hx hb dX9_settle_57 (ti_mulR 3 hz33 (by omega) fun z34 hz34 => ?_)
          refine lv_aload_n hx hb dX9_settle_58 rfl (lv_at hl 0 rfl) ?_
          refine r_get C hw (hsh 10 _ rfl) fl_X9_49 (oV_i rfl) dX9_settle_59 (ti_c (ig17 (B + 10) 3).toInt rfl fun z35 hz35 => ?_)
          have k36 : (ig17 (B + 10) (3)).toInt = 0 := z0 ((FS.off Fs oig (by decide)).bi (3))
          refine r_iast C hw (hsh 33 _ rfl) (by omega) (by omega) dX9_settle_62 (fun H locs hH hw => ?_)
          obtain ⟨ig37, eig37⟩ : ∃ f, f = up2 ig17 (B + 33) z34.toInt.toNat z35 := ⟨_, rfl⟩
          rw [← eig37] at hw
          have hsz := hH.trans hsz
          have oig : Off B 15 37 ig37 ig := fun a j h => by rw [eig37]; exact (up2_a (by omega)).trans (oig a j h)
          refine lv_aload_n hx hb dX9_settle_63 rfl (lv_at hl 2 rfl) ?_
          refine r_get C hw (hsh 32 _ rfl) fl_X9_19 (oV_r rfl (hrs (32, 2, 33) (by decide))) dX9_settle_64 ?_
          refine lv_iload_n hx hb dX9_settle_67 rfl (lv_at hl 1 rfl) ?_
          refine lv_iconst (v := 3) hx hb dX9_settle_68 (by decide) (ti_c 3 (by decide) fun z38 hz38 => ?_)
          refine lv_imul hx hb dX9_settle_69 (ti_mulR 3 hz38 (by omega) fun z39 hz39 => ?_)
          refine lv_iconst (v := 1) hx hb dX9_settle_70 (by decide) (ti_c 1 (by decide) fun z40 hz40 => ?_)
          refine lv_iadd hx hb dX9_settle_71 (ti_add (by omega) fun z41 hz41 => ?_)
          refine lv_aload_n hx hb dX9_settle_72 rfl (lv_at hl 0 rfl) ?_
          refine r_get C hw (hsh 10 _ rfl) fl_X9_54 (oV_i rfl) dX9_settle_73 (ti_c (ig37 (B + 10) 4).toInt rfl fun z42 hz42 => ?_)
          have k43 : (ig37 (B + 10) (4)).toInt = 0 := z0 ((FS.off Fs oig (by decide)).bi (4))
          refine r_iast C hw (hsh 33 _ rfl) (by omega) (by omega) dX9_settle_76 (fun H locs hH hw => ?_)
          obtain ⟨ig44, eig44⟩ : ∃ f, f = up2 ig37 (B + 33) z41.toInt.toNat z42 := ⟨_, rfl⟩
          rw [← eig44] at hw
          have hsz := hH.trans hsz
          have oig : Off B 15 37 ig44 ig := fun a j h => by rw [eig44]; exact (up2_a (by omega)).trans (oig a j h)
          refine lv_aload_n hx hb dX9_settle_77 rfl (lv_at hl 2 rfl) ?_
          refine r_get C hw (hsh 32 _ rfl) fl_X9_19 (oV_r rfl (hrs (32, 2, 33) (by decide))) dX9_settle_78 ?_
          refine lv_iload_n hx hb dX9_settle_81 rfl (lv_at hl 1 rfl) ?_
          refine lv_iconst (v := 3) hx hb dX9_settle_82 (by decide) (ti_c 3 (by decide) fun z45 hz45 => ?_)
          refine lv_imul hx hb dX9_settle_83 (ti_mulR 3 hz45 (by omega) fun z46 hz46 => ?_)
          refine lv_iconst (v := 2) hx hb dX9_settle_84 (by decide) (ti_c 2 (by decide) fun z47 hz47 => ?_)
          refine lv_iadd hx hb dX9_settle_85 (ti_add (by omega) fun z48 hz48 => ?_)
          refine lv_aload_n hx hb dX9_settle_86 rfl (lv_at hl 0 rfl) ?_
          refine r_get C hw (hsh 10 _ rfl) fl_X9_57 (oV_i rfl) dX9_settle_87 (ti_c (ig44 (B + 10) 5).toInt rfl fun z49 hz49 => ?_)
          have k50 : (ig44 (B + 10) (5)).toInt = 0 := z0 ((FS.off Fs oig (by decide)).bi (5))
          refine r_iast C hw (hsh 33 _ rfl) (by omega) (by omega) dX9_settle_90 (fun H locs hH hw => ?_)
          obtain ⟨ig51, eig51⟩ : ∃ f, f = up2 ig44 (B + 33) z48.toInt.toNat z49 := ⟨_, rfl⟩
          rw [← eig51] at hw
          have hsz := hH.trans hsz
          have oig : Off B 15 37 ig51 ig := fun a j h => by rw [eig51]; exact (up2_a (by omega)).trans (oig a j h)
          refine lv_aload_n hx hb dX9_settle_91 rfl (lv_at hl 2 rfl) ?_
          refine r_get C hw (hsh 32 _ rfl) fl_X9_23 (oV_r rfl (hrs (32, 3, 34) (by decide))) dX9_settle_92 ?_
          refine lv_iload_n hx hb dX9_settle_95 rfl (lv_at hl 1 rfl) ?_
          refine lv_iconst (v := 0) hx hb dX9_settle_96 (by decide) (ti_c 0 (by decide) fun z52 hz52 => ?_)
          refine r_zast C hw (hsh 34 _ rfl) (by omega) (by omega) (nar_b (by omega)) dX9_settle_97 (fun H locs hH hw => ?_)
          obtain ⟨ig53, eig53⟩ : ∃ f, f = up2 ig51 (B + 34) v16.toInt.toNat z52 := ⟨_, rfl⟩
          rw [← eig53] at hw
          have hsz := hH.trans hsz
          have oig : Off B 15 37 ig53 ig := fun a j h => by rw [eig53]; exact (up2_a (by omega)).trans (oig a j h)
          refine ti_inc hx hb dX9_settle_98 hl (k := 1) rfl (by decide) (by decide) (by omega) (fun z54 hz54 ls hl => ?_)
          have hl : lv_has ls 4 [(1, .int z54), (2, .ref (B + 10)), (0, .ref (B + 32))] := hl
          refine lv_goto (tgt := 35) hx hb dX9_settle_101 (by decide) ?_
          exact ih ls H locs ig53 z54 (lv_sub hl [0, 2] rfl) hw hsz (by omega) (by omega) (by intro j hj; rw [eig53, up2_a (by omega), eig51, eig44, eig37]; exact fill3 g35_2 (by omega) (by omega) (by omega) (by omega) (eq0 (by omega)) (eq0 (by omega)) (eq0 (by omega)) j (by omega)) (by rw [eig53, up2_a (by omega), eig51, up2_a (by omega), eig44, up2_a (by omega), eig37, up2_a (by omega)]; exact hfc) (by rw [eig53, up2_a (by omega), eig51, up2_a (by omega), eig44, up2_a (by omega), eig37, up2_a (by omega)]; exact hfo) oig (by omega)
    exact L35 ((288 - z15.toInt) + 1).toNat ls H locs ig10 z15 (lv_sub hl [0, 1] rfl) hw hsz (by omega) (by omega) (fun j hj => absurd hj (by omega)) (hfc) (hfo) oig (by omega)
  · exact absurd c11 (by omega)

set_option maxHeartbeats 4000000 in
set_option maxRecDepth 100000 in
theorem t_X9_exponentAt (l : Launch) (B : Nat) (D : va_G) (cA : Nat → ClassId) (kd : sK) (ig : sI) (rg : sR) (lg : sG) (sz : Nat) (x y : Int32) (hsh : Sh B kd) (hrs : Rs B rg) (hf : ∀ j : Nat, j < 864 → ig (B + 33) j = 0) : MC l B D cA yX9_exponentAt cX9_exponentAt 3 (some .int) (rL 1 0 0) [.ref (B + 32), .int x, .int y] kd ig rg lg sz (Pu kd ig rg lg sz (fun r => ∃ z : Int32, r = some (.int z) ∧ z.toInt = 0)) := by
  refine MC.of (own := RX9) (by decide +kernel) rfl (Nat.le_of_ble_eq_true rfl) ?_
  intro p e s m args below meth c ls C hr hlk hnm hw hsz hl
  have hx := C.1.1
  have hb := C.1.2.1
  have hown := C.1.2.2.2.1
  have hts := C.1.2.2.2.2
  have hl : lv_has ls 3 [(0, .ref (B + 32)), (1, .int x), (2, .int y)] := hl
  refine lv_iload_n hx hb dX9_exponentAt_0 rfl (lv_at hl 1 rfl) ?_
  refine r_callN (As := [.int x]) (rest := []) C hw (t_X11_onSheet l B D cA kd ig rg lg _ x) sn_X9_72 rfl hl.1 rfl (Nat.le_of_ble_eq_true rfl) ⟨Nat.le_of_ble_eq_true rfl, Nat.le_of_ble_eq_true rfl⟩ ⟨Nat.le_of_ble_eq_true rfl, Nat.le_of_ble_eq_true rfl⟩ dX9_exponentAt_1 (fun r6 kd2 ig3 rg4 lg5 H locs hw hH hp7 => ?_)
  obtain ⟨rfl, rfl, rfl, rfl, hzz1, z1, rfl, hz1⟩ := hp7
  have hsz := hzz1.trans hsz
  refine z_eq (tgt := 29) hx hb dX9_exponentAt_4 (by decide) (fun c4 => ?_) (fun c4 => ?_)
  · refine lv_iconst (v := 0) hx hb dX9_exponentAt_29 (by decide) (ti_c 0 (by decide) fun z8 hz8 => ?_)
    exact r_iret C hw hr hlk rfl (Nat.le_of_ble_eq_true rfl) (Nat.le_of_ble_eq_true rfl) dX9_exponentAt_30 ⟨rfl, rfl, rfl, rfl, hsz, _, rfl, by omega⟩
  · refine lv_iload_n hx hb dX9_exponentAt_7 rfl (lv_at hl 2 rfl) ?_
    refine z_lt (tgt := 29) hx hb dX9_exponentAt_8 (by decide) (fun c8 => ?_) (fun c8 => ?_)
    · refine lv_iconst (v := 0) hx hb dX9_exponentAt_29 (by decide) (ti_c 0 (by decide) fun z9 hz9 => ?_)
      exact r_iret C hw hr hlk rfl (Nat.le_of_ble_eq_true rfl) (Nat.le_of_ble_eq_true rfl) dX9_exponentAt_30 ⟨rfl, rfl, rfl, rfl, hsz, _, rfl, by omega⟩
    · refine lv_iload_n hx hb dX9_exponentAt_11 rfl (lv_at hl 2 rfl) ?_
      refine lv_iconst (v := 3) hx hb dX9_exponentAt_12 (by decide) (ti_c 3 (by decide) fun z10 hz10 => ?_)
      refine b_ge (tgt := 29) hx hb dX9_exponentAt_13 (by decide) (fun c13 => ?_) (fun c13 => ?_)
      · refine lv_iconst (v := 0) hx hb dX9_exponentAt_29 (by decide) (ti_c 0 (by decide) fun z11 hz11 => ?_)
        exact r_iret C hw hr hlk rfl (Nat.le_of_ble_eq_true rfl) (Nat.le_of_ble_eq_true rfl) dX9_exponentAt_30 ⟨rfl, rfl, rfl, rfl, hsz, _, rfl, by omega⟩
      · refine lv_aload_n hx hb dX9_exponentAt_16 rfl (lv_at hl 0 rfl) ?_
        refine r_get C hw (hsh 32 _ rfl) fl_X9_19 (oV_r rfl (hrs (32, 2, 33) (by decide))) dX9_exponentAt_17 ?_
        refine lv_iload_n hx hb dX9_exponentAt_20 rfl (lv_at hl 1 rfl) ?_
        refine lv_iconst (v := 3) hx hb dX9_exponentAt_21 (by decide) (ti_c 3 (by decide) fun z12 hz12 => ?_)
        refine lv_imul hx hb dX9_exponentAt_22 (ti_mulR 3 hz12 (by omega) fun z13 hz13 => ?_)
        refine lv_iload_n hx hb dX9_exponentAt_23 rfl (lv_at hl 2 rfl) ?_
        refine lv_iadd hx hb dX9_exponentAt_24 (ti_add (by omega) fun z14 hz14 => ?_)
        refine r_iald C hw (hsh 33 _ rfl) (by omega) (by omega) dX9_exponentAt_25 (ti_c (ig (B + 33) z14.toInt.toNat).toInt rfl fun z15 hz15 => ?_)
        have k := z0 (hf (z14.toInt.toNat) (by omega))
        refine lv_goto (tgt := 30) hx hb dX9_exponentAt_26 (by decide) ?_
        exact r_iret C hw hr hlk rfl (Nat.le_of_ble_eq_true rfl) (Nat.le_of_ble_eq_true rfl) dX9_exponentAt_30 ⟨rfl, rfl, rfl, rfl, hsz, _, rfl, by omega⟩

set_option maxHeartbeats 4000000 in
set_option maxRecDepth 100000 in
theorem t_X8_settle (l : Launch) (B : Nat) (D : va_G) (cA : Nat → ClassId) (kd : sK) (ig : sI) (rg : sR) (lg : sG) (sz : Nat) (F : FS B kd ig rg) (hv : ig (B + 37) 7 = -1) (hfc : ig (B + 15) 2 = 0) (hfo : ig (B + 15) 9 = 0) : MC l B D cA yX8_settle cX8_settle 3 none (rL 4 0 0) [.ref (B + 37)] kd ig rg lg sz (fun r kd' ig' rg' lg' n => kd = kd' ∧ rg = rg' ∧ Off B 17 18 lg' lg ∧ n = sz ∧ (r = none) ∧ Off B 15 43 ig' ig ∧ ig' (B + 15) 2 = 0 ∧ ig' (B + 15) 9 = 0 ∧ (∀ j : Nat, j < 288 → ig' (B + 38) j = 0)) := by
  refine MC.of (own := RX8) (by decide +kernel) rfl (Nat.le_of_ble_eq_true rfl) ?_
  intro p e s m args below meth c ls C hr hlk hnm hw hsz hl
  have hx := C.1.1
  have hb := C.1.2.1
  have hown := C.1.2.2.2.1
  have hts := C.1.2.2.2.2
  have hl : lv_has ls 3 [(0, .ref (B + 37))] := hl
  have Fs := F
  obtain ⟨hsh, hrs, hce, hbf, hbi, hsi, hke⟩ := F
  have oig : Off B 15 43 ig ig := Off.rf
  have olg : Off B 17 18 lg lg := Off.rf
  refine lv_aload_n hx hb dX8_settle_0 rfl (lv_at hl 0 rfl) ?_
  refine r_get C hw (hsh 37 _ rfl) fl_X8_37 (oV_i rfl) dX8_settle_1 (ti_c (ig (B + 37) 7).toInt rfl fun z1 hz1 => ?_)
  have k2 : (ig (B + 37) (7)).toInt = -1 := by exact zm1 (hv)
  refine lv_aload_n hx hb dX8_settle_4 rfl (lv_at hl 0 rfl) ?_
  refine r_get C hw (hsh 37 _ rfl) fl_X8_9 (oV_r rfl (hrs (37, 0, 9) (by decide))) dX8_settle_5 ?_
  refine r_get C hw (hsh 9 _ rfl) fl_X8_41 (oV_i rfl) dX8_settle_8 (ti_c (ig (B + 9) 6).toInt rfl fun z3 hz3 => ?_)
  have k4 : (ig (B + 9) (6)).toInt = 0 := z0 (Fs.si (6))
  refine b_ne (tgt := 15) hx hb dX8_settle_11 (by decide) (fun c11 => ?_) (fun c11 => ?_)
  · refine lv_aload_n hx hb dX8_settle_15 rfl (lv_at hl 0 rfl) ?_
    refine lv_aload_n hx hb dX8_settle_16 rfl (lv_at hl 0 rfl) ?_
    refine r_get C hw (hsh 37 _ rfl) fl_X8_9 (oV_r rfl (hrs (37, 0, 9) (by decide))) dX8_settle_17 ?_
    refine r_get C hw (hsh 9 _ rfl) fl_X8_41 (oV_i rfl) dX8_settle_20 (ti_c (ig (B + 9) 6).toInt rfl fun z5 hz5 => ?_)
    have k6 : (ig (B + 9) (6)).toInt = 0 := z0 (Fs.si (6))
    refine r_puti C hw (hsh 37 _ rfl) fl_X8_37 rfl rfl rfl dX8_settle_23 (fun H locs hH hw => ?_)
    obtain ⟨ig7, eig7⟩ : ∃ f, f = up2 ig (B + 37) 7 z5 := ⟨_, rfl⟩
    rw [← eig7] at hw
    have hsz := hH.trans hsz
    have oig : Off B 15 43 ig7 ig := fun a j h => by rw [eig7]; exact (up2_a (by omega)).trans (oig a j h)
    refine lv_aload_n hx hb dX8_settle_26 rfl (lv_at hl 0 rfl) ?_
    refine r_get C hw (hsh 37 _ rfl) fl_X8_15 (oV_r rfl (hrs (37, 1, 15) (by decide))) dX8_settle_27 ?_
    refine r_callV (As := []) (rest := []) C hw (t_X5_settle l B D cA kd ig7 rg lg _ (FS.off Fs oig (by decide)) (by rw [eig7, up2_a (by omega)]; exact hfc) (by rw [eig7, up2_a (by omega)]; exact hfo)) sv_X8_44 (hsh 15 _ rfl) rfl hl.1 rfl (Nat.le_of_ble_eq_true rfl) ⟨Nat.le_of_ble_eq_true rfl, Nat.le_of_ble_eq_true rfl⟩ ⟨Nat.le_of_ble_eq_true rfl, Nat.le_of_ble_eq_true rfl⟩ dX8_settle_30 (fun r13 kd9 ig10 rg11 lg12 H locs hw hH hp14 => ?_)
    obtain ⟨rfl, rfl, la8, hq8, rfl, oa8, hfc, hfo⟩ := hp14
    have hsz := hq8.trans hsz
    have oig := Off.tr (lo := 15) (hi := 43) oa8 oig (by decide) (by decide)
    have olg := Off.tr (lo := 17) (hi := 18) la8 olg (by decide) (by decide)
    refine lv_iconst (v := 0) hx hb dX8_settle_33 (by decide) (ti_c 0 (by decide) fun z15 hz15 => ?_)
    refine lv_istore_n (lv' := [(1, .int z15), (0, .ref (B + 37))]) hx hb dX8_settle_34 rfl hl (by decide) rfl (fun ls hl => ?_)
    have L35 : ∀ (n : Nat) (ls : Array Slot) (H : Heap) (locs : List Loc) (ig17 : sI) (v16 : Int32), lv_has ls 3 [(1, .int v16), (0, .ref (B + 37))] → WD B D cA s.heap kd ig17 rg lg12 H locs → H.size = sz → (0 ≤ v16.toInt) → (v16.toInt ≤ 288) → (∀ j : Nat, (j : Int) < v16.toInt → ig17 (B + 38) j = 0) → (ig17 (B + 15) 2 = 0) → (ig17 (B + 15) 9 = 0) → (Off B 15 43 ig17 ig) → 288 - v16.toInt < (n : Int) → W p l e (rL 4 0 0) s m args below meth c H locs 0 0 (MQ below (QcW B D cA (fun r kd' ig' rg' lg' n => kd = kd' ∧ rg = rg' ∧ Off B 17 18 lg' lg ∧ n = sz ∧ (r = none) ∧ Off B 15 43 ig' ig ∧ ig' (B + 15) 2 = 0 ∧ ig' (B + 15) 9 = 0 ∧ (∀ j : Nat, j < 288 → ig' (B + 38) j = 0))) args s 0 0 (fun q => B ≤ q)) (F0 m 35 ls []) := by
      intro n
      induction n with
      | zero => intro ls H locs ig17 v16 hl hw hsz g35_0 g35_1 g35_2 g35_3 g35_4 g35_5 hmu; exact absurd hmu (by omega)
      | succ n ih =>
        intro ls H locs ig17 v16 hl hw hsz g35_0 g35_1 g35_2 g35_3 g35_4 g35_5 hmu
        have oig := g35_5
        have hfc := g35_3
        have hfo := g35_4
        refine lv_iload_n hx hb dX8_settle_35 rfl (lv_at hl 0 rfl) ?_
        refine lv_sipush (v := 288) hx hb dX8_settle_36 (by decide) (ti_c 288 (by decide) fun z18 hz18 => ?_)
        refine b_ge (tgt := 90) hx hb dX8_settle_39 (by decide) (fun c39 => ?_) (fun c39 => ?_)
        · exact r_vret C hw hr hlk (Nat.le_of_ble_eq_true rfl) (Nat.le_of_ble_eq_true rfl) dX8_settle_90 ⟨rfl, rfl, olg, hsz, rfl, oig, hfc, hfo, fun j hj => g35_2 j (by omega)⟩
        · refine lv_aload_n hx hb dX8_settle_42 rfl (lv_at hl 1 rfl) ?_
          refine r_get C hw (hsh 37 _ rfl) fl_X8_9 (oV_r rfl (hrs (37, 0, 9) (by decide))) dX8_settle_43 ?_
          refine lv_iload_n hx hb dX8_settle_46 rfl (lv_at hl 0 rfl) ?_
          refine r_callV (As := [.int v16]) (rest := []) C hw (t_X6_formulaAt l B D cA kd ig17 rg lg12 _ v16 (FS.off Fs oig (by decide))) sv_X8_49 (hsh 9 _ rfl) rfl hl.1 rfl (Nat.le_of_ble_eq_true rfl) ⟨Nat.le_of_ble_eq_true rfl, Nat.le_of_ble_eq_true rfl⟩ ⟨Nat.le_of_ble_eq_true rfl, Nat.le_of_ble_eq_true rfl⟩ dX8_settle_47 (fun r23 kd19 ig20 rg21 lg22 H locs hw hH hp24 => ?_)
          obtain ⟨rfl, rfl, rfl, rfl, hzhp24, rfl⟩ := hp24
          have hsz := hzhp24.trans hsz
          refine lv_astore_nN (lv' := [(2, .null), (1, .int v16), (0, .ref (B + 37))]) hx hb dX8_settle_50 rfl hl (by decide) rfl (fun ls hl => ?_)
          refine lv_aload_n hx hb dX8_settle_51 rfl (lv_at hl 2 rfl) ?_
          refine r_get C hw (hsh 37 _ rfl) fl_X8_19 (oV_r rfl (hrs (37, 2, 38) (by decide))) dX8_settle_52 ?_
          refine lv_iload_n hx hb dX8_settle_55 rfl (lv_at hl 1 rfl) ?_
          refine lv_aload_nN hx hb dX8_settle_56 rfl (lv_at hl 0 rfl) ?_
          refine lv_ifnullN (tgt := 82) hx hb dX8_settle_57 (by decide) ?_
          refine lv_iconst (v := 0) hx hb dX8_settle_82 (by decide) (ti_c 0 (by decide) fun z25 hz25 => ?_)
          refine r_zast C hw (hsh 38 _ rfl) (by omega) (by omega) (nar_b (by omega)) dX8_settle_83 (fun H locs hH hw => ?_)
          obtain ⟨ig26, eig26⟩ : ∃ f, f = up2 ig17 (B + 38) v16.toInt.toNat z25 := ⟨_, rfl⟩
          rw [← eig26] at hw
          have hsz := hH.trans hsz
          have oig : Off B 15 43 ig26 ig := fun a j h => by rw [eig26]; exact (up2_a (by omega)).trans (oig a j h)
          refine ti_inc hx hb dX8_settle_84 hl (k := 1) rfl (by decide) (by decide) (by omega) (fun z27 hz27 ls hl => ?_)
          have hl : lv_has ls 3 [(1, .int z27), (2, .null), (0, .ref (B + 37))] := hl
          refine lv_goto (tgt := 35) hx hb dX8_settle_87 (by decide) ?_
          exact ih ls H locs ig26 z27 (lv_sub hl [0, 2] rfl) hw hsz (by omega) (by omega) (by intro j hj; rw [eig26]; exact fill1 g35_2 (by omega) (eq0 (by omega)) j (by omega)) (by rw [eig26, up2_a (by omega)]; exact hfc) (by rw [eig26, up2_a (by omega)]; exact hfo) oig (by omega)
    exact L35 ((288 - z15.toInt) + 1).toNat ls H locs ig10 z15 (lv_sub hl [0, 1] rfl) hw hsz (by omega) (by omega) (fun j hj => absurd hj (by omega)) (hfc) (hfo) oig (by omega)
  · exact absurd c11 (by omega)

set_option maxHeartbeats 4000000 in
set_option maxRecDepth 100000 in
theorem t_X8_isTotal (l : Launch) (B : Nat) (D : va_G) (cA : Nat → ClassId) (kd : sK) (ig : sI) (rg : sR) (lg : sG) (sz : Nat) (x : Int32) (hsh : Sh B kd) (hrs : Rs B rg) (hf : ∀ j : Nat, j < 288 → ig (B + 38) j = 0) : MC l B D cA yX8_isTotal cX8_isTotal 2 (some .boolean) (rL 1 0 0) [.ref (B + 37), .int x] kd ig rg lg sz (Pu kd ig rg lg sz (fun r => ∃ z : Int32, r = some (.int z) ∧ z.toInt = 0)) := by
  refine MC.of (own := RX8) (by decide +kernel) rfl (Nat.le_of_ble_eq_true rfl) ?_
  intro p e s m args below meth c ls C hr hlk hnm hw hsz hl
  have hx := C.1.1
  have hb := C.1.2.1
  have hown := C.1.2.2.2.1
  have hts := C.1.2.2.2.2
  have hl : lv_has ls 2 [(0, .ref (B + 37)), (1, .int x)] := hl
  refine lv_iload_n hx hb dX8_isTotal_0 rfl (lv_at hl 1 rfl) ?_
  refine r_callN (As := [.int x]) (rest := []) C hw (t_X11_onSheet l B D cA kd ig rg lg _ x) sn_X8_63 rfl hl.1 rfl (Nat.le_of_ble_eq_true rfl) ⟨Nat.le_of_ble_eq_true rfl, Nat.le_of_ble_eq_true rfl⟩ ⟨Nat.le_of_ble_eq_true rfl, Nat.le_of_ble_eq_true rfl⟩ dX8_isTotal_1 (fun r6 kd2 ig3 rg4 lg5 H locs hw hH hp7 => ?_)
  obtain ⟨rfl, rfl, rfl, rfl, hzz1, z1, rfl, hz1⟩ := hp7
  have hsz := hzz1.trans hsz
  refine z_eq (tgt := 20) hx hb dX8_isTotal_4 (by decide) (fun c4 => ?_) (fun c4 => ?_)
  · refine lv_iconst (v := 0) hx hb dX8_isTotal_20 (by decide) (ti_c 0 (by decide) fun z8 hz8 => ?_)
    exact r_iret C hw hr hlk (nar_b (by omega)) (Nat.le_of_ble_eq_true rfl) (Nat.le_of_ble_eq_true rfl) dX8_isTotal_21 ⟨rfl, rfl, rfl, rfl, hsz, _, rfl, by omega⟩
  · refine lv_aload_n hx hb dX8_isTotal_7 rfl (lv_at hl 0 rfl) ?_
    refine r_get C hw (hsh 37 _ rfl) fl_X8_19 (oV_r rfl (hrs (37, 2, 38) (by decide))) dX8_isTotal_8 ?_
    refine lv_iload_n hx hb dX8_isTotal_11 rfl (lv_at hl 1 rfl) ?_
    refine r_zald C hw (hsh 38 _ rfl) (by omega) (by omega) dX8_isTotal_12 (ti_c (ig (B + 38) x.toInt.toNat).toInt rfl fun z9 hz9 => ?_)
    have k := z0 (hf (x.toInt.toNat) (by omega))
    refine z_eq (tgt := 20) hx hb dX8_isTotal_13 (by decide) (fun c13 => ?_) (fun c13 => ?_)
    · refine lv_iconst (v := 0) hx hb dX8_isTotal_20 (by decide) (ti_c 0 (by decide) fun z10 hz10 => ?_)
      exact r_iret C hw hr hlk (nar_b (by omega)) (Nat.le_of_ble_eq_true rfl) (Nat.le_of_ble_eq_true rfl) dX8_isTotal_21 ⟨rfl, rfl, rfl, rfl, hsz, _, rfl, by omega⟩
    · exact absurd c13 (by omega)

set_option maxHeartbeats 4000000 in
set_option maxRecDepth 100000 in
theorem t_X8_gatherTwice (l : Launch) (B : Nat) (D : va_G) (cA : Nat → ClassId) (kd : sK) (ig : sI) (rg : sR) (lg : sG) (sz : Nat) (hsh : Sh B kd) (hrs : Rs B rg) (hfo : ig (B + 15) 9 = 0) : MC l B D cA yX8_gatherTwice cX8_gatherTwice 4 none (rL 1 0 0) [.ref (B + 37)] kd ig rg lg sz (Pu kd ig rg lg sz (fun r => r = none)) := by
  refine MC.of (own := RX8) (by decide +kernel) rfl (Nat.le_of_ble_eq_true rfl) ?_
  intro p e s m args below meth c ls C hr hlk hnm hw hsz hl
  have hx := C.1.1
  have hb := C.1.2.1
  have hown := C.1.2.2.2.1
  have hts := C.1.2.2.2.2
  have hl : lv_has ls 4 [(0, .ref (B + 37))] := hl
  refine lv_iconst (v := 0) hx hb dX8_gatherTwice_0 (by decide) (ti_c 0 (by decide) fun z1 hz1 => ?_)
  refine lv_istore_n (lv' := [(1, .int z1), (0, .ref (B + 37))]) hx hb dX8_gatherTwice_1 rfl hl (by decide) rfl (fun ls hl => ?_)
  refine lv_iload_n hx hb dX8_gatherTwice_2 rfl (lv_at hl 0 rfl) ?_
  refine lv_aload_n hx hb dX8_gatherTwice_3 rfl (lv_at hl 1 rfl) ?_
  refine r_get C hw (hsh 37 _ rfl) fl_X8_15 (oV_r rfl (hrs (37, 1, 15) (by decide))) dX8_gatherTwice_4 ?_
  refine r_callV (As := []) (rest := [.int z1]) C hw (t_X5_orderSize l B D cA kd ig rg lg _ hsh hfo) sv_X8_73 (hsh 15 _ rfl) rfl hl.1 rfl (Nat.le_of_ble_eq_true rfl) ⟨Nat.le_of_ble_eq_true rfl, Nat.le_of_ble_eq_true rfl⟩ ⟨Nat.le_of_ble_eq_true rfl, Nat.le_of_ble_eq_true rfl⟩ dX8_gatherTwice_7 (fun r7 kd3 ig4 rg5 lg6 H locs hw hH hp8 => ?_)
  obtain ⟨rfl, rfl, rfl, rfl, hzz2, z2, rfl, hz2⟩ := hp8
  have hsz := hzz2.trans hsz
  refine b_ge (tgt := 60) hx hb dX8_gatherTwice_10 (by decide) (fun c10 => ?_) (fun c10 => ?_)
  · exact r_vret C hw hr hlk (Nat.le_of_ble_eq_true rfl) (Nat.le_of_ble_eq_true rfl) dX8_gatherTwice_60 ⟨rfl, rfl, rfl, rfl, hsz, rfl⟩
  · exact absurd c10 (by omega)

set_option maxHeartbeats 4000000 in
set_option maxRecDepth 100000 in
theorem t_X3_gather (l : Launch) (B : Nat) (D : va_G) (cA : Nat → ClassId) (kd : sK) (ig : sI) (rg : sR) (lg : sG) (sz : Nat) (F : FS B kd ig rg) (hfo : ig (B + 15) 9 = 0) : MC l B D cA yX3_gather cX3_gather 2 (some .int) (rL 3 0 0) [.ref (B + 43)] kd ig rg lg sz (fun r kd' ig' rg' lg' n => kd = kd' ∧ rg = rg' ∧ lg = lg' ∧ n = sz ∧ (∃ z : Int32, r = some (.int z) ∧ z.toInt = 0) ∧ Off B 43 45 ig' ig) := by
  refine MC.of (own := RX3) (by decide +kernel) rfl (Nat.le_of_ble_eq_true rfl) ?_
  intro p e s m args below meth c ls C hr hlk hnm hw hsz hl
  have hx := C.1.1
  have hb := C.1.2.1
  have hown := C.1.2.2.2.1
  have hts := C.1.2.2.2.2
  have hl : lv_has ls 2 [(0, .ref (B + 43))] := hl
  have Fs := F
  obtain ⟨hsh, hrs, hce, hbf, hbi, hsi, hke⟩ := F
  have oig : Off B 43 45 ig ig := Off.rf
  refine lv_aload_n hx hb dX3_gather_0 rfl (lv_at hl 0 rfl) ?_
  refine lv_iconst (v := 0) hx hb dX3_gather_1 (by decide) (ti_c 0 (by decide) fun z1 hz1 => ?_)
  refine r_puti C hw (hsh 43 _ rfl) fl_X3_35 rfl rfl rfl dX3_gather_2 (fun H locs hH hw => ?_)
  obtain ⟨ig2, eig2⟩ : ∃ f, f = up2 ig (B + 43) 6 z1 := ⟨_, rfl⟩
  rw [← eig2] at hw
  have hsz := hH.trans hsz
  have oig : Off B 43 45 ig2 ig := fun a j h => by rw [eig2]; exact (up2_a (by omega)).trans (oig a j h)
  refine lv_aload_n hx hb dX3_gather_5 rfl (lv_at hl 0 rfl) ?_
  refine r_get C hw (hsh 43 _ rfl) fl_X3_27 (oV_r rfl (hrs (43, 4, 37) (by decide))) dX3_gather_6 ?_
  refine r_callV (As := []) (rest := []) C hw (t_X8_gatherTwice l B D cA kd ig2 rg lg _ hsh hrs (by rw [eig2, up2_a (by omega)]; exact hfo)) sv_X3_39 (hsh 37 _ rfl) rfl hl.1 rfl (Nat.le_of_ble_eq_true rfl) ⟨Nat.le_of_ble_eq_true rfl, Nat.le_of_ble_eq_true rfl⟩ ⟨Nat.le_of_ble_eq_true rfl, Nat.le_of_ble_eq_true rfl⟩ dX3_gather_9 (fun r7 kd3 ig4 rg5 lg6 H locs hw hH hp8 => ?_)
  obtain ⟨rfl, rfl, rfl, rfl, hzhp8, rfl⟩ := hp8
  have hsz := hzhp8.trans hsz
  refine lv_iconst (v := 0) hx hb dX3_gather_12 (by decide) (ti_c 0 (by decide) fun z9 hz9 => ?_)
  refine lv_istore_n (lv' := [(1, .int z9), (0, .ref (B + 43))]) hx hb dX3_gather_13 rfl hl (by decide) rfl (fun ls hl => ?_)
  have L14 : ∀ (n : Nat) (ls : Array Slot) (H : Heap) (locs : List Loc) (v10 : Int32), lv_has ls 2 [(1, .int v10), (0, .ref (B + 43))] → WD B D cA s.heap kd ig2 rg lg H locs → H.size = sz → (0 ≤ v10.toInt) → (v10.toInt ≤ 288) → 288 - v10.toInt < (n : Int) → W p l e (rL 3 0 0) s m args below meth c H locs 0 0 (MQ below (QcW B D cA (fun r kd' ig' rg' lg' n => kd = kd' ∧ rg = rg' ∧ lg = lg' ∧ n = sz ∧ (∃ z : Int32, r = some (.int z) ∧ z.toInt = 0) ∧ Off B 43 45 ig' ig)) args s 0 0 (fun q => B ≤ q)) (F0 m 14 ls []) := by
    intro n
    induction n with
    | zero => intro ls H locs v10 hl hw hsz g14_0 g14_1 hmu; exact absurd hmu (by omega)
    | succ n ih =>
      intro ls H locs v10 hl hw hsz g14_0 g14_1 hmu
      refine lv_iload_n hx hb dX3_gather_14 rfl (lv_at hl 0 rfl) ?_
      refine lv_sipush (v := 288) hx hb dX3_gather_15 (by decide) (ti_c 288 (by decide) fun z11 hz11 => ?_)
      refine b_ge (tgt := 43) hx hb dX3_gather_18 (by decide) (fun c18 => ?_) (fun c18 => ?_)
      · refine lv_aload_n hx hb dX3_gather_43 rfl (lv_at hl 1 rfl) ?_
        refine r_get C hw (hsh 43 _ rfl) fl_X3_35 (oV_i rfl) dX3_gather_44 (ti_c (ig2 (B + 43) 6).toInt rfl fun z12 hz12 => ?_)
        have k13 : (ig2 (B + 43) (6)).toInt = z1.toInt := by rw [eig2, up2_eq]
        exact r_iret C hw hr hlk rfl (Nat.le_of_ble_eq_true rfl) (Nat.le_of_ble_eq_true rfl) dX3_gather_47 ⟨rfl, rfl, rfl, hsz, ⟨_, rfl, by omega⟩, oig⟩
      · refine lv_aload_n hx hb dX3_gather_21 rfl (lv_at hl 1 rfl) ?_
        refine r_get C hw (hsh 43 _ rfl) fl_X3_9 (oV_r rfl (hrs (43, 0, 9) (by decide))) dX3_gather_22 ?_
        refine lv_iload_n hx hb dX3_gather_25 rfl (lv_at hl 0 rfl) ?_
        refine r_callV (As := [.int v10]) (rest := []) C hw (t_X6_kindAt l B D cA kd ig2 rg lg _ v10 (FS.off Fs oig (by decide))) sv_X3_44 (hsh 9 _ rfl) rfl hl.1 rfl (Nat.le_of_ble_eq_true rfl) ⟨Nat.le_of_ble_eq_true rfl, Nat.le_of_ble_eq_true rfl⟩ ⟨Nat.le_of_ble_eq_true rfl, Nat.le_of_ble_eq_true rfl⟩ dX3_gather_26 (fun r19 kd15 ig16 rg17 lg18 H locs hw hH hp20 => ?_)
        obtain ⟨rfl, rfl, rfl, rfl, hzz14, z14, rfl, hz14⟩ := hp20
        have hsz := hzz14.trans hsz
        refine z_eq (tgt := 37) hx hb dX3_gather_29 (by decide) (fun c29 => ?_) (fun c29 => ?_)
        · refine ti_inc hx hb dX3_gather_37 hl (k := 0) rfl (by decide) (by decide) (by omega) (fun z21 hz21 ls hl => ?_)
          have hl : lv_has ls 2 [(1, .int z21), (0, .ref (B + 43))] := hl
          refine lv_goto (tgt := 14) hx hb dX3_gather_40 (by decide) ?_
          exact ih ls H locs z21 (lv_sub hl [0, 1] rfl) hw hsz (by omega) (by omega) (by omega)
        · exact absurd c29 (by omega)
  exact L14 ((288 - z9.toInt) + 1).toNat ls H locs z9 (lv_sub hl [0, 1] rfl) hw hsz (by omega) (by omega) (by omega)

set_option maxHeartbeats 4000000 in
set_option maxRecDepth 100000 in
theorem t_X3_tell (l : Launch) (B : Nat) (D : va_G) (cA : Nat → ClassId) (kd : sK) (ig : sI) (rg : sR) (lg : sG) (sz : Nat) (x y : Int32) (hsh : Sh B kd) (hf : ig (B + 43) 6 = 0) : MC l B D cA yX3_tell cX3_tell 3 (some .int) (rL 0 0 0) [.ref (B + 43), .int x, .int y] kd ig rg lg sz (Pu kd ig rg lg sz (fun r => ∃ z : Int32, r = some (.int z) ∧ z.toInt = -1)) := by
  refine MC.of (own := RX3) (by decide +kernel) rfl (Nat.le_of_ble_eq_true rfl) ?_
  intro p e s m args below meth c ls C hr hlk hnm hw hsz hl
  have hx := C.1.1
  have hb := C.1.2.1
  have hown := C.1.2.2.2.1
  have hts := C.1.2.2.2.2
  have hl : lv_has ls 3 [(0, .ref (B + 43)), (1, .int x), (2, .int y)] := hl
  refine lv_iload_n hx hb dX3_tell_0 rfl (lv_at hl 1 rfl) ?_
  refine z_lt (tgt := 28) hx hb dX3_tell_1 (by decide) (fun c1 => ?_) (fun c1 => ?_)
  · refine lv_iconst (v := (-1)) hx hb dX3_tell_28 (by decide) (ti_c (-1) (by decide) fun z1 hz1 => ?_)
    exact r_iret C hw hr hlk rfl (Nat.le_of_ble_eq_true rfl) (Nat.le_of_ble_eq_true rfl) dX3_tell_29 ⟨rfl, rfl, rfl, rfl, hsz, _, rfl, by omega⟩
  · refine lv_iload_n hx hb dX3_tell_4 rfl (lv_at hl 1 rfl) ?_
    refine lv_aload_n hx hb dX3_tell_5 rfl (lv_at hl 0 rfl) ?_
    refine r_get C hw (hsh 43 _ rfl) fl_X3_35 (oV_i rfl) dX3_tell_6 (ti_c (ig (B + 43) 6).toInt rfl fun z2 hz2 => ?_)
    have k3 : (ig (B + 43) (6)).toInt = 0 := by exact z0 (hf)
    refine b_ge (tgt := 28) hx hb dX3_tell_9 (by decide) (fun c9 => ?_) (fun c9 => ?_)
    · refine lv_iconst (v := (-1)) hx hb dX3_tell_28 (by decide) (ti_c (-1) (by decide) fun z4 hz4 => ?_)
      exact r_iret C hw hr hlk rfl (Nat.le_of_ble_eq_true rfl) (Nat.le_of_ble_eq_true rfl) dX3_tell_29 ⟨rfl, rfl, rfl, rfl, hsz, _, rfl, by omega⟩
    · exact absurd c9 (by omega)

set_option maxHeartbeats 4000000 in
set_option maxRecDepth 100000 in
theorem t_X1_tell (l : Launch) (B : Nat) (D : va_G) (cA : Nat → ClassId) (kd : sK) (ig : sI) (rg : sR) (lg : sG) (sz : Nat) (x y : Int32) (hsh : Sh B kd) (hf : ig (B + 45) 4 = 0) : MC l B D cA yX1_tell cX1_tell 3 (some .int) (rL 0 0 0) [.ref (B + 45), .int x, .int y] kd ig rg lg sz (Pu kd ig rg lg sz (fun r => ∃ z : Int32, r = some (.int z) ∧ z.toInt = -1)) := by
  refine MC.of (own := RX1) (by decide +kernel) rfl (Nat.le_of_ble_eq_true rfl) ?_
  intro p e s m args below meth c ls C hr hlk hnm hw hsz hl
  have hx := C.1.1
  have hb := C.1.2.1
  have hown := C.1.2.2.2.1
  have hts := C.1.2.2.2.2
  have hl : lv_has ls 3 [(0, .ref (B + 45)), (1, .int x), (2, .int y)] := hl
  refine lv_iload_n hx hb dX1_tell_0 rfl (lv_at hl 1 rfl) ?_
  refine z_lt (tgt := 28) hx hb dX1_tell_1 (by decide) (fun c1 => ?_) (fun c1 => ?_)
  · refine lv_iconst (v := (-1)) hx hb dX1_tell_28 (by decide) (ti_c (-1) (by decide) fun z1 hz1 => ?_)
    exact r_iret C hw hr hlk rfl (Nat.le_of_ble_eq_true rfl) (Nat.le_of_ble_eq_true rfl) dX1_tell_29 ⟨rfl, rfl, rfl, rfl, hsz, _, rfl, by omega⟩
  · refine lv_iload_n hx hb dX1_tell_4 rfl (lv_at hl 1 rfl) ?_
    refine lv_aload_n hx hb dX1_tell_5 rfl (lv_at hl 0 rfl) ?_
    refine r_get C hw (hsh 45 _ rfl) fl_X1_25 (oV_i rfl) dX1_tell_6 (ti_c (ig (B + 45) 4).toInt rfl fun z2 hz2 => ?_)
    have k3 : (ig (B + 45) (4)).toInt = 0 := by exact z0 (hf)
    refine b_ge (tgt := 28) hx hb dX1_tell_9 (by decide) (fun c9 => ?_) (fun c9 => ?_)
    · refine lv_iconst (v := (-1)) hx hb dX1_tell_28 (by decide) (ti_c (-1) (by decide) fun z4 hz4 => ?_)
      exact r_iret C hw hr hlk rfl (Nat.le_of_ble_eq_true rfl) (Nat.le_of_ble_eq_true rfl) dX1_tell_29 ⟨rfl, rfl, rfl, rfl, hsz, _, rfl, by omega⟩
    · exact absurd c9 (by omega)

set_option maxHeartbeats 4000000 in
set_option maxRecDepth 100000 in
theorem t_X1_forget (l : Launch) (B : Nat) (D : va_G) (cA : Nat → ClassId) (kd : sK) (ig : sI) (rg : sR) (lg : sG) (sz : Nat) (hsh : Sh B kd) : MC l B D cA yX1_forget cX1_forget 1 none (rL 0 0 0) [.ref (B + 45)] kd ig rg lg sz (fun r kd' ig' rg' lg' n => kd = kd' ∧ rg = rg' ∧ lg = lg' ∧ n = sz ∧ (r = none) ∧ Off B 45 49 ig' ig) := by
  refine MC.of (own := RX1) (by decide +kernel) rfl (Nat.le_of_ble_eq_true rfl) ?_
  intro p e s m args below meth c ls C hr hlk hnm hw hsz hl
  have hx := C.1.1
  have hb := C.1.2.1
  have hown := C.1.2.2.2.1
  have hts := C.1.2.2.2.2
  have hl : lv_has ls 1 [(0, .ref (B + 45))] := hl
  have oig : Off B 45 49 ig ig := Off.rf
  refine lv_aload_n hx hb dX1_forget_0 rfl (lv_at hl 0 rfl) ?_
  refine lv_iconst (v := 0) hx hb dX1_forget_1 (by decide) (ti_c 0 (by decide) fun z1 hz1 => ?_)
  refine r_puti C hw (hsh 45 _ rfl) fl_X1_25 rfl rfl rfl dX1_forget_2 (fun H locs hH hw => ?_)
  obtain ⟨ig2, eig2⟩ : ∃ f, f = up2 ig (B + 45) 4 z1 := ⟨_, rfl⟩
  rw [← eig2] at hw
  have hsz := hH.trans hsz
  have oig : Off B 45 49 ig2 ig := fun a j h => by rw [eig2]; exact (up2_a (by omega)).trans (oig a j h)
  exact r_vret C hw hr hlk (Nat.le_of_ble_eq_true rfl) (Nat.le_of_ble_eq_true rfl) dX1_forget_5 ⟨rfl, rfl, rfl, hsz, rfl, oig⟩
