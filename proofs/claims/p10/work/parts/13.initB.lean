set_option maxHeartbeats 4000000 in
set_option maxRecDepth 100000 in
theorem t_X0_initB (l : Launch) (B : Nat) (D : va_G) (cA : Nat → ClassId) (kd : sK) (ig : sI) (rg : sR) (lg : sG) (sz : Nat) (q : Nat) (x y : Int32) (hq : kd q = some (0, 0)) (hx0 : x.toInt = 0) (hy0 : y.toInt = 0) : MC l B D cA yX0_init cX0_init 4 none (rL 1 0 0) [.ref q, .int x, .int y, .null] kd ig rg lg sz (fun r kd' ig' rg' lg' n => kd = kd' ∧ lg = lg' ∧ n = sz ∧ r = none ∧ (∀ a j, a ≠ q → ig' a j = ig a j) ∧ (∀ a j, a ≠ q → rg' a j = rg a j) ∧ ((∀ j, ig q j = 0) → ∀ j, ig' q j = 0) ∧ rg' q 2 = none) := by
  refine MC.of (own := RX0) (by decide +kernel) rfl (Nat.le_of_ble_eq_true rfl) ?_
  intro p e s m args below meth c ls C hr hlk hnm hw hsz hl
  have hx := C.1.1
  have hb := C.1.2.1
  have hown := C.1.2.2.2.1
  have hts := C.1.2.2.2.2
  have hl : lv_has ls 4 [(0, .ref q), (1, .int x), (2, .int y), (3, .null)] := hl
  refine lv_aload_n hx hb dX0_init_0 rfl (lv_at hl 0 rfl) ?_
  refine r_obj C ol_X0_3 oi_i oi_c hl.1 (by decide) (by decide) dX0_init_1 ?_
  refine lv_aload_n hx hb dX0_init_4 rfl (lv_at hl 0 rfl) ?_
  refine lv_iload_n hx hb dX0_init_5 rfl (lv_at hl 1 rfl) ?_
  refine r_putiF C hw hnm rfl hq fl_X0_9 rfl rfl rfl dX0_init_6 (fun H locs hH hw => ?_)
  obtain ⟨ig1, eig1⟩ : ∃ f, f = up2 ig q 0 x := ⟨_, rfl⟩
  rw [← eig1] at hw
  have hsz := hH.trans hsz
  refine lv_aload_n hx hb dX0_init_9 rfl (lv_at hl 0 rfl) ?_
  refine lv_iload_n hx hb dX0_init_10 rfl (lv_at hl 2 rfl) ?_
  refine r_putiF C hw hnm rfl hq fl_X0_15 rfl rfl rfl dX0_init_11 (fun H locs hH hw => ?_)
  obtain ⟨ig2, eig2⟩ : ∃ f, f = up2 ig1 q 1 y := ⟨_, rfl⟩
  rw [← eig2] at hw
  have hsz := hH.trans hsz
  refine lv_aload_n hx hb dX0_init_14 rfl (lv_at hl 0 rfl) ?_
  refine lv_aload_nN hx hb dX0_init_15 rfl (lv_at hl 3 rfl) ?_
  refine r_putrF C hw none rfl hnm rfl hq fl_X0_18 rfl rfl rfl dX0_init_16 (fun H locs hH hw => ?_)
  obtain ⟨rg3, erg3⟩ : ∃ f, f = up2 rg q 2 none := ⟨_, rfl⟩
  rw [← erg3] at hw
  have hsz := hH.trans hsz
  refine lv_aload_n hx hb dX0_init_19 rfl (lv_at hl 0 rfl) ?_
  refine lv_iconst (v := 0) hx hb dX0_init_20 (by decide) (ti_c 0 (by decide) fun z4 hz4 => ?_)
  refine r_putiF C hw hnm rfl hq fl_X0_22 rfl rfl rfl dX0_init_21 (fun H locs hH hw => ?_)
  obtain ⟨ig5, eig5⟩ : ∃ f, f = up2 ig2 q 3 z4 := ⟨_, rfl⟩
  rw [← eig5] at hw
  have hsz := hH.trans hsz
  refine lv_aload_n hx hb dX0_init_24 rfl (lv_at hl 0 rfl) ?_
  refine lv_iconst (v := 0) hx hb dX0_init_25 (by decide) (ti_c 0 (by decide) fun z6 hz6 => ?_)
  refine r_putiF C hw hnm rfl hq fl_X0_25 rfl rfl rfl dX0_init_26 (fun H locs hH hw => ?_)
  obtain ⟨ig7, eig7⟩ : ∃ f, f = up2 ig5 q 4 z6 := ⟨_, rfl⟩
  rw [← eig7] at hw
  have hsz := hH.trans hsz
  refine lv_aload_n hx hb dX0_init_29 rfl (lv_at hl 0 rfl) ?_
  refine lv_iconst (v := 0) hx hb dX0_init_30 (by decide) (ti_c 0 (by decide) fun z8 hz8 => ?_)
  refine r_putiF C hw hnm rfl hq fl_X0_28 rfl rfl rfl dX0_init_31 (fun H locs hH hw => ?_)
  obtain ⟨ig9, eig9⟩ : ∃ f, f = up2 ig7 q 5 z8 := ⟨_, rfl⟩
  rw [← eig9] at hw
  have hsz := hH.trans hsz
  exact r_vret C hw hr hlk (Nat.le_of_ble_eq_true rfl) (Nat.le_of_ble_eq_true rfl) dX0_init_34 ⟨rfl, rfl, hsz, rfl, fun a j h => by rw [eig9, up2_a h, eig7, up2_a h, eig5, up2_a h, eig2, up2_a h, eig1, up2_a h], fun a j h => by rw [erg3, up2_a h], fun hq0 j => by rw [eig9, eig7, eig5, eig2, eig1]; exact (up2_z (up2_z (up2_z (up2_z (up2_z hq0 (eq0 (by omega))) (eq0 (by omega))) (eq0 (by omega))) (eq0 (by omega))) (eq0 (by omega))) j, by rw [erg3, up2_eq]⟩

theorem iv_z2 {c j : Nat} (h : ¬ c < 9) (h2 : c < 15) : iv c j = 0 := by
  unfold iv
  rw [if_neg (fun q => by have := (by decide : ∀ x ∈ vsl, ¬ (¬ x.1 < 9 ∧ x.1 < 15)) _ q; exact this ⟨h, h2⟩)]

theorem fillr {rg : sR} {a : Nat} {i : Int32} {w : Option Nat} (h : ∀ j : Nat, (j : Int) < i.toInt → rg a j = w) (hi : 0 ≤ i.toInt) : ∀ j : Nat, (j : Int) < i.toInt + 1 → up2 rg a i.toInt.toNat w a j = w := by
  intro j hj
  by_cases e1 : j = i.toInt.toNat
  · subst e1; rw [up2_eq]
  · rw [up2_j e1]; exact h j (by omega)

set_option maxHeartbeats 4000000 in
set_option maxRecDepth 100000 in
theorem t_X6_init (l : Launch) (B : Nat) (D : va_G) (cA : Nat → ClassId) (kd : sK) (ig : sI) (rg : sR) (lg : sG) (sz : Nat) (hs0 : sz = B + 10) (hk0 : kd = kx B 10) (hci : CI B 9 ig rg lg) : MC l B D cA yX6_init cX6_init 2 none (rL 2 5 622) [.ref (B + 9)] kd ig rg lg sz (fun r kd' ig' rg' lg' n => kd' = kx B 15 ∧ n = B + 15 ∧ lg = lg' ∧ r = none ∧ CI B 15 ig' rg' lg' ∧ (∀ j, ig' (B + 0) j = ig (B + 0) j) ∧ (∀ j, rg' (B + 0) j = rg (B + 0) j)) := by
  refine MC.of (own := RX6) (by decide +kernel) rfl (Nat.le_of_ble_eq_true rfl) ?_
  intro p e s m args below meth c ls C hr hlk hnm hw hsz hl
  have hx := C.1.1
  have hb := C.1.2.1
  have hown := C.1.2.2.2.1
  have hts := C.1.2.2.2.2
  have hl : lv_has ls 2 [(0, .ref (B + 9))] := hl
  subst hs0
  subst hk0
  have zn := hci.2.2.2.1
  have zl := hci.2.2.2.2
  refine lv_aload_n hx hb dX6_init_0 rfl (lv_at hl 0 rfl) ?_
  refine r_obj C ol_X6_3 oi_i oi_c hl.1 (by decide) (by decide) dX6_init_1 ?_
  refine lv_aload_n hx hb dX6_init_4 rfl (lv_at hl 0 rfl) ?_
  refine r_new (k := 0) (t0 := tyX0) C hw rfl (by decide) rfl inT0 tyX0_ok dfX0 cl_X6_9 it_0 id_0 (Nat.le_of_ble_eq_true rfl) (Nat.le_of_ble_eq_true rfl) dX6_init_5 hsz (fun H hsz hw => ?_)
  rw [kx_up (m := 11) rfl rfl] at hw
  rw [upR_same (fun j => (zn _ j (by omega)).1), upR_same (fun j => (zn _ j (by omega)).2)] at hw
  have hsz : H.size = B + 11 := hsz
  refine lv_dup hx hb dX6_init_8 rfl ?_
  refine lv_iconst (v := 0) hx hb dX6_init_9 (by decide) (ti_c 0 (by decide) fun z1 hz1 => ?_)
  refine lv_iconst (v := 0) hx hb dX6_init_10 (by decide) (ti_c 0 (by decide) fun z2 hz2 => ?_)
  refine lv_null hx hb dX6_init_11 ?_
  refine r_callI (As := [.int z1, .int z2, .null]) (rest := [.ref (B + 10), .ref (B + 9)]) C hw (t_X0_initB l B D cA (kx B 11) ig rg lg _ (B + 10) z1 z2 (kxs 10 (by decide) rfl) (by omega) (by omega)) sc_X6_11 rfl hl.1 rfl (Nat.le_of_ble_eq_true rfl) ⟨Nat.le_of_ble_eq_true rfl, Nat.le_of_ble_eq_true rfl⟩ ⟨Nat.le_of_ble_eq_true rfl, Nat.le_of_ble_eq_true rfl⟩ dX6_init_12 (fun r7 kd3 ig4 rg5 lg6 H locs hw hH hp8 => ?_)
  obtain ⟨rfl, rfl, hqs, rfl, ia, ra, hb0, hb2⟩ := hp8
  have hsz := hqs.trans hsz
  have zb := hb0 (fun j => (zn _ j (by omega)).1)
  have zo := fun a j (h : B + 9 ≤ a) (h2 : a ≠ B + 10) => (ia a j h2).trans (zn a j h).1
  have zn : ∀ a j, B + 11 ≤ a → ig4 a j = 0 ∧ rg5 a j = none := fun a j h => ⟨(ia a j (by omega)).trans (zn a j (by omega)).1, (ra a j (by omega)).trans (zn a j (by omega)).2⟩
  refine r_putrF C hw (some (B + 10)) rfl hnm rfl (kxs 9 (by decide) rfl) fl_X6_14 rfl rfl rfl dX6_init_15 (fun H locs hH hw => ?_)
  obtain ⟨rg9, erg9⟩ : ∃ f, f = up2 rg5 (B + 9) 0 (some (B + 10)) := ⟨_, rfl⟩
  rw [← erg9] at hw
  have hsz := hH.trans hsz
  refine lv_aload_n hx hb dX6_init_18 rfl (lv_at hl 0 rfl) ?_
  refine lv_sipush (v := 288) hx hb dX6_init_19 (by decide) (ti_c 288 (by decide) fun z10 hz10 => ?_)
  refine r_anew (n := 288) C hw cl_X6_9 hz10 (by decide) (Nat.le_of_ble_eq_true rfl) (Nat.le_of_ble_eq_true rfl) dX6_init_22 hsz (fun H hsz hw => ?_)
  rw [kx_up (m := 12) rfl rfl] at hw
  rw [upR_same (fun j => by rw [erg9, up2_a (by omega)]; exact (zn _ j (by omega)).2)] at hw
  have hsz : H.size = B + 12 := hsz
  refine r_putrF C hw (some (B + 11)) rfl hnm rfl (kxs 9 (by decide) rfl) fl_X6_20 rfl rfl rfl dX6_init_25 (fun H locs hH hw => ?_)
  obtain ⟨rg11, erg11⟩ : ∃ f, f = up2 rg9 (B + 9) 1 (some (B + 11)) := ⟨_, rfl⟩
  rw [← erg11] at hw
  have hsz := hH.trans hsz
  obtain ⟨rgA, hrgA⟩ : ∃ f, f = rg11 := ⟨_, rfl⟩
  have hA0 : rgA (B + 9) 0 = some (B + 10) := by rw [hrgA, erg11, up2_j (by decide), erg9, up2_eq]
  have hA1 : rgA (B + 9) 1 = some (B + 11) := by rw [hrgA, erg11, up2_eq]
  have zA : ∀ a j, B + 12 ≤ a → rgA a j = none := fun a j h => by rw [hrgA, erg11, up2_a (by omega), erg9, up2_a (by omega)]; exact (zn a j (by omega)).2
  have bA : rgA (B + 10) 2 = none := by rw [hrgA, erg11, up2_a (by omega), erg9, up2_a (by omega)]; exact hb2
  have oA : ∀ a j, a < B + 9 → rgA a j = rg a j := fun a j h => by rw [hrgA, erg11, up2_a (by omega), erg9, up2_a (by omega)]; exact ra a j (by omega)
  refine lv_iconst (v := 0) hx hb dX6_init_28 (by decide) (ti_c 0 (by decide) fun z12 hz12 => ?_)
  refine lv_istore_n (lv' := [(1, .int z12), (0, .ref (B + 9))]) hx hb dX6_init_29 rfl hl (by decide) rfl (fun ls hl => ?_)
  have L30 : ∀ (n : Nat) (ls : Array Slot) (H : Heap) (locs : List Loc) (rg14 : sR) (v13 : Int32), lv_has ls 2 [(1, .int v13), (0, .ref (B + 9))] → WD B D cA s.heap (kx B 12) ig4 rg14 lg H locs → H.size = B + 12 → (0 ≤ v13.toInt) → (v13.toInt ≤ 288) → (∀ j : Nat, (j : Int) < v13.toInt → rg14 (B + 11) j = some (B + 10)) → (∀ a j, a ≠ B + 11 → rg14 a j = rgA a j) → 288 - v13.toInt < (n : Int) → W p l e (rL 2 5 622) s m args below meth c H locs 2 294 (MQ below (QcW B D cA (fun r kd' ig' rg' lg' n => kd' = kx B 15 ∧ n = B + 15 ∧ lg = lg' ∧ r = none ∧ CI B 15 ig' rg' lg' ∧ (∀ j, ig' (B + 0) j = ig (B + 0) j) ∧ (∀ j, rg' (B + 0) j = rg (B + 0) j))) args s 5 622 (fun q => B ≤ q)) (F0 m 30 ls []) := by
    intro n30
    induction n30 with
    | zero => intro ls H locs rg14 v13 hl hw hsz g30_0 g30_1 g30_2 g30_3 hmu; exact absurd hmu (by omega)
    | succ n30 ih30 =>
      intro ls H locs rg14 v13 hl hw hsz g30_0 g30_1 g30_2 g30_3 hmu
      have zn : ∀ a j, B + 12 ≤ a → ig4 a j = 0 ∧ rg14 a j = none := fun a j h => ⟨(zn a j (by omega)).1, (g30_3 a j (by omega)).trans (zA a j h)⟩
      refine lv_iload_n hx hb dX6_init_30 rfl (lv_at hl 0 rfl) ?_
      refine lv_sipush (v := 288) hx hb dX6_init_31 (by decide) (ti_c 288 (by decide) fun z15 hz15 => ?_)
      refine b_ge (tgt := 53) hx hb dX6_init_34 (by decide) (fun c34 => ?_) (fun c34 => ?_)
      · refine lv_aload_n hx hb dX6_init_53 rfl (lv_at hl 1 rfl) ?_
        refine lv_sipush (v := 288) hx hb dX6_init_54 (by decide) (ti_c 288 (by decide) fun z16 hz16 => ?_)
        refine r_newa (k := 22) (n := 288) (ty := .boolean) (atype := .boolean) C hw rfl rfl (by omega) ac_boolean hz16 rfl (by decide) (Nat.le_of_ble_eq_true rfl) (Nat.le_of_ble_eq_true rfl) dX6_init_57 hsz (fun H hsz hw => ?_)
        rw [kx_up (m := 13) rfl rfl] at hw
        rw [upR_same (fun j => (zn _ j (by omega)).1)] at hw
        have hsz : H.size = B + 13 := hsz
        refine r_putrF C hw (some (B + 12)) rfl hnm rfl (kxs 9 (by decide) rfl) fl_X6_24 rfl rfl rfl dX6_init_59 (fun H locs hH hw => ?_)
        obtain ⟨rg17, erg17⟩ : ∃ f, f = up2 rg14 (B + 9) 2 (some (B + 12)) := ⟨_, rfl⟩
        rw [← erg17] at hw
        have hsz := hH.trans hsz
        refine lv_aload_n hx hb dX6_init_62 rfl (lv_at hl 1 rfl) ?_
        refine lv_bipush (v := 20) hx hb dX6_init_63 (by decide) (ti_c 20 (by decide) fun z18 hz18 => ?_)
        refine r_newa (k := 20) (n := 20) (ty := .int) (atype := .int) C hw rfl rfl (by omega) ac_int hz18 rfl (by decide) (Nat.le_of_ble_eq_true rfl) (Nat.le_of_ble_eq_true rfl) dX6_init_65 hsz (fun H hsz hw => ?_)
        rw [kx_up (m := 14) rfl rfl] at hw
        rw [upR_same (fun j => (zn _ j (by omega)).1)] at hw
        have hsz : H.size = B + 14 := hsz
        refine r_putrF C hw (some (B + 13)) rfl hnm rfl (kxs 9 (by decide) rfl) fl_X6_28 rfl rfl rfl dX6_init_67 (fun H locs hH hw => ?_)
        obtain ⟨rg19, erg19⟩ : ∃ f, f = up2 rg17 (B + 9) 3 (some (B + 13)) := ⟨_, rfl⟩
        rw [← erg19] at hw
        have hsz := hH.trans hsz
        refine lv_aload_n hx hb dX6_init_70 rfl (lv_at hl 1 rfl) ?_
        refine lv_bipush (v := 20) hx hb dX6_init_71 (by decide) (ti_c 20 (by decide) fun z20 hz20 => ?_)
        refine r_anew (n := 20) C hw cl_X6_9 hz20 (by decide) (Nat.le_of_ble_eq_true rfl) (Nat.le_of_ble_eq_true rfl) dX6_init_73 hsz (fun H hsz hw => ?_)
        rw [kx_up (m := 15) rfl rfl] at hw
        rw [upR_same (fun j => by rw [erg19, up2_a (by omega), erg17, up2_a (by omega)]; exact (zn _ j (by omega)).2)] at hw
        have hsz : H.size = B + 15 := hsz
        refine r_putrF C hw (some (B + 14)) rfl hnm rfl (kxs 9 (by decide) rfl) fl_X6_32 rfl rfl rfl dX6_init_76 (fun H locs hH hw => ?_)
        obtain ⟨rg21, erg21⟩ : ∃ f, f = up2 rg19 (B + 9) 4 (some (B + 14)) := ⟨_, rfl⟩
        rw [← erg21] at hw
        have hsz := hH.trans hsz
        obtain ⟨rgC, hrgC⟩ : ∃ f, f = rg21 := ⟨_, rfl⟩
        have hC0 : rgC (B + 9) 0 = some (B + 10) := by rw [hrgC, erg21, up2_j (by decide), erg19, up2_j (by decide), erg17, up2_j (by decide)]; exact (g30_3 (B + 9) 0 (by omega)).trans hA0
        have hC1 : rgC (B + 9) 1 = some (B + 11) := by rw [hrgC, erg21, up2_j (by decide), erg19, up2_j (by decide), erg17, up2_j (by decide)]; exact (g30_3 (B + 9) 1 (by omega)).trans hA1
        have hC2 : rgC (B + 9) 2 = some (B + 12) := by rw [hrgC, erg21, up2_j (by decide), erg19, up2_j (by decide), erg17, up2_eq]
        have hC3 : rgC (B + 9) 3 = some (B + 13) := by rw [hrgC, erg21, up2_j (by decide), erg19, up2_eq]
        have hC4 : rgC (B + 9) 4 = some (B + 14) := by rw [hrgC, erg21, up2_eq]
        have cC : ∀ j, j < 288 → rgC (B + 11) j = some (B + 10) := fun j h => by rw [hrgC, erg21, up2_a (by omega), erg19, up2_a (by omega), erg17, up2_a (by omega)]; exact g30_2 j (by omega)
        have bC : rgC (B + 10) 2 = none := by rw [hrgC, erg21, up2_a (by omega), erg19, up2_a (by omega), erg17, up2_a (by omega)]; exact (g30_3 _ _ (by omega)).trans bA
        have oC : ∀ a j, a < B + 9 → rgC a j = rg a j := fun a j h => by rw [hrgC, erg21, up2_a (by omega), erg19, up2_a (by omega), erg17, up2_a (by omega)]; exact (g30_3 _ _ (by omega)).trans (oA a j h)
        have zC : ∀ a j, B + 15 ≤ a → rgC a j = none := fun a j h => by rw [hrgC, erg21, up2_a (by omega), erg19, up2_a (by omega), erg17, up2_a (by omega)]; exact (g30_3 _ _ (by omega)).trans (zA a j (by omega))
        refine lv_iconst (v := 0) hx hb dX6_init_79 (by decide) (ti_c 0 (by decide) fun z22 hz22 => ?_)
        refine lv_istore_n (lv' := [(1, .int z22), (0, .ref (B + 9))]) hx hb dX6_init_80 rfl hl (by decide) rfl (fun ls hl => ?_)
        have L81 : ∀ (n : Nat) (ls : Array Slot) (H : Heap) (locs : List Loc) (rg24 : sR) (v23 : Int32), lv_has ls 2 [(1, .int v23), (0, .ref (B + 9))] → WD B D cA s.heap (kx B 15) ig4 rg24 lg H locs → H.size = B + 15 → (0 ≤ v23.toInt) → (v23.toInt ≤ 20) → (∀ a j, a ≠ B + 14 → rg24 a j = rgC a j) → (∀ j : Nat, (j : Int) < v23.toInt → rg24 (B + 14) j = some (B + 10)) → 20 - v23.toInt < (n : Int) → W p l e (rL 2 5 622) s m args below meth c H locs 5 622 (MQ below (QcW B D cA (fun r kd' ig' rg' lg' n => kd' = kx B 15 ∧ n = B + 15 ∧ lg = lg' ∧ r = none ∧ CI B 15 ig' rg' lg' ∧ (∀ j, ig' (B + 0) j = ig (B + 0) j) ∧ (∀ j, rg' (B + 0) j = rg (B + 0) j))) args s 5 622 (fun q => B ≤ q)) (F0 m 81 ls []) := by
          intro n81
          induction n81 with
          | zero => intro ls H locs rg24 v23 hl hw hsz g81_0 g81_1 g81_2 g81_3 hmu; exact absurd hmu (by omega)
          | succ n81 ih81 =>
            intro ls H locs rg24 v23 hl hw hsz g81_0 g81_1 g81_2 g81_3 hmu
            refine lv_iload_n hx hb dX6_init_81 rfl (lv_at hl 0 rfl) ?_
            refine lv_bipush (v := 20) hx hb dX6_init_82 (by decide) (ti_c 20 (by decide) fun z25 hz25 => ?_)
            refine b_ge (tgt := 103) hx hb dX6_init_84 (by decide) (fun c84 => ?_) (fun c84 => ?_)
            · refine lv_aload_n hx hb dX6_init_103 rfl (lv_at hl 1 rfl) ?_
              refine lv_iconst (v := 0) hx hb dX6_init_104 (by decide) (ti_c 0 (by decide) fun z26 hz26 => ?_)
              refine r_puti C hw (kxs 9 (by decide) rfl) fl_X6_35 rfl rfl rfl dX6_init_105 (fun H locs hH hw => ?_)
              obtain ⟨ig27, eig27⟩ : ∃ f, f = up2 ig4 (B + 9) 5 z26 := ⟨_, rfl⟩
              rw [← eig27] at hw
              have hsz := hH.trans hsz
              refine lv_aload_n hx hb dX6_init_108 rfl (lv_at hl 1 rfl) ?_
              refine lv_iconst (v := 0) hx hb dX6_init_109 (by decide) (ti_c 0 (by decide) fun z28 hz28 => ?_)
              refine r_puti C hw (kxs 9 (by decide) rfl) fl_X6_39 rfl rfl rfl dX6_init_110 (fun H locs hH hw => ?_)
              obtain ⟨ig29, eig29⟩ : ∃ f, f = up2 ig27 (B + 9) 6 z28 := ⟨_, rfl⟩
              rw [← eig29] at hw
              have hsz := hH.trans hsz
              have hcf : CI B 15 ig29 rg24 lg := by
                obtain ⟨h1, h2, h3, h4, h5⟩ := hci
                refine ⟨fun x hx ha hb => ?_, fun c j ha hb => ?_, fun _ => ⟨fun j hj => (g81_2 _ _ (by omega)).trans (cC j hj), (g81_2 _ _ (by omega)).trans bC, fun j hj => g81_3 j (by omega)⟩, fun a j ha => ⟨?_, (g81_2 _ _ (by omega)).trans (zC a j ha)⟩, h5⟩
                · by_cases e1 : x.1 < 9
                  · exact ((g81_2 _ _ (by omega)).trans (oC _ _ (by omega))).trans (h1 x hx ha e1)
                  · have q := (by decide : ∀ x ∈ rfp, ¬ x.1 < 9 → x.1 < 15 → x ∈ ([(9, 0, 10), (9, 1, 11), (9, 2, 12), (9, 3, 13), (9, 4, 14)] : List (Nat × Nat × Nat))) x hx e1 hb
                    simp only [List.mem_cons, List.not_mem_nil, or_false] at q
                    rcases q with rfl | rfl | rfl | rfl | rfl
                    · exact (g81_2 _ _ (by show B + 9 ≠ B + 14; omega)).trans hC0
                    · exact (g81_2 _ _ (by show B + 9 ≠ B + 14; omega)).trans hC1
                    · exact (g81_2 _ _ (by show B + 9 ≠ B + 14; omega)).trans hC2
                    · exact (g81_2 _ _ (by show B + 9 ≠ B + 14; omega)).trans hC3
                    · exact (g81_2 _ _ (by show B + 9 ≠ B + 14; omega)).trans hC4
                · by_cases e1 : c < 9
                  · rw [eig29, up2_a (by omega), eig27, up2_a (by omega)]; exact (ia _ _ (by omega)).trans (h2 c j ha e1)
                  · rw [iv_z2 e1 hb]
                    by_cases e2 : c = 10
                    · subst e2; rw [eig29, up2_a (by omega), eig27, up2_a (by omega)]; exact zb j
                    · by_cases e3 : c = 9
                      · subst e3; rw [eig29, eig27]; exact (up2_z (up2_z (fun j => zo _ j (by omega) (by omega)) (eq0 (by omega))) (eq0 (by omega))) j
                      · rw [eig29, up2_a (by omega), eig27, up2_a (by omega)]; exact zo _ j (by omega) (by omega)
                · rw [eig29, up2_a (by omega), eig27, up2_a (by omega)]; exact (zn a j (by omega)).1
              exact r_vret C hw hr hlk (Nat.le_of_ble_eq_true rfl) (Nat.le_of_ble_eq_true rfl) dX6_init_113 ⟨rfl, hsz, rfl, rfl, hcf, fun j => by rw [eig29, up2_a (by omega), eig27, up2_a (by omega)]; exact ia _ _ (by omega), fun j => (g81_2 _ _ (by omega)).trans (oC _ _ (by omega))⟩
            · refine lv_aload_n hx hb dX6_init_87 rfl (lv_at hl 1 rfl) ?_
              refine r_get C hw (kxs 9 (by decide) rfl) fl_X6_32 (oV_r rfl ((g81_2 (B + 9) 4 (by omega)).trans hC4)) dX6_init_88 ?_
              refine lv_iload_n hx hb dX6_init_91 rfl (lv_at hl 0 rfl) ?_
              refine lv_aload_n hx hb dX6_init_92 rfl (lv_at hl 1 rfl) ?_
              refine r_get C hw (kxs 9 (by decide) rfl) fl_X6_14 (oV_r rfl ((g81_2 (B + 9) 0 (by omega)).trans hC0)) dX6_init_93 ?_
              refine r_aast C hw (kxs 14 (by decide) rfl) (kxs 10 (by decide) rfl) (by omega) (by omega) dX6_init_96 (fun H locs hH hw => ?_)
              obtain ⟨rg30, erg30⟩ : ∃ f, f = up2 rg24 (B + 14) v23.toInt.toNat (some (B + 10)) := ⟨_, rfl⟩
              rw [← erg30] at hw
              have hsz := hH.trans hsz
              refine ti_inc hx hb dX6_init_97 hl (k := 0) rfl (by decide) (by decide) (by omega) (fun z31 hz31 ls hl => ?_)
              have hl : lv_has ls 2 [(1, .int z31), (0, .ref (B + 9))] := hl
              refine lv_goto (tgt := 81) hx hb dX6_init_100 (by decide) ?_
              exact ih81 ls H locs rg30 z31 (lv_sub hl [0, 1] rfl) hw hsz (by omega) (by omega) (fun a j h => by rw [erg30, up2_a h]; exact g81_2 a j h) (by intro j hj; rw [erg30]; exact fillr g81_3 (by omega) j (by omega)) (by omega)
        exact L81 ((20 - z22.toInt) + 1).toNat ls H locs rg21 z22 (lv_sub hl [0, 1] rfl) hw hsz (by omega) (by omega) (fun a j h => by rw [hrgC]) (fun j hj => absurd hj (by omega)) (by omega)
      · refine lv_aload_n hx hb dX6_init_37 rfl (lv_at hl 1 rfl) ?_
        refine r_get C hw (kxs 9 (by decide) rfl) fl_X6_20 (oV_r rfl ((g30_3 (B + 9) 1 (by omega)).trans hA1)) dX6_init_38 ?_
        refine lv_iload_n hx hb dX6_init_41 rfl (lv_at hl 0 rfl) ?_
        refine lv_aload_n hx hb dX6_init_42 rfl (lv_at hl 1 rfl) ?_
        refine r_get C hw (kxs 9 (by decide) rfl) fl_X6_14 (oV_r rfl ((g30_3 (B + 9) 0 (by omega)).trans hA0)) dX6_init_43 ?_
        refine r_aast C hw (kxs 11 (by decide) rfl) (kxs 10 (by decide) rfl) (by omega) (by omega) dX6_init_46 (fun H locs hH hw => ?_)
        obtain ⟨rg32, erg32⟩ : ∃ f, f = up2 rg14 (B + 11) v13.toInt.toNat (some (B + 10)) := ⟨_, rfl⟩
        rw [← erg32] at hw
        have hsz := hH.trans hsz
        refine ti_inc hx hb dX6_init_47 hl (k := 0) rfl (by decide) (by decide) (by omega) (fun z33 hz33 ls hl => ?_)
        have hl : lv_has ls 2 [(1, .int z33), (0, .ref (B + 9))] := hl
        refine lv_goto (tgt := 30) hx hb dX6_init_50 (by decide) ?_
        exact ih30 ls H locs rg32 z33 (lv_sub hl [0, 1] rfl) hw hsz (by omega) (by omega) (by intro j hj; rw [erg32]; exact fillr g30_2 (by omega) j (by omega)) (fun a j h => by rw [erg32, up2_a h]; exact g30_3 a j h) (by omega)
  exact L30 ((288 - z12.toInt) + 1).toNat ls H locs rg11 z12 (lv_sub hl [0, 1] rfl) hw hsz (by omega) (by omega) (fun j hj => absurd hj (by omega)) (fun a j h => by rw [hrgA]) (by omega)
