/-- the model's part is the same -/
def Mo {α : Type} (B : Nat) (f g : Nat → Nat → α) : Prop := ∀ a j, B + 49 ≤ a → a < B + 80 → f a j = g a j
theorem Mo.rf {α : Type} {B : Nat} {f : Nat → Nat → α} : Mo B f f := fun _ _ _ _ => rfl
theorem Off.mo {α : Type} {B lo hi : Nat} {f g : Nat → Nat → α} (h : Off B lo hi f g) (e : hi ≤ 49) : Mo B f g := fun a j h1 h2 => h a j (by omega)
def TP (B : Nat) (kd : sK) (ig : sI) (rg : sR) (lg : sG) (res : Option Value → Prop) : aP := fun r kd' ig' rg' lg' n => (∀ a, a < B + 80 → kd' a = kd a) ∧ Mo B ig' ig ∧ Mo B rg' rg ∧ Mo B lg' lg ∧ res r
theorem Sh.ag {B : Nat} {kd kd' : sK} (h : Sh B kd) (e0 : ∀ a, a < B + 80 → kd' a = kd a) : Sh B kd' := by
  intro c q hc
  have h1 : c < 80 := (List.getElem?_eq_some_iff.mp hc).1
  rw [e0 _ (by omega)]
  exact h c q hc
theorem Rs.ag {B : Nat} {rg rg' : sR} (h : Rs B rg) (e0 : ∀ a j, a < B + 80 → rg' a j = rg a j) : Rs B rg' := by
  intro x hx
  have h1 : ∀ x ∈ rfp, x.1 < 80 := by decide
  have h2 := h1 x hx
  rw [e0 _ _ (by omega)]
  exact h x hx
theorem FS.ag {B : Nat} {kd kd' : sK} {ig ig' : sI} {rg rg' : sR} (h : FS B kd ig rg) (e0 : ∀ a, a < B + 80 → kd' a = kd a) (e1 : ∀ a j, a < B + 80 → ig' a j = ig a j) (e2 : ∀ a j, a < B + 80 → rg' a j = rg a j) : FS B kd' ig' rg' := by
  obtain ⟨h1, h2, h3, h4, h5, h6, h7⟩ := h
  exact ⟨h1.ag e0, h2.ag e2, fun j hj => (e2 _ _ (by omega)).trans (h3 j hj), (e2 _ _ (by omega)).trans h4, fun j => (e1 _ _ (by omega)).trans (h5 j), fun j => (e1 _ _ (by omega)).trans (h6 j), fun j => (e1 _ _ (by omega)).trans (h7 j)⟩
/-- the class as new SheetDoctor() leaves it -/
def FC (B : Nat) (kd : sK) (ig : sI) (rg : sR) (lg : sG) : Prop := FS B kd ig rg ∧ ig (B + 1) 1 = 0 ∧ ig (B + 24) 8 = -1 ∧ ig (B + 29) 4 = -1 ∧ ig (B + 32) 8 = -1 ∧ ig (B + 37) 7 = -1 ∧ ig (B + 15) 2 = 0 ∧ ig (B + 15) 9 = 0 ∧ ig (B + 43) 6 = 0 ∧ ig (B + 45) 4 = 0 ∧ ∀ j, lg (B + 18) j = 0

set_option maxHeartbeats 4000000 in
set_option maxRecDepth 100000 in
theorem t_X11_feed (l : Launch) (B : Nat) (D : va_G) (cA : Nat → ClassId) (kd : sK) (ig : sI) (rg : sR) (lg : sG) (sz : Nat) (a b c0 : Int64) (F9 : FC B kd ig rg lg) : MC l B D cA yX11_feed cX11_feed 7 (some .int) (rL 6 0 0) [.ref (B + 0), .long a, .long b, .long c0] kd ig rg lg sz (TP B kd ig rg lg (fun r => ∃ z : Int32, r = some (.int z) ∧ z.toInt = ((cn (by8 a) 8 + cn (by8 b) 8 + cn (by8 c0) 8 : Nat) : Int))) := by
  refine MC.of (own := RX11) (by decide +kernel) rfl (Nat.le_of_ble_eq_true rfl) ?_
  intro p e s m args below meth c ls C hr hlk hnm hw hsz hl
  have hx := C.1.1
  have hb := C.1.2.1
  have hown := C.1.2.2.2.1
  have hts := C.1.2.2.2.2
  have hl : lv_has ls 7 [(0, .ref (B + 0)), (1, .long a), (3, .long b), (5, .long c0)] := hl
  obtain ⟨Fs, hle, hv10, hv2, hv9, hv8, hfc, hfo, hfn, hch, hrd⟩ := F9
  have Fq := Fs
  obtain ⟨hsh, hrs, hce, hbf, hbi, hsi, hke⟩ := Fq
  have h0 := z0 hle
  have oig : Off B 0 49 ig ig := Off.rf
  have org : Off B 0 49 rg rg := Off.rf
  have olg : Off B 0 49 lg lg := Off.rf
  refine lv_aload_n hx hb dX11_feed_0 rfl (lv_at hl 0 rfl) ?_
  refine r_get C hw (hsh 0 _ rfl) fl_X11_12 (oV_r rfl (hrs (0, 0, 1) (by decide))) dX11_feed_1 ?_
  refine lv_lload_n hx hb dX11_feed_4 rfl (lv_at hl 1 rfl) ?_
  refine r_callV (As := [.long a]) (rest := []) C hw (t_X7_append l B D cA kd ig rg lg _ a hsh hrs (by omega)) sv_X11_80 (hsh 1 _ rfl) rfl hl.1 rfl (Nat.le_of_ble_eq_true rfl) ⟨Nat.le_of_ble_eq_true rfl, Nat.le_of_ble_eq_true rfl⟩ ⟨Nat.le_of_ble_eq_true rfl, Nat.le_of_ble_eq_true rfl⟩ dX11_feed_5 (fun r6 kd2 ig3 rg4 lg5 H locs hw hH hp7 => ?_)
  obtain ⟨rfl, rfl, rfl, hq1, rfl, oa1, hl1⟩ := hp7
  have hsz := hq1.trans hsz
  have oig := Off.tr (lo := 0) (hi := 49) oa1 oig (by decide) (by decide)
  have hc1 := cn_le (by8 a) 8
  refine lv_aload_n hx hb dX11_feed_8 rfl (lv_at hl 0 rfl) ?_
  refine r_get C hw (hsh 0 _ rfl) fl_X11_12 (oV_r rfl (hrs (0, 0, 1) (by decide))) dX11_feed_9 ?_
  refine lv_lload_n hx hb dX11_feed_12 rfl (lv_at hl 2 rfl) ?_
  refine r_callV (As := [.long b]) (rest := []) C hw (t_X7_append l B D cA kd ig3 rg lg _ b hsh hrs (by omega)) sv_X11_80 (hsh 1 _ rfl) rfl hl.1 rfl (Nat.le_of_ble_eq_true rfl) ⟨Nat.le_of_ble_eq_true rfl, Nat.le_of_ble_eq_true rfl⟩ ⟨Nat.le_of_ble_eq_true rfl, Nat.le_of_ble_eq_true rfl⟩ dX11_feed_13 (fun r13 kd9 ig10 rg11 lg12 H locs hw hH hp14 => ?_)
  obtain ⟨rfl, rfl, rfl, hq8, rfl, oa8, hl8⟩ := hp14
  have hsz := hq8.trans hsz
  have oig := Off.tr (lo := 0) (hi := 49) oa8 oig (by decide) (by decide)
  have hc8 := cn_le (by8 b) 8
  refine lv_aload_n hx hb dX11_feed_16 rfl (lv_at hl 0 rfl) ?_
  refine r_get C hw (hsh 0 _ rfl) fl_X11_12 (oV_r rfl (hrs (0, 0, 1) (by decide))) dX11_feed_17 ?_
  refine lv_lload hx hb dX11_feed_20 (lv_at hl 3 rfl) ?_
  refine r_callV (As := [.long c0]) (rest := []) C hw (t_X7_append l B D cA kd ig10 rg lg _ c0 hsh hrs (by omega)) sv_X11_80 (hsh 1 _ rfl) rfl hl.1 rfl (Nat.le_of_ble_eq_true rfl) ⟨Nat.le_of_ble_eq_true rfl, Nat.le_of_ble_eq_true rfl⟩ ⟨Nat.le_of_ble_eq_true rfl, Nat.le_of_ble_eq_true rfl⟩ dX11_feed_22 (fun r20 kd16 ig17 rg18 lg19 H locs hw hH hp21 => ?_)
  obtain ⟨rfl, rfl, rfl, hq15, rfl, oa15, hl15⟩ := hp21
  have hsz := hq15.trans hsz
  have oig := Off.tr (lo := 0) (hi := 49) oa15 oig (by decide) (by decide)
  have hc15 := cn_le (by8 c0) 8
  refine lv_aload_n hx hb dX11_feed_25 rfl (lv_at hl 0 rfl) ?_
  refine r_get C hw (hsh 0 _ rfl) fl_X11_12 (oV_r rfl (hrs (0, 0, 1) (by decide))) dX11_feed_26 ?_
  refine r_get C hw (hsh 1 _ rfl) fl_X11_84 (oV_i rfl) dX11_feed_29 (ti_c (ig17 (B + 1) 1).toInt rfl fun z22 hz22 => ?_)
  exact r_iret C hw hr hlk rfl (Nat.le_of_ble_eq_true rfl) (Nat.le_of_ble_eq_true rfl) dX11_feed_32 ⟨fun _ _ => rfl, (oig.mo (by decide)), Mo.rf, Mo.rf, _, rfl, by omega⟩

set_option maxHeartbeats 4000000 in
set_option maxRecDepth 100000 in
theorem t_X11_formula (l : Launch) (B : Nat) (D : va_G) (cA : Nat → ClassId) (kd : sK) (ig : sI) (rg : sR) (lg : sG) (sz : Nat) (x : Int32) (F9 : FC B kd ig rg lg) : MC l B D cA yX11_formula cX11_formula 3 (some .int) (rL 6 0 0) [.ref (B + 0), .int x] kd ig rg lg sz (TP B kd ig rg lg (fun r => ∃ z : Int32, r = some (.int z) ∧ ((0 ≤ x.toInt ∧ x.toInt < 288) → z.toInt = 1) ∧ (¬ (0 ≤ x.toInt ∧ x.toInt < 288) → z.toInt = -1))) := by
  refine MC.of (own := RX11) (by decide +kernel) rfl (Nat.le_of_ble_eq_true rfl) ?_
  intro p e s m args below meth c ls C hr hlk hnm hw hsz hl
  have hx := C.1.1
  have hb := C.1.2.1
  have hown := C.1.2.2.2.1
  have hts := C.1.2.2.2.2
  have hl : lv_has ls 3 [(0, .ref (B + 0)), (1, .int x)] := hl
  obtain ⟨Fs, hle, hv10, hv2, hv9, hv8, hfc, hfo, hfn, hch, hrd⟩ := F9
  have Fq := Fs
  obtain ⟨hsh, hrs, hce, hbf, hbi, hsi, hke⟩ := Fq
  have oig : Off B 0 49 ig ig := Off.rf
  have org : Off B 0 49 rg rg := Off.rf
  have olg : Off B 0 49 lg lg := Off.rf
  refine lv_iload_n hx hb dX11_formula_0 rfl (lv_at hl 1 rfl) ?_
  refine r_callS (As := [.int x]) (rest := []) C hw (t_X11_onSheet l B D cA kd ig rg lg _ x) ss_X11_88 rfl hl.1 rfl (Nat.le_of_ble_eq_true rfl) ⟨Nat.le_of_ble_eq_true rfl, Nat.le_of_ble_eq_true rfl⟩ ⟨Nat.le_of_ble_eq_true rfl, Nat.le_of_ble_eq_true rfl⟩ dX11_formula_1 (fun r6 kd2 ig3 rg4 lg5 H locs hw hH hp7 => ?_)
  obtain ⟨rfl, rfl, rfl, rfl, hzz1, z1, rfl, hz1⟩ := hp7
  have hsz := hzz1.trans hsz
  refine z_ne (tgt := 17) hx hb dX11_formula_4 (by decide) (fun c4 => ?_) (fun c4 => ?_)
  · refine lv_aload_n hx hb dX11_formula_17 rfl (lv_at hl 0 rfl) ?_
    refine r_get C hw (hsh 0 _ rfl) fl_X11_12 (oV_r rfl (hrs (0, 0, 1) (by decide))) dX11_formula_18 ?_
    refine lv_iload_n hx hb dX11_formula_21 rfl (lv_at hl 1 rfl) ?_
    refine r_callV (As := [.int x]) (rest := []) C hw (t_X7_read l B D cA kd ig rg lg _ x hsh hrs hle) sv_X11_92 (hsh 1 _ rfl) rfl hl.1 rfl (Nat.le_of_ble_eq_true rfl) ⟨Nat.le_of_ble_eq_true rfl, Nat.le_of_ble_eq_true rfl⟩ ⟨Nat.le_of_ble_eq_true rfl, Nat.le_of_ble_eq_true rfl⟩ dX11_formula_22 (fun r13 kd9 ig10 rg11 lg12 H locs hw hH hp14 => ?_)
    obtain ⟨rfl, rfl, rfl, hq8, rfl, oa8, hf8⟩ := hp14
    have hsz := hq8.trans hsz
    have oig := Off.tr (lo := 0) (hi := 49) oa8 oig (by decide) (by decide)
    refine lv_astore_nN (lv' := [(2, .null), (0, .ref (B + 0)), (1, .int x)]) hx hb dX11_formula_25 rfl hl (by decide) rfl (fun ls hl => ?_)
    refine lv_aload_n hx hb dX11_formula_26 rfl (lv_at hl 1 rfl) ?_
    refine r_get C hw (hsh 0 _ rfl) fl_X11_12 (oV_r rfl (hrs (0, 0, 1) (by decide))) dX11_formula_27 ?_
    refine lv_iconst (v := 0) hx hb dX11_formula_30 (by decide) (ti_c 0 (by decide) fun z15 hz15 => ?_)
    refine r_puti C hw (hsh 1 _ rfl) fl_X11_84 rfl rfl rfl dX11_formula_31 (fun H locs hH hw => ?_)
    obtain ⟨ig16, eig16⟩ : ∃ f, f = up2 ig10 (B + 1) 1 z15 := ⟨_, rfl⟩
    rw [← eig16] at hw
    have hsz := hH.trans hsz
    have oig : Off B 0 49 ig16 ig := fun a j h => by rw [eig16]; exact (up2_a (by omega)).trans (oig a j h)
    refine lv_aload_nN hx hb dX11_formula_34 rfl (lv_at hl 0 rfl) ?_
    refine lv_ifnonnullN hx hb dX11_formula_35 ?_
    refine lv_aload_n hx hb dX11_formula_38 rfl (lv_at hl 1 rfl) ?_
    refine r_get C hw (hsh 0 _ rfl) fl_X11_12 (oV_r rfl (hrs (0, 0, 1) (by decide))) dX11_formula_39 ?_
    refine r_get C hw (hsh 1 _ rfl) fl_X11_96 (oV_i rfl) dX11_formula_42 (ti_c (ig16 (B + 1) 8).toInt rfl fun z17 hz17 => ?_)
    have k18 : (ig16 (B + 1) 8).toInt = 1 := by rw [eig16, up2_j (by decide)]; exact hf8
    exact r_iret C hw hr hlk rfl (Nat.le_of_ble_eq_true rfl) (Nat.le_of_ble_eq_true rfl) dX11_formula_45 ⟨fun _ _ => rfl, (oig.mo (by decide)), Mo.rf, Mo.rf, _, rfl, by omega⟩
  · refine lv_aload_n hx hb dX11_formula_7 rfl (lv_at hl 0 rfl) ?_
    refine r_get C hw (hsh 0 _ rfl) fl_X11_12 (oV_r rfl (hrs (0, 0, 1) (by decide))) dX11_formula_8 ?_
    refine lv_iconst (v := 0) hx hb dX11_formula_11 (by decide) (ti_c 0 (by decide) fun z19 hz19 => ?_)
    refine r_puti C hw (hsh 1 _ rfl) fl_X11_84 rfl rfl rfl dX11_formula_12 (fun H locs hH hw => ?_)
    obtain ⟨ig20, eig20⟩ : ∃ f, f = up2 ig (B + 1) 1 z19 := ⟨_, rfl⟩
    rw [← eig20] at hw
    have hsz := hH.trans hsz
    have oig : Off B 0 49 ig20 ig := fun a j h => by rw [eig20]; exact (up2_a (by omega)).trans (oig a j h)
    refine lv_iconst (v := (-1)) hx hb dX11_formula_15 (by decide) (ti_c (-1) (by decide) fun z21 hz21 => ?_)
    exact r_iret C hw hr hlk rfl (Nat.le_of_ble_eq_true rfl) (Nat.le_of_ble_eq_true rfl) dX11_formula_16 ⟨fun _ _ => rfl, (oig.mo (by decide)), Mo.rf, Mo.rf, _, rfl, by omega⟩

theorem dfX0 : ∀ j, j < 6 → defaultValue (tyX0 j) = if isRf 0 j = true then .null else .int 0 := by decide +kernel

set_option maxHeartbeats 4000000 in
set_option maxRecDepth 100000 in
theorem t_X11_number (l : Launch) (B : Nat) (D : va_G) (cA : Nat → ClassId) (kd : sK) (ig : sI) (rg : sR) (lg : sG) (sz : Nat) (x y : Int32) (h80 : B + 80 ≤ sz) (F9 : FC B kd ig rg lg) : MC l B D cA yX11_number cX11_number 3 (some .boolean) (rL 6 1 6) [.ref (B + 0), .int x, .int y] kd ig rg lg sz (TP B kd ig rg lg (fun r => ∃ z : Int32, r = some (.int z) ∧ ((0 ≤ x.toInt ∧ x.toInt < 288) → z.toInt = 1) ∧ (¬ (0 ≤ x.toInt ∧ x.toInt < 288) → z.toInt = 0))) := by
  refine MC.of (own := RX11) (by decide +kernel) rfl (Nat.le_of_ble_eq_true rfl) ?_
  intro p e s m args below meth c ls C hr hlk hnm hw hsz hl
  have hx := C.1.1
  have hb := C.1.2.1
  have hown := C.1.2.2.2.1
  have hts := C.1.2.2.2.2
  have hl : lv_has ls 3 [(0, .ref (B + 0)), (1, .int x), (2, .int y)] := hl
  obtain ⟨Fs, hle, hv10, hv2, hv9, hv8, hfc, hfo, hfn, hch, hrd⟩ := F9
  have Fq := Fs
  obtain ⟨hsh, hrs, hce, hbf, hbi, hsi, hke⟩ := Fq
  refine lv_iload_n hx hb dX11_number_0 rfl (lv_at hl 1 rfl) ?_
  refine r_callS (As := [.int x]) (rest := []) C hw (t_X11_onSheet l B D cA kd ig rg lg _ x) ss_X11_88 rfl hl.1 rfl (Nat.le_of_ble_eq_true rfl) ⟨Nat.le_of_ble_eq_true rfl, Nat.le_of_ble_eq_true rfl⟩ ⟨Nat.le_of_ble_eq_true rfl, Nat.le_of_ble_eq_true rfl⟩ dX11_number_1 (fun r6 kd2 ig3 rg4 lg5 H locs hw hH hp7 => ?_)
  obtain ⟨rfl, rfl, rfl, rfl, hzz1, z1, rfl, hz1⟩ := hp7
  have hsz := hzz1.trans hsz
  refine z_ne (tgt := 9) hx hb dX11_number_4 (by decide) (fun c4 => ?_) (fun c4 => ?_)
  · refine lv_aload_n hx hb dX11_number_9 rfl (lv_at hl 0 rfl) ?_
    refine r_get C hw (hsh 0 _ rfl) fl_X11_19 (oV_r rfl (hrs (0, 1, 9) (by decide))) dX11_number_10 ?_
    refine lv_iload_n hx hb dX11_number_13 rfl (lv_at hl 1 rfl) ?_
    refine r_new (k := 0) (t0 := tyX0) C hw rfl (by decide) rfl inT0 tyX0_ok dfX0 cl_X11_99 it_0 id_0 (Nat.le_of_ble_eq_true rfl) (Nat.le_of_ble_eq_true rfl) dX11_number_14 hsz (fun H hsz hw => ?_)
    obtain ⟨kd2, ekd2⟩ : ∃ f, f = upK kd sz 0 0 := ⟨_, rfl⟩
    obtain ⟨ig2, eig2⟩ : ∃ f, f = upR ig sz 0 := ⟨_, rfl⟩
    obtain ⟨rg2, erg2⟩ : ∃ f, f = upR rg sz none := ⟨_, rfl⟩
    rw [← ekd2, ← eig2, ← erg2] at hw
    have ak : ∀ a, a < B + 80 → kd2 a = kd a := fun a h => by rw [ekd2, upK_ne (by omega)]
    have ai : ∀ a j, a < B + 80 → ig2 a j = ig a j := fun a j h => by rw [eig2, upR_ne (by omega)]
    have ar : ∀ a j, a < B + 80 → rg2 a j = rg a j := fun a j h => by rw [erg2, upR_ne (by omega)]
    have hq0 : kd2 sz = some (0, 0) := by rw [ekd2, upK_eq]
    have hsh := hsh.ag ak
    refine lv_dup hx hb dX11_number_17 rfl ?_
    refine lv_iconst (v := 1) hx hb dX11_number_18 (by decide) (ti_c 1 (by decide) fun z8 hz8 => ?_)
    refine lv_iload_n hx hb dX11_number_19 rfl (lv_at hl 2 rfl) ?_
    refine lv_null hx hb dX11_number_20 ?_
    refine r_callI (As := [.int z8, .int y, .null]) (rest := [.ref sz, .int x, .ref (B + 9)]) C hw (t_X0_init l B D cA kd2 ig2 rg2 lg _ sz z8 y hq0) sc_X11_101 rfl hl.1 rfl (Nat.le_of_ble_eq_true rfl) ⟨Nat.le_of_ble_eq_true rfl, Nat.le_of_ble_eq_true rfl⟩ ⟨Nat.le_of_ble_eq_true rfl, Nat.le_of_ble_eq_true rfl⟩ dX11_number_21 (fun r14 kd10 ig11 rg12 lg13 H locs hw hH hp15 => ?_)
    obtain ⟨rfl, rfl, hq9, rfl, ia9, ra9⟩ := hp15
    have hsz := hq9.trans hsz
    have ai := fun a j (h : a < B + 80) => (ia9 a j (by omega)).trans (ai a j h)
    have ar := fun a j (h : a < B + 80) => (ra9 a j (by omega)).trans (ar a j h)
    refine r_callV (As := [.int x, .ref sz]) (rest := []) C hw (t_X6_put l B D cA kd2 ig11 rg12 lg _ sz _ x hq0 (FS.ag Fs ak ai ar)) sv_X11_104 (hsh 9 _ rfl) rfl hl.1 rfl (Nat.le_of_ble_eq_true rfl) ⟨Nat.le_of_ble_eq_true rfl, Nat.le_of_ble_eq_true rfl⟩ ⟨Nat.le_of_ble_eq_true rfl, Nat.le_of_ble_eq_true rfl⟩ dX11_number_24 (fun r21 kd17 ig18 rg19 lg20 H locs hw hH hp22 => ?_)
    obtain ⟨rfl, rr16, rfl, hq16, rfl, oo16⟩ := hp22
    have hsz := hq16.trans hsz
    have ai := fun a j (h0 : B + 49 ≤ a) (h : a < B + 80) => (oo16 a j (by omega)).trans (ai a j h)
    have ar := fun a j (h0 : B + 49 ≤ a) (h : a < B + 80) => (rr16 a j (by omega)).trans (ar a j h)
    refine lv_iconst (v := 1) hx hb dX11_number_27 (by decide) (ti_c 1 (by decide) fun z23 hz23 => ?_)
    exact r_iret C hw hr hlk (nar_b (by omega)) (Nat.le_of_ble_eq_true rfl) (Nat.le_of_ble_eq_true rfl) dX11_number_28 ⟨ak, ai, ar, Mo.rf, _, rfl, by omega⟩
  · refine lv_iconst (v := 0) hx hb dX11_number_7 (by decide) (ti_c 0 (by decide) fun z24 hz24 => ?_)
    exact r_iret C hw hr hlk (nar_b (by omega)) (Nat.le_of_ble_eq_true rfl) (Nat.le_of_ble_eq_true rfl) dX11_number_8 ⟨fun _ _ => rfl, Mo.rf, Mo.rf, Mo.rf, _, rfl, by omega⟩

set_option maxHeartbeats 4000000 in
set_option maxRecDepth 100000 in
theorem t_X11_empty (l : Launch) (B : Nat) (D : va_G) (cA : Nat → ClassId) (kd : sK) (ig : sI) (rg : sR) (lg : sG) (sz : Nat) (x : Int32) (F9 : FC B kd ig rg lg) : MC l B D cA yX11_empty cX11_empty 2 (some .boolean) (rL 6 0 0) [.ref (B + 0), .int x] kd ig rg lg sz (TP B kd ig rg lg (fun r => ∃ z : Int32, r = some (.int z) ∧ ((0 ≤ x.toInt ∧ x.toInt < 288) → z.toInt = 1) ∧ (¬ (0 ≤ x.toInt ∧ x.toInt < 288) → z.toInt = 0))) := by
  refine MC.of (own := RX11) (by decide +kernel) rfl (Nat.le_of_ble_eq_true rfl) ?_
  intro p e s m args below meth c ls C hr hlk hnm hw hsz hl
  have hx := C.1.1
  have hb := C.1.2.1
  have hown := C.1.2.2.2.1
  have hts := C.1.2.2.2.2
  have hl : lv_has ls 2 [(0, .ref (B + 0)), (1, .int x)] := hl
  obtain ⟨Fs, hle, hv10, hv2, hv9, hv8, hfc, hfo, hfn, hch, hrd⟩ := F9
  have Fq := Fs
  obtain ⟨hsh, hrs, hce, hbf, hbi, hsi, hke⟩ := Fq
  have oig : Off B 0 49 ig ig := Off.rf
  have org : Off B 0 49 rg rg := Off.rf
  have olg : Off B 0 49 lg lg := Off.rf
  refine lv_iload_n hx hb dX11_empty_0 rfl (lv_at hl 1 rfl) ?_
  refine r_callS (As := [.int x]) (rest := []) C hw (t_X11_onSheet l B D cA kd ig rg lg _ x) ss_X11_88 rfl hl.1 rfl (Nat.le_of_ble_eq_true rfl) ⟨Nat.le_of_ble_eq_true rfl, Nat.le_of_ble_eq_true rfl⟩ ⟨Nat.le_of_ble_eq_true rfl, Nat.le_of_ble_eq_true rfl⟩ dX11_empty_1 (fun r6 kd2 ig3 rg4 lg5 H locs hw hH hp7 => ?_)
  obtain ⟨rfl, rfl, rfl, rfl, hzz1, z1, rfl, hz1⟩ := hp7
  have hsz := hzz1.trans hsz
  refine z_ne (tgt := 9) hx hb dX11_empty_4 (by decide) (fun c4 => ?_) (fun c4 => ?_)
  · refine lv_aload_n hx hb dX11_empty_9 rfl (lv_at hl 0 rfl) ?_
    refine r_get C hw (hsh 0 _ rfl) fl_X11_19 (oV_r rfl (hrs (0, 1, 9) (by decide))) dX11_empty_10 ?_
    refine lv_iload_n hx hb dX11_empty_13 rfl (lv_at hl 1 rfl) ?_
    refine lv_aload_n hx hb dX11_empty_14 rfl (lv_at hl 0 rfl) ?_
    refine r_get C hw (hsh 0 _ rfl) fl_X11_19 (oV_r rfl (hrs (0, 1, 9) (by decide))) dX11_empty_15 ?_
    refine r_get C hw (hsh 9 _ rfl) fl_X11_108 (oV_r rfl (hrs (9, 0, 10) (by decide))) dX11_empty_18 ?_
    refine r_callV (As := [.int x, .ref (B + 10)]) (rest := []) C hw (t_X6_put l B D cA kd ig rg lg _ (B + 10) _ x (hsh 10 _ rfl) Fs) sv_X11_104 (hsh 9 _ rfl) rfl hl.1 rfl (Nat.le_of_ble_eq_true rfl) ⟨Nat.le_of_ble_eq_true rfl, Nat.le_of_ble_eq_true rfl⟩ ⟨Nat.le_of_ble_eq_true rfl, Nat.le_of_ble_eq_true rfl⟩ dX11_empty_21 (fun r13 kd9 ig10 rg11 lg12 H locs hw hH hp14 => ?_)
    obtain ⟨rfl, rr8, rfl, hq8, rfl, oo8⟩ := hp14
    have hsz := hq8.trans hsz
    have oig := Off.tr (lo := 0) (hi := 49) oo8 oig (by decide) (by decide)
    have org := Off.tr (lo := 0) (hi := 49) rr8 org (by decide) (by decide)
    refine lv_iconst (v := 1) hx hb dX11_empty_24 (by decide) (ti_c 1 (by decide) fun z15 hz15 => ?_)
    exact r_iret C hw hr hlk (nar_b (by omega)) (Nat.le_of_ble_eq_true rfl) (Nat.le_of_ble_eq_true rfl) dX11_empty_25 ⟨fun _ _ => rfl, (oig.mo (by decide)), (org.mo (by decide)), Mo.rf, _, rfl, by omega⟩
  · refine lv_iconst (v := 0) hx hb dX11_empty_7 (by decide) (ti_c 0 (by decide) fun z16 hz16 => ?_)
    exact r_iret C hw hr hlk (nar_b (by omega)) (Nat.le_of_ble_eq_true rfl) (Nat.le_of_ble_eq_true rfl) dX11_empty_8 ⟨fun _ _ => rfl, Mo.rf, Mo.rf, Mo.rf, _, rfl, by omega⟩

set_option maxHeartbeats 4000000 in
set_option maxRecDepth 100000 in
theorem t_X11_copy (l : Launch) (B : Nat) (D : va_G) (cA : Nat → ClassId) (kd : sK) (ig : sI) (rg : sR) (lg : sG) (sz : Nat) (x y : Int32) (F9 : FC B kd ig rg lg) : MC l B D cA yX11_copy cX11_copy 4 (some .boolean) (rL 6 0 0) [.ref (B + 0), .int x, .int y] kd ig rg lg sz (TP B kd ig rg lg (fun r => ∃ z : Int32, r = some (.int z) ∧ (((0 ≤ x.toInt ∧ x.toInt < 288) ∧ (0 ≤ y.toInt ∧ y.toInt < 288)) → z.toInt = 1) ∧ (¬ ((0 ≤ x.toInt ∧ x.toInt < 288) ∧ (0 ≤ y.toInt ∧ y.toInt < 288)) → z.toInt = 0))) := by
  refine MC.of (own := RX11) (by decide +kernel) rfl (Nat.le_of_ble_eq_true rfl) ?_
  intro p e s m args below meth c ls C hr hlk hnm hw hsz hl
  have hx := C.1.1
  have hb := C.1.2.1
  have hown := C.1.2.2.2.1
  have hts := C.1.2.2.2.2
  have hl : lv_has ls 4 [(0, .ref (B + 0)), (1, .int x), (2, .int y)] := hl
  obtain ⟨Fs, hle, hv10, hv2, hv9, hv8, hfc, hfo, hfn, hch, hrd⟩ := F9
  have Fq := Fs
  obtain ⟨hsh, hrs, hce, hbf, hbi, hsi, hke⟩ := Fq
  have oig : Off B 0 49 ig ig := Off.rf
  have org : Off B 0 49 rg rg := Off.rf
  have olg : Off B 0 49 lg lg := Off.rf
  refine lv_iload_n hx hb dX11_copy_0 rfl (lv_at hl 1 rfl) ?_
  refine r_callS (As := [.int x]) (rest := []) C hw (t_X11_onSheet l B D cA kd ig rg lg _ x) ss_X11_88 rfl hl.1 rfl (Nat.le_of_ble_eq_true rfl) ⟨Nat.le_of_ble_eq_true rfl, Nat.le_of_ble_eq_true rfl⟩ ⟨Nat.le_of_ble_eq_true rfl, Nat.le_of_ble_eq_true rfl⟩ dX11_copy_1 (fun r6 kd2 ig3 rg4 lg5 H locs hw hH hp7 => ?_)
  obtain ⟨rfl, rfl, rfl, rfl, hzz1, z1, rfl, hz1⟩ := hp7
  have hsz := hzz1.trans hsz
  refine z_eq (tgt := 14) hx hb dX11_copy_4 (by decide) (fun c4 => ?_) (fun c4 => ?_)
  · refine lv_iconst (v := 0) hx hb dX11_copy_14 (by decide) (ti_c 0 (by decide) fun z8 hz8 => ?_)
    exact r_iret C hw hr hlk (nar_b (by omega)) (Nat.le_of_ble_eq_true rfl) (Nat.le_of_ble_eq_true rfl) dX11_copy_15 ⟨fun _ _ => rfl, Mo.rf, Mo.rf, Mo.rf, _, rfl, by omega⟩
  · refine lv_iload_n hx hb dX11_copy_7 rfl (lv_at hl 2 rfl) ?_
    refine r_callS (As := [.int y]) (rest := []) C hw (t_X11_onSheet l B D cA kd ig rg lg _ y) ss_X11_88 rfl hl.1 rfl (Nat.le_of_ble_eq_true rfl) ⟨Nat.le_of_ble_eq_true rfl, Nat.le_of_ble_eq_true rfl⟩ ⟨Nat.le_of_ble_eq_true rfl, Nat.le_of_ble_eq_true rfl⟩ dX11_copy_8 (fun r14 kd10 ig11 rg12 lg13 H locs hw hH hp15 => ?_)
    obtain ⟨rfl, rfl, rfl, rfl, hzz9, z9, rfl, hz9⟩ := hp15
    have hsz := hzz9.trans hsz
    refine z_ne (tgt := 16) hx hb dX11_copy_11 (by decide) (fun c11 => ?_) (fun c11 => ?_)
    · refine lv_aload_n hx hb dX11_copy_16 rfl (lv_at hl 0 rfl) ?_
      refine r_get C hw (hsh 0 _ rfl) fl_X11_19 (oV_r rfl (hrs (0, 1, 9) (by decide))) dX11_copy_17 ?_
      refine lv_iload_n hx hb dX11_copy_20 rfl (lv_at hl 1 rfl) ?_
      refine lv_iload_n hx hb dX11_copy_21 rfl (lv_at hl 2 rfl) ?_
      refine r_callV (As := [.int x, .int y]) (rest := []) C hw (t_X6_copyFor l B D cA kd ig rg lg _ x y Fs) sv_X11_112 (hsh 9 _ rfl) rfl hl.1 rfl (Nat.le_of_ble_eq_true rfl) ⟨Nat.le_of_ble_eq_true rfl, Nat.le_of_ble_eq_true rfl⟩ ⟨Nat.le_of_ble_eq_true rfl, Nat.le_of_ble_eq_true rfl⟩ dX11_copy_22 (fun r20 kd16 ig17 rg18 lg19 H locs hw hH hp21 => ?_)
      obtain ⟨rfl, rfl, rfl, rfl, hzhp21, rfl⟩ := hp21
      have hsz := hzhp21.trans hsz
      refine lv_astore_n (lv' := [(3, .ref (B + 10)), (0, .ref (B + 0)), (1, .int x), (2, .int y)]) hx hb dX11_copy_25 rfl hl (by decide) rfl (fun ls hl => ?_)
      refine lv_aload_n hx hb dX11_copy_26 rfl (lv_at hl 0 rfl) ?_
      refine lv_ifnonnull (tgt := 32) hx hb dX11_copy_27 (by decide) ?_
      refine lv_aload_n hx hb dX11_copy_32 rfl (lv_at hl 1 rfl) ?_
      refine r_get C hw (hsh 0 _ rfl) fl_X11_19 (oV_r rfl (hrs (0, 1, 9) (by decide))) dX11_copy_33 ?_
      refine lv_iload_n hx hb dX11_copy_36 rfl (lv_at hl 3 rfl) ?_
      refine lv_aload_n hx hb dX11_copy_37 rfl (lv_at hl 0 rfl) ?_
      refine r_callV (As := [.int y, .ref (B + 10)]) (rest := []) C hw (t_X6_put l B D cA kd ig rg lg _ (B + 10) _ y (hsh 10 _ rfl) Fs) sv_X11_104 (hsh 9 _ rfl) rfl hl.1 rfl (Nat.le_of_ble_eq_true rfl) ⟨Nat.le_of_ble_eq_true rfl, Nat.le_of_ble_eq_true rfl⟩ ⟨Nat.le_of_ble_eq_true rfl, Nat.le_of_ble_eq_true rfl⟩ dX11_copy_38 (fun r27 kd23 ig24 rg25 lg26 H locs hw hH hp28 => ?_)
      obtain ⟨rfl, rr22, rfl, hq22, rfl, oo22⟩ := hp28
      have hsz := hq22.trans hsz
      have oig := Off.tr (lo := 0) (hi := 49) oo22 oig (by decide) (by decide)
      have org := Off.tr (lo := 0) (hi := 49) rr22 org (by decide) (by decide)
      refine lv_iconst (v := 1) hx hb dX11_copy_41 (by decide) (ti_c 1 (by decide) fun z29 hz29 => ?_)
      exact r_iret C hw hr hlk (nar_b (by omega)) (Nat.le_of_ble_eq_true rfl) (Nat.le_of_ble_eq_true rfl) dX11_copy_42 ⟨fun _ _ => rfl, (oig.mo (by decide)), (org.mo (by decide)), Mo.rf, _, rfl, by omega⟩
    · refine lv_iconst (v := 0) hx hb dX11_copy_14 (by decide) (ti_c 0 (by decide) fun z30 hz30 => ?_)
      exact r_iret C hw hr hlk (nar_b (by omega)) (Nat.le_of_ble_eq_true rfl) (Nat.le_of_ble_eq_true rfl) dX11_copy_15 ⟨fun _ _ => rfl, Mo.rf, Mo.rf, Mo.rf, _, rfl, by omega⟩

set_option maxHeartbeats 4000000 in
set_option maxRecDepth 100000 in
theorem t_X11_unit (l : Launch) (B : Nat) (D : va_G) (cA : Nat → ClassId) (kd : sK) (ig : sI) (rg : sR) (lg : sG) (sz : Nat) (x y u w : Int32) (F9 : FC B kd ig rg lg) : MC l B D cA yX11_unit cX11_unit 5 (some .boolean) (rL 6 0 0) [.ref (B + 0), .int x, .int y, .int u, .int w] kd ig rg lg sz (TP B kd ig rg lg (fun r => ∃ z : Int32, r = some (.int z) ∧ z.toInt = 0)) := by
  refine MC.of (own := RX11) (by decide +kernel) rfl (Nat.le_of_ble_eq_true rfl) ?_
  intro p e s m args below meth c ls C hr hlk hnm hw hsz hl
  have hx := C.1.1
  have hb := C.1.2.1
  have hown := C.1.2.2.2.1
  have hts := C.1.2.2.2.2
  have hl : lv_has ls 5 [(0, .ref (B + 0)), (1, .int x), (2, .int y), (3, .int u), (4, .int w)] := hl
  obtain ⟨Fs, hle, hv10, hv2, hv9, hv8, hfc, hfo, hfn, hch, hrd⟩ := F9
  have Fq := Fs
  obtain ⟨hsh, hrs, hce, hbf, hbi, hsi, hke⟩ := Fq
  have oig : Off B 0 49 ig ig := Off.rf
  have org : Off B 0 49 rg rg := Off.rf
  have olg : Off B 0 49 lg lg := Off.rf
  refine lv_aload_n hx hb dX11_unit_0 rfl (lv_at hl 0 rfl) ?_
  refine r_get C hw (hsh 0 _ rfl) fl_X11_19 (oV_r rfl (hrs (0, 1, 9) (by decide))) dX11_unit_1 ?_
  refine lv_iload_n hx hb dX11_unit_4 rfl (lv_at hl 1 rfl) ?_
  refine r_callV (As := [.int x]) (rest := []) C hw (t_X6_kindAt l B D cA kd ig rg lg _ x Fs) sv_X11_116 (hsh 9 _ rfl) rfl hl.1 rfl (Nat.le_of_ble_eq_true rfl) ⟨Nat.le_of_ble_eq_true rfl, Nat.le_of_ble_eq_true rfl⟩ ⟨Nat.le_of_ble_eq_true rfl, Nat.le_of_ble_eq_true rfl⟩ dX11_unit_5 (fun r6 kd2 ig3 rg4 lg5 H locs hw hH hp7 => ?_)
  obtain ⟨rfl, rfl, rfl, rfl, hzz1, z1, rfl, hz1⟩ := hp7
  have hsz := hzz1.trans hsz
  refine lv_iconst (v := 1) hx hb dX11_unit_8 (by decide) (ti_c 1 (by decide) fun z8 hz8 => ?_)
  refine b_eq (tgt := 14) hx hb dX11_unit_9 (by decide) (fun c9 => ?_) (fun c9 => ?_)
  · exact absurd c9 (by omega)
  · refine lv_iconst (v := 0) hx hb dX11_unit_12 (by decide) (ti_c 0 (by decide) fun z9 hz9 => ?_)
    exact r_iret C hw hr hlk (nar_b (by omega)) (Nat.le_of_ble_eq_true rfl) (Nat.le_of_ble_eq_true rfl) dX11_unit_13 ⟨fun _ _ => rfl, Mo.rf, Mo.rf, Mo.rf, _, rfl, by omega⟩

set_option maxHeartbeats 4000000 in
set_option maxRecDepth 100000 in
theorem t_X11_keep (l : Launch) (B : Nat) (D : va_G) (cA : Nat → ClassId) (kd : sK) (ig : sI) (rg : sR) (lg : sG) (sz : Nat) (x y : Int32) (hy : y.toInt = 0 ∨ y.toInt = 1) (F9 : FC B kd ig rg lg) : MC l B D cA yX11_keep cX11_keep 3 (some .boolean) (rL 6 0 0) [.ref (B + 0), .int x, .int y] kd ig rg lg sz (TP B kd ig rg lg (fun r => ∃ z : Int32, r = some (.int z) ∧ ((0 ≤ x.toInt ∧ x.toInt < 288) → z.toInt = 1) ∧ (¬ (0 ≤ x.toInt ∧ x.toInt < 288) → z.toInt = 0))) := by
  refine MC.of (own := RX11) (by decide +kernel) rfl (Nat.le_of_ble_eq_true rfl) ?_
  intro p e s m args below meth c ls C hr hlk hnm hw hsz hl
  have hx := C.1.1
  have hb := C.1.2.1
  have hown := C.1.2.2.2.1
  have hts := C.1.2.2.2.2
  have hl : lv_has ls 3 [(0, .ref (B + 0)), (1, .int x), (2, .int y)] := hl
  obtain ⟨Fs, hle, hv10, hv2, hv9, hv8, hfc, hfo, hfn, hch, hrd⟩ := F9
  have Fq := Fs
  obtain ⟨hsh, hrs, hce, hbf, hbi, hsi, hke⟩ := Fq
  have oig : Off B 0 49 ig ig := Off.rf
  have org : Off B 0 49 rg rg := Off.rf
  have olg : Off B 0 49 lg lg := Off.rf
  refine lv_aload_n hx hb dX11_keep_0 rfl (lv_at hl 0 rfl) ?_
  refine r_get C hw (hsh 0 _ rfl) fl_X11_19 (oV_r rfl (hrs (0, 1, 9) (by decide))) dX11_keep_1 ?_
  refine lv_iload_n hx hb dX11_keep_4 rfl (lv_at hl 1 rfl) ?_
  refine lv_iload_n hx hb dX11_keep_5 rfl (lv_at hl 2 rfl) ?_
  refine r_callV (As := [.int x, .int y]) (rest := []) C hw (t_X6_setKept l B D cA kd ig rg lg _ x y hy hsh hrs) sv_X11_136 (hsh 9 _ rfl) rfl hl.1 rfl (Nat.le_of_ble_eq_true rfl) ⟨Nat.le_of_ble_eq_true rfl, Nat.le_of_ble_eq_true rfl⟩ ⟨Nat.le_of_ble_eq_true rfl, Nat.le_of_ble_eq_true rfl⟩ dX11_keep_6 (fun r6 kd2 ig3 rg4 lg5 H locs hw hH hp7 => ?_)
  obtain ⟨rfl, rfl, rfl, hq1, ⟨zr1, rfl, hzr1⟩, oa1⟩ := hp7
  have hsz := hq1.trans hsz
  have oig := Off.tr (lo := 0) (hi := 49) oa1 oig (by decide) (by decide)
  exact r_iret C hw hr hlk (nar_b (by omega)) (Nat.le_of_ble_eq_true rfl) (Nat.le_of_ble_eq_true rfl) dX11_keep_9 ⟨fun _ _ => rfl, (oig.mo (by decide)), Mo.rf, Mo.rf, _, rfl, by omega⟩

set_option maxHeartbeats 4000000 in
set_option maxRecDepth 100000 in
theorem t_X11_check (l : Launch) (B : Nat) (D : va_G) (cA : Nat → ClassId) (kd : sK) (ig : sI) (rg : sR) (lg : sG) (sz : Nat) (F9 : FC B kd ig rg lg) : MC l B D cA yX11_check cX11_check 1 (some .int) (rL 6 0 0) [.ref (B + 0)] kd ig rg lg sz (TP B kd ig rg lg (fun r => ∃ z : Int32, r = some (.int z) ∧ z.toInt = 0)) := by
  refine MC.of (own := RX11) (by decide +kernel) rfl (Nat.le_of_ble_eq_true rfl) ?_
  intro p e s m args below meth c ls C hr hlk hnm hw hsz hl
  have hx := C.1.1
  have hb := C.1.2.1
  have hown := C.1.2.2.2.1
  have hts := C.1.2.2.2.2
  have hl : lv_has ls 1 [(0, .ref (B + 0))] := hl
  obtain ⟨Fs, hle, hv10, hv2, hv9, hv8, hfc, hfo, hfn, hch, hrd⟩ := F9
  have Fq := Fs
  obtain ⟨hsh, hrs, hce, hbf, hbi, hsi, hke⟩ := Fq
  have oig : Off B 15 49 ig ig := Off.rf
  have olg : Off B 15 49 lg lg := Off.rf
  refine lv_aload_n hx hb dX11_check_0 rfl (lv_at hl 0 rfl) ?_
  refine r_get C hw (hsh 0 _ rfl) fl_X11_44 (oV_r rfl (hrs (0, 4, 29) (by decide))) dX11_check_1 ?_
  refine r_callV (As := []) (rest := []) C hw (t_X2_settle l B D cA kd ig rg lg _ Fs (hv2)) sv_X11_140 (hsh 29 _ rfl) rfl hl.1 rfl (Nat.le_of_ble_eq_true rfl) ⟨Nat.le_of_ble_eq_true rfl, Nat.le_of_ble_eq_true rfl⟩ ⟨Nat.le_of_ble_eq_true rfl, Nat.le_of_ble_eq_true rfl⟩ dX11_check_4 (fun r6 kd2 ig3 rg4 lg5 H locs hw hH hp7 => ?_)
  obtain ⟨rfl, rfl, rfl, hq1, rfl, oa1, hfam, hfs3⟩ := hp7
  have hsz := hq1.trans hsz
  have oig := Off.tr (lo := 15) (hi := 49) oa1 oig (by decide) (by decide)
  have wA := oa1
  refine lv_aload_n hx hb dX11_check_7 rfl (lv_at hl 0 rfl) ?_
  refine r_get C hw (hsh 0 _ rfl) fl_X11_51 (oV_r rfl (hrs (0, 5, 32) (by decide))) dX11_check_8 ?_
  refine r_callV (As := []) (rest := []) C hw (t_X9_settle l B D cA kd ig3 rg lg _ (FS.off Fs oig (by decide)) ((wA (B + 32) 8 (by omega)).trans hv9) ((wA (B + 15) 2 (by omega)).trans hfc) ((wA (B + 15) 9 (by omega)).trans hfo)) sv_X11_143 (hsh 32 _ rfl) rfl hl.1 rfl (Nat.le_of_ble_eq_true rfl) ⟨Nat.le_of_ble_eq_true rfl, Nat.le_of_ble_eq_true rfl⟩ ⟨Nat.le_of_ble_eq_true rfl, Nat.le_of_ble_eq_true rfl⟩ dX11_check_11 (fun r13 kd9 ig10 rg11 lg12 H locs hw hH hp14 => ?_)
  obtain ⟨rfl, rfl, la8, hq8, rfl, oa8, hfc, hfo, hexp⟩ := hp14
  have hsz := hq8.trans hsz
  have oig := Off.tr (lo := 15) (hi := 49) oa8 oig (by decide) (by decide)
  have olg := Off.tr (lo := 15) (hi := 49) la8 olg (by decide) (by decide)
  have wB := oa8
  refine lv_aload_n hx hb dX11_check_14 rfl (lv_at hl 0 rfl) ?_
  refine r_get C hw (hsh 0 _ rfl) fl_X11_58 (oV_r rfl (hrs (0, 6, 37) (by decide))) dX11_check_15 ?_
  refine r_callV (As := []) (rest := []) C hw (t_X8_settle l B D cA kd ig10 rg lg12 _ (FS.off Fs oig (by decide)) ((wB (B + 37) 7 (by omega)).trans ((wA (B + 37) 7 (by omega)).trans hv8)) hfc hfo) sv_X11_144 (hsh 37 _ rfl) rfl hl.1 rfl (Nat.le_of_ble_eq_true rfl) ⟨Nat.le_of_ble_eq_true rfl, Nat.le_of_ble_eq_true rfl⟩ ⟨Nat.le_of_ble_eq_true rfl, Nat.le_of_ble_eq_true rfl⟩ dX11_check_18 (fun r20 kd16 ig17 rg18 lg19 H locs hw hH hp21 => ?_)
  obtain ⟨rfl, rfl, la15, hq15, rfl, oa15, hfc, hfo, htot⟩ := hp21
  have hsz := hq15.trans hsz
  have oig := Off.tr (lo := 15) (hi := 49) oa15 oig (by decide) (by decide)
  have olg := Off.tr (lo := 15) (hi := 49) la15 olg (by decide) (by decide)
  have wB := oa15
  refine lv_aload_n hx hb dX11_check_21 rfl (lv_at hl 0 rfl) ?_
  refine r_get C hw (hsh 0 _ rfl) fl_X11_67 (oV_r rfl (hrs (0, 7, 43) (by decide))) dX11_check_22 ?_
  refine r_callV (As := []) (rest := []) C hw (t_X3_gather l B D cA kd ig17 rg lg19 _ (FS.off Fs oig (by decide)) hfo) sv_X11_145 (hsh 43 _ rfl) rfl hl.1 rfl (Nat.le_of_ble_eq_true rfl) ⟨Nat.le_of_ble_eq_true rfl, Nat.le_of_ble_eq_true rfl⟩ ⟨Nat.le_of_ble_eq_true rfl, Nat.le_of_ble_eq_true rfl⟩ dX11_check_25 (fun r27 kd23 ig24 rg25 lg26 H locs hw hH hp28 => ?_)
  obtain ⟨rfl, rfl, rfl, hq22, ⟨zr22, rfl, hzr22⟩, oa22⟩ := hp28
  have hsz := hq22.trans hsz
  have oig := Off.tr (lo := 15) (hi := 49) oa22 oig (by decide) (by decide)
  exact r_iret C hw hr hlk rfl (Nat.le_of_ble_eq_true rfl) (Nat.le_of_ble_eq_true rfl) dX11_check_28 ⟨fun _ _ => rfl, (oig.mo (by decide)), Mo.rf, (olg.mo (by decide)), _, rfl, by omega⟩

set_option maxHeartbeats 4000000 in
set_option maxRecDepth 100000 in
theorem t_X11_finding (l : Launch) (B : Nat) (D : va_G) (cA : Nat → ClassId) (kd : sK) (ig : sI) (rg : sR) (lg : sG) (sz : Nat) (x y : Int32) (F9 : FC B kd ig rg lg) : MC l B D cA yX11_finding cX11_finding 3 (some .int) (rL 6 0 0) [.ref (B + 0), .int x, .int y] kd ig rg lg sz (TP B kd ig rg lg (fun r => ∃ z : Int32, r = some (.int z) ∧ z.toInt = -1)) := by
  refine MC.of (own := RX11) (by decide +kernel) rfl (Nat.le_of_ble_eq_true rfl) ?_
  intro p e s m args below meth c ls C hr hlk hnm hw hsz hl
  have hx := C.1.1
  have hb := C.1.2.1
  have hown := C.1.2.2.2.1
  have hts := C.1.2.2.2.2
  have hl : lv_has ls 3 [(0, .ref (B + 0)), (1, .int x), (2, .int y)] := hl
  obtain ⟨Fs, hle, hv10, hv2, hv9, hv8, hfc, hfo, hfn, hch, hrd⟩ := F9
  have Fq := Fs
  obtain ⟨hsh, hrs, hce, hbf, hbi, hsi, hke⟩ := Fq
  refine lv_aload_n hx hb dX11_finding_0 rfl (lv_at hl 0 rfl) ?_
  refine r_get C hw (hsh 0 _ rfl) fl_X11_67 (oV_r rfl (hrs (0, 7, 43) (by decide))) dX11_finding_1 ?_
  refine lv_iload_n hx hb dX11_finding_4 rfl (lv_at hl 1 rfl) ?_
  refine lv_iload_n hx hb dX11_finding_5 rfl (lv_at hl 2 rfl) ?_
  refine r_callV (As := [.int x, .int y]) (rest := []) C hw (t_X3_tell l B D cA kd ig rg lg _ x y hsh hfn) sv_X11_149 (hsh 43 _ rfl) rfl hl.1 rfl (Nat.le_of_ble_eq_true rfl) ⟨Nat.le_of_ble_eq_true rfl, Nat.le_of_ble_eq_true rfl⟩ ⟨Nat.le_of_ble_eq_true rfl, Nat.le_of_ble_eq_true rfl⟩ dX11_finding_6 (fun r6 kd2 ig3 rg4 lg5 H locs hw hH hp7 => ?_)
  obtain ⟨rfl, rfl, rfl, rfl, hzz1, z1, rfl, hz1⟩ := hp7
  have hsz := hzz1.trans hsz
  exact r_iret C hw hr hlk rfl (Nat.le_of_ble_eq_true rfl) (Nat.le_of_ble_eq_true rfl) dX11_finding_9 ⟨fun _ _ => rfl, Mo.rf, Mo.rf, Mo.rf, _, rfl, by omega⟩

set_option maxHeartbeats 4000000 in
set_option maxRecDepth 100000 in
theorem t_X11_changed (l : Launch) (B : Nat) (D : va_G) (cA : Nat → ClassId) (kd : sK) (ig : sI) (rg : sR) (lg : sG) (sz : Nat) (x y : Int32) (F9 : FC B kd ig rg lg) : MC l B D cA yX11_changed cX11_changed 3 (some .int) (rL 6 0 0) [.ref (B + 0), .int x, .int y] kd ig rg lg sz (TP B kd ig rg lg (fun r => ∃ z : Int32, r = some (.int z) ∧ z.toInt = -1)) := by
  refine MC.of (own := RX11) (by decide +kernel) rfl (Nat.le_of_ble_eq_true rfl) ?_
  intro p e s m args below meth c ls C hr hlk hnm hw hsz hl
  have hx := C.1.1
  have hb := C.1.2.1
  have hown := C.1.2.2.2.1
  have hts := C.1.2.2.2.2
  have hl : lv_has ls 3 [(0, .ref (B + 0)), (1, .int x), (2, .int y)] := hl
  obtain ⟨Fs, hle, hv10, hv2, hv9, hv8, hfc, hfo, hfn, hch, hrd⟩ := F9
  have Fq := Fs
  obtain ⟨hsh, hrs, hce, hbf, hbi, hsi, hke⟩ := Fq
  refine lv_aload_n hx hb dX11_changed_0 rfl (lv_at hl 0 rfl) ?_
  refine r_get C hw (hsh 0 _ rfl) fl_X11_76 (oV_r rfl (hrs (0, 8, 45) (by decide))) dX11_changed_1 ?_
  refine lv_iload_n hx hb dX11_changed_4 rfl (lv_at hl 1 rfl) ?_
  refine lv_iload_n hx hb dX11_changed_5 rfl (lv_at hl 2 rfl) ?_
  refine r_callV (As := [.int x, .int y]) (rest := []) C hw (t_X1_tell l B D cA kd ig rg lg _ x y hsh hch) sv_X11_170 (hsh 45 _ rfl) rfl hl.1 rfl (Nat.le_of_ble_eq_true rfl) ⟨Nat.le_of_ble_eq_true rfl, Nat.le_of_ble_eq_true rfl⟩ ⟨Nat.le_of_ble_eq_true rfl, Nat.le_of_ble_eq_true rfl⟩ dX11_changed_6 (fun r6 kd2 ig3 rg4 lg5 H locs hw hH hp7 => ?_)
  obtain ⟨rfl, rfl, rfl, rfl, hzz1, z1, rfl, hz1⟩ := hp7
  have hsz := hzz1.trans hsz
  exact r_iret C hw hr hlk rfl (Nat.le_of_ble_eq_true rfl) (Nat.le_of_ble_eq_true rfl) dX11_changed_9 ⟨fun _ _ => rfl, Mo.rf, Mo.rf, Mo.rf, _, rfl, by omega⟩

set_option maxHeartbeats 4000000 in
set_option maxRecDepth 100000 in
theorem t_X11_mend (l : Launch) (B : Nat) (D : va_G) (cA : Nat → ClassId) (kd : sK) (ig : sI) (rg : sR) (lg : sG) (sz : Nat) (x : Int32) (F9 : FC B kd ig rg lg) : MC l B D cA yX11_mend cX11_mend 4 (some .int) (rL 6 0 0) [.ref (B + 0), .int x] kd ig rg lg sz (TP B kd ig rg lg (fun r => ∃ z : Int32, r = some (.int z) ∧ z.toInt = -1)) := by
  refine MC.of (own := RX11) (by decide +kernel) rfl (Nat.le_of_ble_eq_true rfl) ?_
  intro p e s m args below meth c ls C hr hlk hnm hw hsz hl
  have hx := C.1.1
  have hb := C.1.2.1
  have hown := C.1.2.2.2.1
  have hts := C.1.2.2.2.2
  have hl : lv_has ls 4 [(0, .ref (B + 0)), (1, .int x)] := hl
  obtain ⟨Fs, hle, hv10, hv2, hv9, hv8, hfc, hfo, hfn, hch, hrd⟩ := F9
  have Fq := Fs
  obtain ⟨hsh, hrs, hce, hbf, hbi, hsi, hke⟩ := Fq
  have oig : Off B 15 49 ig ig := Off.rf
  have olg : Off B 15 49 lg lg := Off.rf
  refine lv_aload_n hx hb dX11_mend_0 rfl (lv_at hl 0 rfl) ?_
  refine r_get C hw (hsh 0 _ rfl) fl_X11_76 (oV_r rfl (hrs (0, 8, 45) (by decide))) dX11_mend_1 ?_
  refine r_callV (As := []) (rest := []) C hw (t_X1_forget l B D cA kd ig rg lg _ hsh) sv_X11_153 (hsh 45 _ rfl) rfl hl.1 rfl (Nat.le_of_ble_eq_true rfl) ⟨Nat.le_of_ble_eq_true rfl, Nat.le_of_ble_eq_true rfl⟩ ⟨Nat.le_of_ble_eq_true rfl, Nat.le_of_ble_eq_true rfl⟩ dX11_mend_4 (fun r6 kd2 ig3 rg4 lg5 H locs hw hH hp7 => ?_)
  obtain ⟨rfl, rfl, rfl, hq1, rfl, oa1⟩ := hp7
  have hsz := hq1.trans hsz
  have oig := Off.tr (lo := 15) (hi := 49) oa1 oig (by decide) (by decide)
  have w2 := fun (h : ig (B + 29) 4 = -1) => (oa1 (B + 29) 4 (by omega)).trans h
  refine lv_aload_n hx hb dX11_mend_7 rfl (lv_at hl 0 rfl) ?_
  refine r_get C hw (hsh 0 _ rfl) fl_X11_44 (oV_r rfl (hrs (0, 4, 29) (by decide))) dX11_mend_8 ?_
  refine r_callV (As := []) (rest := []) C hw (t_X2_settle l B D cA kd ig3 rg lg _ (FS.off Fs oig (by decide)) ((w2 hv2))) sv_X11_140 (hsh 29 _ rfl) rfl hl.1 rfl (Nat.le_of_ble_eq_true rfl) ⟨Nat.le_of_ble_eq_true rfl, Nat.le_of_ble_eq_true rfl⟩ ⟨Nat.le_of_ble_eq_true rfl, Nat.le_of_ble_eq_true rfl⟩ dX11_mend_11 (fun r13 kd9 ig10 rg11 lg12 H locs hw hH hp14 => ?_)
  obtain ⟨rfl, rfl, rfl, hq8, rfl, oa8, hfam, hfs3⟩ := hp14
  have hsz := hq8.trans hsz
  have oig := Off.tr (lo := 15) (hi := 49) oa8 oig (by decide) (by decide)
  have wA := oa8
  refine lv_aload_n hx hb dX11_mend_14 rfl (lv_at hl 0 rfl) ?_
  refine r_get C hw (hsh 0 _ rfl) fl_X11_44 (oV_r rfl (hrs (0, 4, 29) (by decide))) dX11_mend_15 ?_
  refine lv_iload_n hx hb dX11_mend_18 rfl (lv_at hl 1 rfl) ?_
  refine r_callV (As := [.int x]) (rest := []) C hw (t_X2_neighbourToCopy l B D cA kd ig10 rg lg _ x (FS.off Fs oig (by decide))) sv_X11_156 (hsh 29 _ rfl) rfl hl.1 rfl (Nat.le_of_ble_eq_true rfl) ⟨Nat.le_of_ble_eq_true rfl, Nat.le_of_ble_eq_true rfl⟩ ⟨Nat.le_of_ble_eq_true rfl, Nat.le_of_ble_eq_true rfl⟩ dX11_mend_19 (fun r20 kd16 ig17 rg18 lg19 H locs hw hH hp21 => ?_)
  obtain ⟨rfl, rfl, rfl, rfl, hzz15, z15, rfl, hz15⟩ := hp21
  have hsz := hzz15.trans hsz
  refine lv_istore_n (lv' := [(2, .int z15), (0, .ref (B + 0)), (1, .int x)]) hx hb dX11_mend_22 rfl hl (by decide) rfl (fun ls hl => ?_)
  refine lv_iload_n hx hb dX11_mend_23 rfl (lv_at hl 0 rfl) ?_
  refine lv_iconst (v := (-1)) hx hb dX11_mend_24 (by decide) (ti_c (-1) (by decide) fun z22 hz22 => ?_)
  refine b_ne (tgt := 30) hx hb dX11_mend_25 (by decide) (fun c25 => ?_) (fun c25 => ?_)
  · exact absurd c25 (by omega)
  · refine lv_iconst (v := (-1)) hx hb dX11_mend_28 (by decide) (ti_c (-1) (by decide) fun z23 hz23 => ?_)
    exact r_iret C hw hr hlk rfl (Nat.le_of_ble_eq_true rfl) (Nat.le_of_ble_eq_true rfl) dX11_mend_29 ⟨fun _ _ => rfl, (oig.mo (by decide)), Mo.rf, Mo.rf, _, rfl, by omega⟩

set_option maxHeartbeats 4000000 in
set_option maxRecDepth 100000 in
theorem t_X11_stretchedFormula (l : Launch) (B : Nat) (D : va_G) (cA : Nat → ClassId) (kd : sK) (ig : sI) (rg : sR) (lg : sG) (sz : Nat) (x y : Int32) (F : FS B kd ig rg) : MC l B D cA yX11_stretchedFormula cX11_stretchedFormula 5 (some (.object "SheetDoctor$Formula")) (rL 4 0 0) [.ref (B + 0), .int x, .int y] kd ig rg lg sz (Pu kd ig rg lg sz (fun r => r = some .null)) := by
  refine MC.of (own := RX11) (by decide +kernel) rfl (Nat.le_of_ble_eq_true rfl) ?_
  intro p e s m args below meth c ls C hr hlk hnm hw hsz hl
  have hx := C.1.1
  have hb := C.1.2.1
  have hown := C.1.2.2.2.1
  have hts := C.1.2.2.2.2
  have hl : lv_has ls 5 [(0, .ref (B + 0)), (1, .int x), (2, .int y)] := hl
  have Fs := F
  obtain ⟨hsh, hrs, hce, hbf, hbi, hsi, hke⟩ := F
  refine lv_aload_n hx hb dX11_stretchedFormula_0 rfl (lv_at hl 0 rfl) ?_
  refine r_get C hw (hsh 0 _ rfl) fl_X11_19 (oV_r rfl (hrs (0, 1, 9) (by decide))) dX11_stretchedFormula_1 ?_
  refine lv_iload_n hx hb dX11_stretchedFormula_4 rfl (lv_at hl 1 rfl) ?_
  refine r_callV (As := [.int x]) (rest := []) C hw (t_X6_formulaAt l B D cA kd ig rg lg _ x Fs) sv_X11_221 (hsh 9 _ rfl) rfl hl.1 rfl (Nat.le_of_ble_eq_true rfl) ⟨Nat.le_of_ble_eq_true rfl, Nat.le_of_ble_eq_true rfl⟩ ⟨Nat.le_of_ble_eq_true rfl, Nat.le_of_ble_eq_true rfl⟩ dX11_stretchedFormula_5 (fun r5 kd1 ig2 rg3 lg4 H locs hw hH hp6 => ?_)
  obtain ⟨rfl, rfl, rfl, rfl, hzhp6, rfl⟩ := hp6
  have hsz := hzhp6.trans hsz
  refine lv_astore_nN (lv' := [(3, .null), (0, .ref (B + 0)), (1, .int x), (2, .int y)]) hx hb dX11_stretchedFormula_8 rfl hl (by decide) rfl (fun ls hl => ?_)
  refine lv_aload_nN hx hb dX11_stretchedFormula_9 rfl (lv_at hl 0 rfl) ?_
  refine lv_ifnonnullN hx hb dX11_stretchedFormula_10 ?_
  refine lv_null hx hb dX11_stretchedFormula_13 ?_
  exact r_aret C hw hr hlk (Or.inl rfl) (Nat.le_of_ble_eq_true rfl) (Nat.le_of_ble_eq_true rfl) dX11_stretchedFormula_14 ⟨rfl, rfl, rfl, rfl, hsz, rfl⟩

set_option maxHeartbeats 4000000 in
set_option maxRecDepth 100000 in
theorem t_X11_stretch (l : Launch) (B : Nat) (D : va_G) (cA : Nat → ClassId) (kd : sK) (ig : sI) (rg : sR) (lg : sG) (sz : Nat) (x y : Int32) (F9 : FC B kd ig rg lg) : MC l B D cA yX11_stretch cX11_stretch 4 (some .int) (rL 6 0 0) [.ref (B + 0), .int x, .int y] kd ig rg lg sz (TP B kd ig rg lg (fun r => ∃ z : Int32, r = some (.int z) ∧ z.toInt = -1)) := by
  refine MC.of (own := RX11) (by decide +kernel) rfl (Nat.le_of_ble_eq_true rfl) ?_
  intro p e s m args below meth c ls C hr hlk hnm hw hsz hl
  have hx := C.1.1
  have hb := C.1.2.1
  have hown := C.1.2.2.2.1
  have hts := C.1.2.2.2.2
  have hl : lv_has ls 4 [(0, .ref (B + 0)), (1, .int x), (2, .int y)] := hl
  obtain ⟨Fs, hle, hv10, hv2, hv9, hv8, hfc, hfo, hfn, hch, hrd⟩ := F9
  have Fq := Fs
  obtain ⟨hsh, hrs, hce, hbf, hbi, hsi, hke⟩ := Fq
  have oig : Off B 15 49 ig ig := Off.rf
  have olg : Off B 15 49 lg lg := Off.rf
  refine lv_aload_n hx hb dX11_stretch_0 rfl (lv_at hl 0 rfl) ?_
  refine r_get C hw (hsh 0 _ rfl) fl_X11_76 (oV_r rfl (hrs (0, 8, 45) (by decide))) dX11_stretch_1 ?_
  refine r_callV (As := []) (rest := []) C hw (t_X1_forget l B D cA kd ig rg lg _ hsh) sv_X11_153 (hsh 45 _ rfl) rfl hl.1 rfl (Nat.le_of_ble_eq_true rfl) ⟨Nat.le_of_ble_eq_true rfl, Nat.le_of_ble_eq_true rfl⟩ ⟨Nat.le_of_ble_eq_true rfl, Nat.le_of_ble_eq_true rfl⟩ dX11_stretch_4 (fun r6 kd2 ig3 rg4 lg5 H locs hw hH hp7 => ?_)
  obtain ⟨rfl, rfl, rfl, hq1, rfl, oa1⟩ := hp7
  have hsz := hq1.trans hsz
  have oig := Off.tr (lo := 15) (hi := 49) oa1 oig (by decide) (by decide)
  have w2 := fun (h : ig (B + 29) 4 = -1) => (oa1 (B + 29) 4 (by omega)).trans h
  refine lv_aload_n hx hb dX11_stretch_7 rfl (lv_at hl 0 rfl) ?_
  refine lv_iload_n hx hb dX11_stretch_8 rfl (lv_at hl 1 rfl) ?_
  refine lv_iload_n hx hb dX11_stretch_9 rfl (lv_at hl 2 rfl) ?_
  refine r_callV (As := [.int x, .int y]) (rest := []) C hw (t_X11_stretchedFormula l B D cA kd ig3 rg lg _ x y (FS.off Fs oig (by decide))) sv_X11_166 (hsh 0 _ rfl) rfl hl.1 rfl (Nat.le_of_ble_eq_true rfl) ⟨Nat.le_of_ble_eq_true rfl, Nat.le_of_ble_eq_true rfl⟩ ⟨Nat.le_of_ble_eq_true rfl, Nat.le_of_ble_eq_true rfl⟩ dX11_stretch_10 (fun r12 kd8 ig9 rg10 lg11 H locs hw hH hp13 => ?_)
  obtain ⟨rfl, rfl, rfl, rfl, hzhp13, rfl⟩ := hp13
  have hsz := hzhp13.trans hsz
  refine lv_astore_nN (lv' := [(3, .null), (0, .ref (B + 0)), (1, .int x), (2, .int y)]) hx hb dX11_stretch_13 rfl hl (by decide) rfl (fun ls hl => ?_)
  refine lv_aload_nN hx hb dX11_stretch_14 rfl (lv_at hl 0 rfl) ?_
  refine lv_ifnonnullN hx hb dX11_stretch_15 ?_
  refine lv_iconst (v := (-1)) hx hb dX11_stretch_18 (by decide) (ti_c (-1) (by decide) fun z14 hz14 => ?_)
  exact r_iret C hw hr hlk rfl (Nat.le_of_ble_eq_true rfl) (Nat.le_of_ble_eq_true rfl) dX11_stretch_19 ⟨fun _ _ => rfl, (oig.mo (by decide)), Mo.rf, Mo.rf, _, rfl, by omega⟩

set_option maxHeartbeats 4000000 in
set_option maxRecDepth 100000 in
theorem t_X11_undo (l : Launch) (B : Nat) (D : va_G) (cA : Nat → ClassId) (kd : sK) (ig : sI) (rg : sR) (lg : sG) (sz : Nat) (F9 : FC B kd ig rg lg) : MC l B D cA yX11_undo cX11_undo 1 (some .int) (rL 6 0 0) [.ref (B + 0)] kd ig rg lg sz (TP B kd ig rg lg (fun r => ∃ z : Int32, r = some (.int z) ∧ z.toInt = -1)) := by
  refine MC.of (own := RX11) (by decide +kernel) rfl (Nat.le_of_ble_eq_true rfl) ?_
  intro p e s m args below meth c ls C hr hlk hnm hw hsz hl
  have hx := C.1.1
  have hb := C.1.2.1
  have hown := C.1.2.2.2.1
  have hts := C.1.2.2.2.2
  have hl : lv_has ls 1 [(0, .ref (B + 0))] := hl
  obtain ⟨Fs, hle, hv10, hv2, hv9, hv8, hfc, hfo, hfn, hch, hrd⟩ := F9
  have Fq := Fs
  obtain ⟨hsh, hrs, hce, hbf, hbi, hsi, hke⟩ := Fq
  have oig : Off B 15 49 ig ig := Off.rf
  have olg : Off B 15 49 lg lg := Off.rf
  refine lv_aload_n hx hb dX11_undo_0 rfl (lv_at hl 0 rfl) ?_
  refine r_get C hw (hsh 0 _ rfl) fl_X11_76 (oV_r rfl (hrs (0, 8, 45) (by decide))) dX11_undo_1 ?_
  refine r_callV (As := []) (rest := []) C hw (t_X1_forget l B D cA kd ig rg lg _ hsh) sv_X11_153 (hsh 45 _ rfl) rfl hl.1 rfl (Nat.le_of_ble_eq_true rfl) ⟨Nat.le_of_ble_eq_true rfl, Nat.le_of_ble_eq_true rfl⟩ ⟨Nat.le_of_ble_eq_true rfl, Nat.le_of_ble_eq_true rfl⟩ dX11_undo_4 (fun r6 kd2 ig3 rg4 lg5 H locs hw hH hp7 => ?_)
  obtain ⟨rfl, rfl, rfl, hq1, rfl, oa1⟩ := hp7
  have hsz := hq1.trans hsz
  have oig := Off.tr (lo := 15) (hi := 49) oa1 oig (by decide) (by decide)
  have w2 := fun (h : ig (B + 29) 4 = -1) => (oa1 (B + 29) 4 (by omega)).trans h
  refine lv_aload_n hx hb dX11_undo_7 rfl (lv_at hl 0 rfl) ?_
  refine r_get C hw (hsh 0 _ rfl) fl_X11_19 (oV_r rfl (hrs (0, 1, 9) (by decide))) dX11_undo_8 ?_
  refine r_get C hw (hsh 9 _ rfl) fl_X11_171 (oV_i rfl) dX11_undo_11 (ti_c (ig3 (B + 9) 5).toInt rfl fun z8 hz8 => ?_)
  have k9 : (ig3 (B + 9) (5)).toInt = 0 := z0 ((FS.off Fs oig (by decide)).si (5))
  refine z_ne (tgt := 19) hx hb dX11_undo_14 (by decide) (fun c14 => ?_) (fun c14 => ?_)
  · exact absurd c14 (by omega)
  · refine lv_iconst (v := (-1)) hx hb dX11_undo_17 (by decide) (ti_c (-1) (by decide) fun z10 hz10 => ?_)
    exact r_iret C hw hr hlk rfl (Nat.le_of_ble_eq_true rfl) (Nat.le_of_ble_eq_true rfl) dX11_undo_18 ⟨fun _ _ => rfl, (oig.mo (by decide)), Mo.rf, Mo.rf, _, rfl, by omega⟩

set_option maxHeartbeats 4000000 in
set_option maxRecDepth 100000 in
theorem t_X11_ways (l : Launch) (B : Nat) (D : va_G) (cA : Nat → ClassId) (kd : sK) (ig : sI) (rg : sR) (lg : sG) (sz : Nat) (x y : Int32) (F9 : FC B kd ig rg lg) : MC l B D cA yX11_ways cX11_ways 3 (some .int) (rL 6 0 0) [.ref (B + 0), .int x, .int y] kd ig rg lg sz (TP B kd ig rg lg (fun r => ∃ z : Int32, r = some (.int z) ∧ z.toInt = -1)) := by
  refine MC.of (own := RX11) (by decide +kernel) rfl (Nat.le_of_ble_eq_true rfl) ?_
  intro p e s m args below meth c ls C hr hlk hnm hw hsz hl
  have hx := C.1.1
  have hb := C.1.2.1
  have hown := C.1.2.2.2.1
  have hts := C.1.2.2.2.2
  have hl : lv_has ls 3 [(0, .ref (B + 0)), (1, .int x), (2, .int y)] := hl
  obtain ⟨Fs, hle, hv10, hv2, hv9, hv8, hfc, hfo, hfn, hch, hrd⟩ := F9
  have Fq := Fs
  obtain ⟨hsh, hrs, hce, hbf, hbi, hsi, hke⟩ := Fq
  have oig : Off B 15 49 ig ig := Off.rf
  have olg : Off B 15 49 lg lg := Off.rf
  refine lv_iload_n hx hb dX11_ways_0 rfl (lv_at hl 1 rfl) ?_
  refine r_callS (As := [.int x]) (rest := []) C hw (t_X11_onSheet l B D cA kd ig rg lg _ x) ss_X11_88 rfl hl.1 rfl (Nat.le_of_ble_eq_true rfl) ⟨Nat.le_of_ble_eq_true rfl, Nat.le_of_ble_eq_true rfl⟩ ⟨Nat.le_of_ble_eq_true rfl, Nat.le_of_ble_eq_true rfl⟩ dX11_ways_1 (fun r6 kd2 ig3 rg4 lg5 H locs hw hH hp7 => ?_)
  obtain ⟨rfl, rfl, rfl, rfl, hzz1, z1, rfl, hz1⟩ := hp7
  have hsz := hzz1.trans hsz
  refine z_eq (tgt := 14) hx hb dX11_ways_4 (by decide) (fun c4 => ?_) (fun c4 => ?_)
  · refine lv_iconst (v := (-1)) hx hb dX11_ways_14 (by decide) (ti_c (-1) (by decide) fun z8 hz8 => ?_)
    exact r_iret C hw hr hlk rfl (Nat.le_of_ble_eq_true rfl) (Nat.le_of_ble_eq_true rfl) dX11_ways_15 ⟨fun _ _ => rfl, Mo.rf, Mo.rf, Mo.rf, _, rfl, by omega⟩
  · refine lv_iload_n hx hb dX11_ways_7 rfl (lv_at hl 2 rfl) ?_
    refine r_callS (As := [.int y]) (rest := []) C hw (t_X11_onSheet l B D cA kd ig rg lg _ y) ss_X11_88 rfl hl.1 rfl (Nat.le_of_ble_eq_true rfl) ⟨Nat.le_of_ble_eq_true rfl, Nat.le_of_ble_eq_true rfl⟩ ⟨Nat.le_of_ble_eq_true rfl, Nat.le_of_ble_eq_true rfl⟩ dX11_ways_8 (fun r14 kd10 ig11 rg12 lg13 H locs hw hH hp15 => ?_)
    obtain ⟨rfl, rfl, rfl, rfl, hzz9, z9, rfl, hz9⟩ := hp15
    have hsz := hzz9.trans hsz
    refine z_ne (tgt := 16) hx hb dX11_ways_11 (by decide) (fun c11 => ?_) (fun c11 => ?_)
    · refine lv_aload_n hx hb dX11_ways_16 rfl (lv_at hl 0 rfl) ?_
      refine r_get C hw (hsh 0 _ rfl) fl_X11_58 (oV_r rfl (hrs (0, 6, 37) (by decide))) dX11_ways_17 ?_
      refine r_callV (As := []) (rest := []) C hw (t_X8_settle l B D cA kd ig rg lg _ Fs hv8 hfc hfo) sv_X11_144 (hsh 37 _ rfl) rfl hl.1 rfl (Nat.le_of_ble_eq_true rfl) ⟨Nat.le_of_ble_eq_true rfl, Nat.le_of_ble_eq_true rfl⟩ ⟨Nat.le_of_ble_eq_true rfl, Nat.le_of_ble_eq_true rfl⟩ dX11_ways_20 (fun r21 kd17 ig18 rg19 lg20 H locs hw hH hp22 => ?_)
      obtain ⟨rfl, rfl, la16, hq16, rfl, oa16, hfc, hfo, htot⟩ := hp22
      have hsz := hq16.trans hsz
      have oig := Off.tr (lo := 15) (hi := 49) oa16 oig (by decide) (by decide)
      have olg := Off.tr (lo := 15) (hi := 49) la16 olg (by decide) (by decide)
      have wB := oa16
      refine lv_aload_n hx hb dX11_ways_23 rfl (lv_at hl 0 rfl) ?_
      refine r_get C hw (hsh 0 _ rfl) fl_X11_58 (oV_r rfl (hrs (0, 6, 37) (by decide))) dX11_ways_24 ?_
      refine lv_iload_n hx hb dX11_ways_27 rfl (lv_at hl 2 rfl) ?_
      refine r_callV (As := [.int y]) (rest := []) C hw (t_X8_isTotal l B D cA kd ig18 rg lg20 _ y hsh hrs htot) sv_X11_196 (hsh 37 _ rfl) rfl hl.1 rfl (Nat.le_of_ble_eq_true rfl) ⟨Nat.le_of_ble_eq_true rfl, Nat.le_of_ble_eq_true rfl⟩ ⟨Nat.le_of_ble_eq_true rfl, Nat.le_of_ble_eq_true rfl⟩ dX11_ways_28 (fun r28 kd24 ig25 rg26 lg27 H locs hw hH hp29 => ?_)
      obtain ⟨rfl, rfl, rfl, rfl, hzz23, z23, rfl, hz23⟩ := hp29
      have hsz := hzz23.trans hsz
      refine z_eq (tgt := 46) hx hb dX11_ways_31 (by decide) (fun c31 => ?_) (fun c31 => ?_)
      · refine lv_iconst (v := (-1)) hx hb dX11_ways_46 (by decide) (ti_c (-1) (by decide) fun z30 hz30 => ?_)
        exact r_iret C hw hr hlk rfl (Nat.le_of_ble_eq_true rfl) (Nat.le_of_ble_eq_true rfl) dX11_ways_47 ⟨fun _ _ => rfl, (oig.mo (by decide)), Mo.rf, (olg.mo (by decide)), _, rfl, by omega⟩
      · exact absurd c31 (by omega)
    · refine lv_iconst (v := (-1)) hx hb dX11_ways_14 (by decide) (ti_c (-1) (by decide) fun z31 hz31 => ?_)
      exact r_iret C hw hr hlk rfl (Nat.le_of_ble_eq_true rfl) (Nat.le_of_ble_eq_true rfl) dX11_ways_15 ⟨fun _ _ => rfl, Mo.rf, Mo.rf, Mo.rf, _, rfl, by omega⟩

set_option maxHeartbeats 4000000 in
set_option maxRecDepth 100000 in
theorem t_X11_count (l : Launch) (B : Nat) (D : va_G) (cA : Nat → ClassId) (kd : sK) (ig : sI) (rg : sR) (lg : sG) (sz : Nat) (x : Int32) (F9 : FC B kd ig rg lg) : MC l B D cA yX11_count cX11_count 2 (some .int) (rL 6 0 0) [.ref (B + 0), .int x] kd ig rg lg sz (TP B kd ig rg lg (fun r => ∃ z : Int32, r = some (.int z) ∧ (0 ≤ x.toInt ∧ x.toInt ≤ 5 → z.toInt = 0) ∧ (¬ (0 ≤ x.toInt ∧ x.toInt ≤ 5) → z.toInt = -1))) := by
  refine MC.of (own := RX11) (by decide +kernel) rfl (Nat.le_of_ble_eq_true rfl) ?_
  intro p e s m args below meth c ls C hr hlk hnm hw hsz hl
  have hx := C.1.1
  have hb := C.1.2.1
  have hown := C.1.2.2.2.1
  have hts := C.1.2.2.2.2
  have hl : lv_has ls 2 [(0, .ref (B + 0)), (1, .int x)] := hl
  obtain ⟨Fs, hle, hv10, hv2, hv9, hv8, hfc, hfo, hfn, hch, hrd⟩ := F9
  have Fq := Fs
  obtain ⟨hsh, hrs, hce, hbf, hbi, hsi, hke⟩ := Fq
  have oig : Off B 15 49 ig ig := Off.rf
  have olg : Off B 15 49 lg lg := Off.rf
  refine lv_iload_n hx hb dX11_count_0 rfl (lv_at hl 1 rfl) ?_
  by_cases s1_0 : x.toInt = 0
  · refine lv_tableIn hx hb dX11_count_1 (by omega) (by omega) (off := 39) (by rw [s1_0]; rfl) (tgt := 40) (by decide) ?_
    refine lv_aload_n hx hb dX11_count_40 rfl (lv_at hl 0 rfl) ?_
    refine r_get C hw (hsh 0 _ rfl) fl_X11_19 (oV_r rfl (hrs (0, 1, 9) (by decide))) dX11_count_41 ?_
    refine lv_iconst (v := 1) hx hb dX11_count_44 (by decide) (ti_c 1 (by decide) fun z1 hz1 => ?_)
    refine r_callV (As := [.int z1]) (rest := []) C hw (t_X6_cellsOfKind l B D cA kd ig rg lg _ z1 (by omega) Fs) sv_X11_212 (hsh 9 _ rfl) rfl hl.1 rfl (Nat.le_of_ble_eq_true rfl) ⟨Nat.le_of_ble_eq_true rfl, Nat.le_of_ble_eq_true rfl⟩ ⟨Nat.le_of_ble_eq_true rfl, Nat.le_of_ble_eq_true rfl⟩ dX11_count_45 (fun r7 kd3 ig4 rg5 lg6 H locs hw hH hp8 => ?_)
    obtain ⟨rfl, rfl, rfl, rfl, hzz2, z2, rfl, hz2⟩ := hp8
    have hsz := hzz2.trans hsz
    exact r_iret C hw hr hlk rfl (Nat.le_of_ble_eq_true rfl) (Nat.le_of_ble_eq_true rfl) dX11_count_48 ⟨fun _ _ => rfl, Mo.rf, Mo.rf, Mo.rf, _, rfl, by omega⟩
  by_cases s1_1 : x.toInt = 1
  · refine lv_tableIn hx hb dX11_count_1 (by omega) (by omega) (off := 48) (by rw [s1_1]; rfl) (tgt := 49) (by decide) ?_
    refine lv_aload_n hx hb dX11_count_49 rfl (lv_at hl 0 rfl) ?_
    refine r_get C hw (hsh 0 _ rfl) fl_X11_19 (oV_r rfl (hrs (0, 1, 9) (by decide))) dX11_count_50 ?_
    refine lv_iconst (v := 2) hx hb dX11_count_53 (by decide) (ti_c 2 (by decide) fun z9 hz9 => ?_)
    refine r_callV (As := [.int z9]) (rest := []) C hw (t_X6_cellsOfKind l B D cA kd ig rg lg _ z9 (by omega) Fs) sv_X11_212 (hsh 9 _ rfl) rfl hl.1 rfl (Nat.le_of_ble_eq_true rfl) ⟨Nat.le_of_ble_eq_true rfl, Nat.le_of_ble_eq_true rfl⟩ ⟨Nat.le_of_ble_eq_true rfl, Nat.le_of_ble_eq_true rfl⟩ dX11_count_54 (fun r15 kd11 ig12 rg13 lg14 H locs hw hH hp16 => ?_)
    obtain ⟨rfl, rfl, rfl, rfl, hzz10, z10, rfl, hz10⟩ := hp16
    have hsz := hzz10.trans hsz
    exact r_iret C hw hr hlk rfl (Nat.le_of_ble_eq_true rfl) (Nat.le_of_ble_eq_true rfl) dX11_count_57 ⟨fun _ _ => rfl, Mo.rf, Mo.rf, Mo.rf, _, rfl, by omega⟩
  by_cases s1_2 : x.toInt = 2
  · refine lv_tableIn hx hb dX11_count_1 (by omega) (by omega) (off := 57) (by rw [s1_2]; rfl) (tgt := 58) (by decide) ?_
    refine lv_aload_n hx hb dX11_count_58 rfl (lv_at hl 0 rfl) ?_
    refine r_get C hw (hsh 0 _ rfl) fl_X11_44 (oV_r rfl (hrs (0, 4, 29) (by decide))) dX11_count_59 ?_
    refine r_callV (As := []) (rest := []) C hw (t_X2_settle l B D cA kd ig rg lg _ Fs (hv2)) sv_X11_140 (hsh 29 _ rfl) rfl hl.1 rfl (Nat.le_of_ble_eq_true rfl) ⟨Nat.le_of_ble_eq_true rfl, Nat.le_of_ble_eq_true rfl⟩ ⟨Nat.le_of_ble_eq_true rfl, Nat.le_of_ble_eq_true rfl⟩ dX11_count_62 (fun r22 kd18 ig19 rg20 lg21 H locs hw hH hp23 => ?_)
    obtain ⟨rfl, rfl, rfl, hq17, rfl, oa17, hfam, hfs3⟩ := hp23
    have hsz := hq17.trans hsz
    have oig := Off.tr (lo := 15) (hi := 49) oa17 oig (by decide) (by decide)
    have wA := oa17
    refine lv_aload_n hx hb dX11_count_65 rfl (lv_at hl 0 rfl) ?_
    refine r_get C hw (hsh 0 _ rfl) fl_X11_44 (oV_r rfl (hrs (0, 4, 29) (by decide))) dX11_count_66 ?_
    refine r_get C hw (hsh 29 _ rfl) fl_X11_215 (oV_i rfl) dX11_count_69 (ti_c (ig19 (B + 29) 3).toInt rfl fun z24 hz24 => ?_)
    have k25 := z0 hfs3
    exact r_iret C hw hr hlk rfl (Nat.le_of_ble_eq_true rfl) (Nat.le_of_ble_eq_true rfl) dX11_count_72 ⟨fun _ _ => rfl, (oig.mo (by decide)), Mo.rf, Mo.rf, _, rfl, by omega⟩
  by_cases s1_3 : x.toInt = 3
  · refine lv_tableIn hx hb dX11_count_1 (by omega) (by omega) (off := 72) (by rw [s1_3]; rfl) (tgt := 73) (by decide) ?_
    refine lv_aload_n hx hb dX11_count_73 rfl (lv_at hl 0 rfl) ?_
    refine r_get C hw (hsh 0 _ rfl) fl_X11_37 (oV_r rfl (hrs (0, 3, 24) (by decide))) dX11_count_74 ?_
    refine r_callV (As := []) (rest := []) C hw (t_X10_settle l B D cA kd ig rg lg _ Fs hv10 hfc hfo) sv_X11_159 (hsh 24 _ rfl) rfl hl.1 rfl (Nat.le_of_ble_eq_true rfl) ⟨Nat.le_of_ble_eq_true rfl, Nat.le_of_ble_eq_true rfl⟩ ⟨Nat.le_of_ble_eq_true rfl, Nat.le_of_ble_eq_true rfl⟩ dX11_count_77 (fun r31 kd27 ig28 rg29 lg30 H locs hw hH hp32 => ?_)
    obtain ⟨rfl, rfl, la26, hq26, rfl, oa26, hval, herr⟩ := hp32
    have hsz := hq26.trans hsz
    have oig := Off.tr (lo := 15) (hi := 49) oa26 oig (by decide) (by decide)
    have olg := Off.tr (lo := 15) (hi := 49) la26 olg (by decide) (by decide)
    have wB := oa26
    refine lv_aload_n hx hb dX11_count_80 rfl (lv_at hl 0 rfl) ?_
    refine r_get C hw (hsh 0 _ rfl) fl_X11_37 (oV_r rfl (hrs (0, 3, 24) (by decide))) dX11_count_81 ?_
    refine r_callV (As := []) (rest := []) C hw (t_X10_errors l B D cA kd ig28 rg lg30 _ hsh hrs herr) sv_X11_218 (hsh 24 _ rfl) rfl hl.1 rfl (Nat.le_of_ble_eq_true rfl) ⟨Nat.le_of_ble_eq_true rfl, Nat.le_of_ble_eq_true rfl⟩ ⟨Nat.le_of_ble_eq_true rfl, Nat.le_of_ble_eq_true rfl⟩ dX11_count_84 (fun r38 kd34 ig35 rg36 lg37 H locs hw hH hp39 => ?_)
    obtain ⟨rfl, rfl, rfl, rfl, hzz33, z33, rfl, hz33⟩ := hp39
    have hsz := hzz33.trans hsz
    exact r_iret C hw hr hlk rfl (Nat.le_of_ble_eq_true rfl) (Nat.le_of_ble_eq_true rfl) dX11_count_87 ⟨fun _ _ => rfl, (oig.mo (by decide)), Mo.rf, (olg.mo (by decide)), _, rfl, by omega⟩
  by_cases s1_4 : x.toInt = 4
  · refine lv_tableIn hx hb dX11_count_1 (by omega) (by omega) (off := 87) (by rw [s1_4]; rfl) (tgt := 88) (by decide) ?_
    refine lv_aload_n hx hb dX11_count_88 rfl (lv_at hl 0 rfl) ?_
    refine r_get C hw (hsh 0 _ rfl) fl_X11_12 (oV_r rfl (hrs (0, 0, 1) (by decide))) dX11_count_89 ?_
    refine r_get C hw (hsh 1 _ rfl) fl_X11_84 (oV_i rfl) dX11_count_92 (ti_c (ig (B + 1) 1).toInt rfl fun z40 hz40 => ?_)
    have k41 := z0 hle
    exact r_iret C hw hr hlk rfl (Nat.le_of_ble_eq_true rfl) (Nat.le_of_ble_eq_true rfl) dX11_count_95 ⟨fun _ _ => rfl, Mo.rf, Mo.rf, Mo.rf, _, rfl, by omega⟩
  by_cases s1_5 : x.toInt = 5
  · refine lv_tableIn hx hb dX11_count_1 (by omega) (by omega) (off := 95) (by rw [s1_5]; rfl) (tgt := 96) (by decide) ?_
    refine lv_aload_n hx hb dX11_count_96 rfl (lv_at hl 0 rfl) ?_
    refine r_get C hw (hsh 0 _ rfl) fl_X11_19 (oV_r rfl (hrs (0, 1, 9) (by decide))) dX11_count_97 ?_
    refine r_get C hw (hsh 9 _ rfl) fl_X11_171 (oV_i rfl) dX11_count_100 (ti_c (ig (B + 9) 5).toInt rfl fun z42 hz42 => ?_)
    have k43 : (ig (B + 9) (5)).toInt = 0 := z0 (Fs.si (5))
    exact r_iret C hw hr hlk rfl (Nat.le_of_ble_eq_true rfl) (Nat.le_of_ble_eq_true rfl) dX11_count_103 ⟨fun _ _ => rfl, Mo.rf, Mo.rf, Mo.rf, _, rfl, by omega⟩
  refine lv_tableOut hx hb dX11_count_1 (by omega) (tgt := 104) (by decide) ?_
  refine lv_iconst (v := (-1)) hx hb dX11_count_104 (by decide) (ti_c (-1) (by decide) fun z44 hz44 => ?_)
  exact r_iret C hw hr hlk rfl (Nat.le_of_ble_eq_true rfl) (Nat.le_of_ble_eq_true rfl) dX11_count_105 ⟨fun _ _ => rfl, Mo.rf, Mo.rf, Mo.rf, _, rfl, by omega⟩
