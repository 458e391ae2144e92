set_option maxHeartbeats 4000000 in
set_option maxRecDepth 100000 in
theorem t_X11_feed {τ : Tp} (l : Launch) (B : Nat) (D : va_G) (cA : Nat → ClassId) (kd : sK) (ig : sI) (rg : sR) (lg : sG) (sz : Nat) (a : Int64) (b : Int64) (c0 : Int64) (hI : IC τ B kd ig rg) : MC l B D cA yX11_feed cX11_feed 7 (some .int) (rL 1 0 0) [.ref (B + 0), .long a, .long b, .long c0] kd ig rg lg sz (PI 1022 (fd (fd (fd τ (by8 a) 8) (by8 b) 8) (by8 c0) 8) B none kd ig rg lg (fun r kd' ig' rg' lg' => ∃ z : Int32, r = some (.int z) ∧ z.toInt = ((fd (fd (fd τ (by8 a) 8) (by8 b) 8) (by8 c0) 8).length : Int))) := by
  refine MC.of (own := RX11) (by decide +kernel) rfl (Nat.le_of_ble_eq_true rfl) ?_
  intro p e s m args below meth c ls C hr hlk hnm hw hsz hl
  have hx := C.1.1
  have hb := C.1.2.1
  have hown := C.1.2.2.2.1
  have hts := C.1.2.2.2.2
  have hl : lv_has ls 7 [(0, .ref (B + 0)), (1, .long a), (3, .long b), (5, .long c0)] := hl
  have hN : Nx 1022 B none kd ig rg lg kd ig rg lg := Nx.rf
  have hsh := hI.sh
  have hrs := hI.rs
  refine lv_aload_n hx hb dX11_feed_0 rfl (lv_at hl 0 rfl) ?_
  refine r_get C hw (hsh 0 _ rfl) fl_X11_12 (oV_r rfl (hrs (0, 0, 1) (by decide))) dX11_feed_1 ?_
  refine lv_lload_n hx hb dX11_feed_4 rfl (lv_at hl 1 rfl) ?_
  refine r_callV (As := [.long a]) (rest := []) C hw (t_X7_append l B D cA kd ig rg lg _ a  hI) sv_X11_80 (hsh 1 _ rfl) rfl hl.1 rfl (Nat.le_of_ble_eq_true rfl) ⟨Nat.le_of_ble_eq_true rfl, Nat.le_of_ble_eq_true rfl⟩ ⟨Nat.le_of_ble_eq_true rfl, Nat.le_of_ble_eq_true rfl⟩ dX11_feed_5 (fun r5 kd1 ig2 rg3 lg4 H locs hw hH hp6 => ?_)
  obtain ⟨hI, hchp6, hrhp6⟩ := hp6
  have hN := hN.tr hchp6
  have hsh := hI.sh
  have hrs := hI.rs
  obtain rfl := hrhp6
  refine lv_aload_n hx hb dX11_feed_8 rfl (lv_at hl 0 rfl) ?_
  refine r_get C hw (hsh 0 _ rfl) fl_X11_12 (oV_r rfl (hrs (0, 0, 1) (by decide))) dX11_feed_9 ?_
  refine lv_lload_n hx hb dX11_feed_12 rfl (lv_at hl 2 rfl) ?_
  refine r_callV (As := [.long b]) (rest := []) C hw (t_X7_append l B D cA kd1 ig2 rg3 lg4 _ b  hI) sv_X11_80 (hsh 1 _ rfl) rfl hl.1 rfl (Nat.le_of_ble_eq_true rfl) ⟨Nat.le_of_ble_eq_true rfl, Nat.le_of_ble_eq_true rfl⟩ ⟨Nat.le_of_ble_eq_true rfl, Nat.le_of_ble_eq_true rfl⟩ dX11_feed_13 (fun r11 kd7 ig8 rg9 lg10 H locs hw hH hp12 => ?_)
  obtain ⟨hI, hchp12, hrhp12⟩ := hp12
  have hN := hN.tr hchp12
  have hsh := hI.sh
  have hrs := hI.rs
  obtain rfl := hrhp12
  refine lv_aload_n hx hb dX11_feed_16 rfl (lv_at hl 0 rfl) ?_
  refine r_get C hw (hsh 0 _ rfl) fl_X11_12 (oV_r rfl (hrs (0, 0, 1) (by decide))) dX11_feed_17 ?_
  refine lv_lload hx hb dX11_feed_20 (lv_at hl 3 rfl) ?_
  refine r_callV (As := [.long c0]) (rest := []) C hw (t_X7_append l B D cA kd7 ig8 rg9 lg10 _ c0  hI) sv_X11_80 (hsh 1 _ rfl) rfl hl.1 rfl (Nat.le_of_ble_eq_true rfl) ⟨Nat.le_of_ble_eq_true rfl, Nat.le_of_ble_eq_true rfl⟩ ⟨Nat.le_of_ble_eq_true rfl, Nat.le_of_ble_eq_true rfl⟩ dX11_feed_22 (fun r17 kd13 ig14 rg15 lg16 H locs hw hH hp18 => ?_)
  obtain ⟨hI, hchp18, hrhp18⟩ := hp18
  have hN := hN.tr hchp18
  have hsh := hI.sh
  have hrs := hI.rs
  obtain rfl := hrhp18
  refine lv_aload_n hx hb dX11_feed_25 rfl (lv_at hl 0 rfl) ?_
  refine r_get C hw (hsh 0 _ rfl) fl_X11_12 (oV_r rfl (hrs (0, 0, 1) (by decide))) dX11_feed_26 ?_
  refine r_get C hw (hsh 1 _ rfl) fl_X11_84 (oV_i rfl) dX11_feed_29 (ti_c (ig14 (B + 1) 1).toInt rfl fun z19 hz19 => ?_)
  have k20 : 0 ≤ (ig14 (B + 1) 1).toInt ∧ (ig14 (B + 1) 1).toInt ≤ 120 := hI.i 1 1 (by decide)
  exact r_iret C hw hr hlk rfl (Nat.le_of_ble_eq_true rfl) (Nat.le_of_ble_eq_true rfl) dX11_feed_32 ⟨hI, hN, ⟨_, rfl, by rw [hz19]; exact hI.len.1⟩⟩

set_option maxHeartbeats 4000000 in
set_option maxRecDepth 100000 in
theorem t_X11_keep {τ : Tp} (l : Launch) (B : Nat) (D : va_G) (cA : Nat → ClassId) (kd : sK) (ig : sI) (rg : sR) (lg : sG) (sz : Nat) (x : Int32) (y : Int32) (hy : y.toInt = 0 ∨ y.toInt = 1) (hI : IC τ B kd ig rg) : MC l B D cA yX11_keep cX11_keep 3 (some .boolean) (rL 2 0 0) [.ref (B + 0), .int x, .int y] kd ig rg lg sz (PI 510 τ B none kd ig rg lg (fun r kd' ig' rg' lg' => ∃ z : Int32, r = some (.int z) ∧ ((0 ≤ x.toInt ∧ x.toInt < 288) → z.toInt = 1) ∧ (¬ (0 ≤ x.toInt ∧ x.toInt < 288) → z.toInt = 0))) := by
  refine MC.of (own := RX11) (by decide +kernel) rfl (Nat.le_of_ble_eq_true rfl) ?_
  intro p e s m args below meth c ls C hr hlk hnm hw hsz hl
  have hx := C.1.1
  have hb := C.1.2.1
  have hown := C.1.2.2.2.1
  have hts := C.1.2.2.2.2
  have hl : lv_has ls 3 [(0, .ref (B + 0)), (1, .int x), (2, .int y)] := hl
  have hN : Nx 510 B none kd ig rg lg kd ig rg lg := Nx.rf
  have hsh := hI.sh
  have hrs := hI.rs
  refine lv_aload_n hx hb dX11_keep_0 rfl (lv_at hl 0 rfl) ?_
  refine r_get C hw (hsh 0 _ rfl) fl_X11_19 (oV_r rfl (hrs (0, 1, 9) (by decide))) dX11_keep_1 ?_
  refine lv_iload_n hx hb dX11_keep_4 rfl (lv_at hl 1 rfl) ?_
  refine lv_iload_n hx hb dX11_keep_5 rfl (lv_at hl 2 rfl) ?_
  refine r_callV (As := [.int x, .int y]) (rest := []) C hw (t_X6_setKept l B D cA kd ig rg lg _ x y (by omega) hI) sv_X11_136 (hsh 9 _ rfl) rfl hl.1 rfl (Nat.le_of_ble_eq_true rfl) ⟨Nat.le_of_ble_eq_true rfl, Nat.le_of_ble_eq_true rfl⟩ ⟨Nat.le_of_ble_eq_true rfl, Nat.le_of_ble_eq_true rfl⟩ dX11_keep_6 (fun r5 kd1 ig2 rg3 lg4 H locs hw hH hp6 => ?_)
  obtain ⟨hI, hchp6, hrhp6⟩ := hp6
  have hN := hN.tr hchp6
  have hsh := hI.sh
  have hrs := hI.rs
  obtain ⟨z7, rfl, hz7⟩ := hrhp6
  exact r_iret C hw hr hlk (nar_b (by omega)) (Nat.le_of_ble_eq_true rfl) (Nat.le_of_ble_eq_true rfl) dX11_keep_9 ⟨hI, hN, ⟨_, rfl, by omega⟩⟩

set_option maxHeartbeats 4000000 in
set_option maxRecDepth 100000 in
theorem t_X11_finding {τ : Tp} (l : Launch) (B : Nat) (D : va_G) (cA : Nat → ClassId) (kd : sK) (ig : sI) (rg : sR) (lg : sG) (sz : Nat) (x : Int32) (y : Int32) (hI : IC τ B kd ig rg) : MC l B D cA yX11_finding cX11_finding 3 (some .int) (rL 1 0 0) [.ref (B + 0), .int x, .int y] kd ig rg lg sz (Pu kd ig rg lg sz (fun r => ∃ z : Int32, r = some (.int z) ∧ True)) := by
  refine MC.of (own := RX11) (by decide +kernel) rfl (Nat.le_of_ble_eq_true rfl) ?_
  intro p e s m args below meth c ls C hr hlk hnm hw hsz hl
  have hx := C.1.1
  have hb := C.1.2.1
  have hown := C.1.2.2.2.1
  have hts := C.1.2.2.2.2
  have hl : lv_has ls 3 [(0, .ref (B + 0)), (1, .int x), (2, .int y)] := hl
  have hsh := hI.sh
  have hrs := hI.rs
  refine lv_aload_n hx hb dX11_finding_0 rfl (lv_at hl 0 rfl) ?_
  refine r_get C hw (hsh 0 _ rfl) fl_X11_67 (oV_r rfl (hrs (0, 7, 43) (by decide))) dX11_finding_1 ?_
  refine lv_iload_n hx hb dX11_finding_4 rfl (lv_at hl 1 rfl) ?_
  refine lv_iload_n hx hb dX11_finding_5 rfl (lv_at hl 2 rfl) ?_
  refine r_callV (As := [.int x, .int y]) (rest := []) C hw (t_X3_tell l B D cA kd ig rg lg _ x y  hI) sv_X11_149 (hsh 43 _ rfl) rfl hl.1 rfl (Nat.le_of_ble_eq_true rfl) ⟨Nat.le_of_ble_eq_true rfl, Nat.le_of_ble_eq_true rfl⟩ ⟨Nat.le_of_ble_eq_true rfl, Nat.le_of_ble_eq_true rfl⟩ dX11_finding_6 (fun r5 kd1 ig2 rg3 lg4 H locs hw hH hp6 => ?_)
  obtain ⟨rfl, rfl, rfl, rfl, hzhp6, hrhp6⟩ := hp6
  have hsz := hzhp6.trans hsz
  obtain ⟨z7, rfl, hz7⟩ := hrhp6
  exact r_iret C hw hr hlk rfl (Nat.le_of_ble_eq_true rfl) (Nat.le_of_ble_eq_true rfl) dX11_finding_9 ⟨rfl, rfl, rfl, rfl, hsz, ⟨_, rfl, trivial⟩⟩

set_option maxHeartbeats 4000000 in
set_option maxRecDepth 100000 in
theorem t_X11_changed {τ : Tp} (l : Launch) (B : Nat) (D : va_G) (cA : Nat → ClassId) (kd : sK) (ig : sI) (rg : sR) (lg : sG) (sz : Nat) (x : Int32) (y : Int32) (hI : IC τ B kd ig rg) : MC l B D cA yX11_changed cX11_changed 3 (some .int) (rL 1 0 0) [.ref (B + 0), .int x, .int y] kd ig rg lg sz (Pu kd ig rg lg sz (fun r => ∃ z : Int32, r = some (.int z) ∧ True)) := by
  refine MC.of (own := RX11) (by decide +kernel) rfl (Nat.le_of_ble_eq_true rfl) ?_
  intro p e s m args below meth c ls C hr hlk hnm hw hsz hl
  have hx := C.1.1
  have hb := C.1.2.1
  have hown := C.1.2.2.2.1
  have hts := C.1.2.2.2.2
  have hl : lv_has ls 3 [(0, .ref (B + 0)), (1, .int x), (2, .int y)] := hl
  have hsh := hI.sh
  have hrs := hI.rs
  refine lv_aload_n hx hb dX11_changed_0 rfl (lv_at hl 0 rfl) ?_
  refine r_get C hw (hsh 0 _ rfl) fl_X11_76 (oV_r rfl (hrs (0, 8, 45) (by decide))) dX11_changed_1 ?_
  refine lv_iload_n hx hb dX11_changed_4 rfl (lv_at hl 1 rfl) ?_
  refine lv_iload_n hx hb dX11_changed_5 rfl (lv_at hl 2 rfl) ?_
  refine r_callV (As := [.int x, .int y]) (rest := []) C hw (t_X1_tell l B D cA kd ig rg lg _ x y  hI) sv_X11_170 (hsh 45 _ rfl) rfl hl.1 rfl (Nat.le_of_ble_eq_true rfl) ⟨Nat.le_of_ble_eq_true rfl, Nat.le_of_ble_eq_true rfl⟩ ⟨Nat.le_of_ble_eq_true rfl, Nat.le_of_ble_eq_true rfl⟩ dX11_changed_6 (fun r5 kd1 ig2 rg3 lg4 H locs hw hH hp6 => ?_)
  obtain ⟨rfl, rfl, rfl, rfl, hzhp6, hrhp6⟩ := hp6
  have hsz := hzhp6.trans hsz
  obtain ⟨z7, rfl, hz7⟩ := hrhp6
  exact r_iret C hw hr hlk rfl (Nat.le_of_ble_eq_true rfl) (Nat.le_of_ble_eq_true rfl) dX11_changed_9 ⟨rfl, rfl, rfl, rfl, hsz, ⟨_, rfl, trivial⟩⟩

set_option maxHeartbeats 4000000 in
set_option maxRecDepth 100000 in
theorem t_X11_ways {τ : Tp} (l : Launch) (B : Nat) (D : va_G) (cA : Nat → ClassId) (kd : sK) (ig : sI) (rg : sR) (lg : sG) (sz : Nat) (x : Int32) (y : Int32) (hI : IC τ B kd ig rg) : MC l B D cA yX11_ways cX11_ways 3 (some .int) (rL 7 0 0) [.ref (B + 0), .int x, .int y] kd ig rg lg sz (PI 950 τ B none kd ig rg lg (fun r kd' ig' rg' lg' => ∃ z : Int32, r = some (.int z) ∧ True)) := by
  refine MC.of (own := RX11) (by decide +kernel) rfl (Nat.le_of_ble_eq_true rfl) ?_
  intro p e s m args below meth c ls C hr hlk hnm hw hsz hl
  have hx := C.1.1
  have hb := C.1.2.1
  have hown := C.1.2.2.2.1
  have hts := C.1.2.2.2.2
  have hl : lv_has ls 3 [(0, .ref (B + 0)), (1, .int x), (2, .int y)] := hl
  have hN : Nx 950 B none kd ig rg lg kd ig rg lg := Nx.rf
  have hsh := hI.sh
  have hrs := hI.rs
  refine lv_iload_n hx hb dX11_ways_0 rfl (lv_at hl 1 rfl) ?_
  refine r_callS (As := [.int x]) (rest := []) C hw (t_X11_onSheet l B D cA kd ig rg lg _ x  hI) ss_X11_88 rfl hl.1 rfl (Nat.le_of_ble_eq_true rfl) ⟨Nat.le_of_ble_eq_true rfl, Nat.le_of_ble_eq_true rfl⟩ ⟨Nat.le_of_ble_eq_true rfl, Nat.le_of_ble_eq_true rfl⟩ dX11_ways_1 (fun r5 kd1 ig2 rg3 lg4 H locs hw hH hp6 => ?_)
  obtain ⟨rfl, rfl, rfl, rfl, hzhp6, hrhp6⟩ := hp6
  obtain ⟨z7, rfl, hz7⟩ := hrhp6
  refine z_eq (tgt := 14) hx hb dX11_ways_4 (by decide) (fun c4 => ?_) (fun c4 => ?_)
  · refine lv_iconst (v := (-1)) hx hb dX11_ways_14 (by decide) (ti_c (-1) (by decide) fun z8 hz8 => ?_)
    exact r_iret C hw hr hlk rfl (Nat.le_of_ble_eq_true rfl) (Nat.le_of_ble_eq_true rfl) dX11_ways_15 ⟨hI, hN, ⟨_, rfl, trivial⟩⟩
  · refine lv_iload_n hx hb dX11_ways_7 rfl (lv_at hl 2 rfl) ?_
    refine r_callS (As := [.int y]) (rest := []) C hw (t_X11_onSheet l B D cA kd ig rg lg _ y  hI) ss_X11_88 rfl hl.1 rfl (Nat.le_of_ble_eq_true rfl) ⟨Nat.le_of_ble_eq_true rfl, Nat.le_of_ble_eq_true rfl⟩ ⟨Nat.le_of_ble_eq_true rfl, Nat.le_of_ble_eq_true rfl⟩ dX11_ways_8 (fun r13 kd9 ig10 rg11 lg12 H locs hw hH hp14 => ?_)
    obtain ⟨rfl, rfl, rfl, rfl, hzhp14, hrhp14⟩ := hp14
    obtain ⟨z15, rfl, hz15⟩ := hrhp14
    refine z_ne (tgt := 16) hx hb dX11_ways_11 (by decide) (fun c11 => ?_) (fun c11 => ?_)
    · refine lv_aload_n hx hb dX11_ways_16 rfl (lv_at hl 0 rfl) ?_
      refine r_get C hw (hsh 0 _ rfl) fl_X11_58 (oV_r rfl (hrs (0, 6, 37) (by decide))) dX11_ways_17 ?_
      refine r_callV (As := []) (rest := []) C hw (t_X8_settle l B D cA kd ig rg lg _   hI) sv_X11_144 (hsh 37 _ rfl) rfl hl.1 rfl (Nat.le_of_ble_eq_true rfl) ⟨Nat.le_of_ble_eq_true rfl, Nat.le_of_ble_eq_true rfl⟩ ⟨Nat.le_of_ble_eq_true rfl, Nat.le_of_ble_eq_true rfl⟩ dX11_ways_20 (fun r20 kd16 ig17 rg18 lg19 H locs hw hH hp21 => ?_)
      obtain ⟨hI, hchp21, hrhp21⟩ := hp21
      have hN := hN.tr hchp21
      have hsh := hI.sh
      have hrs := hI.rs
      obtain rfl := hrhp21
      refine lv_aload_n hx hb dX11_ways_23 rfl (lv_at hl 0 rfl) ?_
      refine r_get C hw (hsh 0 _ rfl) fl_X11_58 (oV_r rfl (hrs (0, 6, 37) (by decide))) dX11_ways_24 ?_
      refine lv_iload_n hx hb dX11_ways_27 rfl (lv_at hl 2 rfl) ?_
      refine r_callV (As := [.int y]) (rest := []) C hw (t_X8_isTotal l B D cA kd16 ig17 rg18 lg19 _ y  hI) sv_X11_196 (hsh 37 _ rfl) rfl hl.1 rfl (Nat.le_of_ble_eq_true rfl) ⟨Nat.le_of_ble_eq_true rfl, Nat.le_of_ble_eq_true rfl⟩ ⟨Nat.le_of_ble_eq_true rfl, Nat.le_of_ble_eq_true rfl⟩ dX11_ways_28 (fun r26 kd22 ig23 rg24 lg25 H locs hw hH hp27 => ?_)
      obtain ⟨rfl, rfl, rfl, rfl, hzhp27, hrhp27⟩ := hp27
      obtain ⟨z28, rfl, hz28⟩ := hrhp27
      refine z_eq (tgt := 46) hx hb dX11_ways_31 (by decide) (fun c31 => ?_) (fun c31 => ?_)
      · refine lv_iconst (v := (-1)) hx hb dX11_ways_46 (by decide) (ti_c (-1) (by decide) fun z29 hz29 => ?_)
        exact r_iret C hw hr hlk rfl (Nat.le_of_ble_eq_true rfl) (Nat.le_of_ble_eq_true rfl) dX11_ways_47 ⟨hI, hN, ⟨_, rfl, trivial⟩⟩
      · refine lv_aload_n hx hb dX11_ways_34 rfl (lv_at hl 0 rfl) ?_
        refine r_get C hw (hsh 0 _ rfl) fl_X11_58 (oV_r rfl (hrs (0, 6, 37) (by decide))) dX11_ways_35 ?_
        refine lv_iload_n hx hb dX11_ways_38 rfl (lv_at hl 1 rfl) ?_
        refine lv_iload_n hx hb dX11_ways_39 rfl (lv_at hl 2 rfl) ?_
        refine r_callV (As := [.int x, .int y]) (rest := []) C hw (t_X8_waysInto l B D cA kd16 ig17 rg18 lg19 _ x y  hI) sv_X11_209 (hsh 37 _ rfl) rfl hl.1 rfl (Nat.le_of_ble_eq_true rfl) ⟨Nat.le_of_ble_eq_true rfl, Nat.le_of_ble_eq_true rfl⟩ ⟨Nat.le_of_ble_eq_true rfl, Nat.le_of_ble_eq_true rfl⟩ dX11_ways_40 (fun r34 kd30 ig31 rg32 lg33 H locs hw hH hp35 => ?_)
        obtain ⟨hI, hchp35, hrhp35⟩ := hp35
        have hN := hN.tr hchp35
        have hsh := hI.sh
        have hrs := hI.rs
        obtain ⟨z36, rfl, hz36⟩ := hrhp35
        refine lv_goto (tgt := 47) hx hb dX11_ways_43 (by decide) ?_
        exact r_iret C hw hr hlk rfl (Nat.le_of_ble_eq_true rfl) (Nat.le_of_ble_eq_true rfl) dX11_ways_47 ⟨hI, hN, ⟨_, rfl, trivial⟩⟩
    · refine lv_iconst (v := (-1)) hx hb dX11_ways_14 (by decide) (ti_c (-1) (by decide) fun z37 hz37 => ?_)
      exact r_iret C hw hr hlk rfl (Nat.le_of_ble_eq_true rfl) (Nat.le_of_ble_eq_true rfl) dX11_ways_15 ⟨hI, hN, ⟨_, rfl, trivial⟩⟩

