set_option maxHeartbeats 4000000 in
set_option maxRecDepth 100000 in
theorem t_X11_cellE {τ : Tp} (l : Launch) (B : Nat) (D : va_G) (cA : Nat → ClassId) (kd : sK) (ig : sI) (rg : sR) (lg : sG) (sz : Nat) (x : Int32) (y : Int32) (hst : l.stackTraces = false) (σ : Sg) (π : Ps) (ν : Nat) (hS : SCh B σ π ν kd ig rg) (hV : FV B σ ν ig) (hν : ν < 1000000) (hI : IC τ B kd ig rg) : MX l B D cA yX11_cell cX11_cell 3 (some .int) (rL 7 1 6) [.ref (B + 0), .int x, .int y] kd ig rg lg sz False (PI 898 τ B none kd ig rg lg (fun r kd' ig' rg' lg' => ∃ z : Int32, r = some (.int z) ∧ (SCh B σ π ν kd' ig' rg' ∧ FV B σ ν ig'))) := by
  refine MX.of (own := RX11) (by decide +kernel) rfl (Nat.le_of_ble_eq_true rfl) ?_
  intro p e s m args below meth c ls C hr hlk hnm hw hsz hl hnt
  have hx := C.1.1
  have hb := C.1.2.1
  have hown := C.1.2.2.2.1
  have hts := C.1.2.2.2.2
  have hl : lv_has ls 3 [(0, .ref (B + 0)), (1, .int x), (2, .int y)] := hl
  have hN : Nx 898 B none kd ig rg lg kd ig rg lg := Nx.rf
  have hsh := hI.sh
  have hrs := hI.rs
  obtain ⟨sa, hKX⟩ := C.2.2.2.2.1
  have hT : Nx 902 B none kd ig rg lg kd ig rg lg := Nx.rf
  refine lv_iload_n hx hb dX11_cell_0 rfl (lv_at hl 1 rfl) ?_
  refine r_callS (As := [.int x]) (rest := []) C hw (t_X11_onSheet l B D cA kd ig rg lg _ x  hI) ss_X11_88 rfl hl.1 rfl (Nat.le_of_ble_eq_true rfl) ⟨Nat.le_of_ble_eq_true rfl, Nat.le_of_ble_eq_true rfl⟩ ⟨Nat.le_of_ble_eq_true rfl, Nat.le_of_ble_eq_true rfl⟩ dX11_cell_1 (fun r5 kd1 ig2 rg3 lg4 H locs hw hH hp6 => ?_)
  obtain ⟨rfl, rfl, rfl, rfl, hzhp6, hrhp6⟩ := hp6
  obtain ⟨z7, rfl, hz7⟩ := hrhp6
  refine z_eq (tgt := 17) hx hb dX11_cell_4 (by decide) (fun c4 => ?_) (fun c4 => ?_)
  · exact vx_throwX (pc := 17) (ix := 13) (rx := prog_27_method_4_code) (own := RX11) (cls := NSE) (names := NSEs) (ik := 177) (is := 179) (ic := 181) (sa := sa) hx hb hst (by decide +kernel) (by decide +kernel) (by decide +kernel) (by decide +kernel) hown (by decide +kernel) (by decide +kernel) (hts _ (TBg_in (atN_c _ (List.mem_cons_self)).1 (atN_c _ (List.mem_cons_self)).2)) (hts _ (TBg_in (atN_c _ (List.mem_cons_of_mem _ List.mem_cons_self)).1 (atN_c _ (List.mem_cons_of_mem _ List.mem_cons_self)).2)) hKX.2.1 (atN hts hKX.1) atN_o hKX.2.2.1 hKX.2.2.2 hw.2.2.1 (hl.1.trans C.1.2.2.1.symm) dX11_cell_17 dX11_cell_20 dX11_cell_21 dX11_cell_23 dX11_cell_26 (fun x hx => (hnt x hx).elim) (by decide) (by decide) (Nat.le_of_ble_eq_true rfl) (Nat.le_of_ble_eq_true rfl) hlk (XcW.now hw (fun h => h)) hw.2.2.1.2.2 (Nat.le_of_ble_eq_true rfl) (Nat.le_of_ble_eq_true rfl)
  · refine lv_iload_n hx hb dX11_cell_7 rfl (lv_at hl 2 rfl) ?_
    refine z_lt (tgt := 17) hx hb dX11_cell_8 (by decide) (fun c8 => ?_) (fun c8 => ?_)
    · exact vx_throwX (pc := 17) (ix := 13) (rx := prog_27_method_4_code) (own := RX11) (cls := NSE) (names := NSEs) (ik := 177) (is := 179) (ic := 181) (sa := sa) hx hb hst (by decide +kernel) (by decide +kernel) (by decide +kernel) (by decide +kernel) hown (by decide +kernel) (by decide +kernel) (hts _ (TBg_in (atN_c _ (List.mem_cons_self)).1 (atN_c _ (List.mem_cons_self)).2)) (hts _ (TBg_in (atN_c _ (List.mem_cons_of_mem _ List.mem_cons_self)).1 (atN_c _ (List.mem_cons_of_mem _ List.mem_cons_self)).2)) hKX.2.1 (atN hts hKX.1) atN_o hKX.2.2.1 hKX.2.2.2 hw.2.2.1 (hl.1.trans C.1.2.2.1.symm) dX11_cell_17 dX11_cell_20 dX11_cell_21 dX11_cell_23 dX11_cell_26 (fun x hx => (hnt x hx).elim) (by decide) (by decide) (Nat.le_of_ble_eq_true rfl) (Nat.le_of_ble_eq_true rfl) hlk (XcW.now hw (fun h => h)) hw.2.2.1.2.2 (Nat.le_of_ble_eq_true rfl) (Nat.le_of_ble_eq_true rfl)
    · refine lv_iload_n hx hb dX11_cell_11 rfl (lv_at hl 2 rfl) ?_
      refine lv_bipush (v := 10) hx hb dX11_cell_12 (by decide) (ti_c 10 (by decide) fun z8 hz8 => ?_)
      refine b_le (tgt := 27) hx hb dX11_cell_14 (by decide) (fun c14 => ?_) (fun c14 => ?_)
      · refine lv_iload_n hx hb dX11_cell_27 rfl (lv_at hl 2 rfl) ?_
        by_cases s28_0 : y.toInt = 0
        · refine lv_tableIn hx hb dX11_cell_28 (by omega) (by omega) (off := 56) (by rw [s28_0]; rfl) (tgt := 84) (by decide) ?_
          refine lv_aload_n hx hb dX11_cell_84 rfl (lv_at hl 0 rfl) ?_
          refine r_get C hw (hsh 0 _ rfl) fl_X11_19 (oV_r rfl (hrs (0, 1, 9) (by decide))) dX11_cell_85 ?_
          refine lv_iload_n hx hb dX11_cell_88 rfl (lv_at hl 1 rfl) ?_
          refine r_callV (As := [.int x]) (rest := []) C hw (t_X6_kindAt l B D cA kd ig rg lg _ x  hI) sv_X11_116 (hsh 9 _ rfl) rfl hl.1 rfl (Nat.le_of_ble_eq_true rfl) ⟨Nat.le_of_ble_eq_true rfl, Nat.le_of_ble_eq_true rfl⟩ ⟨Nat.le_of_ble_eq_true rfl, Nat.le_of_ble_eq_true rfl⟩ dX11_cell_89 (fun r13 kd9 ig10 rg11 lg12 H locs hw hH hp14 => ?_)
          obtain ⟨rfl, rfl, rfl, rfl, hzhp14, hrhp14⟩ := hp14
          obtain ⟨z15, rfl, hz15⟩ := hrhp14
          exact vx_ret (r_iret C hw hr hlk rfl (Nat.le_of_ble_eq_true rfl) (Nat.le_of_ble_eq_true rfl) dX11_cell_92 ⟨hI, hN, ⟨_, rfl, ⟨hS, hV⟩⟩⟩)
        by_cases s28_1 : y.toInt = 1
        · refine lv_tableIn hx hb dX11_cell_28 (by omega) (by omega) (off := 65) (by rw [s28_1]; rfl) (tgt := 93) (by decide) ?_
          refine lv_aload_n hx hb dX11_cell_93 rfl (lv_at hl 0 rfl) ?_
          refine r_get C hw (hsh 0 _ rfl) fl_X11_37 (oV_r rfl (hrs (0, 3, 24) (by decide))) dX11_cell_94 ?_
          refine r_callV (As := []) (rest := []) C hw (t_X10_settle l B D cA kd ig rg lg _   hI) sv_X11_159 (hsh 24 _ rfl) rfl hl.1 rfl (Nat.le_of_ble_eq_true rfl) ⟨Nat.le_of_ble_eq_true rfl, Nat.le_of_ble_eq_true rfl⟩ ⟨Nat.le_of_ble_eq_true rfl, Nat.le_of_ble_eq_true rfl⟩ dX11_cell_97 (fun r20 kd16 ig17 rg18 lg19 H locs hw hH hp21 => ?_)
          obtain ⟨hI, hchp21, hrhp21⟩ := hp21
          have hT := hT.tr hchp21
          have hN := hN.tr hchp21
          have hsh := hI.sh
          have hrs := hI.rs
          obtain rfl := hrhp21
          refine lv_aload_n hx hb dX11_cell_100 rfl (lv_at hl 0 rfl) ?_
          refine r_get C hw (hsh 0 _ rfl) fl_X11_37 (oV_r rfl (hrs (0, 3, 24) (by decide))) dX11_cell_101 ?_
          refine lv_iload_n hx hb dX11_cell_104 rfl (lv_at hl 1 rfl) ?_
          refine r_callV (As := [.int x]) (rest := []) C hw (t_X10_valueAt l B D cA kd16 ig17 rg18 lg19 _ x  hI) sv_X11_184 (hsh 24 _ rfl) rfl hl.1 rfl (Nat.le_of_ble_eq_true rfl) ⟨Nat.le_of_ble_eq_true rfl, Nat.le_of_ble_eq_true rfl⟩ ⟨Nat.le_of_ble_eq_true rfl, Nat.le_of_ble_eq_true rfl⟩ dX11_cell_105 (fun r26 kd22 ig23 rg24 lg25 H locs hw hH hp27 => ?_)
          obtain ⟨rfl, rfl, rfl, rfl, hzhp27, hrhp27⟩ := hp27
          obtain ⟨z28, rfl, hz28⟩ := hrhp27
          have hS := hS.nx hT
          have hV := hV.nx hT
          have hT : Nx 902 B none kd16 ig17 rg18 lg19 kd16 ig17 rg18 lg19 := Nx.rf
          exact vx_ret (r_iret C hw hr hlk rfl (Nat.le_of_ble_eq_true rfl) (Nat.le_of_ble_eq_true rfl) dX11_cell_108 ⟨hI, hN, ⟨_, rfl, ⟨hS, hV⟩⟩⟩)
        by_cases s28_2 : y.toInt = 2
        · refine lv_tableIn hx hb dX11_cell_28 (by omega) (by omega) (off := 81) (by rw [s28_2]; rfl) (tgt := 109) (by decide) ?_
          refine lv_aload_n hx hb dX11_cell_109 rfl (lv_at hl 0 rfl) ?_
          refine r_get C hw (hsh 0 _ rfl) fl_X11_37 (oV_r rfl (hrs (0, 3, 24) (by decide))) dX11_cell_110 ?_
          refine r_callV (As := []) (rest := []) C hw (t_X10_settle l B D cA kd ig rg lg _   hI) sv_X11_159 (hsh 24 _ rfl) rfl hl.1 rfl (Nat.le_of_ble_eq_true rfl) ⟨Nat.le_of_ble_eq_true rfl, Nat.le_of_ble_eq_true rfl⟩ ⟨Nat.le_of_ble_eq_true rfl, Nat.le_of_ble_eq_true rfl⟩ dX11_cell_113 (fun r33 kd29 ig30 rg31 lg32 H locs hw hH hp34 => ?_)
          obtain ⟨hI, hchp34, hrhp34⟩ := hp34
          have hT := hT.tr hchp34
          have hN := hN.tr hchp34
          have hsh := hI.sh
          have hrs := hI.rs
          obtain rfl := hrhp34
          refine lv_aload_n hx hb dX11_cell_116 rfl (lv_at hl 0 rfl) ?_
          refine r_get C hw (hsh 0 _ rfl) fl_X11_37 (oV_r rfl (hrs (0, 3, 24) (by decide))) dX11_cell_117 ?_
          refine lv_iload_n hx hb dX11_cell_120 rfl (lv_at hl 1 rfl) ?_
          refine r_callV (As := [.int x]) (rest := []) C hw (t_X10_errorAt l B D cA kd29 ig30 rg31 lg32 _ x  hI) sv_X11_187 (hsh 24 _ rfl) rfl hl.1 rfl (Nat.le_of_ble_eq_true rfl) ⟨Nat.le_of_ble_eq_true rfl, Nat.le_of_ble_eq_true rfl⟩ ⟨Nat.le_of_ble_eq_true rfl, Nat.le_of_ble_eq_true rfl⟩ dX11_cell_121 (fun r39 kd35 ig36 rg37 lg38 H locs hw hH hp40 => ?_)
          obtain ⟨rfl, rfl, rfl, rfl, hzhp40, hrhp40⟩ := hp40
          obtain ⟨z41, rfl, hz41⟩ := hrhp40
          have hS := hS.nx hT
          have hV := hV.nx hT
          have hT : Nx 902 B none kd29 ig30 rg31 lg32 kd29 ig30 rg31 lg32 := Nx.rf
          exact vx_ret (r_iret C hw hr hlk rfl (Nat.le_of_ble_eq_true rfl) (Nat.le_of_ble_eq_true rfl) dX11_cell_124 ⟨hI, hN, ⟨_, rfl, ⟨hS, hV⟩⟩⟩)
        by_cases s28_3 : y.toInt = 3
        · refine lv_tableIn hx hb dX11_cell_28 (by omega) (by omega) (off := 97) (by rw [s28_3]; rfl) (tgt := 125) (by decide) ?_
          refine lv_aload_n hx hb dX11_cell_125 rfl (lv_at hl 0 rfl) ?_
          refine r_get C hw (hsh 0 _ rfl) fl_X11_44 (oV_r rfl (hrs (0, 4, 29) (by decide))) dX11_cell_126 ?_
          refine r_callV (As := []) (rest := []) C hw (t_X2_settleE l B D cA kd ig rg lg _  σ π ν hS hV hI) sv_X11_140 (hsh 29 _ rfl) rfl hl.1 rfl (Nat.le_of_ble_eq_true rfl) ⟨Nat.le_of_ble_eq_true rfl, Nat.le_of_ble_eq_true rfl⟩ ⟨Nat.le_of_ble_eq_true rfl, Nat.le_of_ble_eq_true rfl⟩ dX11_cell_129 (fun r46 kd42 ig43 rg44 lg45 H locs hw hH hp47 => ?_)
          obtain ⟨hI, hchp47, hrhp47⟩ := hp47
          have hN := hN.tr hchp47
          have hsh := hI.sh
          have hrs := hI.rs
          obtain ⟨rfl, hvhp47⟩ := hrhp47
          have hS := SCh.nx hS hchp47
          have hV := FV.of hvhp47.1 hvhp47.2
          have hT : Nx 902 B none kd42 ig43 rg44 lg45 kd42 ig43 rg44 lg45 := Nx.rf
          refine lv_aload_n hx hb dX11_cell_132 rfl (lv_at hl 0 rfl) ?_
          refine r_get C hw (hsh 0 _ rfl) fl_X11_44 (oV_r rfl (hrs (0, 4, 29) (by decide))) dX11_cell_133 ?_
          refine lv_iload_n hx hb dX11_cell_136 rfl (lv_at hl 1 rfl) ?_
          refine r_callV (As := [.int x]) (rest := []) C hw (t_X2_familyAt l B D cA kd42 ig43 rg44 lg45 _ x  hI) sv_X11_190 (hsh 29 _ rfl) rfl hl.1 rfl (Nat.le_of_ble_eq_true rfl) ⟨Nat.le_of_ble_eq_true rfl, Nat.le_of_ble_eq_true rfl⟩ ⟨Nat.le_of_ble_eq_true rfl, Nat.le_of_ble_eq_true rfl⟩ dX11_cell_137 (fun r52 kd48 ig49 rg50 lg51 H locs hw hH hp53 => ?_)
          obtain ⟨rfl, rfl, rfl, rfl, hzhp53, hrhp53⟩ := hp53
          obtain ⟨z54, rfl, hz54⟩ := hrhp53
          exact vx_ret (r_iret C hw hr hlk rfl (Nat.le_of_ble_eq_true rfl) (Nat.le_of_ble_eq_true rfl) dX11_cell_140 ⟨hI, hN, ⟨_, rfl, ⟨hS, hV⟩⟩⟩)
        by_cases s28_4 : y.toInt = 4
        · refine lv_tableIn hx hb dX11_cell_28 (by omega) (by omega) (off := 113) (by rw [s28_4]; rfl) (tgt := 141) (by decide) ?_
          refine lv_aload_n hx hb dX11_cell_141 rfl (lv_at hl 0 rfl) ?_
          refine r_get C hw (hsh 0 _ rfl) fl_X11_51 (oV_r rfl (hrs (0, 5, 32) (by decide))) dX11_cell_142 ?_
          refine r_callV (As := []) (rest := []) C hw (t_X9_settle l B D cA kd ig rg lg _   hI) sv_X11_143 (hsh 32 _ rfl) rfl hl.1 rfl (Nat.le_of_ble_eq_true rfl) ⟨Nat.le_of_ble_eq_true rfl, Nat.le_of_ble_eq_true rfl⟩ ⟨Nat.le_of_ble_eq_true rfl, Nat.le_of_ble_eq_true rfl⟩ dX11_cell_145 (fun r59 kd55 ig56 rg57 lg58 H locs hw hH hp60 => ?_)
          obtain ⟨hI, hchp60, hrhp60⟩ := hp60
          have hT := hT.tr hchp60
          have hN := hN.tr hchp60
          have hsh := hI.sh
          have hrs := hI.rs
          obtain rfl := hrhp60
          refine lv_aload_n hx hb dX11_cell_148 rfl (lv_at hl 0 rfl) ?_
          refine r_get C hw (hsh 0 _ rfl) fl_X11_51 (oV_r rfl (hrs (0, 5, 32) (by decide))) dX11_cell_149 ?_
          refine lv_iload_n hx hb dX11_cell_152 rfl (lv_at hl 1 rfl) ?_
          refine lv_iload_n hx hb dX11_cell_153 rfl (lv_at hl 2 rfl) ?_
          refine lv_iconst (v := 4) hx hb dX11_cell_154 (by decide) (ti_c 4 (by decide) fun z61 hz61 => ?_)
          refine lv_isub hx hb dX11_cell_155 (tc_sub fun z62 hz62 => ?_)
          first | replace hz62 := hz62 (by omega) | clear hz62
          refine r_callV (As := [.int x, .int z62]) (rest := []) C hw (t_X9_exponentAt l B D cA kd55 ig56 rg57 lg58 _ x z62  hI) sv_X11_193 (hsh 32 _ rfl) rfl hl.1 rfl (Nat.le_of_ble_eq_true rfl) ⟨Nat.le_of_ble_eq_true rfl, Nat.le_of_ble_eq_true rfl⟩ ⟨Nat.le_of_ble_eq_true rfl, Nat.le_of_ble_eq_true rfl⟩ dX11_cell_156 (fun r67 kd63 ig64 rg65 lg66 H locs hw hH hp68 => ?_)
          obtain ⟨rfl, rfl, rfl, rfl, hzhp68, hrhp68⟩ := hp68
          obtain ⟨z69, rfl, hz69⟩ := hrhp68
          have hS := hS.nx hT
          have hV := hV.nx hT
          have hT : Nx 902 B none kd55 ig56 rg57 lg58 kd55 ig56 rg57 lg58 := Nx.rf
          exact vx_ret (r_iret C hw hr hlk rfl (Nat.le_of_ble_eq_true rfl) (Nat.le_of_ble_eq_true rfl) dX11_cell_159 ⟨hI, hN, ⟨_, rfl, ⟨hS, hV⟩⟩⟩)
        by_cases s28_5 : y.toInt = 5
        · refine lv_tableIn hx hb dX11_cell_28 (by omega) (by omega) (off := 113) (by rw [s28_5]; rfl) (tgt := 141) (by decide) ?_
          refine lv_aload_n hx hb dX11_cell_141 rfl (lv_at hl 0 rfl) ?_
          refine r_get C hw (hsh 0 _ rfl) fl_X11_51 (oV_r rfl (hrs (0, 5, 32) (by decide))) dX11_cell_142 ?_
          refine r_callV (As := []) (rest := []) C hw (t_X9_settle l B D cA kd ig rg lg _   hI) sv_X11_143 (hsh 32 _ rfl) rfl hl.1 rfl (Nat.le_of_ble_eq_true rfl) ⟨Nat.le_of_ble_eq_true rfl, Nat.le_of_ble_eq_true rfl⟩ ⟨Nat.le_of_ble_eq_true rfl, Nat.le_of_ble_eq_true rfl⟩ dX11_cell_145 (fun r74 kd70 ig71 rg72 lg73 H locs hw hH hp75 => ?_)
          obtain ⟨hI, hchp75, hrhp75⟩ := hp75
          have hT := hT.tr hchp75
          have hN := hN.tr hchp75
          have hsh := hI.sh
          have hrs := hI.rs
          obtain rfl := hrhp75
          refine lv_aload_n hx hb dX11_cell_148 rfl (lv_at hl 0 rfl) ?_
          refine r_get C hw (hsh 0 _ rfl) fl_X11_51 (oV_r rfl (hrs (0, 5, 32) (by decide))) dX11_cell_149 ?_
          refine lv_iload_n hx hb dX11_cell_152 rfl (lv_at hl 1 rfl) ?_
          refine lv_iload_n hx hb dX11_cell_153 rfl (lv_at hl 2 rfl) ?_
          refine lv_iconst (v := 4) hx hb dX11_cell_154 (by decide) (ti_c 4 (by decide) fun z76 hz76 => ?_)
          refine lv_isub hx hb dX11_cell_155 (tc_sub fun z77 hz77 => ?_)
          first | replace hz77 := hz77 (by omega) | clear hz77
          refine r_callV (As := [.int x, .int z77]) (rest := []) C hw (t_X9_exponentAt l B D cA kd70 ig71 rg72 lg73 _ x z77  hI) sv_X11_193 (hsh 32 _ rfl) rfl hl.1 rfl (Nat.le_of_ble_eq_true rfl) ⟨Nat.le_of_ble_eq_true rfl, Nat.le_of_ble_eq_true rfl⟩ ⟨Nat.le_of_ble_eq_true rfl, Nat.le_of_ble_eq_true rfl⟩ dX11_cell_156 (fun r82 kd78 ig79 rg80 lg81 H locs hw hH hp83 => ?_)
          obtain ⟨rfl, rfl, rfl, rfl, hzhp83, hrhp83⟩ := hp83
          obtain ⟨z84, rfl, hz84⟩ := hrhp83
          have hS := hS.nx hT
          have hV := hV.nx hT
          have hT : Nx 902 B none kd70 ig71 rg72 lg73 kd70 ig71 rg72 lg73 := Nx.rf
          exact vx_ret (r_iret C hw hr hlk rfl (Nat.le_of_ble_eq_true rfl) (Nat.le_of_ble_eq_true rfl) dX11_cell_159 ⟨hI, hN, ⟨_, rfl, ⟨hS, hV⟩⟩⟩)
        by_cases s28_6 : y.toInt = 6
        · refine lv_tableIn hx hb dX11_cell_28 (by omega) (by omega) (off := 113) (by rw [s28_6]; rfl) (tgt := 141) (by decide) ?_
          refine lv_aload_n hx hb dX11_cell_141 rfl (lv_at hl 0 rfl) ?_
          refine r_get C hw (hsh 0 _ rfl) fl_X11_51 (oV_r rfl (hrs (0, 5, 32) (by decide))) dX11_cell_142 ?_
          refine r_callV (As := []) (rest := []) C hw (t_X9_settle l B D cA kd ig rg lg _   hI) sv_X11_143 (hsh 32 _ rfl) rfl hl.1 rfl (Nat.le_of_ble_eq_true rfl) ⟨Nat.le_of_ble_eq_true rfl, Nat.le_of_ble_eq_true rfl⟩ ⟨Nat.le_of_ble_eq_true rfl, Nat.le_of_ble_eq_true rfl⟩ dX11_cell_145 (fun r89 kd85 ig86 rg87 lg88 H locs hw hH hp90 => ?_)
          obtain ⟨hI, hchp90, hrhp90⟩ := hp90
          have hT := hT.tr hchp90
          have hN := hN.tr hchp90
          have hsh := hI.sh
          have hrs := hI.rs
          obtain rfl := hrhp90
          refine lv_aload_n hx hb dX11_cell_148 rfl (lv_at hl 0 rfl) ?_
          refine r_get C hw (hsh 0 _ rfl) fl_X11_51 (oV_r rfl (hrs (0, 5, 32) (by decide))) dX11_cell_149 ?_
          refine lv_iload_n hx hb dX11_cell_152 rfl (lv_at hl 1 rfl) ?_
          refine lv_iload_n hx hb dX11_cell_153 rfl (lv_at hl 2 rfl) ?_
          refine lv_iconst (v := 4) hx hb dX11_cell_154 (by decide) (ti_c 4 (by decide) fun z91 hz91 => ?_)
          refine lv_isub hx hb dX11_cell_155 (tc_sub fun z92 hz92 => ?_)
          first | replace hz92 := hz92 (by omega) | clear hz92
          refine r_callV (As := [.int x, .int z92]) (rest := []) C hw (t_X9_exponentAt l B D cA kd85 ig86 rg87 lg88 _ x z92  hI) sv_X11_193 (hsh 32 _ rfl) rfl hl.1 rfl (Nat.le_of_ble_eq_true rfl) ⟨Nat.le_of_ble_eq_true rfl, Nat.le_of_ble_eq_true rfl⟩ ⟨Nat.le_of_ble_eq_true rfl, Nat.le_of_ble_eq_true rfl⟩ dX11_cell_156 (fun r97 kd93 ig94 rg95 lg96 H locs hw hH hp98 => ?_)
          obtain ⟨rfl, rfl, rfl, rfl, hzhp98, hrhp98⟩ := hp98
          obtain ⟨z99, rfl, hz99⟩ := hrhp98
          have hS := hS.nx hT
          have hV := hV.nx hT
          have hT : Nx 902 B none kd85 ig86 rg87 lg88 kd85 ig86 rg87 lg88 := Nx.rf
          exact vx_ret (r_iret C hw hr hlk rfl (Nat.le_of_ble_eq_true rfl) (Nat.le_of_ble_eq_true rfl) dX11_cell_159 ⟨hI, hN, ⟨_, rfl, ⟨hS, hV⟩⟩⟩)
        by_cases s28_7 : y.toInt = 7
        · refine lv_tableIn hx hb dX11_cell_28 (by omega) (by omega) (off := 132) (by rw [s28_7]; rfl) (tgt := 160) (by decide) ?_
          refine lv_aload_n hx hb dX11_cell_160 rfl (lv_at hl 0 rfl) ?_
          refine r_get C hw (hsh 0 _ rfl) fl_X11_58 (oV_r rfl (hrs (0, 6, 37) (by decide))) dX11_cell_161 ?_
          refine r_callV (As := []) (rest := []) C hw (t_X8_settle l B D cA kd ig rg lg _   hI) sv_X11_144 (hsh 37 _ rfl) rfl hl.1 rfl (Nat.le_of_ble_eq_true rfl) ⟨Nat.le_of_ble_eq_true rfl, Nat.le_of_ble_eq_true rfl⟩ ⟨Nat.le_of_ble_eq_true rfl, Nat.le_of_ble_eq_true rfl⟩ dX11_cell_164 (fun r104 kd100 ig101 rg102 lg103 H locs hw hH hp105 => ?_)
          obtain ⟨hI, hchp105, hrhp105⟩ := hp105
          have hT := hT.tr hchp105
          have hN := hN.tr hchp105
          have hsh := hI.sh
          have hrs := hI.rs
          obtain rfl := hrhp105
          refine lv_aload_n hx hb dX11_cell_167 rfl (lv_at hl 0 rfl) ?_
          refine r_get C hw (hsh 0 _ rfl) fl_X11_58 (oV_r rfl (hrs (0, 6, 37) (by decide))) dX11_cell_168 ?_
          refine lv_iload_n hx hb dX11_cell_171 rfl (lv_at hl 1 rfl) ?_
          refine r_callV (As := [.int x]) (rest := []) C hw (t_X8_isTotal l B D cA kd100 ig101 rg102 lg103 _ x  hI) sv_X11_196 (hsh 37 _ rfl) rfl hl.1 rfl (Nat.le_of_ble_eq_true rfl) ⟨Nat.le_of_ble_eq_true rfl, Nat.le_of_ble_eq_true rfl⟩ ⟨Nat.le_of_ble_eq_true rfl, Nat.le_of_ble_eq_true rfl⟩ dX11_cell_172 (fun r110 kd106 ig107 rg108 lg109 H locs hw hH hp111 => ?_)
          obtain ⟨rfl, rfl, rfl, rfl, hzhp111, hrhp111⟩ := hp111
          obtain ⟨z112, rfl, hz112⟩ := hrhp111
          refine z_eq (tgt := 182) hx hb dX11_cell_175 (by decide) (fun c175 => ?_) (fun c175 => ?_)
          · refine lv_iconst (v := 0) hx hb dX11_cell_182 (by decide) (ti_c 0 (by decide) fun z113 hz113 => ?_)
            have hS := hS.nx hT
            have hV := hV.nx hT
            have hT : Nx 902 B none kd100 ig101 rg102 lg103 kd100 ig101 rg102 lg103 := Nx.rf
            exact vx_ret (r_iret C hw hr hlk rfl (Nat.le_of_ble_eq_true rfl) (Nat.le_of_ble_eq_true rfl) dX11_cell_183 ⟨hI, hN, ⟨_, rfl, ⟨hS, hV⟩⟩⟩)
          · refine lv_iconst (v := 1) hx hb dX11_cell_178 (by decide) (ti_c 1 (by decide) fun z114 hz114 => ?_)
            refine lv_goto (tgt := 183) hx hb dX11_cell_179 (by decide) ?_
            have hS := hS.nx hT
            have hV := hV.nx hT
            have hT : Nx 902 B none kd100 ig101 rg102 lg103 kd100 ig101 rg102 lg103 := Nx.rf
            exact vx_ret (r_iret C hw hr hlk rfl (Nat.le_of_ble_eq_true rfl) (Nat.le_of_ble_eq_true rfl) dX11_cell_183 ⟨hI, hN, ⟨_, rfl, ⟨hS, hV⟩⟩⟩)
        by_cases s28_8 : y.toInt = 8
        · refine lv_tableIn hx hb dX11_cell_28 (by omega) (by omega) (off := 156) (by rw [s28_8]; rfl) (tgt := 184) (by decide) ?_
          refine lv_aload_n hx hb dX11_cell_184 rfl (lv_at hl 0 rfl) ?_
          refine r_get C hw (hsh 0 _ rfl) fl_X11_28 (oV_r rfl (hrs (0, 2, 15) (by decide))) dX11_cell_185 ?_
          refine r_callV (As := []) (rest := []) C hw (t_X5_settle l B D cA kd ig rg lg _   hI) sv_X11_199 (hsh 15 _ rfl) rfl hl.1 rfl (Nat.le_of_ble_eq_true rfl) ⟨Nat.le_of_ble_eq_true rfl, Nat.le_of_ble_eq_true rfl⟩ ⟨Nat.le_of_ble_eq_true rfl, Nat.le_of_ble_eq_true rfl⟩ dX11_cell_188 (fun r119 kd115 ig116 rg117 lg118 H locs hw hH hp120 => ?_)
          obtain ⟨hI, hchp120, hrhp120⟩ := hp120
          have hT := hT.tr hchp120
          have hN := hN.tr hchp120
          have hsh := hI.sh
          have hrs := hI.rs
          obtain rfl := hrhp120
          refine lv_aload_n hx hb dX11_cell_191 rfl (lv_at hl 0 rfl) ?_
          refine r_get C hw (hsh 0 _ rfl) fl_X11_28 (oV_r rfl (hrs (0, 2, 15) (by decide))) dX11_cell_192 ?_
          refine lv_iload_n hx hb dX11_cell_195 rfl (lv_at hl 1 rfl) ?_
          refine r_callV (As := [.int x]) (rest := []) C hw (t_X5_cellsReadBy l B D cA kd115 ig116 rg117 lg118 _ x  hI) sv_X11_200 (hsh 15 _ rfl) rfl hl.1 rfl (Nat.le_of_ble_eq_true rfl) ⟨Nat.le_of_ble_eq_true rfl, Nat.le_of_ble_eq_true rfl⟩ ⟨Nat.le_of_ble_eq_true rfl, Nat.le_of_ble_eq_true rfl⟩ dX11_cell_196 (fun r125 kd121 ig122 rg123 lg124 H locs hw hH hp126 => ?_)
          obtain ⟨rfl, rfl, rfl, rfl, hzhp126, hrhp126⟩ := hp126
          obtain ⟨z127, rfl, hz127⟩ := hrhp126
          have hS := hS.nx hT
          have hV := hV.nx hT
          have hT : Nx 902 B none kd115 ig116 rg117 lg118 kd115 ig116 rg117 lg118 := Nx.rf
          exact vx_ret (r_iret C hw hr hlk rfl (Nat.le_of_ble_eq_true rfl) (Nat.le_of_ble_eq_true rfl) dX11_cell_199 ⟨hI, hN, ⟨_, rfl, ⟨hS, hV⟩⟩⟩)
        by_cases s28_9 : y.toInt = 9
        · refine lv_tableIn hx hb dX11_cell_28 (by omega) (by omega) (off := 172) (by rw [s28_9]; rfl) (tgt := 200) (by decide) ?_
          refine lv_aload_n hx hb dX11_cell_200 rfl (lv_at hl 0 rfl) ?_
          refine r_get C hw (hsh 0 _ rfl) fl_X11_28 (oV_r rfl (hrs (0, 2, 15) (by decide))) dX11_cell_201 ?_
          refine r_callV (As := []) (rest := []) C hw (t_X5_settle l B D cA kd ig rg lg _   hI) sv_X11_199 (hsh 15 _ rfl) rfl hl.1 rfl (Nat.le_of_ble_eq_true rfl) ⟨Nat.le_of_ble_eq_true rfl, Nat.le_of_ble_eq_true rfl⟩ ⟨Nat.le_of_ble_eq_true rfl, Nat.le_of_ble_eq_true rfl⟩ dX11_cell_204 (fun r132 kd128 ig129 rg130 lg131 H locs hw hH hp133 => ?_)
          obtain ⟨hI, hchp133, hrhp133⟩ := hp133
          have hT := hT.tr hchp133
          have hN := hN.tr hchp133
          have hsh := hI.sh
          have hrs := hI.rs
          obtain rfl := hrhp133
          refine lv_aload_n hx hb dX11_cell_207 rfl (lv_at hl 0 rfl) ?_
          refine r_get C hw (hsh 0 _ rfl) fl_X11_28 (oV_r rfl (hrs (0, 2, 15) (by decide))) dX11_cell_208 ?_
          refine lv_iload_n hx hb dX11_cell_211 rfl (lv_at hl 1 rfl) ?_
          refine r_callV (As := [.int x]) (rest := []) C hw (t_X5_readersOf l B D cA kd128 ig129 rg130 lg131 _ x  hI) sv_X11_203 (hsh 15 _ rfl) rfl hl.1 rfl (Nat.le_of_ble_eq_true rfl) ⟨Nat.le_of_ble_eq_true rfl, Nat.le_of_ble_eq_true rfl⟩ ⟨Nat.le_of_ble_eq_true rfl, Nat.le_of_ble_eq_true rfl⟩ dX11_cell_212 (fun r138 kd134 ig135 rg136 lg137 H locs hw hH hp139 => ?_)
          obtain ⟨rfl, rfl, rfl, rfl, hzhp139, hrhp139⟩ := hp139
          obtain ⟨z140, rfl, hz140⟩ := hrhp139
          have hS := hS.nx hT
          have hV := hV.nx hT
          have hT : Nx 902 B none kd128 ig129 rg130 lg131 kd128 ig129 rg130 lg131 := Nx.rf
          exact vx_ret (r_iret C hw hr hlk rfl (Nat.le_of_ble_eq_true rfl) (Nat.le_of_ble_eq_true rfl) dX11_cell_215 ⟨hI, hN, ⟨_, rfl, ⟨hS, hV⟩⟩⟩)
        refine lv_tableOut hx hb dX11_cell_28 (by omega) (tgt := 216) (by decide) ?_
        refine lv_aload_n hx hb dX11_cell_216 rfl (lv_at hl 0 rfl) ?_
        refine r_get C hw (hsh 0 _ rfl) fl_X11_19 (oV_r rfl (hrs (0, 1, 9) (by decide))) dX11_cell_217 ?_
        refine lv_iload_n hx hb dX11_cell_220 rfl (lv_at hl 1 rfl) ?_
        refine r_callV (As := [.int x]) (rest := []) C hw (t_X6_isKept l B D cA kd ig rg lg _ x  hI) sv_X11_206 (hsh 9 _ rfl) rfl hl.1 rfl (Nat.le_of_ble_eq_true rfl) ⟨Nat.le_of_ble_eq_true rfl, Nat.le_of_ble_eq_true rfl⟩ ⟨Nat.le_of_ble_eq_true rfl, Nat.le_of_ble_eq_true rfl⟩ dX11_cell_221 (fun r145 kd141 ig142 rg143 lg144 H locs hw hH hp146 => ?_)
        obtain ⟨rfl, rfl, rfl, rfl, hzhp146, hrhp146⟩ := hp146
        obtain ⟨z147, rfl, hz147⟩ := hrhp146
        refine z_eq (tgt := 231) hx hb dX11_cell_224 (by decide) (fun c224 => ?_) (fun c224 => ?_)
        · refine lv_iconst (v := 0) hx hb dX11_cell_231 (by decide) (ti_c 0 (by decide) fun z148 hz148 => ?_)
          exact vx_ret (r_iret C hw hr hlk rfl (Nat.le_of_ble_eq_true rfl) (Nat.le_of_ble_eq_true rfl) dX11_cell_232 ⟨hI, hN, ⟨_, rfl, ⟨hS, hV⟩⟩⟩)
        · refine lv_iconst (v := 1) hx hb dX11_cell_227 (by decide) (ti_c 1 (by decide) fun z149 hz149 => ?_)
          refine lv_goto (tgt := 232) hx hb dX11_cell_228 (by decide) ?_
          exact vx_ret (r_iret C hw hr hlk rfl (Nat.le_of_ble_eq_true rfl) (Nat.le_of_ble_eq_true rfl) dX11_cell_232 ⟨hI, hN, ⟨_, rfl, ⟨hS, hV⟩⟩⟩)
      · exact vx_throwX (pc := 17) (ix := 13) (rx := prog_27_method_4_code) (own := RX11) (cls := NSE) (names := NSEs) (ik := 177) (is := 179) (ic := 181) (sa := sa) hx hb hst (by decide +kernel) (by decide +kernel) (by decide +kernel) (by decide +kernel) hown (by decide +kernel) (by decide +kernel) (hts _ (TBg_in (atN_c _ (List.mem_cons_self)).1 (atN_c _ (List.mem_cons_self)).2)) (hts _ (TBg_in (atN_c _ (List.mem_cons_of_mem _ List.mem_cons_self)).1 (atN_c _ (List.mem_cons_of_mem _ List.mem_cons_self)).2)) hKX.2.1 (atN hts hKX.1) atN_o hKX.2.2.1 hKX.2.2.2 hw.2.2.1 (hl.1.trans C.1.2.2.1.symm) dX11_cell_17 dX11_cell_20 dX11_cell_21 dX11_cell_23 dX11_cell_26 (fun x hx => (hnt x hx).elim) (by decide) (by decide) (Nat.le_of_ble_eq_true rfl) (Nat.le_of_ble_eq_true rfl) hlk (XcW.now hw (fun h => h)) hw.2.2.1.2.2 (Nat.le_of_ble_eq_true rfl) (Nat.le_of_ble_eq_true rfl)
