/-! SheetDoctor.cell, which throws -/
def NSE : String := "java/util/NoSuchElementException"
def NSEs : List String := ["java/lang/RuntimeException", "java/lang/Exception"]
def NSw : List Cond := [.castable NSE NSE, .declares (Bundle.initS "java/lang/RuntimeException"), .declares (Bundle.initS "java/lang/Exception"), .declares (Bundle.initS "java/lang/Throwable")]
def NSx : List Cond := vx_atX RX11 181 NSE 13 prog_27_method_4_code NSEs
def KX (B sa : Nat) (U : State) : Prop := (∀ w ∈ NSw, va_Nw w U) ∧ vk_R RX11 179 "no such cell, or nothing of that number to tell" sa U ∧ vx_Zq Bundle.tN "UNASSIGNED_STACK" Bundle.steD (fun q => B ≤ q) U U.heap ∧ vx_Zq Bundle.tN "SUPPRESSED_SENTINEL" Bundle.listD (fun q => B ≤ q) U U.heap
def XcW (B : Nat) (D : va_G) (cA : Nat → ClassId) (kd : sK) (ig : sI) (rg : sR) (lg : sG) (N : Prop) : String → State → State → Prop := fun E st t => E = NSE ∧ ¬ N ∧ PW D cA kd ig rg lg t.heap ∧ st.heap.size ≤ t.heap.size ∧ ∀ q : Nat, q < B → t.heap[q]? = st.heap[q]?
def PcX (B : Nat) (D : va_G) (cA : Nat → ClassId) (sa : Nat) (av : List Value) (kd : sK) (ig : sI) (rg : sR) (lg : sG) (sz : Nat) : Array Value → State → Prop := fun v U => PcW B D cA av kd ig rg lg sz v U ∧ KX B sa U
def MX (l : Launch) (B : Nat) (D : va_G) (cA : Nat → ClassId) (sa : Nat) (y : MethodName) (cc : ByteArray) (maxL : Nat) (ret : Option FieldType) (rm : Room) (av : List Value) (kd : sK) (ig : sI) (rg : sR) (lg : sG) (sz : Nat) (N : Prop) (Post : aP) : Prop :=
  vx_Met l y (Cond.code y cc maxL ret :: TBg) rm (PcX B D cA sa av kd ig rg lg sz) (QcW B D cA Post) (XcW B D cA kd ig rg lg N) rm.cells rm.slots (fun q => B ≤ q)
theorem MX.of {l : Launch} {B : Nat} {D : va_G} {cA : Nat → ClassId} {sa : Nat} {y : MethodName} {cc : ByteArray} {maxL : Nat} {ret : Option FieldType} {rm : Room} {av : List Value} {kd : sK} {ig : sI} {rg : sR} {lg : sG} {sz : Nat} {N : Prop} {Post : aP} {own : String} (hy : plainName y.cls = true) (ho : y.cls = own) (hav : (lg_sl av).length ≤ maxL)
    (body : ∀ (p : Program) (e : Env) (s : State) (m : MethodId) (args : Array Value) (below : List Frame) (meth : Method) (c : Code) (ls : Array Slot), Cx p m c cc maxL s args own D cA → meth.sig.returnType = ret → meth.locks = false → meth.name = y.name → WD B D cA s.heap kd ig rg lg s.heap [] → s.heap.size = sz → lv_has ls maxL (lv_args 0 av) → KX B sa s → (∀ x ∈ c.exceptionTable.toList, False) →
      W p l e rm s m args below meth c s.heap [] 0 0 (vx_MQ below (QcW B D cA Post) (XcW B D cA kd ig rg lg N) args s rm.cells rm.slots (fun q => B ≤ q)) (F0 m 0 ls [])) : MX l B D cA sa y cc maxL ret rm av kd ig rg lg sz N Post := by
  refine vx_ofW (cc := cc) (maxL := maxL) (ret := ret) hy rfl ?_
  intro p e s m args below meth c s₁ Bd hml hnt hv
  obtain ⟨⟨rfl, hK, hP, hdm, hBs, hsz⟩, hKX⟩ := hv
  have hts := atoms_spec (ws := Cond.code y cc maxL ret :: TBg) Bd.pre
  have hown : s.vm.findClass own = some m.cls := ho ▸ findClass_of_methodNamed Bd.named
  have hl := lv_entry av (n := maxL) hav
  rw [lg_entry_eq]
  exact body p e s m av.toArray below meth c _ ⟨⟨Bd.exec, Bd.bytes, hml, hown, fun w h => hts w (List.mem_cons_of_mem _ h)⟩, hK⟩ Bd.returns Bd.notSynchronized (name_of_methodNamed Bd.named Bd.method).1 ⟨hP, hdm, va_S.rf, hBs⟩ hsz hl hKX hnt
theorem PW.after {D : va_G} {cA : Nat → ClassId} {kd : sK} {ig : sI} {rg : sR} {lg : sG} {H H' : Heap} (h : PW D cA kd ig rg lg H) (e : ∀ q : Nat, q < H.size → H'[q]? = H[q]?) : PW D cA kd ig rg lg H' := fun a k n ha => (h a k n ha).kept (e a (h a k n ha).lt) (fun _ => rfl) (fun _ => rfl) (fun _ => rfl)
theorem XcW.now {B : Nat} {D : va_G} {cA : Nat → ClassId} {kd : sK} {ig : sI} {rg : sR} {lg : sG} {N : Prop} {s : State} {H : Heap} {locs : List Loc} (hw : WD B D cA s.heap kd ig rg lg H locs) (hN : ¬ N) : ∀ t : State, s.vm.Alike t.vm → H.size ≤ t.heap.size → (∀ q : Nat, q < H.size → t.heap[q]? = H[q]?) → XcW B D cA kd ig rg lg N NSE s t := fun t _ h1 h2 => ⟨rfl, hN, hw.1.after h2, Nat.le_trans hw.2.2.1.1 h1, fun q hq => (h2 q (Nat.lt_of_lt_of_le hq (Nat.le_trans hw.2.2.2 hw.2.2.1.1))).trans (hw.2.2.1.2.1 q (Nat.lt_of_lt_of_le hq hw.2.2.2) (Nat.not_le.mpr hq))⟩
set_option maxHeartbeats 4000000 in
set_option maxRecDepth 100000 in
theorem atN_g : ∀ w ∈ NSx.filter goodWord, w ∈ lw_tbl := by decide +kernel
set_option maxHeartbeats 4000000 in
set_option maxRecDepth 100000 in
theorem atN_n : ∀ w ∈ NSx.filter (fun w => !goodWord w), w ∈ NSw := by decide +kernel
set_option maxHeartbeats 4000000 in
set_option maxRecDepth 100000 in
theorem atN_o : ∀ w ∈ Cond.classLink RX11 177 NSE :: Cond.initialized NSE :: NSx, vx_ot w = true := by decide +kernel
set_option maxHeartbeats 4000000 in
set_option maxRecDepth 100000 in
theorem atN_c : ∀ w ∈ [Cond.classLink RX11 177 NSE, Cond.initialized NSE], w ∈ lw_tbl ∧ goodWord w = true := by decide +kernel
theorem NSw_t : ∀ w ∈ NSw, w.onTables = true := by decide +kernel
theorem atN {args : Array Value} {s : State} (hts : ∀ w ∈ TBg, w.before args s = true) (hc : ∀ w ∈ NSw, va_Nw w s) : ∀ w ∈ NSx, w.before args s = true := vx_hat (fun w hw => hts w (TBg_in (atN_g w hw) (List.mem_filter.mp hw).2)) atN_n (fun w hw => va_Nw.use (NSw_t w hw) (hc w hw))

set_option maxHeartbeats 4000000 in
set_option maxRecDepth 100000 in
theorem t_X11_cell (l : Launch) (B : Nat) (D : va_G) (cA : Nat → ClassId) (kd : sK) (ig : sI) (rg : sR) (lg : sG) (sz : Nat) (x y : Int32) (sa : Nat) (hst : l.stackTraces = false) (F9 : FC B kd ig rg lg) : MX l B D cA sa yX11_cell cX11_cell 3 (some .int) (rL 6 1 6) [.ref (B + 0), .int x, .int y] kd ig rg lg sz ((0 ≤ x.toInt ∧ x.toInt < 288) ∧ 0 ≤ y.toInt ∧ y.toInt ≤ 10) (TP B kd ig rg lg (fun r => ∃ z : Int32, r = some (.int z) ∧ ((0 ≤ x.toInt ∧ x.toInt < 288) ∧ 0 ≤ y.toInt ∧ y.toInt ≤ 10) ∧ (y.toInt = 3 → z.toInt = -1) ∧ (y.toInt ≠ 3 → z.toInt = 0))) := by
  refine MX.of (own := RX11) (by decide +kernel) rfl (Nat.le_of_ble_eq_true rfl) ?_
  intro p e s m args below meth c ls C hr hlk hnm hw hsz hl hKX hnt
  have hx := C.1.1
  have hb := C.1.2.1
  have hown := C.1.2.2.2.1
  have hts := C.1.2.2.2.2
  have hl : lv_has ls 3 [(0, .ref (B + 0)), (1, .int x), (2, .int y)] := hl
  obtain ⟨Fs, hle, hv10, hv2, hv9, hv8, hfc, hfo, hfn, hch, hrd⟩ := F9
  have Fq := Fs
  obtain ⟨hsh, hrs, hce, hbf, hbi, hsi, hke⟩ := Fq
  have oig : Off B 15 49 ig ig := Off.rf
  have olg : Off B 15 49 lg lg := Off.rf
  refine lv_iload_n hx hb dX11_cell_0 rfl (lv_at hl 1 rfl) ?_
  refine r_callS (As := [.int x]) (rest := []) C hw (t_X11_onSheet l B D cA kd ig rg lg _ x) ss_X11_88 rfl hl.1 rfl (Nat.le_of_ble_eq_true rfl) ⟨Nat.le_of_ble_eq_true rfl, Nat.le_of_ble_eq_true rfl⟩ ⟨Nat.le_of_ble_eq_true rfl, Nat.le_of_ble_eq_true rfl⟩ dX11_cell_1 (fun r6 kd2 ig3 rg4 lg5 H locs hw hH hp7 => ?_)
  obtain ⟨rfl, rfl, rfl, rfl, hzz1, z1, rfl, hz1⟩ := hp7
  have hsz := hzz1.trans hsz
  have J17 : ∀ (ls : Array Slot) (H : Heap) (locs : List Loc) , lv_has ls 3 [] → WD B D cA s.heap kd ig rg lg H locs → H.size = sz → (¬ ((0 ≤ x.toInt ∧ x.toInt < 288) ∧ 0 ≤ y.toInt ∧ y.toInt ≤ 10)) → W p l e (rL 6 1 6) s m args below meth c H locs 0 0 (vx_MQ below (QcW B D cA (TP B kd ig rg lg (fun r => ∃ z : Int32, r = some (.int z) ∧ ((0 ≤ x.toInt ∧ x.toInt < 288) ∧ 0 ≤ y.toInt ∧ y.toInt ≤ 10) ∧ (y.toInt = 3 → z.toInt = -1) ∧ (y.toInt ≠ 3 → z.toInt = 0)))) (XcW B D cA kd ig rg lg ((0 ≤ x.toInt ∧ x.toInt < 288) ∧ 0 ≤ y.toInt ∧ y.toInt ≤ 10)) args s 1 6 (fun q => B ≤ q)) (F0 m 17 ls []) := by
    intro ls H locs  hl hw hsz g17_0
    exact vx_throwX (pc := 17) (ix := 13) (rx := prog_27_method_4_code) (own := RX11) (cls := NSE) (names := NSEs) (ik := 177) (is := 179) (ic := 181) (sa := sa) hx hb hst (by decide +kernel) (by decide +kernel) (by decide +kernel) (by decide +kernel) hown (by decide +kernel) (by decide +kernel) (hts _ (TBg_in (atN_c _ (List.mem_cons_self)).1 (atN_c _ (List.mem_cons_self)).2)) (hts _ (TBg_in (atN_c _ (List.mem_cons_of_mem _ List.mem_cons_self)).1 (atN_c _ (List.mem_cons_of_mem _ List.mem_cons_self)).2)) hKX.2.1 (atN hts hKX.1) atN_o hKX.2.2.1 hKX.2.2.2 hw.2.2.1 (hl.1.trans C.1.2.2.1.symm) dX11_cell_17 dX11_cell_20 dX11_cell_21 dX11_cell_23 dX11_cell_26 (fun x hx => (hnt x hx).elim) (by decide) (by decide) (Nat.le_of_ble_eq_true rfl) (Nat.le_of_ble_eq_true rfl) hlk (XcW.now hw (by omega)) hw.2.2.1.2.2 (Nat.le_of_ble_eq_true rfl) (Nat.le_of_ble_eq_true rfl)
  refine z_eq (tgt := 17) hx hb dX11_cell_4 (by decide) (fun c4 => ?_) (fun c4 => ?_)
  · exact J17 ls H locs  (lv_sub hl [] rfl) hw hsz (by omega)
  · refine lv_iload_n hx hb dX11_cell_7 rfl (lv_at hl 2 rfl) ?_
    refine z_lt (tgt := 17) hx hb dX11_cell_8 (by decide) (fun c8 => ?_) (fun c8 => ?_)
    · exact J17 ls H locs  (lv_sub hl [] rfl) hw hsz (by omega)
    · refine lv_iload_n hx hb dX11_cell_11 rfl (lv_at hl 2 rfl) ?_
      refine lv_bipush (v := 10) hx hb dX11_cell_12 (by decide) (ti_c 10 (by decide) fun z8 hz8 => ?_)
      refine b_le (tgt := 27) hx hb dX11_cell_14 (by decide) (fun c14 => ?_) (fun c14 => ?_)
      · refine lv_iload_n hx hb dX11_cell_27 rfl (lv_at hl 2 rfl) ?_
        by_cases s28_0 : y.toInt = 0
        · refine lv_tableIn hx hb dX11_cell_28 (by omega) (by omega) (off := 56) (by rw [s28_0]; rfl) (tgt := 84) (by decide) ?_
          refine lv_aload_n hx hb dX11_cell_84 rfl (lv_at hl 0 rfl) ?_
          refine r_get C hw (hsh 0 _ rfl) fl_X11_19 (oV_r rfl (hrs (0, 1, 9) (by decide))) dX11_cell_85 ?_
          refine lv_iload_n hx hb dX11_cell_88 rfl (lv_at hl 1 rfl) ?_
          refine r_callV (As := [.int x]) (rest := []) C hw (t_X6_kindAt l B D cA kd ig rg lg _ x Fs) sv_X11_116 (hsh 9 _ rfl) rfl hl.1 rfl (Nat.le_of_ble_eq_true rfl) ⟨Nat.le_of_ble_eq_true rfl, Nat.le_of_ble_eq_true rfl⟩ ⟨Nat.le_of_ble_eq_true rfl, Nat.le_of_ble_eq_true rfl⟩ dX11_cell_89 (fun r14 kd10 ig11 rg12 lg13 H locs hw hH hp15 => ?_)
          obtain ⟨rfl, rfl, rfl, rfl, hzz9, z9, rfl, hz9⟩ := hp15
          have hsz := hzz9.trans hsz
          exact vx_ret (r_iret C hw hr hlk rfl (Nat.le_of_ble_eq_true rfl) (Nat.le_of_ble_eq_true rfl) dX11_cell_92 ⟨fun _ _ => rfl, Mo.rf, Mo.rf, Mo.rf, _, rfl, by omega⟩)
        by_cases s28_1 : y.toInt = 1
        · refine lv_tableIn hx hb dX11_cell_28 (by omega) (by omega) (off := 65) (by rw [s28_1]; rfl) (tgt := 93) (by decide) ?_
          refine lv_aload_n hx hb dX11_cell_93 rfl (lv_at hl 0 rfl) ?_
          refine r_get C hw (hsh 0 _ rfl) fl_X11_37 (oV_r rfl (hrs (0, 3, 24) (by decide))) dX11_cell_94 ?_
          refine r_callV (As := []) (rest := []) C hw (t_X10_settle l B D cA kd ig rg lg _ Fs hv10 hfc hfo) sv_X11_159 (hsh 24 _ rfl) rfl hl.1 rfl (Nat.le_of_ble_eq_true rfl) ⟨Nat.le_of_ble_eq_true rfl, Nat.le_of_ble_eq_true rfl⟩ ⟨Nat.le_of_ble_eq_true rfl, Nat.le_of_ble_eq_true rfl⟩ dX11_cell_97 (fun r21 kd17 ig18 rg19 lg20 H locs hw hH hp22 => ?_)
          obtain ⟨rfl, rfl, la16, hq16, rfl, oa16, hval, herr⟩ := hp22
          have hsz := hq16.trans hsz
          have oig := Off.tr (lo := 15) (hi := 49) oa16 oig (by decide) (by decide)
          have olg := Off.tr (lo := 15) (hi := 49) la16 olg (by decide) (by decide)
          have wB := oa16
          refine lv_aload_n hx hb dX11_cell_100 rfl (lv_at hl 0 rfl) ?_
          refine r_get C hw (hsh 0 _ rfl) fl_X11_37 (oV_r rfl (hrs (0, 3, 24) (by decide))) dX11_cell_101 ?_
          refine lv_iload_n hx hb dX11_cell_104 rfl (lv_at hl 1 rfl) ?_
          refine r_callV (As := [.int x]) (rest := []) C hw (t_X10_valueAt l B D cA kd ig18 rg lg20 _ x hsh hrs hval) sv_X11_184 (hsh 24 _ rfl) rfl hl.1 rfl (Nat.le_of_ble_eq_true rfl) ⟨Nat.le_of_ble_eq_true rfl, Nat.le_of_ble_eq_true rfl⟩ ⟨Nat.le_of_ble_eq_true rfl, Nat.le_of_ble_eq_true rfl⟩ dX11_cell_105 (fun r28 kd24 ig25 rg26 lg27 H locs hw hH hp29 => ?_)
          obtain ⟨rfl, rfl, rfl, rfl, hzz23, z23, rfl, hz23⟩ := hp29
          have hsz := hzz23.trans hsz
          exact vx_ret (r_iret C hw hr hlk rfl (Nat.le_of_ble_eq_true rfl) (Nat.le_of_ble_eq_true rfl) dX11_cell_108 ⟨fun _ _ => rfl, (oig.mo (by decide)), Mo.rf, (olg.mo (by decide)), _, rfl, by omega⟩)
        by_cases s28_2 : y.toInt = 2
        · refine lv_tableIn hx hb dX11_cell_28 (by omega) (by omega) (off := 81) (by rw [s28_2]; rfl) (tgt := 109) (by decide) ?_
          refine lv_aload_n hx hb dX11_cell_109 rfl (lv_at hl 0 rfl) ?_
          refine r_get C hw (hsh 0 _ rfl) fl_X11_37 (oV_r rfl (hrs (0, 3, 24) (by decide))) dX11_cell_110 ?_
          refine r_callV (As := []) (rest := []) C hw (t_X10_settle l B D cA kd ig rg lg _ Fs hv10 hfc hfo) sv_X11_159 (hsh 24 _ rfl) rfl hl.1 rfl (Nat.le_of_ble_eq_true rfl) ⟨Nat.le_of_ble_eq_true rfl, Nat.le_of_ble_eq_true rfl⟩ ⟨Nat.le_of_ble_eq_true rfl, Nat.le_of_ble_eq_true rfl⟩ dX11_cell_113 (fun r35 kd31 ig32 rg33 lg34 H locs hw hH hp36 => ?_)
          obtain ⟨rfl, rfl, la30, hq30, rfl, oa30, hval, herr⟩ := hp36
          have hsz := hq30.trans hsz
          have oig := Off.tr (lo := 15) (hi := 49) oa30 oig (by decide) (by decide)
          have olg := Off.tr (lo := 15) (hi := 49) la30 olg (by decide) (by decide)
          have wB := oa30
          refine lv_aload_n hx hb dX11_cell_116 rfl (lv_at hl 0 rfl) ?_
          refine r_get C hw (hsh 0 _ rfl) fl_X11_37 (oV_r rfl (hrs (0, 3, 24) (by decide))) dX11_cell_117 ?_
          refine lv_iload_n hx hb dX11_cell_120 rfl (lv_at hl 1 rfl) ?_
          refine r_callV (As := [.int x]) (rest := []) C hw (t_X10_errorAt l B D cA kd ig32 rg lg34 _ x hsh hrs herr) sv_X11_187 (hsh 24 _ rfl) rfl hl.1 rfl (Nat.le_of_ble_eq_true rfl) ⟨Nat.le_of_ble_eq_true rfl, Nat.le_of_ble_eq_true rfl⟩ ⟨Nat.le_of_ble_eq_true rfl, Nat.le_of_ble_eq_true rfl⟩ dX11_cell_121 (fun r42 kd38 ig39 rg40 lg41 H locs hw hH hp43 => ?_)
          obtain ⟨rfl, rfl, rfl, rfl, hzz37, z37, rfl, hz37⟩ := hp43
          have hsz := hzz37.trans hsz
          exact vx_ret (r_iret C hw hr hlk rfl (Nat.le_of_ble_eq_true rfl) (Nat.le_of_ble_eq_true rfl) dX11_cell_124 ⟨fun _ _ => rfl, (oig.mo (by decide)), Mo.rf, (olg.mo (by decide)), _, rfl, by omega⟩)
        by_cases s28_3 : y.toInt = 3
        · refine lv_tableIn hx hb dX11_cell_28 (by omega) (by omega) (off := 97) (by rw [s28_3]; rfl) (tgt := 125) (by decide) ?_
          refine lv_aload_n hx hb dX11_cell_125 rfl (lv_at hl 0 rfl) ?_
          refine r_get C hw (hsh 0 _ rfl) fl_X11_44 (oV_r rfl (hrs (0, 4, 29) (by decide))) dX11_cell_126 ?_
          refine r_callV (As := []) (rest := []) C hw (t_X2_settle l B D cA kd ig rg lg _ Fs (hv2)) sv_X11_140 (hsh 29 _ rfl) rfl hl.1 rfl (Nat.le_of_ble_eq_true rfl) ⟨Nat.le_of_ble_eq_true rfl, Nat.le_of_ble_eq_true rfl⟩ ⟨Nat.le_of_ble_eq_true rfl, Nat.le_of_ble_eq_true rfl⟩ dX11_cell_129 (fun r49 kd45 ig46 rg47 lg48 H locs hw hH hp50 => ?_)
          obtain ⟨rfl, rfl, rfl, hq44, rfl, oa44, hfam, hfs3⟩ := hp50
          have hsz := hq44.trans hsz
          have oig := Off.tr (lo := 15) (hi := 49) oa44 oig (by decide) (by decide)
          have wA := oa44
          refine lv_aload_n hx hb dX11_cell_132 rfl (lv_at hl 0 rfl) ?_
          refine r_get C hw (hsh 0 _ rfl) fl_X11_44 (oV_r rfl (hrs (0, 4, 29) (by decide))) dX11_cell_133 ?_
          refine lv_iload_n hx hb dX11_cell_136 rfl (lv_at hl 1 rfl) ?_
          refine r_callV (As := [.int x]) (rest := []) C hw (t_X2_familyAt l B D cA kd ig46 rg lg _ x hsh hrs (by omega) hfam) sv_X11_190 (hsh 29 _ rfl) rfl hl.1 rfl (Nat.le_of_ble_eq_true rfl) ⟨Nat.le_of_ble_eq_true rfl, Nat.le_of_ble_eq_true rfl⟩ ⟨Nat.le_of_ble_eq_true rfl, Nat.le_of_ble_eq_true rfl⟩ dX11_cell_137 (fun r56 kd52 ig53 rg54 lg55 H locs hw hH hp57 => ?_)
          obtain ⟨rfl, rfl, rfl, rfl, hzz51, z51, rfl, hz51⟩ := hp57
          have hsz := hzz51.trans hsz
          exact vx_ret (r_iret C hw hr hlk rfl (Nat.le_of_ble_eq_true rfl) (Nat.le_of_ble_eq_true rfl) dX11_cell_140 ⟨fun _ _ => rfl, (oig.mo (by decide)), Mo.rf, Mo.rf, _, rfl, by omega⟩)
        by_cases s28_4 : y.toInt = 4
        · refine lv_tableIn hx hb dX11_cell_28 (by omega) (by omega) (off := 113) (by rw [s28_4]; rfl) (tgt := 141) (by decide) ?_
          refine lv_aload_n hx hb dX11_cell_141 rfl (lv_at hl 0 rfl) ?_
          refine r_get C hw (hsh 0 _ rfl) fl_X11_51 (oV_r rfl (hrs (0, 5, 32) (by decide))) dX11_cell_142 ?_
          refine r_callV (As := []) (rest := []) C hw (t_X9_settle l B D cA kd ig rg lg _ Fs hv9 hfc hfo) sv_X11_143 (hsh 32 _ rfl) rfl hl.1 rfl (Nat.le_of_ble_eq_true rfl) ⟨Nat.le_of_ble_eq_true rfl, Nat.le_of_ble_eq_true rfl⟩ ⟨Nat.le_of_ble_eq_true rfl, Nat.le_of_ble_eq_true rfl⟩ dX11_cell_145 (fun r63 kd59 ig60 rg61 lg62 H locs hw hH hp64 => ?_)
          obtain ⟨rfl, rfl, la58, hq58, rfl, oa58, hfc, hfo, hexp⟩ := hp64
          have hsz := hq58.trans hsz
          have oig := Off.tr (lo := 15) (hi := 49) oa58 oig (by decide) (by decide)
          have olg := Off.tr (lo := 15) (hi := 49) la58 olg (by decide) (by decide)
          have wB := oa58
          refine lv_aload_n hx hb dX11_cell_148 rfl (lv_at hl 0 rfl) ?_
          refine r_get C hw (hsh 0 _ rfl) fl_X11_51 (oV_r rfl (hrs (0, 5, 32) (by decide))) dX11_cell_149 ?_
          refine lv_iload_n hx hb dX11_cell_152 rfl (lv_at hl 1 rfl) ?_
          refine lv_iload_n hx hb dX11_cell_153 rfl (lv_at hl 2 rfl) ?_
          refine lv_iconst (v := 4) hx hb dX11_cell_154 (by decide) (ti_c 4 (by decide) fun z65 hz65 => ?_)
          refine lv_isub hx hb dX11_cell_155 (ti_sub (by omega) fun z66 hz66 => ?_)
          refine r_callV (As := [.int x, .int z66]) (rest := []) C hw (t_X9_exponentAt l B D cA kd ig60 rg lg62 _ x z66 hsh hrs hexp) sv_X11_193 (hsh 32 _ rfl) rfl hl.1 rfl (Nat.le_of_ble_eq_true rfl) ⟨Nat.le_of_ble_eq_true rfl, Nat.le_of_ble_eq_true rfl⟩ ⟨Nat.le_of_ble_eq_true rfl, Nat.le_of_ble_eq_true rfl⟩ dX11_cell_156 (fun r72 kd68 ig69 rg70 lg71 H locs hw hH hp73 => ?_)
          obtain ⟨rfl, rfl, rfl, rfl, hzz67, z67, rfl, hz67⟩ := hp73
          have hsz := hzz67.trans hsz
          exact vx_ret (r_iret C hw hr hlk rfl (Nat.le_of_ble_eq_true rfl) (Nat.le_of_ble_eq_true rfl) dX11_cell_159 ⟨fun _ _ => rfl, (oig.mo (by decide)), Mo.rf, (olg.mo (by decide)), _, rfl, by omega⟩)
        by_cases s28_5 : y.toInt = 5
        · refine lv_tableIn hx hb dX11_cell_28 (by omega) (by omega) (off := 113) (by rw [s28_5]; rfl) (tgt := 141) (by decide) ?_
          refine lv_aload_n hx hb dX11_cell_141 rfl (lv_at hl 0 rfl) ?_
          refine r_get C hw (hsh 0 _ rfl) fl_X11_51 (oV_r rfl (hrs (0, 5, 32) (by decide))) dX11_cell_142 ?_
          refine r_callV (As := []) (rest := []) C hw (t_X9_settle l B D cA kd ig rg lg _ Fs hv9 hfc hfo) sv_X11_143 (hsh 32 _ rfl) rfl hl.1 rfl (Nat.le_of_ble_eq_true rfl) ⟨Nat.le_of_ble_eq_true rfl, Nat.le_of_ble_eq_true rfl⟩ ⟨Nat.le_of_ble_eq_true rfl, Nat.le_of_ble_eq_true rfl⟩ dX11_cell_145 (fun r79 kd75 ig76 rg77 lg78 H locs hw hH hp80 => ?_)
          obtain ⟨rfl, rfl, la74, hq74, rfl, oa74, hfc, hfo, hexp⟩ := hp80
          have hsz := hq74.trans hsz
          have oig := Off.tr (lo := 15) (hi := 49) oa74 oig (by decide) (by decide)
          have olg := Off.tr (lo := 15) (hi := 49) la74 olg (by decide) (by decide)
          have wB := oa74
          refine lv_aload_n hx hb dX11_cell_148 rfl (lv_at hl 0 rfl) ?_
          refine r_get C hw (hsh 0 _ rfl) fl_X11_51 (oV_r rfl (hrs (0, 5, 32) (by decide))) dX11_cell_149 ?_
          refine lv_iload_n hx hb dX11_cell_152 rfl (lv_at hl 1 rfl) ?_
          refine lv_iload_n hx hb dX11_cell_153 rfl (lv_at hl 2 rfl) ?_
          refine lv_iconst (v := 4) hx hb dX11_cell_154 (by decide) (ti_c 4 (by decide) fun z81 hz81 => ?_)
          refine lv_isub hx hb dX11_cell_155 (ti_sub (by omega) fun z82 hz82 => ?_)
          refine r_callV (As := [.int x, .int z82]) (rest := []) C hw (t_X9_exponentAt l B D cA kd ig76 rg lg78 _ x z82 hsh hrs hexp) sv_X11_193 (hsh 32 _ rfl) rfl hl.1 rfl (Nat.le_of_ble_eq_true rfl) ⟨Nat.le_of_ble_eq_true rfl, Nat.le_of_ble_eq_true rfl⟩ ⟨Nat.le_of_ble_eq_true rfl, Nat.le_of_ble_eq_true rfl⟩ dX11_cell_156 (fun r88 kd84 ig85 rg86 lg87 H locs hw hH hp89 => ?_)
          obtain ⟨rfl, rfl, rfl, rfl, hzz83, z83, rfl, hz83⟩ := hp89
          have hsz := hzz83.trans hsz
          exact vx_ret (r_iret C hw hr hlk rfl (Nat.le_of_ble_eq_true rfl) (Nat.le_of_ble_eq_true rfl) dX11_cell_159 ⟨fun _ _ => rfl, (oig.mo (by decide)), Mo.rf, (olg.mo (by decide)), _, rfl, by omega⟩)
        by_cases s28_6 : y.toInt = 6
        · refine lv_tableIn hx hb dX11_cell_28 (by omega) (by omega) (off := 113) (by rw [s28_6]; rfl) (tgt := 141) (by decide) ?_
          refine lv_aload_n hx hb dX11_cell_141 rfl (lv_at hl 0 rfl) ?_
          refine r_get C hw (hsh 0 _ rfl) fl_X11_51 (oV_r rfl (hrs (0, 5, 32) (by decide))) dX11_cell_142 ?_
          refine r_callV (As := []) (rest := []) C hw (t_X9_settle l B D cA kd ig rg lg _ Fs hv9 hfc hfo) sv_X11_143 (hsh 32 _ rfl) rfl hl.1 rfl (Nat.le_of_ble_eq_true rfl) ⟨Nat.le_of_ble_eq_true rfl, Nat.le_of_ble_eq_true rfl⟩ ⟨Nat.le_of_ble_eq_true rfl, Nat.le_of_ble_eq_true rfl⟩ dX11_cell_145 (fun r95 kd91 ig92 rg93 lg94 H locs hw hH hp96 => ?_)
          obtain ⟨rfl, rfl, la90, hq90, rfl, oa90, hfc, hfo, hexp⟩ := hp96
          have hsz := hq90.trans hsz
          have oig := Off.tr (lo := 15) (hi := 49) oa90 oig (by decide) (by decide)
          have olg := Off.tr (lo := 15) (hi := 49) la90 olg (by decide) (by decide)
          have wB := oa90
          refine lv_aload_n hx hb dX11_cell_148 rfl (lv_at hl 0 rfl) ?_
          refine r_get C hw (hsh 0 _ rfl) fl_X11_51 (oV_r rfl (hrs (0, 5, 32) (by decide))) dX11_cell_149 ?_
          refine lv_iload_n hx hb dX11_cell_152 rfl (lv_at hl 1 rfl) ?_
          refine lv_iload_n hx hb dX11_cell_153 rfl (lv_at hl 2 rfl) ?_
          refine lv_iconst (v := 4) hx hb dX11_cell_154 (by decide) (ti_c 4 (by decide) fun z97 hz97 => ?_)
          refine lv_isub hx hb dX11_cell_155 (ti_sub (by omega) fun z98 hz98 => ?_)
          refine r_callV (As := [.int x, .int z98]) (rest := []) C hw (t_X9_exponentAt l B D cA kd ig92 rg lg94 _ x z98 hsh hrs hexp) sv_X11_193 (hsh 32 _ rfl) rfl hl.1 rfl (Nat.le_of_ble_eq_true rfl) ⟨Nat.le_of_ble_eq_true rfl, Nat.le_of_ble_eq_true rfl⟩ ⟨Nat.le_of_ble_eq_true rfl, Nat.le_of_ble_eq_true rfl⟩ dX11_cell_156 (fun r104 kd100 ig101 rg102 lg103 H locs hw hH hp105 => ?_)
          obtain ⟨rfl, rfl, rfl, rfl, hzz99, z99, rfl, hz99⟩ := hp105
          have hsz := hzz99.trans hsz
          exact vx_ret (r_iret C hw hr hlk rfl (Nat.le_of_ble_eq_true rfl) (Nat.le_of_ble_eq_true rfl) dX11_cell_159 ⟨fun _ _ => rfl, (oig.mo (by decide)), Mo.rf, (olg.mo (by decide)), _, rfl, by omega⟩)
        by_cases s28_7 : y.toInt = 7
        · refine lv_tableIn hx hb dX11_cell_28 (by omega) (by omega) (off := 132) (by rw [s28_7]; rfl) (tgt := 160) (by decide) ?_
          refine lv_aload_n hx hb dX11_cell_160 rfl (lv_at hl 0 rfl) ?_
          refine r_get C hw (hsh 0 _ rfl) fl_X11_58 (oV_r rfl (hrs (0, 6, 37) (by decide))) dX11_cell_161 ?_
          refine r_callV (As := []) (rest := []) C hw (t_X8_settle l B D cA kd ig rg lg _ Fs hv8 hfc hfo) sv_X11_144 (hsh 37 _ rfl) rfl hl.1 rfl (Nat.le_of_ble_eq_true rfl) ⟨Nat.le_of_ble_eq_true rfl, Nat.le_of_ble_eq_true rfl⟩ ⟨Nat.le_of_ble_eq_true rfl, Nat.le_of_ble_eq_true rfl⟩ dX11_cell_164 (fun r111 kd107 ig108 rg109 lg110 H locs hw hH hp112 => ?_)
          obtain ⟨rfl, rfl, la106, hq106, rfl, oa106, hfc, hfo, htot⟩ := hp112
          have hsz := hq106.trans hsz
          have oig := Off.tr (lo := 15) (hi := 49) oa106 oig (by decide) (by decide)
          have olg := Off.tr (lo := 15) (hi := 49) la106 olg (by decide) (by decide)
          have wB := oa106
          refine lv_aload_n hx hb dX11_cell_167 rfl (lv_at hl 0 rfl) ?_
          refine r_get C hw (hsh 0 _ rfl) fl_X11_58 (oV_r rfl (hrs (0, 6, 37) (by decide))) dX11_cell_168 ?_
          refine lv_iload_n hx hb dX11_cell_171 rfl (lv_at hl 1 rfl) ?_
          refine r_callV (As := [.int x]) (rest := []) C hw (t_X8_isTotal l B D cA kd ig108 rg lg110 _ x hsh hrs htot) sv_X11_196 (hsh 37 _ rfl) rfl hl.1 rfl (Nat.le_of_ble_eq_true rfl) ⟨Nat.le_of_ble_eq_true rfl, Nat.le_of_ble_eq_true rfl⟩ ⟨Nat.le_of_ble_eq_true rfl, Nat.le_of_ble_eq_true rfl⟩ dX11_cell_172 (fun r118 kd114 ig115 rg116 lg117 H locs hw hH hp119 => ?_)
          obtain ⟨rfl, rfl, rfl, rfl, hzz113, z113, rfl, hz113⟩ := hp119
          have hsz := hzz113.trans hsz
          refine z_eq (tgt := 182) hx hb dX11_cell_175 (by decide) (fun c175 => ?_) (fun c175 => ?_)
          · refine lv_iconst (v := 0) hx hb dX11_cell_182 (by decide) (ti_c 0 (by decide) fun z120 hz120 => ?_)
            exact vx_ret (r_iret C hw hr hlk rfl (Nat.le_of_ble_eq_true rfl) (Nat.le_of_ble_eq_true rfl) dX11_cell_183 ⟨fun _ _ => rfl, (oig.mo (by decide)), Mo.rf, (olg.mo (by decide)), _, rfl, by omega⟩)
          · exact absurd c175 (by omega)
        by_cases s28_8 : y.toInt = 8
        · refine lv_tableIn hx hb dX11_cell_28 (by omega) (by omega) (off := 156) (by rw [s28_8]; rfl) (tgt := 184) (by decide) ?_
          refine lv_aload_n hx hb dX11_cell_184 rfl (lv_at hl 0 rfl) ?_
          refine r_get C hw (hsh 0 _ rfl) fl_X11_28 (oV_r rfl (hrs (0, 2, 15) (by decide))) dX11_cell_185 ?_
          refine r_callV (As := []) (rest := []) C hw (t_X5_settle l B D cA kd ig rg lg _ Fs hfc hfo) sv_X11_199 (hsh 15 _ rfl) rfl hl.1 rfl (Nat.le_of_ble_eq_true rfl) ⟨Nat.le_of_ble_eq_true rfl, Nat.le_of_ble_eq_true rfl⟩ ⟨Nat.le_of_ble_eq_true rfl, Nat.le_of_ble_eq_true rfl⟩ dX11_cell_188 (fun r126 kd122 ig123 rg124 lg125 H locs hw hH hp127 => ?_)
          obtain ⟨rfl, rfl, la121, hq121, rfl, oa121, hfc, hfo⟩ := hp127
          have hsz := hq121.trans hsz
          have oig := Off.tr (lo := 15) (hi := 49) oa121 oig (by decide) (by decide)
          have olg := Off.tr (lo := 15) (hi := 49) la121 olg (by decide) (by decide)
          have hrd := fun j => (la121 (B + 18) j (by omega)).trans (hrd j)
          refine lv_aload_n hx hb dX11_cell_191 rfl (lv_at hl 0 rfl) ?_
          refine r_get C hw (hsh 0 _ rfl) fl_X11_28 (oV_r rfl (hrs (0, 2, 15) (by decide))) dX11_cell_192 ?_
          refine lv_iload_n hx hb dX11_cell_195 rfl (lv_at hl 1 rfl) ?_
          refine r_callV (As := [.int x]) (rest := []) C hw (t_X5_cellsReadBy l B D cA kd ig123 rg lg125 _ x hsh hrs hrd) sv_X11_200 (hsh 15 _ rfl) rfl hl.1 rfl (Nat.le_of_ble_eq_true rfl) ⟨Nat.le_of_ble_eq_true rfl, Nat.le_of_ble_eq_true rfl⟩ ⟨Nat.le_of_ble_eq_true rfl, Nat.le_of_ble_eq_true rfl⟩ dX11_cell_196 (fun r133 kd129 ig130 rg131 lg132 H locs hw hH hp134 => ?_)
          obtain ⟨rfl, rfl, rfl, rfl, hzz128, z128, rfl, hz128⟩ := hp134
          have hsz := hzz128.trans hsz
          exact vx_ret (r_iret C hw hr hlk rfl (Nat.le_of_ble_eq_true rfl) (Nat.le_of_ble_eq_true rfl) dX11_cell_199 ⟨fun _ _ => rfl, (oig.mo (by decide)), Mo.rf, (olg.mo (by decide)), _, rfl, by omega⟩)
        by_cases s28_9 : y.toInt = 9
        · refine lv_tableIn hx hb dX11_cell_28 (by omega) (by omega) (off := 172) (by rw [s28_9]; rfl) (tgt := 200) (by decide) ?_
          refine lv_aload_n hx hb dX11_cell_200 rfl (lv_at hl 0 rfl) ?_
          refine r_get C hw (hsh 0 _ rfl) fl_X11_28 (oV_r rfl (hrs (0, 2, 15) (by decide))) dX11_cell_201 ?_
          refine r_callV (As := []) (rest := []) C hw (t_X5_settle l B D cA kd ig rg lg _ Fs hfc hfo) sv_X11_199 (hsh 15 _ rfl) rfl hl.1 rfl (Nat.le_of_ble_eq_true rfl) ⟨Nat.le_of_ble_eq_true rfl, Nat.le_of_ble_eq_true rfl⟩ ⟨Nat.le_of_ble_eq_true rfl, Nat.le_of_ble_eq_true rfl⟩ dX11_cell_204 (fun r140 kd136 ig137 rg138 lg139 H locs hw hH hp141 => ?_)
          obtain ⟨rfl, rfl, la135, hq135, rfl, oa135, hfc, hfo⟩ := hp141
          have hsz := hq135.trans hsz
          have oig := Off.tr (lo := 15) (hi := 49) oa135 oig (by decide) (by decide)
          have olg := Off.tr (lo := 15) (hi := 49) la135 olg (by decide) (by decide)
          have hrd := fun j => (la135 (B + 18) j (by omega)).trans (hrd j)
          refine lv_aload_n hx hb dX11_cell_207 rfl (lv_at hl 0 rfl) ?_
          refine r_get C hw (hsh 0 _ rfl) fl_X11_28 (oV_r rfl (hrs (0, 2, 15) (by decide))) dX11_cell_208 ?_
          refine lv_iload_n hx hb dX11_cell_211 rfl (lv_at hl 1 rfl) ?_
          refine r_callV (As := [.int x]) (rest := []) C hw (t_X5_readersOf l B D cA kd ig137 rg lg139 _ x hsh hrs hfc) sv_X11_203 (hsh 15 _ rfl) rfl hl.1 rfl (Nat.le_of_ble_eq_true rfl) ⟨Nat.le_of_ble_eq_true rfl, Nat.le_of_ble_eq_true rfl⟩ ⟨Nat.le_of_ble_eq_true rfl, Nat.le_of_ble_eq_true rfl⟩ dX11_cell_212 (fun r147 kd143 ig144 rg145 lg146 H locs hw hH hp148 => ?_)
          obtain ⟨rfl, rfl, rfl, rfl, hzz142, z142, rfl, hz142⟩ := hp148
          have hsz := hzz142.trans hsz
          exact vx_ret (r_iret C hw hr hlk rfl (Nat.le_of_ble_eq_true rfl) (Nat.le_of_ble_eq_true rfl) dX11_cell_215 ⟨fun _ _ => rfl, (oig.mo (by decide)), Mo.rf, (olg.mo (by decide)), _, rfl, by omega⟩)
        refine lv_tableOut hx hb dX11_cell_28 (by omega) (tgt := 216) (by decide) ?_
        refine lv_aload_n hx hb dX11_cell_216 rfl (lv_at hl 0 rfl) ?_
        refine r_get C hw (hsh 0 _ rfl) fl_X11_19 (oV_r rfl (hrs (0, 1, 9) (by decide))) dX11_cell_217 ?_
        refine lv_iload_n hx hb dX11_cell_220 rfl (lv_at hl 1 rfl) ?_
        refine r_callV (As := [.int x]) (rest := []) C hw (t_X6_isKept l B D cA kd ig rg lg _ x Fs) sv_X11_206 (hsh 9 _ rfl) rfl hl.1 rfl (Nat.le_of_ble_eq_true rfl) ⟨Nat.le_of_ble_eq_true rfl, Nat.le_of_ble_eq_true rfl⟩ ⟨Nat.le_of_ble_eq_true rfl, Nat.le_of_ble_eq_true rfl⟩ dX11_cell_221 (fun r154 kd150 ig151 rg152 lg153 H locs hw hH hp155 => ?_)
        obtain ⟨rfl, rfl, rfl, rfl, hzz149, z149, rfl, hz149⟩ := hp155
        have hsz := hzz149.trans hsz
        refine z_eq (tgt := 231) hx hb dX11_cell_224 (by decide) (fun c224 => ?_) (fun c224 => ?_)
        · refine lv_iconst (v := 0) hx hb dX11_cell_231 (by decide) (ti_c 0 (by decide) fun z156 hz156 => ?_)
          exact vx_ret (r_iret C hw hr hlk rfl (Nat.le_of_ble_eq_true rfl) (Nat.le_of_ble_eq_true rfl) dX11_cell_232 ⟨fun _ _ => rfl, Mo.rf, Mo.rf, Mo.rf, _, rfl, by omega⟩)
        · exact absurd c224 (by omega)
      · exact J17 ls H locs  (lv_sub hl [] rfl) hw hsz (by omega)
