def JSt (B : Nat) (ig : sI) (σ : Sg) (x y z : Int) : Prop := (z = -1 ∧ kdO (atC σ x) ≠ 2) ∨ ((0 ≤ x ∧ x < 288) ∧ kdO (atC σ x) = 2 ∧ ∃ n : Nat, (ig (B + 58) x.toNat).toInt = (n : Int) ∧ sumI (mR B ig (x.toNat : Int) x.toNat) n y z)
theorem shB.no {σ : Sg} {ζ : Nat → Int} {x : Int} {s : St} (h : s.1 ≠ 2) : ¬ shB σ ζ x s := fun w => h w.1
theorem shR.no {σ : Sg} {ζ : Nat → Int} {x : Int} {s : St} (h : s.1 ≠ 2) : ¬ shR σ ζ x s := fun w => h w.1
theorem stL_eq {L : Fm} {l : Nat} {d : Int} (h : (stp L (l : Int)).1 = 2) : stL L (l : Int) d = L.set l (2, (stp L (l : Int)).2.1, (stp L (l : Int)).2.2 + d) := by
  unfold stL
  rw [h, Int.toNat_natCast]
theorem stp_m1 {L : Fm} : (stp L (-1)).1 ≠ 2 := by rw [stp_out (Or.inl (by decide))]; decide
theorem sumI.neg {R : Rw} {n : Nat} {k z : Int} (h : sumI R n k z) (hz : z < 0) : z = -1 := by
  rcases h with ⟨j, -, e, -⟩ | ⟨e, -⟩
  · omega
  · exact e
theorem sh_x {K : Prop} {z w : Int} (h : (K ∧ z = w) ∨ (¬ K ∧ z = -1)) (hw : 0 ≤ w) : (0 ≤ z → K) ∧ (z < 0 → ¬ K) := by
  rcases h with ⟨a, b⟩ | ⟨a, b⟩
  · exact ⟨fun _ => a, fun q => by omega⟩
  · exact ⟨fun q => by omega, fun _ => a⟩

set_option maxHeartbeats 4000000 in
set_option maxRecDepth 100000 in
theorem t_X12_stretchE {τ : Tp} {φ : Option Int} (l : Launch) (B : Nat) (D : va_G) (cA : Nat → ClassId) (kd : sK) (ig : sI) (rg : sR) (lg : sG) (sz : Nat) (x : Int32) (y : Int32) (σ : Sg) (π : Ps) (hM : SM B σ π ig) (hU : FMm B σ ig) (hW : WS σ π) (hI : IM τ φ none B kd ig rg) : MC l B D cA yX12_stretch cX12_stretch 5 (some .int) (rL 33 0 0) [.ref (B + 49), .int x, .int y] kd ig rg lg sz (PM τ φ none B [49, 54, 55, 56, 57, 58, 59, 60, 61, 63, 64, 65, 66, 67, 68, 69, 70, 71, 72, 73, 74, 76, 77, 78] kd ig rg lg (fun r ig' lg' => ∃ z : Int32, r = some (.int z) ∧ (∃ σ' π', SM B σ' π' ig' ∧ FMm B σ' ig' ∧ stT σ π x.toInt σ' π' y.toInt))) := by
  refine MC.of (own := RX12) (by decide +kernel) rfl (Nat.le_of_ble_eq_true rfl) ?_
  intro p e s m args below meth c ls C hr hlk hnm hw hsz hl
  have hx := C.1.1
  have hb := C.1.2.1
  have hown := C.1.2.2.2.1
  have hts := C.1.2.2.2.2
  have hl : lv_has ls 5 [(0, .ref (B + 49)), (1, .int x), (2, .int y)] := hl
  have hF : Ft B [49, 54, 55, 56, 57, 58, 59, 60, 61, 63, 64, 65, 66, 67, 68, 69, 70, 71, 72, 73, 74, 76, 77, 78] ig lg ig lg := Ft.rf
  have hsh := hI.sh
  have hrm := hI.rm
  have hM0 := hM
  refine lv_aload_n hx hb dX12_stretch_0 rfl (lv_at hl 0 rfl) ?_
  refine lv_iconst (v := 0) hx hb dX12_stretch_1 (by decide) (ti_c 0 (by decide) fun z1 hz1 => ?_)
  refine r_puti C hw (hsh 49 _ rfl) fl_X12_1 rfl rfl rfl dX12_stretch_2 (fun H locs hH hw => ?_)
  obtain ⟨ig2, eig2⟩ : ∃ f, f = up2 ig (B + 49) 0 z1 := ⟨_, rfl⟩
  rw [← eig2] at hw
  have hF : Ft B [49, 54, 55, 56, 57, 58, 59, 60, 61, 63, 64, 65, 66, 67, 68, 69, 70, 71, 72, 73, 74, 76, 77, 78] ig lg ig2 lg := by rw [eig2]; exact hF.pi (by decide)
  have hI : IM τ φ none B kd ig2 rg := by rw [eig2]; exact hI.pi (by decide) (show okR none _ from trivial)
  have hM : SM B σ π ig2 := by rw [eig2]; exact hM.wr (by decide)
  have hU : FMm B σ ig2 := by rw [eig2]; exact hU.wr (by decide)
  refine lv_iload_n hx hb dX12_stretch_5 rfl (lv_at hl 1 rfl) ?_
  refine r_callS (As := [.int x]) (rest := []) C hw (t_X12_isPlace l B D cA kd ig2 rg lg _ x  hI) ss_X12_198 rfl hl.1 rfl (Nat.le_of_ble_eq_true rfl) ⟨Nat.le_of_ble_eq_true rfl, Nat.le_of_ble_eq_true rfl⟩ ⟨Nat.le_of_ble_eq_true rfl, Nat.le_of_ble_eq_true rfl⟩ dX12_stretch_6 (fun r7 kd3 ig4 rg5 lg6 H locs hw hH hp8 => ?_)
  obtain ⟨rfl, rfl, rfl, rfl, hzhp8, hrhp8⟩ := hp8
  obtain ⟨z9, rfl, hz9⟩ := hrhp8
  have J32 : ∀ (ls : Array Slot) (H : Heap) (locs : List Loc) (ig11 : sI) (lg12 : sG) (u10 : Int32), lv_has ls 5 [(0, .ref (B + 49)), (1, .int x)] → WD B D cA s.heap kd ig11 rg lg12 H locs → IM τ φ none B kd ig11 rg → Ft B [49, 54, 55, 56, 57, 58, 59, 60, 61, 63, 64, 65, 66, 67, 68, 69, 70, 71, 72, 73, 74, 76, 77, 78] ig lg ig11 lg12 → (SM B σ π ig11) → (FMm B σ ig11) → (JSt B ig11 σ x.toInt y.toInt u10.toInt) → W p l e (rL 33 0 0) s m args below meth c H locs 0 0 (MQ below (QcW B D cA (PM τ φ none B [49, 54, 55, 56, 57, 58, 59, 60, 61, 63, 64, 65, 66, 67, 68, 69, 70, 71, 72, 73, 74, 76, 77, 78] kd ig rg lg (fun r ig' lg' => ∃ z : Int32, r = some (.int z) ∧ (∃ σ' π', SM B σ' π' ig' ∧ FMm B σ' ig' ∧ stT σ π x.toInt σ' π' y.toInt)))) args s 0 0 (fun q => B ≤ q)) (F0 m 32 ls [.int u10]) := by
    intro ls H locs ig11 lg12 u10 hl hw hI hF g32_0 g32_1 g32_2
    have hM := g32_0
    have hU := g32_1
    have js := g32_2
    refine lv_istore_n (lv' := [(3, .int u10), (0, .ref (B + 49)), (1, .int x)]) hx hb dX12_stretch_32 rfl hl (by decide) rfl (fun ls hl => ?_)
    refine lv_iload_n hx hb dX12_stretch_33 rfl (lv_at hl 0 rfl) ?_
    refine z_ge (tgt := 39) hx hb dX12_stretch_34 (by decide) (fun c34 => ?_) (fun c34 => ?_)
    · obtain ⟨hon, hk2, n, hn, hsi⟩ : (0 ≤ x.toInt ∧ x.toInt < 288) ∧ kdO (atC σ x.toInt) = 2 ∧ ∃ n : Nat, (ig11 (B + 58) x.toInt.toNat).toInt = (n : Int) ∧ sumI (mR B ig11 (x.toInt.toNat : Int) x.toInt.toNat) n y.toInt u10.toInt := (by rcases js with ⟨w, -⟩ | w; (exfalso; omega); exact w)
      have hrow := hM.1 x.toInt.toNat (by omega)
      rw [← atC_on (σ := σ) (x := x.toInt) (by omega)] at hrow
      have hrf := hrow.2.2.1 hk2
      have hie : iE (mR B ig11 (x.toInt.toNat : Int) x.toInt.toNat) 8 0 n (fmO (atC σ x.toInt)) := (by obtain ⟨n2, q1, q2, q3⟩ := hrf.1; rw [show n = n2 by omega]; exact q3)
      obtain ⟨j, l9, ej, hsl, smt⟩ : ∃ j l : Nat, u10.toInt = (j : Int) ∧ sumS (fmO (atC σ x.toInt)) y.toInt (l : Int) ∧ SMt (mR B ig11 (x.toInt.toNat : Int) x.toInt.toNat) n (fmO (atC σ x.toInt)) j l := (by rcases sum_match hie hsi with ⟨w, -⟩ | w; (exfalso; omega); exact w)
      have sm3 := smt.2.2.1
      have kit := hI.its (j := x.toInt.toNat) (by omega)
      have hkd : (ig11 (B + 59) x.toInt.toNat).toInt = 2 := by rw [hrow.1.1]; exact hk2
      have r2 := rd_ref smt.2.2.2.2.1 (by omega) rfl (hrf.2 (j + 2) (by omega)) (hI.at (p := x.toInt.toNat) (k := j + 2) (by omega) (by omega) hkd (by omega)).2 (by omega)
      have r4 := rd_ref smt.2.2.2.2.2.1 (by omega) rfl (hrf.2 (j + 4) (by omega)) (hI.at (p := x.toInt.toNat) (k := j + 4) (by omega) (by omega) hkd (by omega)).2 (by omega)
      rw [show 120 * x.toInt.toNat + (j + 4) = (120 * x.toInt.toNat + (j + 2)) + 2 by omega] at r4
      have ep : ((x.toInt.toNat : Nat) : Int) = x.toInt := by omega
      have rc2 := r2.2.1
      have rr2 := r2.2.2.1
      have rc4 := r4.2.1
      have rr4 := r4.2.2.1
      rw [ep] at rc2 rr2 rc4 rr4
      have rg4 := r4.2.2.2.1
      have iB := shDn.iff (B := B) (ig := ig11) (σ := σ) (x := x.toInt) (i := 120 * x.toInt.toNat + (j + 2)) smt.2.1 rc2 rc4 rr4 rg4.2.2
      have iR := shRt.iff (B := B) (ig := ig11) (σ := σ) (x := x.toInt) (i := 120 * x.toInt.toNat + (j + 2)) smt.2.1 rr2 rc4 rr4 rg4.1.2
      replace iB : hid _ := iB
      replace iR : hid _ := iR
      have hI0 := hI
      have hM9 := hM
      have hU9 := hU
      refine lv_aload_n hx hb dX12_stretch_39 rfl (lv_at hl 1 rfl) ?_
      refine lv_iload_n hx hb dX12_stretch_40 rfl (lv_at hl 2 rfl) ?_
      refine lv_bipush (v := 120) hx hb dX12_stretch_41 (by decide) (ti_c 120 (by decide) fun z13 hz13 => ?_)
      refine lv_iload_n hx hb dX12_stretch_43 rfl (lv_at hl 2 rfl) ?_
      refine lv_imul hx hb dX12_stretch_44 (tc_mulL 120 hz13 fun z14 hz14 => ?_)
      first | replace hz14 := hz14 (by omega) | clear hz14
      refine lv_iload_n hx hb dX12_stretch_45 rfl (lv_at hl 0 rfl) ?_
      refine lv_iadd hx hb dX12_stretch_46 (tc_add fun z15 hz15 => ?_)
      first | replace hz15 := hz15 (by omega) | clear hz15
      refine lv_iconst (v := 2) hx hb dX12_stretch_47 (by decide) (ti_c 2 (by decide) fun z16 hz16 => ?_)
      refine lv_iadd hx hb dX12_stretch_48 (tc_add fun z17 hz17 => ?_)
      first | replace hz17 := hz17 (by omega) | clear hz17
      refine lv_iconst (v := 1) hx hb dX12_stretch_49 (by decide) (ti_c 1 (by decide) fun z18 hz18 => ?_)
      refine r_callV (As := [.int x, .int z17, .int z18]) (rest := []) C hw (t_X12_shortByE l B D cA kd ig11 rg lg12 _ x z17 z18 (by omega) (by omega) (by omega) (by rw [show z17.toInt.toNat + 2 = (120 * x.toInt.toNat + (j + 2)) + 2 by omega]; exact rg4) σ π hM hU hI) sv_X12_320 (hsh 49 _ rfl) rfl hl.1 rfl (Nat.le_of_ble_eq_true rfl) ⟨Nat.le_of_ble_eq_true rfl, Nat.le_of_ble_eq_true rfl⟩ ⟨Nat.le_of_ble_eq_true rfl, Nat.le_of_ble_eq_true rfl⟩ dX12_stretch_50 (fun r23 kd19 ig20 rg21 lg22 H locs hw hH hp24 => ?_)
      obtain ⟨rfl, rfl, rfl, rfl, hzhp24, hrhp24⟩ := hp24
      obtain ⟨z25, rfl, hz25⟩ := hrhp24
      rw [show z17.toInt.toNat = 120 * x.toInt.toNat + (j + 2) by omega] at hz25
      have sd9 := sh_x (hz25.1 (by omega)) (by omega)
      replace sd9 : hid _ := sd9
      refine z_lt (tgt := 60) hx hb dX12_stretch_53 (by decide) (fun c53 => ?_) (fun c53 => ?_)
      · refine lv_iconst (v := 0) hx hb dX12_stretch_60 (by decide) (ti_c 0 (by decide) fun z26 hz26 => ?_)
        refine lv_istore (lv' := [(4, .int z26), (3, .int u10), (0, .ref (B + 49)), (1, .int x)]) hx hb dX12_stretch_61 hl (by decide) rfl (fun ls hl => ?_)
        refine lv_iload hx hb dX12_stretch_63 (lv_at hl 0 rfl) ?_
        refine z_ne (tgt := 87) hx hb dX12_stretch_65 (by decide) (fun c65 => ?_) (fun c65 => ?_)
        · refine lv_aload_n hx hb dX12_stretch_87 rfl (lv_at hl 2 rfl) ?_
          refine lv_iload_n hx hb dX12_stretch_88 rfl (lv_at hl 3 rfl) ?_
          refine lv_sipush (v := 288) hx hb dX12_stretch_89 (by decide) (ti_c 288 (by decide) fun z27 hz27 => ?_)
          refine r_callV (As := [.int x, .int z27]) (rest := []) C hw (t_X12_copyRowE l B D cA kd ig11 rg lg12 _ x z27 (by omega) (by omega) (i32_ne (by omega)) (hI.wp (by omega) (by omega)) hI) sv_X12_191 (hsh 49 _ rfl) rfl hl.1 rfl (Nat.le_of_ble_eq_true rfl) ⟨Nat.le_of_ble_eq_true rfl, Nat.le_of_ble_eq_true rfl⟩ ⟨Nat.le_of_ble_eq_true rfl, Nat.le_of_ble_eq_true rfl⟩ dX12_stretch_92 (fun r32 kd28 ig29 rg30 lg31 H locs hw hH hp33 => ?_)
          obtain ⟨rfl, rfl, hI, hchp33, hrhp33⟩ := hp33
          have hF : Ft B [49, 54, 55, 56, 57, 58, 59, 60, 61, 63, 64, 65, 66, 67, 68, 69, 70, 71, 72, 73, 74, 76, 77, 78] ig lg ig29 lg31 := Ft.tr hF hchp33 (by decide) (by decide)
          obtain ⟨rfl, hvhp33⟩ := hrhp33
          have hcx := CRx.toY (y := 288) hvhp33 (by omega)
          have hcr := hcx.1
          have nd : NDr B ig11 ig29 := NDr.cr hcx
          have h63 : ∀ j, ig29 (B + 63) j = ig11 (B + 63) j := fun j => hchp33.i 63 j (by decide)
          have h19 := congrArg Int32.toInt (hchp33.i 49 19 (by decide))
          have hR1 := hcx.row hrow
          have wf : WFr B ig29 288 := (hI0.row (p := x.toInt.toNat) (by omega) (by omega) hkd).copy hcr
          have f4 := CRw.f4 (q := j + 4) hcr (by omega)
          have f7 := congrArg Int32.toInt (hcr.2.2.2.1 57 (j + 4) (by decide) (by decide) (by omega))
          rw [show 120 * x.toInt.toNat + (j + 4) = (120 * x.toInt.toNat + (j + 2)) + 2 by omega] at f4 f7
          have f7 : (ig29 (B + 57) (34560 + (j + 4))).toInt = (ig11 (B + 57) (120 * x.toInt.toNat + (j + 2) + 2)).toInt := f7
          have q4 : j + 4 < 120 := by omega
          have emr : mR B ig29 (x.toInt.toNat : Int) 288 = mR B ig11 (x.toInt.toNat : Int) x.toInt.toNat := mR.ag hcr.2.1 (fun c k a b hk => hcr.2.2.2.1 c k a b hk)
          have k34 : (ig29 (B + 54) (34560 + (j + 4))).toInt = 3 := by rw [f4.1]; exact r4.1
          have e58 := congrArg Int32.toInt hcr.2.1
          have pw4 := r4.2.2.2.2
          refine lv_aload_n hx hb dX12_stretch_95 rfl (lv_at hl 2 rfl) ?_
          refine r_get C hw (hsh 49 _ rfl) fl_X12_71 (oV_r rfl (hrm (49, 11, 56) (by decide))) dX12_stretch_96 ?_
          refine lv_ldc (v := 34560) hx hb hown (hts _ kc_X12_142) dX12_stretch_99 (ti_c 34560 (by decide) fun z34 hz34 => ?_)
          refine lv_iload_n hx hb dX12_stretch_101 rfl (lv_at hl 1 rfl) ?_
          refine lv_iadd hx hb dX12_stretch_102 (tc_add fun z35 hz35 => ?_)
          first | replace hz35 := hz35 (by omega) | clear hz35
          refine lv_iconst (v := 4) hx hb dX12_stretch_103 (by decide) (ti_c 4 (by decide) fun z36 hz36 => ?_)
          refine lv_iadd hx hb dX12_stretch_104 (tc_add fun z37 hz37 => ?_)
          first | replace hz37 := hz37 (by omega) | clear hz37
          refine lv_dup2_11 hx hb dX12_stretch_105 rfl rfl ?_
          have nw : z37.toInt.toNat = 34560 + (j + 4) := by omega
          have nW : nEq z37.toInt.toNat (34560 + (j + 4)) := nw
          refine r_iald C hw (hsh 56 _ rfl) (by omega) (by omega) dX12_stretch_106 (ti_c (ig29 (B + 56) z37.toInt.toNat).toInt rfl fun z38 hz38 => ?_)
          rw [nw] at hz38
          refine lv_iload hx hb dX12_stretch_107 (lv_at hl 0 rfl) ?_
          refine z_eq (tgt := 116) hx hb dX12_stretch_109 (by decide) (fun c109 => ?_) (fun c109 => ?_)
          · refine lv_iconst (v := 0) hx hb dX12_stretch_116 (by decide) (ti_c 0 (by decide) fun z40 hz40 => ?_)
            refine lv_iadd hx hb dX12_stretch_117 (tc_add fun z41 hz41 => ?_)
            first | replace hz41 := hz41 (by omega) | clear hz41
            refine r_iast C hw (hsh 56 _ rfl) (by omega) (by omega) dX12_stretch_118 (fun H locs hH hw => ?_)
            obtain ⟨ig42, eig42⟩ : ∃ f, f = up2 ig29 (B + 56) z37.toInt.toNat z41 := ⟨_, rfl⟩
            rw [← eig42] at hw
            have hF : Ft B [49, 54, 55, 56, 57, 58, 59, 60, 61, 63, 64, 65, 66, 67, 68, 69, 70, 71, 72, 73, 74, 76, 77, 78] ig lg ig42 lg31 := by rw [eig42]; exact hF.pi (by decide)
            have hI : IM τ φ none B kd ig42 rg := by rw [eig42]; exact hI.pdr2 (Or.inr rfl) nW q4
            have wf : WFr B ig42 288 := by rw [eig42, nw]; exact WFr.uB wf k34 (by omega) (by omega)
            have k3b : (ig42 (B + 54) (34560 + (j + 4))).toInt = 3 := by rw [eig42, up2_c (by decide)]; exact k34
            have fA : (ig42 (B + 55) (34560 + (j + 4))).toInt = (ig29 (B + 55) (34560 + (j + 4))).toInt := by rw [eig42, up2_c (by decide)]
            have fB : 0 ≤ (ig42 (B + 56) (34560 + (j + 4))).toInt ∧ (ig42 (B + 56) (34560 + (j + 4))).toInt < 24 := by rw [eig42, nw, up2_eq]; omega
            have nd : NDr B ig11 ig42 := by rw [eig42]; exact nd.wr (Or.inr (Or.inr ⟨by decide, by decide, by omega, by omega⟩))
            refine lv_aload_n hx hb dX12_stretch_119 rfl (lv_at hl 2 rfl) ?_
            refine r_get C hw (hsh 49 _ rfl) fl_X12_68 (oV_r rfl (hrm (49, 10, 55) (by decide))) dX12_stretch_120 ?_
            refine lv_ldc (v := 34560) hx hb hown (hts _ kc_X12_142) dX12_stretch_123 (ti_c 34560 (by decide) fun z43 hz43 => ?_)
            refine lv_iload_n hx hb dX12_stretch_125 rfl (lv_at hl 1 rfl) ?_
            refine lv_iadd hx hb dX12_stretch_126 (tc_add fun z44 hz44 => ?_)
            first | replace hz44 := hz44 (by omega) | clear hz44
            refine lv_iconst (v := 4) hx hb dX12_stretch_127 (by decide) (ti_c 4 (by decide) fun z45 hz45 => ?_)
            refine lv_iadd hx hb dX12_stretch_128 (tc_add fun z46 hz46 => ?_)
            first | replace hz46 := hz46 (by omega) | clear hz46
            refine lv_dup2_11 hx hb dX12_stretch_129 rfl rfl ?_
            have nw2 : z46.toInt.toNat = 34560 + (j + 4) := by omega
            have nW2 : nEq z46.toInt.toNat (34560 + (j + 4)) := nw2
            refine r_iald C hw (hsh 55 _ rfl) (by omega) (by omega) dX12_stretch_130 (ti_c (ig42 (B + 55) z46.toInt.toNat).toInt rfl fun z47 hz47 => ?_)
            rw [nw2] at hz47
            refine lv_iload hx hb dX12_stretch_131 (lv_at hl 0 rfl) ?_
            refine z_eq (tgt := 140) hx hb dX12_stretch_133 (by decide) (fun c133 => ?_) (fun c133 => ?_)
            · refine lv_iconst (v := 1) hx hb dX12_stretch_140 (by decide) (ti_c 1 (by decide) fun z49 hz49 => ?_)
              refine lv_iadd hx hb dX12_stretch_141 (tc_add fun z50 hz50 => ?_)
              first | replace hz50 := hz50 (by omega) | clear hz50
              refine r_iast C hw (hsh 55 _ rfl) (by omega) (by omega) dX12_stretch_142 (fun H locs hH hw => ?_)
              obtain ⟨ig51, eig51⟩ : ∃ f, f = up2 ig42 (B + 55) z46.toInt.toNat z50 := ⟨_, rfl⟩
              rw [← eig51] at hw
              have hF : Ft B [49, 54, 55, 56, 57, 58, 59, 60, 61, 63, 64, 65, 66, 67, 68, 69, 70, 71, 72, 73, 74, 76, 77, 78] ig lg ig51 lg31 := by rw [eig51]; exact hF.pi (by decide)
              have hI : IM τ φ none B kd ig51 rg := by rw [eig51]; exact hI.pdr2 (Or.inl rfl) nW2 q4
              have wf : WFr B ig51 288 := by rw [eig51, nw2]; exact WFr.uA wf k3b (by omega) fB
              have hwp : WP B ig51 288 := fun _ => wf
              have nd : NDr B ig11 ig51 := by rw [eig51]; exact nd.wr (Or.inr (Or.inr ⟨by decide, by decide, by omega, by omega⟩))
              have hfl : RowF B ig51 288 (x.toInt.toNat : Int) ((fmO (atC σ x.toInt)).set l9 (2, (stp (fmO (atC σ x.toInt)) (l9 : Int)).2.1, (stp (fmO (atC σ x.toInt)) (l9 : Int)).2.2 + (128 * 1 + 0))) := by rw [eig51, eig42]; exact RowF.longer (n := n) (hR1.2.2.1 hk2) (by omega) (by rw [emr]; exact smt) rfl k34 (by rw [f7, f4.2.1, f4.2.2]; exact pw4.1) (by rw [f7]; exact pw4.2) nw nw2 (by omega) (by omega)
              have hux := hW.uz (x := x.toInt) (by omega)
              have hD : RowM B ig51 288 (x.toInt.toNat : Int) (fCl (stL (fmO (atC σ x.toInt)) (l9 : Int) (128 * 1 + 0))) := ⟨⟨by rw [eig51, up2_c (by decide), eig42, up2_c (by decide), hR1.1.1, hk2]; rfl, by rw [eig51, up2_c (by decide), eig42, up2_c (by decide), hR1.1.2, hux.2]; rfl⟩, by unfold RowU; rw [eig51, up2_c (by decide), up2_c (by decide), up2_c (by decide), eig42, up2_c (by decide), up2_c (by decide), up2_c (by decide)]; have q := hR1.2.1; rw [hux.1] at q; exact q, fun _ => by show RowF B _ 288 _ (stL _ _ _); rw [stL_eq smt.2.1]; exact hfl, fun w => absurd rfl w⟩
              have hM := hM9.dr hI0.i120 nd (fun j => by rw [eig51, up2_c (by decide), eig42, up2_c (by decide)]; exact h63 j) (by rw [eig51, up2_c (by decide), eig42, up2_c (by decide)]; exact h19)
              refine lv_aload_n hx hb dX12_stretch_143 rfl (lv_at hl 2 rfl) ?_
              have hI := hI.su (f := (ig51 (B + 49) 19).toInt) rfl
              refine r_callV (As := []) (rest := []) C hw (t_X12_remembers l B D cA kd ig51 rg lg31 _   hI) sv_X12_342 (hsh 49 _ rfl) rfl hl.1 rfl (Nat.le_of_ble_eq_true rfl) ⟨Nat.le_of_ble_eq_true rfl, Nat.le_of_ble_eq_true rfl⟩ ⟨Nat.le_of_ble_eq_true rfl, Nat.le_of_ble_eq_true rfl⟩ dX12_stretch_144 (fun r56 kd52 ig53 rg54 lg55 H locs hw hH hp57 => ?_)
              obtain ⟨rfl, rfl, hI, hchp57, hrhp57⟩ := hp57
              have hF : Ft B [49, 54, 55, 56, 57, 58, 59, 60, 61, 63, 64, 65, 66, 67, 68, 69, 70, 71, 72, 73, 74, 76, 77, 78] ig lg ig53 lg55 := Ft.tr hF hchp57 (by decide) (by decide)
              obtain rfl := hrhp57
              have e19 := hI.u
              have hI := hI.nu
              have hM := hM.ft hchp57 (by decide) e19
              have hwp : WP B ig53 288 := WP.ft hwp hchp57 (by decide) (by decide) (by decide) (by decide) (by decide)
              have hD := hD.ft hchp57 (by decide)
              refine lv_aload_n hx hb dX12_stretch_147 rfl (lv_at hl 2 rfl) ?_
              refine lv_iload_n hx hb dX12_stretch_148 rfl (lv_at hl 3 rfl) ?_
              refine r_callV (As := [.int x]) (rest := []) C hw (t_X12_putsE l B D cA kd ig53 rg lg55 _ x (by omega) hwp σ π hM _ hD hI) sv_X12_207 (hsh 49 _ rfl) rfl hl.1 rfl (Nat.le_of_ble_eq_true rfl) ⟨Nat.le_of_ble_eq_true rfl, Nat.le_of_ble_eq_true rfl⟩ ⟨Nat.le_of_ble_eq_true rfl, Nat.le_of_ble_eq_true rfl⟩ dX12_stretch_149 (fun r62 kd58 ig59 rg60 lg61 H locs hw hH hp63 => ?_)
              obtain ⟨rfl, rfl, hI, hchp63, hrhp63⟩ := hp63
              have hF : Ft B [49, 54, 55, 56, 57, 58, 59, 60, 61, 63, 64, 65, 66, 67, 68, 69, 70, 71, 72, 73, 74, 76, 77, 78] ig lg ig59 lg61 := Ft.tr hF hchp63 (by decide) (by decide)
              obtain ⟨rfl, hvhp63⟩ := hrhp63
              obtain ⟨hM, hU⟩ := hvhp63
              refine lv_aload_n hx hb dX12_stretch_152 rfl (lv_at hl 2 rfl) ?_
              have hI := hI.su (f := (ig59 (B + 49) 19).toInt) rfl
              refine r_callV (As := []) (rest := []) C hw (t_X12_tells l B D cA kd ig59 rg lg61 _   hI) sv_X12_345 (hsh 49 _ rfl) rfl hl.1 rfl (Nat.le_of_ble_eq_true rfl) ⟨Nat.le_of_ble_eq_true rfl, Nat.le_of_ble_eq_true rfl⟩ ⟨Nat.le_of_ble_eq_true rfl, Nat.le_of_ble_eq_true rfl⟩ dX12_stretch_153 (fun r68 kd64 ig65 rg66 lg67 H locs hw hH hp69 => ?_)
              obtain ⟨rfl, rfl, hI, hchp69, hrhp69⟩ := hp69
              have hF : Ft B [49, 54, 55, 56, 57, 58, 59, 60, 61, 63, 64, 65, 66, 67, 68, 69, 70, 71, 72, 73, 74, 76, 77, 78] ig lg ig65 lg67 := Ft.tr hF hchp69 (by decide) (by decide)
              obtain ⟨z70, rfl, hz70⟩ := hrhp69
              have e19 := hI.u
              have hI := hI.nu
              have hM := hM.ft hchp69 (by decide) e19
              have hU := hU.ft hchp69 (by decide)
              exact r_iret C hw hr hlk rfl (Nat.le_of_ble_eq_true rfl) (Nat.le_of_ble_eq_true rfl) dX12_stretch_156 ⟨rfl, rfl, hI, hF, ⟨_, rfl, (by exfalso; omega)⟩⟩
            · refine lv_iconst (v := 0) hx hb dX12_stretch_136 (by decide) (ti_c 0 (by decide) fun z71 hz71 => ?_)
              refine lv_goto (tgt := 141) hx hb dX12_stretch_137 (by decide) ?_
              refine lv_iadd hx hb dX12_stretch_141 (tc_add fun z72 hz72 => ?_)
              first | replace hz72 := hz72 (by omega) | clear hz72
              refine r_iast C hw (hsh 55 _ rfl) (by omega) (by omega) dX12_stretch_142 (fun H locs hH hw => ?_)
              obtain ⟨ig73, eig73⟩ : ∃ f, f = up2 ig42 (B + 55) z46.toInt.toNat z72 := ⟨_, rfl⟩
              rw [← eig73] at hw
              have hF : Ft B [49, 54, 55, 56, 57, 58, 59, 60, 61, 63, 64, 65, 66, 67, 68, 69, 70, 71, 72, 73, 74, 76, 77, 78] ig lg ig73 lg31 := by rw [eig73]; exact hF.pi (by decide)
              have hI : IM τ φ none B kd ig73 rg := by rw [eig73]; exact hI.pdr2 (Or.inl rfl) nW2 q4
              have wf : WFr B ig73 288 := by rw [eig73, nw2]; exact WFr.uA wf k3b (by omega) fB
              have hwp : WP B ig73 288 := fun _ => wf
              have nd : NDr B ig11 ig73 := by rw [eig73]; exact nd.wr (Or.inr (Or.inr ⟨by decide, by decide, by omega, by omega⟩))
              have hfl : RowF B ig73 288 (x.toInt.toNat : Int) ((fmO (atC σ x.toInt)).set l9 (2, (stp (fmO (atC σ x.toInt)) (l9 : Int)).2.1, (stp (fmO (atC σ x.toInt)) (l9 : Int)).2.2 + (128 * 0 + 0))) := by rw [eig73, eig42]; exact RowF.longer (n := n) (hR1.2.2.1 hk2) (by omega) (by rw [emr]; exact smt) rfl k34 (by rw [f7, f4.2.1, f4.2.2]; exact pw4.1) (by rw [f7]; exact pw4.2) nw nw2 (by omega) (by omega)
              have hux := hW.uz (x := x.toInt) (by omega)
              have hD : RowM B ig73 288 (x.toInt.toNat : Int) (fCl (stL (fmO (atC σ x.toInt)) (l9 : Int) (128 * 0 + 0))) := ⟨⟨by rw [eig73, up2_c (by decide), eig42, up2_c (by decide), hR1.1.1, hk2]; rfl, by rw [eig73, up2_c (by decide), eig42, up2_c (by decide), hR1.1.2, hux.2]; rfl⟩, by unfold RowU; rw [eig73, up2_c (by decide), up2_c (by decide), up2_c (by decide), eig42, up2_c (by decide), up2_c (by decide), up2_c (by decide)]; have q := hR1.2.1; rw [hux.1] at q; exact q, fun _ => by show RowF B _ 288 _ (stL _ _ _); rw [stL_eq smt.2.1]; exact hfl, fun w => absurd rfl w⟩
              have hM := hM9.dr hI0.i120 nd (fun j => by rw [eig73, up2_c (by decide), eig42, up2_c (by decide)]; exact h63 j) (by rw [eig73, up2_c (by decide), eig42, up2_c (by decide)]; exact h19)
              refine lv_aload_n hx hb dX12_stretch_143 rfl (lv_at hl 2 rfl) ?_
              have hI := hI.su (f := (ig73 (B + 49) 19).toInt) rfl
              refine r_callV (As := []) (rest := []) C hw (t_X12_remembers l B D cA kd ig73 rg lg31 _   hI) sv_X12_342 (hsh 49 _ rfl) rfl hl.1 rfl (Nat.le_of_ble_eq_true rfl) ⟨Nat.le_of_ble_eq_true rfl, Nat.le_of_ble_eq_true rfl⟩ ⟨Nat.le_of_ble_eq_true rfl, Nat.le_of_ble_eq_true rfl⟩ dX12_stretch_144 (fun r78 kd74 ig75 rg76 lg77 H locs hw hH hp79 => ?_)
              obtain ⟨rfl, rfl, hI, hchp79, hrhp79⟩ := hp79
              have hF : Ft B [49, 54, 55, 56, 57, 58, 59, 60, 61, 63, 64, 65, 66, 67, 68, 69, 70, 71, 72, 73, 74, 76, 77, 78] ig lg ig75 lg77 := Ft.tr hF hchp79 (by decide) (by decide)
              obtain rfl := hrhp79
              have e19 := hI.u
              have hI := hI.nu
              have hM := hM.ft hchp79 (by decide) e19
              have hwp : WP B ig75 288 := WP.ft hwp hchp79 (by decide) (by decide) (by decide) (by decide) (by decide)
              have hD := hD.ft hchp79 (by decide)
              refine lv_aload_n hx hb dX12_stretch_147 rfl (lv_at hl 2 rfl) ?_
              refine lv_iload_n hx hb dX12_stretch_148 rfl (lv_at hl 3 rfl) ?_
              refine r_callV (As := [.int x]) (rest := []) C hw (t_X12_putsE l B D cA kd ig75 rg lg77 _ x (by omega) hwp σ π hM _ hD hI) sv_X12_207 (hsh 49 _ rfl) rfl hl.1 rfl (Nat.le_of_ble_eq_true rfl) ⟨Nat.le_of_ble_eq_true rfl, Nat.le_of_ble_eq_true rfl⟩ ⟨Nat.le_of_ble_eq_true rfl, Nat.le_of_ble_eq_true rfl⟩ dX12_stretch_149 (fun r84 kd80 ig81 rg82 lg83 H locs hw hH hp85 => ?_)
              obtain ⟨rfl, rfl, hI, hchp85, hrhp85⟩ := hp85
              have hF : Ft B [49, 54, 55, 56, 57, 58, 59, 60, 61, 63, 64, 65, 66, 67, 68, 69, 70, 71, 72, 73, 74, 76, 77, 78] ig lg ig81 lg83 := Ft.tr hF hchp85 (by decide) (by decide)
              obtain ⟨rfl, hvhp85⟩ := hrhp85
              obtain ⟨hM, hU⟩ := hvhp85
              refine lv_aload_n hx hb dX12_stretch_152 rfl (lv_at hl 2 rfl) ?_
              have hI := hI.su (f := (ig81 (B + 49) 19).toInt) rfl
              refine r_callV (As := []) (rest := []) C hw (t_X12_tells l B D cA kd ig81 rg lg83 _   hI) sv_X12_345 (hsh 49 _ rfl) rfl hl.1 rfl (Nat.le_of_ble_eq_true rfl) ⟨Nat.le_of_ble_eq_true rfl, Nat.le_of_ble_eq_true rfl⟩ ⟨Nat.le_of_ble_eq_true rfl, Nat.le_of_ble_eq_true rfl⟩ dX12_stretch_153 (fun r90 kd86 ig87 rg88 lg89 H locs hw hH hp91 => ?_)
              obtain ⟨rfl, rfl, hI, hchp91, hrhp91⟩ := hp91
              have hF : Ft B [49, 54, 55, 56, 57, 58, 59, 60, 61, 63, 64, 65, 66, 67, 68, 69, 70, 71, 72, 73, 74, 76, 77, 78] ig lg ig87 lg89 := Ft.tr hF hchp91 (by decide) (by decide)
              obtain ⟨z92, rfl, hz92⟩ := hrhp91
              have e19 := hI.u
              have hI := hI.nu
              have hM := hM.ft hchp91 (by decide) e19
              have hU := hU.ft hchp91 (by decide)
              exact r_iret C hw hr hlk rfl (Nat.le_of_ble_eq_true rfl) (Nat.le_of_ble_eq_true rfl) dX12_stretch_156 ⟨rfl, rfl, hI, hF, ⟨_, rfl, (by exfalso; omega)⟩⟩
          · refine lv_iconst (v := 1) hx hb dX12_stretch_112 (by decide) (ti_c 1 (by decide) fun z93 hz93 => ?_)
            refine lv_goto (tgt := 117) hx hb dX12_stretch_113 (by decide) ?_
            refine lv_iadd hx hb dX12_stretch_117 (tc_add fun z94 hz94 => ?_)
            first | replace hz94 := hz94 (by omega) | clear hz94
            refine r_iast C hw (hsh 56 _ rfl) (by omega) (by omega) dX12_stretch_118 (fun H locs hH hw => ?_)
            obtain ⟨ig95, eig95⟩ : ∃ f, f = up2 ig29 (B + 56) z37.toInt.toNat z94 := ⟨_, rfl⟩
            rw [← eig95] at hw
            have hF : Ft B [49, 54, 55, 56, 57, 58, 59, 60, 61, 63, 64, 65, 66, 67, 68, 69, 70, 71, 72, 73, 74, 76, 77, 78] ig lg ig95 lg31 := by rw [eig95]; exact hF.pi (by decide)
            have hI : IM τ φ none B kd ig95 rg := by rw [eig95]; exact hI.pdr2 (Or.inr rfl) nW q4
            have wf : WFr B ig95 288 := by rw [eig95, nw]; exact WFr.uB wf k34 (by omega) (by omega)
            have k3b : (ig95 (B + 54) (34560 + (j + 4))).toInt = 3 := by rw [eig95, up2_c (by decide)]; exact k34
            have fA : (ig95 (B + 55) (34560 + (j + 4))).toInt = (ig29 (B + 55) (34560 + (j + 4))).toInt := by rw [eig95, up2_c (by decide)]
            have fB : 0 ≤ (ig95 (B + 56) (34560 + (j + 4))).toInt ∧ (ig95 (B + 56) (34560 + (j + 4))).toInt < 24 := by rw [eig95, nw, up2_eq]; omega
            have nd : NDr B ig11 ig95 := by rw [eig95]; exact nd.wr (Or.inr (Or.inr ⟨by decide, by decide, by omega, by omega⟩))
            refine lv_aload_n hx hb dX12_stretch_119 rfl (lv_at hl 2 rfl) ?_
            refine r_get C hw (hsh 49 _ rfl) fl_X12_68 (oV_r rfl (hrm (49, 10, 55) (by decide))) dX12_stretch_120 ?_
            refine lv_ldc (v := 34560) hx hb hown (hts _ kc_X12_142) dX12_stretch_123 (ti_c 34560 (by decide) fun z96 hz96 => ?_)
            refine lv_iload_n hx hb dX12_stretch_125 rfl (lv_at hl 1 rfl) ?_
            refine lv_iadd hx hb dX12_stretch_126 (tc_add fun z97 hz97 => ?_)
            first | replace hz97 := hz97 (by omega) | clear hz97
            refine lv_iconst (v := 4) hx hb dX12_stretch_127 (by decide) (ti_c 4 (by decide) fun z98 hz98 => ?_)
            refine lv_iadd hx hb dX12_stretch_128 (tc_add fun z99 hz99 => ?_)
            first | replace hz99 := hz99 (by omega) | clear hz99
            refine lv_dup2_11 hx hb dX12_stretch_129 rfl rfl ?_
            have nw2 : z99.toInt.toNat = 34560 + (j + 4) := by omega
            have nW2 : nEq z99.toInt.toNat (34560 + (j + 4)) := nw2
            refine r_iald C hw (hsh 55 _ rfl) (by omega) (by omega) dX12_stretch_130 (ti_c (ig95 (B + 55) z99.toInt.toNat).toInt rfl fun z100 hz100 => ?_)
            rw [nw2] at hz100
            refine lv_iload hx hb dX12_stretch_131 (lv_at hl 0 rfl) ?_
            refine z_eq (tgt := 140) hx hb dX12_stretch_133 (by decide) (fun c133 => ?_) (fun c133 => ?_)
            · refine lv_iconst (v := 1) hx hb dX12_stretch_140 (by decide) (ti_c 1 (by decide) fun z102 hz102 => ?_)
              refine lv_iadd hx hb dX12_stretch_141 (tc_add fun z103 hz103 => ?_)
              first | replace hz103 := hz103 (by omega) | clear hz103
              refine r_iast C hw (hsh 55 _ rfl) (by omega) (by omega) dX12_stretch_142 (fun H locs hH hw => ?_)
              obtain ⟨ig104, eig104⟩ : ∃ f, f = up2 ig95 (B + 55) z99.toInt.toNat z103 := ⟨_, rfl⟩
              rw [← eig104] at hw
              have hF : Ft B [49, 54, 55, 56, 57, 58, 59, 60, 61, 63, 64, 65, 66, 67, 68, 69, 70, 71, 72, 73, 74, 76, 77, 78] ig lg ig104 lg31 := by rw [eig104]; exact hF.pi (by decide)
              have hI : IM τ φ none B kd ig104 rg := by rw [eig104]; exact hI.pdr2 (Or.inl rfl) nW2 q4
              have wf : WFr B ig104 288 := by rw [eig104, nw2]; exact WFr.uA wf k3b (by omega) fB
              have hwp : WP B ig104 288 := fun _ => wf
              have nd : NDr B ig11 ig104 := by rw [eig104]; exact nd.wr (Or.inr (Or.inr ⟨by decide, by decide, by omega, by omega⟩))
              have hfl : RowF B ig104 288 (x.toInt.toNat : Int) ((fmO (atC σ x.toInt)).set l9 (2, (stp (fmO (atC σ x.toInt)) (l9 : Int)).2.1, (stp (fmO (atC σ x.toInt)) (l9 : Int)).2.2 + (128 * 1 + 1))) := by rw [eig104, eig95]; exact RowF.longer (n := n) (hR1.2.2.1 hk2) (by omega) (by rw [emr]; exact smt) rfl k34 (by rw [f7, f4.2.1, f4.2.2]; exact pw4.1) (by rw [f7]; exact pw4.2) nw nw2 (by omega) (by omega)
              have hux := hW.uz (x := x.toInt) (by omega)
              have hD : RowM B ig104 288 (x.toInt.toNat : Int) (fCl (stL (fmO (atC σ x.toInt)) (l9 : Int) (128 * 1 + 1))) := ⟨⟨by rw [eig104, up2_c (by decide), eig95, up2_c (by decide), hR1.1.1, hk2]; rfl, by rw [eig104, up2_c (by decide), eig95, up2_c (by decide), hR1.1.2, hux.2]; rfl⟩, by unfold RowU; rw [eig104, up2_c (by decide), up2_c (by decide), up2_c (by decide), eig95, up2_c (by decide), up2_c (by decide), up2_c (by decide)]; have q := hR1.2.1; rw [hux.1] at q; exact q, fun _ => by show RowF B _ 288 _ (stL _ _ _); rw [stL_eq smt.2.1]; exact hfl, fun w => absurd rfl w⟩
              have hM := hM9.dr hI0.i120 nd (fun j => by rw [eig104, up2_c (by decide), eig95, up2_c (by decide)]; exact h63 j) (by rw [eig104, up2_c (by decide), eig95, up2_c (by decide)]; exact h19)
              refine lv_aload_n hx hb dX12_stretch_143 rfl (lv_at hl 2 rfl) ?_
              have hI := hI.su (f := (ig104 (B + 49) 19).toInt) rfl
              refine r_callV (As := []) (rest := []) C hw (t_X12_remembers l B D cA kd ig104 rg lg31 _   hI) sv_X12_342 (hsh 49 _ rfl) rfl hl.1 rfl (Nat.le_of_ble_eq_true rfl) ⟨Nat.le_of_ble_eq_true rfl, Nat.le_of_ble_eq_true rfl⟩ ⟨Nat.le_of_ble_eq_true rfl, Nat.le_of_ble_eq_true rfl⟩ dX12_stretch_144 (fun r109 kd105 ig106 rg107 lg108 H locs hw hH hp110 => ?_)
              obtain ⟨rfl, rfl, hI, hchp110, hrhp110⟩ := hp110
              have hF : Ft B [49, 54, 55, 56, 57, 58, 59, 60, 61, 63, 64, 65, 66, 67, 68, 69, 70, 71, 72, 73, 74, 76, 77, 78] ig lg ig106 lg108 := Ft.tr hF hchp110 (by decide) (by decide)
              obtain rfl := hrhp110
              have e19 := hI.u
              have hI := hI.nu
              have hM := hM.ft hchp110 (by decide) e19
              have hwp : WP B ig106 288 := WP.ft hwp hchp110 (by decide) (by decide) (by decide) (by decide) (by decide)
              have hD := hD.ft hchp110 (by decide)
              refine lv_aload_n hx hb dX12_stretch_147 rfl (lv_at hl 2 rfl) ?_
              refine lv_iload_n hx hb dX12_stretch_148 rfl (lv_at hl 3 rfl) ?_
              refine r_callV (As := [.int x]) (rest := []) C hw (t_X12_putsE l B D cA kd ig106 rg lg108 _ x (by omega) hwp σ π hM _ hD hI) sv_X12_207 (hsh 49 _ rfl) rfl hl.1 rfl (Nat.le_of_ble_eq_true rfl) ⟨Nat.le_of_ble_eq_true rfl, Nat.le_of_ble_eq_true rfl⟩ ⟨Nat.le_of_ble_eq_true rfl, Nat.le_of_ble_eq_true rfl⟩ dX12_stretch_149 (fun r115 kd111 ig112 rg113 lg114 H locs hw hH hp116 => ?_)
              obtain ⟨rfl, rfl, hI, hchp116, hrhp116⟩ := hp116
              have hF : Ft B [49, 54, 55, 56, 57, 58, 59, 60, 61, 63, 64, 65, 66, 67, 68, 69, 70, 71, 72, 73, 74, 76, 77, 78] ig lg ig112 lg114 := Ft.tr hF hchp116 (by decide) (by decide)
              obtain ⟨rfl, hvhp116⟩ := hrhp116
              obtain ⟨hM, hU⟩ := hvhp116
              refine lv_aload_n hx hb dX12_stretch_152 rfl (lv_at hl 2 rfl) ?_
              have hI := hI.su (f := (ig112 (B + 49) 19).toInt) rfl
              refine r_callV (As := []) (rest := []) C hw (t_X12_tells l B D cA kd ig112 rg lg114 _   hI) sv_X12_345 (hsh 49 _ rfl) rfl hl.1 rfl (Nat.le_of_ble_eq_true rfl) ⟨Nat.le_of_ble_eq_true rfl, Nat.le_of_ble_eq_true rfl⟩ ⟨Nat.le_of_ble_eq_true rfl, Nat.le_of_ble_eq_true rfl⟩ dX12_stretch_153 (fun r121 kd117 ig118 rg119 lg120 H locs hw hH hp122 => ?_)
              obtain ⟨rfl, rfl, hI, hchp122, hrhp122⟩ := hp122
              have hF : Ft B [49, 54, 55, 56, 57, 58, 59, 60, 61, 63, 64, 65, 66, 67, 68, 69, 70, 71, 72, 73, 74, 76, 77, 78] ig lg ig118 lg120 := Ft.tr hF hchp122 (by decide) (by decide)
              obtain ⟨z123, rfl, hz123⟩ := hrhp122
              have e19 := hI.u
              have hI := hI.nu
              have hM := hM.ft hchp122 (by decide) e19
              have hU := hU.ft hchp122 (by decide)
              exact r_iret C hw hr hlk rfl (Nat.le_of_ble_eq_true rfl) (Nat.le_of_ble_eq_true rfl) dX12_stretch_156 ⟨rfl, rfl, hI, hF, ⟨_, rfl, (by exfalso; omega)⟩⟩
            · refine lv_iconst (v := 0) hx hb dX12_stretch_136 (by decide) (ti_c 0 (by decide) fun z124 hz124 => ?_)
              refine lv_goto (tgt := 141) hx hb dX12_stretch_137 (by decide) ?_
              refine lv_iadd hx hb dX12_stretch_141 (tc_add fun z125 hz125 => ?_)
              first | replace hz125 := hz125 (by omega) | clear hz125
              refine r_iast C hw (hsh 55 _ rfl) (by omega) (by omega) dX12_stretch_142 (fun H locs hH hw => ?_)
              obtain ⟨ig126, eig126⟩ : ∃ f, f = up2 ig95 (B + 55) z99.toInt.toNat z125 := ⟨_, rfl⟩
              rw [← eig126] at hw
              have hF : Ft B [49, 54, 55, 56, 57, 58, 59, 60, 61, 63, 64, 65, 66, 67, 68, 69, 70, 71, 72, 73, 74, 76, 77, 78] ig lg ig126 lg31 := by rw [eig126]; exact hF.pi (by decide)
              have hI : IM τ φ none B kd ig126 rg := by rw [eig126]; exact hI.pdr2 (Or.inl rfl) nW2 q4
              have wf : WFr B ig126 288 := by rw [eig126, nw2]; exact WFr.uA wf k3b (by omega) fB
              have hwp : WP B ig126 288 := fun _ => wf
              have nd : NDr B ig11 ig126 := by rw [eig126]; exact nd.wr (Or.inr (Or.inr ⟨by decide, by decide, by omega, by omega⟩))
              have hfl : RowF B ig126 288 (x.toInt.toNat : Int) ((fmO (atC σ x.toInt)).set l9 (2, (stp (fmO (atC σ x.toInt)) (l9 : Int)).2.1, (stp (fmO (atC σ x.toInt)) (l9 : Int)).2.2 + (128 * 0 + 1))) := by rw [eig126, eig95]; exact RowF.longer (n := n) (hR1.2.2.1 hk2) (by omega) (by rw [emr]; exact smt) rfl k34 (by rw [f7, f4.2.1, f4.2.2]; exact pw4.1) (by rw [f7]; exact pw4.2) nw nw2 (by omega) (by omega)
              have hux := hW.uz (x := x.toInt) (by omega)
              have hD : RowM B ig126 288 (x.toInt.toNat : Int) (fCl (stL (fmO (atC σ x.toInt)) (l9 : Int) (128 * 0 + 1))) := ⟨⟨by rw [eig126, up2_c (by decide), eig95, up2_c (by decide), hR1.1.1, hk2]; rfl, by rw [eig126, up2_c (by decide), eig95, up2_c (by decide), hR1.1.2, hux.2]; rfl⟩, by unfold RowU; rw [eig126, up2_c (by decide), up2_c (by decide), up2_c (by decide), eig95, up2_c (by decide), up2_c (by decide), up2_c (by decide)]; have q := hR1.2.1; rw [hux.1] at q; exact q, fun _ => by show RowF B _ 288 _ (stL _ _ _); rw [stL_eq smt.2.1]; exact hfl, fun w => absurd rfl w⟩
              have hM := hM9.dr hI0.i120 nd (fun j => by rw [eig126, up2_c (by decide), eig95, up2_c (by decide)]; exact h63 j) (by rw [eig126, up2_c (by decide), eig95, up2_c (by decide)]; exact h19)
              refine lv_aload_n hx hb dX12_stretch_143 rfl (lv_at hl 2 rfl) ?_
              have hI := hI.su (f := (ig126 (B + 49) 19).toInt) rfl
              refine r_callV (As := []) (rest := []) C hw (t_X12_remembers l B D cA kd ig126 rg lg31 _   hI) sv_X12_342 (hsh 49 _ rfl) rfl hl.1 rfl (Nat.le_of_ble_eq_true rfl) ⟨Nat.le_of_ble_eq_true rfl, Nat.le_of_ble_eq_true rfl⟩ ⟨Nat.le_of_ble_eq_true rfl, Nat.le_of_ble_eq_true rfl⟩ dX12_stretch_144 (fun r131 kd127 ig128 rg129 lg130 H locs hw hH hp132 => ?_)
              obtain ⟨rfl, rfl, hI, hchp132, hrhp132⟩ := hp132
              have hF : Ft B [49, 54, 55, 56, 57, 58, 59, 60, 61, 63, 64, 65, 66, 67, 68, 69, 70, 71, 72, 73, 74, 76, 77, 78] ig lg ig128 lg130 := Ft.tr hF hchp132 (by decide) (by decide)
              obtain rfl := hrhp132
              have e19 := hI.u
              have hI := hI.nu
              have hM := hM.ft hchp132 (by decide) e19
              have hwp : WP B ig128 288 := WP.ft hwp hchp132 (by decide) (by decide) (by decide) (by decide) (by decide)
              have hD := hD.ft hchp132 (by decide)
              refine lv_aload_n hx hb dX12_stretch_147 rfl (lv_at hl 2 rfl) ?_
              refine lv_iload_n hx hb dX12_stretch_148 rfl (lv_at hl 3 rfl) ?_
              refine r_callV (As := [.int x]) (rest := []) C hw (t_X12_putsE l B D cA kd ig128 rg lg130 _ x (by omega) hwp σ π hM _ hD hI) sv_X12_207 (hsh 49 _ rfl) rfl hl.1 rfl (Nat.le_of_ble_eq_true rfl) ⟨Nat.le_of_ble_eq_true rfl, Nat.le_of_ble_eq_true rfl⟩ ⟨Nat.le_of_ble_eq_true rfl, Nat.le_of_ble_eq_true rfl⟩ dX12_stretch_149 (fun r137 kd133 ig134 rg135 lg136 H locs hw hH hp138 => ?_)
              obtain ⟨rfl, rfl, hI, hchp138, hrhp138⟩ := hp138
              have hF : Ft B [49, 54, 55, 56, 57, 58, 59, 60, 61, 63, 64, 65, 66, 67, 68, 69, 70, 71, 72, 73, 74, 76, 77, 78] ig lg ig134 lg136 := Ft.tr hF hchp138 (by decide) (by decide)
              obtain ⟨rfl, hvhp138⟩ := hrhp138
              obtain ⟨hM, hU⟩ := hvhp138
              refine lv_aload_n hx hb dX12_stretch_152 rfl (lv_at hl 2 rfl) ?_
              have hI := hI.su (f := (ig134 (B + 49) 19).toInt) rfl
              refine r_callV (As := []) (rest := []) C hw (t_X12_tells l B D cA kd ig134 rg lg136 _   hI) sv_X12_345 (hsh 49 _ rfl) rfl hl.1 rfl (Nat.le_of_ble_eq_true rfl) ⟨Nat.le_of_ble_eq_true rfl, Nat.le_of_ble_eq_true rfl⟩ ⟨Nat.le_of_ble_eq_true rfl, Nat.le_of_ble_eq_true rfl⟩ dX12_stretch_153 (fun r143 kd139 ig140 rg141 lg142 H locs hw hH hp144 => ?_)
              obtain ⟨rfl, rfl, hI, hchp144, hrhp144⟩ := hp144
              have hF : Ft B [49, 54, 55, 56, 57, 58, 59, 60, 61, 63, 64, 65, 66, 67, 68, 69, 70, 71, 72, 73, 74, 76, 77, 78] ig lg ig140 lg142 := Ft.tr hF hchp144 (by decide) (by decide)
              obtain ⟨z145, rfl, hz145⟩ := hrhp144
              have e19 := hI.u
              have hI := hI.nu
              have hM := hM.ft hchp144 (by decide) e19
              have hU := hU.ft hchp144 (by decide)
              exact r_iret C hw hr hlk rfl (Nat.le_of_ble_eq_true rfl) (Nat.le_of_ble_eq_true rfl) dX12_stretch_156 ⟨rfl, rfl, hI, hF, ⟨_, rfl, (by exfalso; omega)⟩⟩
        · refine lv_aload_n hx hb dX12_stretch_68 rfl (lv_at hl 2 rfl) ?_
          refine lv_iload_n hx hb dX12_stretch_69 rfl (lv_at hl 3 rfl) ?_
          refine lv_bipush (v := 120) hx hb dX12_stretch_70 (by decide) (ti_c 120 (by decide) fun z146 hz146 => ?_)
          refine lv_iload_n hx hb dX12_stretch_72 rfl (lv_at hl 3 rfl) ?_
          refine lv_imul hx hb dX12_stretch_73 (tc_mulL 120 hz146 fun z147 hz147 => ?_)
          first | replace hz147 := hz147 (by omega) | clear hz147
          refine lv_iload_n hx hb dX12_stretch_74 rfl (lv_at hl 1 rfl) ?_
          refine lv_iadd hx hb dX12_stretch_75 (tc_add fun z148 hz148 => ?_)
          first | replace hz148 := hz148 (by omega) | clear hz148
          refine lv_iconst (v := 2) hx hb dX12_stretch_76 (by decide) (ti_c 2 (by decide) fun z149 hz149 => ?_)
          refine lv_iadd hx hb dX12_stretch_77 (tc_add fun z150 hz150 => ?_)
          first | replace hz150 := hz150 (by omega) | clear hz150
          refine lv_iconst (v := 0) hx hb dX12_stretch_78 (by decide) (ti_c 0 (by decide) fun z151 hz151 => ?_)
          refine r_callV (As := [.int x, .int z150, .int z151]) (rest := []) C hw (t_X12_shortByE l B D cA kd ig11 rg lg12 _ x z150 z151 (by omega) (by omega) (by omega) (by rw [show z150.toInt.toNat + 2 = (120 * x.toInt.toNat + (j + 2)) + 2 by omega]; exact rg4) σ π hM hU hI) sv_X12_320 (hsh 49 _ rfl) rfl hl.1 rfl (Nat.le_of_ble_eq_true rfl) ⟨Nat.le_of_ble_eq_true rfl, Nat.le_of_ble_eq_true rfl⟩ ⟨Nat.le_of_ble_eq_true rfl, Nat.le_of_ble_eq_true rfl⟩ dX12_stretch_79 (fun r156 kd152 ig153 rg154 lg155 H locs hw hH hp157 => ?_)
          obtain ⟨rfl, rfl, rfl, rfl, hzhp157, hrhp157⟩ := hp157
          obtain ⟨z158, rfl, hz158⟩ := hrhp157
          rw [show z150.toInt.toNat = 120 * x.toInt.toNat + (j + 2) by omega] at hz158
          have sr9 := sh_x (hz158.2 (by omega)) (by omega)
          replace sr9 : hid _ := sr9
          refine z_ge (tgt := 87) hx hb dX12_stretch_82 (by decide) (fun c82 => ?_) (fun c82 => ?_)
          · have qd := ((show (_ → _) ∧ (_ → ¬ _) from sr9).1 (by omega)).2.1
            refine lv_aload_n hx hb dX12_stretch_87 rfl (lv_at hl 2 rfl) ?_
            refine lv_iload_n hx hb dX12_stretch_88 rfl (lv_at hl 3 rfl) ?_
            refine lv_sipush (v := 288) hx hb dX12_stretch_89 (by decide) (ti_c 288 (by decide) fun z159 hz159 => ?_)
            refine r_callV (As := [.int x, .int z159]) (rest := []) C hw (t_X12_copyRowE l B D cA kd ig11 rg lg12 _ x z159 (by omega) (by omega) (i32_ne (by omega)) (hI.wp (by omega) (by omega)) hI) sv_X12_191 (hsh 49 _ rfl) rfl hl.1 rfl (Nat.le_of_ble_eq_true rfl) ⟨Nat.le_of_ble_eq_true rfl, Nat.le_of_ble_eq_true rfl⟩ ⟨Nat.le_of_ble_eq_true rfl, Nat.le_of_ble_eq_true rfl⟩ dX12_stretch_92 (fun r164 kd160 ig161 rg162 lg163 H locs hw hH hp165 => ?_)
            obtain ⟨rfl, rfl, hI, hchp165, hrhp165⟩ := hp165
            have hF : Ft B [49, 54, 55, 56, 57, 58, 59, 60, 61, 63, 64, 65, 66, 67, 68, 69, 70, 71, 72, 73, 74, 76, 77, 78] ig lg ig161 lg163 := Ft.tr hF hchp165 (by decide) (by decide)
            obtain ⟨rfl, hvhp165⟩ := hrhp165
            have hcx := CRx.toY (y := 288) hvhp165 (by omega)
            have hcr := hcx.1
            have nd : NDr B ig11 ig161 := NDr.cr hcx
            have h63 : ∀ j, ig161 (B + 63) j = ig11 (B + 63) j := fun j => hchp165.i 63 j (by decide)
            have h19 := congrArg Int32.toInt (hchp165.i 49 19 (by decide))
            have hR1 := hcx.row hrow
            have wf : WFr B ig161 288 := (hI0.row (p := x.toInt.toNat) (by omega) (by omega) hkd).copy hcr
            have f4 := CRw.f4 (q := j + 4) hcr (by omega)
            have f7 := congrArg Int32.toInt (hcr.2.2.2.1 57 (j + 4) (by decide) (by decide) (by omega))
            rw [show 120 * x.toInt.toNat + (j + 4) = (120 * x.toInt.toNat + (j + 2)) + 2 by omega] at f4 f7
            have f7 : (ig161 (B + 57) (34560 + (j + 4))).toInt = (ig11 (B + 57) (120 * x.toInt.toNat + (j + 2) + 2)).toInt := f7
            have q4 : j + 4 < 120 := by omega
            have emr : mR B ig161 (x.toInt.toNat : Int) 288 = mR B ig11 (x.toInt.toNat : Int) x.toInt.toNat := mR.ag hcr.2.1 (fun c k a b hk => hcr.2.2.2.1 c k a b hk)
            have k34 : (ig161 (B + 54) (34560 + (j + 4))).toInt = 3 := by rw [f4.1]; exact r4.1
            have e58 := congrArg Int32.toInt hcr.2.1
            have pw4 := r4.2.2.2.2
            refine lv_aload_n hx hb dX12_stretch_95 rfl (lv_at hl 2 rfl) ?_
            refine r_get C hw (hsh 49 _ rfl) fl_X12_71 (oV_r rfl (hrm (49, 11, 56) (by decide))) dX12_stretch_96 ?_
            refine lv_ldc (v := 34560) hx hb hown (hts _ kc_X12_142) dX12_stretch_99 (ti_c 34560 (by decide) fun z166 hz166 => ?_)
            refine lv_iload_n hx hb dX12_stretch_101 rfl (lv_at hl 1 rfl) ?_
            refine lv_iadd hx hb dX12_stretch_102 (tc_add fun z167 hz167 => ?_)
            first | replace hz167 := hz167 (by omega) | clear hz167
            refine lv_iconst (v := 4) hx hb dX12_stretch_103 (by decide) (ti_c 4 (by decide) fun z168 hz168 => ?_)
            refine lv_iadd hx hb dX12_stretch_104 (tc_add fun z169 hz169 => ?_)
            first | replace hz169 := hz169 (by omega) | clear hz169
            refine lv_dup2_11 hx hb dX12_stretch_105 rfl rfl ?_
            have nw : z169.toInt.toNat = 34560 + (j + 4) := by omega
            have nW : nEq z169.toInt.toNat (34560 + (j + 4)) := nw
            refine r_iald C hw (hsh 56 _ rfl) (by omega) (by omega) dX12_stretch_106 (ti_c (ig161 (B + 56) z169.toInt.toNat).toInt rfl fun z170 hz170 => ?_)
            rw [nw] at hz170
            refine lv_iload hx hb dX12_stretch_107 (lv_at hl 0 rfl) ?_
            refine z_eq (tgt := 116) hx hb dX12_stretch_109 (by decide) (fun c109 => ?_) (fun c109 => ?_)
            · refine lv_iconst (v := 0) hx hb dX12_stretch_116 (by decide) (ti_c 0 (by decide) fun z172 hz172 => ?_)
              refine lv_iadd hx hb dX12_stretch_117 (tc_add fun z173 hz173 => ?_)
              first | replace hz173 := hz173 (by omega) | clear hz173
              refine r_iast C hw (hsh 56 _ rfl) (by omega) (by omega) dX12_stretch_118 (fun H locs hH hw => ?_)
              obtain ⟨ig174, eig174⟩ : ∃ f, f = up2 ig161 (B + 56) z169.toInt.toNat z173 := ⟨_, rfl⟩
              rw [← eig174] at hw
              have hF : Ft B [49, 54, 55, 56, 57, 58, 59, 60, 61, 63, 64, 65, 66, 67, 68, 69, 70, 71, 72, 73, 74, 76, 77, 78] ig lg ig174 lg163 := by rw [eig174]; exact hF.pi (by decide)
              have hI : IM τ φ none B kd ig174 rg := by rw [eig174]; exact hI.pdr2 (Or.inr rfl) nW q4
              have wf : WFr B ig174 288 := by rw [eig174, nw]; exact WFr.uB wf k34 (by omega) (by omega)
              have k3b : (ig174 (B + 54) (34560 + (j + 4))).toInt = 3 := by rw [eig174, up2_c (by decide)]; exact k34
              have fA : (ig174 (B + 55) (34560 + (j + 4))).toInt = (ig161 (B + 55) (34560 + (j + 4))).toInt := by rw [eig174, up2_c (by decide)]
              have fB : 0 ≤ (ig174 (B + 56) (34560 + (j + 4))).toInt ∧ (ig174 (B + 56) (34560 + (j + 4))).toInt < 24 := by rw [eig174, nw, up2_eq]; omega
              have nd : NDr B ig11 ig174 := by rw [eig174]; exact nd.wr (Or.inr (Or.inr ⟨by decide, by decide, by omega, by omega⟩))
              refine lv_aload_n hx hb dX12_stretch_119 rfl (lv_at hl 2 rfl) ?_
              refine r_get C hw (hsh 49 _ rfl) fl_X12_68 (oV_r rfl (hrm (49, 10, 55) (by decide))) dX12_stretch_120 ?_
              refine lv_ldc (v := 34560) hx hb hown (hts _ kc_X12_142) dX12_stretch_123 (ti_c 34560 (by decide) fun z175 hz175 => ?_)
              refine lv_iload_n hx hb dX12_stretch_125 rfl (lv_at hl 1 rfl) ?_
              refine lv_iadd hx hb dX12_stretch_126 (tc_add fun z176 hz176 => ?_)
              first | replace hz176 := hz176 (by omega) | clear hz176
              refine lv_iconst (v := 4) hx hb dX12_stretch_127 (by decide) (ti_c 4 (by decide) fun z177 hz177 => ?_)
              refine lv_iadd hx hb dX12_stretch_128 (tc_add fun z178 hz178 => ?_)
              first | replace hz178 := hz178 (by omega) | clear hz178
              refine lv_dup2_11 hx hb dX12_stretch_129 rfl rfl ?_
              have nw2 : z178.toInt.toNat = 34560 + (j + 4) := by omega
              have nW2 : nEq z178.toInt.toNat (34560 + (j + 4)) := nw2
              refine r_iald C hw (hsh 55 _ rfl) (by omega) (by omega) dX12_stretch_130 (ti_c (ig174 (B + 55) z178.toInt.toNat).toInt rfl fun z179 hz179 => ?_)
              rw [nw2] at hz179
              refine lv_iload hx hb dX12_stretch_131 (lv_at hl 0 rfl) ?_
              refine z_eq (tgt := 140) hx hb dX12_stretch_133 (by decide) (fun c133 => ?_) (fun c133 => ?_)
              · refine lv_iconst (v := 1) hx hb dX12_stretch_140 (by decide) (ti_c 1 (by decide) fun z181 hz181 => ?_)
                refine lv_iadd hx hb dX12_stretch_141 (tc_add fun z182 hz182 => ?_)
                first | replace hz182 := hz182 (by omega) | clear hz182
                refine r_iast C hw (hsh 55 _ rfl) (by omega) (by omega) dX12_stretch_142 (fun H locs hH hw => ?_)
                obtain ⟨ig183, eig183⟩ : ∃ f, f = up2 ig174 (B + 55) z178.toInt.toNat z182 := ⟨_, rfl⟩
                rw [← eig183] at hw
                have hF : Ft B [49, 54, 55, 56, 57, 58, 59, 60, 61, 63, 64, 65, 66, 67, 68, 69, 70, 71, 72, 73, 74, 76, 77, 78] ig lg ig183 lg163 := by rw [eig183]; exact hF.pi (by decide)
                have hI : IM τ φ none B kd ig183 rg := by rw [eig183]; exact hI.pdr2 (Or.inl rfl) nW2 q4
                have wf : WFr B ig183 288 := by rw [eig183, nw2]; exact WFr.uA wf k3b (by omega) fB
                have hwp : WP B ig183 288 := fun _ => wf
                have nd : NDr B ig11 ig183 := by rw [eig183]; exact nd.wr (Or.inr (Or.inr ⟨by decide, by decide, by omega, by omega⟩))
                have hfl : RowF B ig183 288 (x.toInt.toNat : Int) ((fmO (atC σ x.toInt)).set l9 (2, (stp (fmO (atC σ x.toInt)) (l9 : Int)).2.1, (stp (fmO (atC σ x.toInt)) (l9 : Int)).2.2 + (128 * 1 + 0))) := by rw [eig183, eig174]; exact RowF.longer (n := n) (hR1.2.2.1 hk2) (by omega) (by rw [emr]; exact smt) rfl k34 (by rw [f7, f4.2.1, f4.2.2]; exact pw4.1) (by rw [f7]; exact pw4.2) nw nw2 (by omega) (by omega)
                have hux := hW.uz (x := x.toInt) (by omega)
                have hD : RowM B ig183 288 (x.toInt.toNat : Int) (fCl (stL (fmO (atC σ x.toInt)) (l9 : Int) (128 * 1 + 0))) := ⟨⟨by rw [eig183, up2_c (by decide), eig174, up2_c (by decide), hR1.1.1, hk2]; rfl, by rw [eig183, up2_c (by decide), eig174, up2_c (by decide), hR1.1.2, hux.2]; rfl⟩, by unfold RowU; rw [eig183, up2_c (by decide), up2_c (by decide), up2_c (by decide), eig174, up2_c (by decide), up2_c (by decide), up2_c (by decide)]; have q := hR1.2.1; rw [hux.1] at q; exact q, fun _ => by show RowF B _ 288 _ (stL _ _ _); rw [stL_eq smt.2.1]; exact hfl, fun w => absurd rfl w⟩
                have hM := hM9.dr hI0.i120 nd (fun j => by rw [eig183, up2_c (by decide), eig174, up2_c (by decide)]; exact h63 j) (by rw [eig183, up2_c (by decide), eig174, up2_c (by decide)]; exact h19)
                refine lv_aload_n hx hb dX12_stretch_143 rfl (lv_at hl 2 rfl) ?_
                have hI := hI.su (f := (ig183 (B + 49) 19).toInt) rfl
                refine r_callV (As := []) (rest := []) C hw (t_X12_remembers l B D cA kd ig183 rg lg163 _   hI) sv_X12_342 (hsh 49 _ rfl) rfl hl.1 rfl (Nat.le_of_ble_eq_true rfl) ⟨Nat.le_of_ble_eq_true rfl, Nat.le_of_ble_eq_true rfl⟩ ⟨Nat.le_of_ble_eq_true rfl, Nat.le_of_ble_eq_true rfl⟩ dX12_stretch_144 (fun r188 kd184 ig185 rg186 lg187 H locs hw hH hp189 => ?_)
                obtain ⟨rfl, rfl, hI, hchp189, hrhp189⟩ := hp189
                have hF : Ft B [49, 54, 55, 56, 57, 58, 59, 60, 61, 63, 64, 65, 66, 67, 68, 69, 70, 71, 72, 73, 74, 76, 77, 78] ig lg ig185 lg187 := Ft.tr hF hchp189 (by decide) (by decide)
                obtain rfl := hrhp189
                have e19 := hI.u
                have hI := hI.nu
                have hM := hM.ft hchp189 (by decide) e19
                have hwp : WP B ig185 288 := WP.ft hwp hchp189 (by decide) (by decide) (by decide) (by decide) (by decide)
                have hD := hD.ft hchp189 (by decide)
                refine lv_aload_n hx hb dX12_stretch_147 rfl (lv_at hl 2 rfl) ?_
                refine lv_iload_n hx hb dX12_stretch_148 rfl (lv_at hl 3 rfl) ?_
                refine r_callV (As := [.int x]) (rest := []) C hw (t_X12_putsE l B D cA kd ig185 rg lg187 _ x (by omega) hwp σ π hM _ hD hI) sv_X12_207 (hsh 49 _ rfl) rfl hl.1 rfl (Nat.le_of_ble_eq_true rfl) ⟨Nat.le_of_ble_eq_true rfl, Nat.le_of_ble_eq_true rfl⟩ ⟨Nat.le_of_ble_eq_true rfl, Nat.le_of_ble_eq_true rfl⟩ dX12_stretch_149 (fun r194 kd190 ig191 rg192 lg193 H locs hw hH hp195 => ?_)
                obtain ⟨rfl, rfl, hI, hchp195, hrhp195⟩ := hp195
                have hF : Ft B [49, 54, 55, 56, 57, 58, 59, 60, 61, 63, 64, 65, 66, 67, 68, 69, 70, 71, 72, 73, 74, 76, 77, 78] ig lg ig191 lg193 := Ft.tr hF hchp195 (by decide) (by decide)
                obtain ⟨rfl, hvhp195⟩ := hrhp195
                obtain ⟨hM, hU⟩ := hvhp195
                refine lv_aload_n hx hb dX12_stretch_152 rfl (lv_at hl 2 rfl) ?_
                have hI := hI.su (f := (ig191 (B + 49) 19).toInt) rfl
                refine r_callV (As := []) (rest := []) C hw (t_X12_tells l B D cA kd ig191 rg lg193 _   hI) sv_X12_345 (hsh 49 _ rfl) rfl hl.1 rfl (Nat.le_of_ble_eq_true rfl) ⟨Nat.le_of_ble_eq_true rfl, Nat.le_of_ble_eq_true rfl⟩ ⟨Nat.le_of_ble_eq_true rfl, Nat.le_of_ble_eq_true rfl⟩ dX12_stretch_153 (fun r200 kd196 ig197 rg198 lg199 H locs hw hH hp201 => ?_)
                obtain ⟨rfl, rfl, hI, hchp201, hrhp201⟩ := hp201
                have hF : Ft B [49, 54, 55, 56, 57, 58, 59, 60, 61, 63, 64, 65, 66, 67, 68, 69, 70, 71, 72, 73, 74, 76, 77, 78] ig lg ig197 lg199 := Ft.tr hF hchp201 (by decide) (by decide)
                obtain ⟨z202, rfl, hz202⟩ := hrhp201
                have e19 := hI.u
                have hI := hI.nu
                have hM := hM.ft hchp201 (by decide) e19
                have hU := hU.ft hchp201 (by decide)
                exact r_iret C hw hr hlk rfl (Nat.le_of_ble_eq_true rfl) (Nat.le_of_ble_eq_true rfl) dX12_stretch_156 ⟨rfl, rfl, hI, hF, ⟨_, rfl, ⟨_, _, hM, hU, ⟨some (stL (fmO (atC σ x.toInt)) (l9 : Int) (128 * 1 + 0)), Or.inr ⟨hk2, _, (l9 : Int), hU9.far, hsl, Or.inr (Or.inl ⟨fun w => (show (_ → _) ∧ (_ → ¬ _) from sd9).2 (by omega) (Iff.mp iB w), Iff.mpr iR ((show (_ → _) ∧ (_ → ¬ _) from sr9).1 (by omega)), rfl⟩)⟩, Or.inr ⟨_, rfl, rfl, rfl⟩⟩⟩⟩⟩
              · refine lv_iconst (v := 0) hx hb dX12_stretch_136 (by decide) (ti_c 0 (by decide) fun z203 hz203 => ?_)
                refine lv_goto (tgt := 141) hx hb dX12_stretch_137 (by decide) ?_
                refine lv_iadd hx hb dX12_stretch_141 (tc_add fun z204 hz204 => ?_)
                first | replace hz204 := hz204 (by omega) | clear hz204
                refine r_iast C hw (hsh 55 _ rfl) (by omega) (by omega) dX12_stretch_142 (fun H locs hH hw => ?_)
                obtain ⟨ig205, eig205⟩ : ∃ f, f = up2 ig174 (B + 55) z178.toInt.toNat z204 := ⟨_, rfl⟩
                rw [← eig205] at hw
                have hF : Ft B [49, 54, 55, 56, 57, 58, 59, 60, 61, 63, 64, 65, 66, 67, 68, 69, 70, 71, 72, 73, 74, 76, 77, 78] ig lg ig205 lg163 := by rw [eig205]; exact hF.pi (by decide)
                have hI : IM τ φ none B kd ig205 rg := by rw [eig205]; exact hI.pdr2 (Or.inl rfl) nW2 q4
                have wf : WFr B ig205 288 := by rw [eig205, nw2]; exact WFr.uA wf k3b (by omega) fB
                have hwp : WP B ig205 288 := fun _ => wf
                have nd : NDr B ig11 ig205 := by rw [eig205]; exact nd.wr (Or.inr (Or.inr ⟨by decide, by decide, by omega, by omega⟩))
                have hfl : RowF B ig205 288 (x.toInt.toNat : Int) ((fmO (atC σ x.toInt)).set l9 (2, (stp (fmO (atC σ x.toInt)) (l9 : Int)).2.1, (stp (fmO (atC σ x.toInt)) (l9 : Int)).2.2 + (128 * 0 + 0))) := by rw [eig205, eig174]; exact RowF.longer (n := n) (hR1.2.2.1 hk2) (by omega) (by rw [emr]; exact smt) rfl k34 (by rw [f7, f4.2.1, f4.2.2]; exact pw4.1) (by rw [f7]; exact pw4.2) nw nw2 (by omega) (by omega)
                have hux := hW.uz (x := x.toInt) (by omega)
                have hD : RowM B ig205 288 (x.toInt.toNat : Int) (fCl (stL (fmO (atC σ x.toInt)) (l9 : Int) (128 * 0 + 0))) := ⟨⟨by rw [eig205, up2_c (by decide), eig174, up2_c (by decide), hR1.1.1, hk2]; rfl, by rw [eig205, up2_c (by decide), eig174, up2_c (by decide), hR1.1.2, hux.2]; rfl⟩, by unfold RowU; rw [eig205, up2_c (by decide), up2_c (by decide), up2_c (by decide), eig174, up2_c (by decide), up2_c (by decide), up2_c (by decide)]; have q := hR1.2.1; rw [hux.1] at q; exact q, fun _ => by show RowF B _ 288 _ (stL _ _ _); rw [stL_eq smt.2.1]; exact hfl, fun w => absurd rfl w⟩
                have hM := hM9.dr hI0.i120 nd (fun j => by rw [eig205, up2_c (by decide), eig174, up2_c (by decide)]; exact h63 j) (by rw [eig205, up2_c (by decide), eig174, up2_c (by decide)]; exact h19)
                refine lv_aload_n hx hb dX12_stretch_143 rfl (lv_at hl 2 rfl) ?_
                have hI := hI.su (f := (ig205 (B + 49) 19).toInt) rfl
                refine r_callV (As := []) (rest := []) C hw (t_X12_remembers l B D cA kd ig205 rg lg163 _   hI) sv_X12_342 (hsh 49 _ rfl) rfl hl.1 rfl (Nat.le_of_ble_eq_true rfl) ⟨Nat.le_of_ble_eq_true rfl, Nat.le_of_ble_eq_true rfl⟩ ⟨Nat.le_of_ble_eq_true rfl, Nat.le_of_ble_eq_true rfl⟩ dX12_stretch_144 (fun r210 kd206 ig207 rg208 lg209 H locs hw hH hp211 => ?_)
                obtain ⟨rfl, rfl, hI, hchp211, hrhp211⟩ := hp211
                have hF : Ft B [49, 54, 55, 56, 57, 58, 59, 60, 61, 63, 64, 65, 66, 67, 68, 69, 70, 71, 72, 73, 74, 76, 77, 78] ig lg ig207 lg209 := Ft.tr hF hchp211 (by decide) (by decide)
                obtain rfl := hrhp211
                have e19 := hI.u
                have hI := hI.nu
                have hM := hM.ft hchp211 (by decide) e19
                have hwp : WP B ig207 288 := WP.ft hwp hchp211 (by decide) (by decide) (by decide) (by decide) (by decide)
                have hD := hD.ft hchp211 (by decide)
                refine lv_aload_n hx hb dX12_stretch_147 rfl (lv_at hl 2 rfl) ?_
                refine lv_iload_n hx hb dX12_stretch_148 rfl (lv_at hl 3 rfl) ?_
                refine r_callV (As := [.int x]) (rest := []) C hw (t_X12_putsE l B D cA kd ig207 rg lg209 _ x (by omega) hwp σ π hM _ hD hI) sv_X12_207 (hsh 49 _ rfl) rfl hl.1 rfl (Nat.le_of_ble_eq_true rfl) ⟨Nat.le_of_ble_eq_true rfl, Nat.le_of_ble_eq_true rfl⟩ ⟨Nat.le_of_ble_eq_true rfl, Nat.le_of_ble_eq_true rfl⟩ dX12_stretch_149 (fun r216 kd212 ig213 rg214 lg215 H locs hw hH hp217 => ?_)
                obtain ⟨rfl, rfl, hI, hchp217, hrhp217⟩ := hp217
                have hF : Ft B [49, 54, 55, 56, 57, 58, 59, 60, 61, 63, 64, 65, 66, 67, 68, 69, 70, 71, 72, 73, 74, 76, 77, 78] ig lg ig213 lg215 := Ft.tr hF hchp217 (by decide) (by decide)
                obtain ⟨rfl, hvhp217⟩ := hrhp217
                obtain ⟨hM, hU⟩ := hvhp217
                refine lv_aload_n hx hb dX12_stretch_152 rfl (lv_at hl 2 rfl) ?_
                have hI := hI.su (f := (ig213 (B + 49) 19).toInt) rfl
                refine r_callV (As := []) (rest := []) C hw (t_X12_tells l B D cA kd ig213 rg lg215 _   hI) sv_X12_345 (hsh 49 _ rfl) rfl hl.1 rfl (Nat.le_of_ble_eq_true rfl) ⟨Nat.le_of_ble_eq_true rfl, Nat.le_of_ble_eq_true rfl⟩ ⟨Nat.le_of_ble_eq_true rfl, Nat.le_of_ble_eq_true rfl⟩ dX12_stretch_153 (fun r222 kd218 ig219 rg220 lg221 H locs hw hH hp223 => ?_)
                obtain ⟨rfl, rfl, hI, hchp223, hrhp223⟩ := hp223
                have hF : Ft B [49, 54, 55, 56, 57, 58, 59, 60, 61, 63, 64, 65, 66, 67, 68, 69, 70, 71, 72, 73, 74, 76, 77, 78] ig lg ig219 lg221 := Ft.tr hF hchp223 (by decide) (by decide)
                obtain ⟨z224, rfl, hz224⟩ := hrhp223
                have e19 := hI.u
                have hI := hI.nu
                have hM := hM.ft hchp223 (by decide) e19
                have hU := hU.ft hchp223 (by decide)
                exact r_iret C hw hr hlk rfl (Nat.le_of_ble_eq_true rfl) (Nat.le_of_ble_eq_true rfl) dX12_stretch_156 ⟨rfl, rfl, hI, hF, ⟨_, rfl, (by exfalso; omega)⟩⟩
            · refine lv_iconst (v := 1) hx hb dX12_stretch_112 (by decide) (ti_c 1 (by decide) fun z225 hz225 => ?_)
              refine lv_goto (tgt := 117) hx hb dX12_stretch_113 (by decide) ?_
              refine lv_iadd hx hb dX12_stretch_117 (tc_add fun z226 hz226 => ?_)
              first | replace hz226 := hz226 (by omega) | clear hz226
              refine r_iast C hw (hsh 56 _ rfl) (by omega) (by omega) dX12_stretch_118 (fun H locs hH hw => ?_)
              obtain ⟨ig227, eig227⟩ : ∃ f, f = up2 ig161 (B + 56) z169.toInt.toNat z226 := ⟨_, rfl⟩
              rw [← eig227] at hw
              have hF : Ft B [49, 54, 55, 56, 57, 58, 59, 60, 61, 63, 64, 65, 66, 67, 68, 69, 70, 71, 72, 73, 74, 76, 77, 78] ig lg ig227 lg163 := by rw [eig227]; exact hF.pi (by decide)
              have hI : IM τ φ none B kd ig227 rg := by rw [eig227]; exact hI.pdr2 (Or.inr rfl) nW q4
              have wf : WFr B ig227 288 := by rw [eig227, nw]; exact WFr.uB wf k34 (by omega) (by omega)
              have k3b : (ig227 (B + 54) (34560 + (j + 4))).toInt = 3 := by rw [eig227, up2_c (by decide)]; exact k34
              have fA : (ig227 (B + 55) (34560 + (j + 4))).toInt = (ig161 (B + 55) (34560 + (j + 4))).toInt := by rw [eig227, up2_c (by decide)]
              have fB : 0 ≤ (ig227 (B + 56) (34560 + (j + 4))).toInt ∧ (ig227 (B + 56) (34560 + (j + 4))).toInt < 24 := by rw [eig227, nw, up2_eq]; omega
              have nd : NDr B ig11 ig227 := by rw [eig227]; exact nd.wr (Or.inr (Or.inr ⟨by decide, by decide, by omega, by omega⟩))
              refine lv_aload_n hx hb dX12_stretch_119 rfl (lv_at hl 2 rfl) ?_
              refine r_get C hw (hsh 49 _ rfl) fl_X12_68 (oV_r rfl (hrm (49, 10, 55) (by decide))) dX12_stretch_120 ?_
              refine lv_ldc (v := 34560) hx hb hown (hts _ kc_X12_142) dX12_stretch_123 (ti_c 34560 (by decide) fun z228 hz228 => ?_)
              refine lv_iload_n hx hb dX12_stretch_125 rfl (lv_at hl 1 rfl) ?_
              refine lv_iadd hx hb dX12_stretch_126 (tc_add fun z229 hz229 => ?_)
              first | replace hz229 := hz229 (by omega) | clear hz229
              refine lv_iconst (v := 4) hx hb dX12_stretch_127 (by decide) (ti_c 4 (by decide) fun z230 hz230 => ?_)
              refine lv_iadd hx hb dX12_stretch_128 (tc_add fun z231 hz231 => ?_)
              first | replace hz231 := hz231 (by omega) | clear hz231
              refine lv_dup2_11 hx hb dX12_stretch_129 rfl rfl ?_
              have nw2 : z231.toInt.toNat = 34560 + (j + 4) := by omega
              have nW2 : nEq z231.toInt.toNat (34560 + (j + 4)) := nw2
              refine r_iald C hw (hsh 55 _ rfl) (by omega) (by omega) dX12_stretch_130 (ti_c (ig227 (B + 55) z231.toInt.toNat).toInt rfl fun z232 hz232 => ?_)
              rw [nw2] at hz232
              refine lv_iload hx hb dX12_stretch_131 (lv_at hl 0 rfl) ?_
              refine z_eq (tgt := 140) hx hb dX12_stretch_133 (by decide) (fun c133 => ?_) (fun c133 => ?_)
              · refine lv_iconst (v := 1) hx hb dX12_stretch_140 (by decide) (ti_c 1 (by decide) fun z234 hz234 => ?_)
                refine lv_iadd hx hb dX12_stretch_141 (tc_add fun z235 hz235 => ?_)
                first | replace hz235 := hz235 (by omega) | clear hz235
                refine r_iast C hw (hsh 55 _ rfl) (by omega) (by omega) dX12_stretch_142 (fun H locs hH hw => ?_)
                obtain ⟨ig236, eig236⟩ : ∃ f, f = up2 ig227 (B + 55) z231.toInt.toNat z235 := ⟨_, rfl⟩
                rw [← eig236] at hw
                have hF : Ft B [49, 54, 55, 56, 57, 58, 59, 60, 61, 63, 64, 65, 66, 67, 68, 69, 70, 71, 72, 73, 74, 76, 77, 78] ig lg ig236 lg163 := by rw [eig236]; exact hF.pi (by decide)
                have hI : IM τ φ none B kd ig236 rg := by rw [eig236]; exact hI.pdr2 (Or.inl rfl) nW2 q4
                have wf : WFr B ig236 288 := by rw [eig236, nw2]; exact WFr.uA wf k3b (by omega) fB
                have hwp : WP B ig236 288 := fun _ => wf
                have nd : NDr B ig11 ig236 := by rw [eig236]; exact nd.wr (Or.inr (Or.inr ⟨by decide, by decide, by omega, by omega⟩))
                have hfl : RowF B ig236 288 (x.toInt.toNat : Int) ((fmO (atC σ x.toInt)).set l9 (2, (stp (fmO (atC σ x.toInt)) (l9 : Int)).2.1, (stp (fmO (atC σ x.toInt)) (l9 : Int)).2.2 + (128 * 1 + 1))) := by rw [eig236, eig227]; exact RowF.longer (n := n) (hR1.2.2.1 hk2) (by omega) (by rw [emr]; exact smt) rfl k34 (by rw [f7, f4.2.1, f4.2.2]; exact pw4.1) (by rw [f7]; exact pw4.2) nw nw2 (by omega) (by omega)
                have hux := hW.uz (x := x.toInt) (by omega)
                have hD : RowM B ig236 288 (x.toInt.toNat : Int) (fCl (stL (fmO (atC σ x.toInt)) (l9 : Int) (128 * 1 + 1))) := ⟨⟨by rw [eig236, up2_c (by decide), eig227, up2_c (by decide), hR1.1.1, hk2]; rfl, by rw [eig236, up2_c (by decide), eig227, up2_c (by decide), hR1.1.2, hux.2]; rfl⟩, by unfold RowU; rw [eig236, up2_c (by decide), up2_c (by decide), up2_c (by decide), eig227, up2_c (by decide), up2_c (by decide), up2_c (by decide)]; have q := hR1.2.1; rw [hux.1] at q; exact q, fun _ => by show RowF B _ 288 _ (stL _ _ _); rw [stL_eq smt.2.1]; exact hfl, fun w => absurd rfl w⟩
                have hM := hM9.dr hI0.i120 nd (fun j => by rw [eig236, up2_c (by decide), eig227, up2_c (by decide)]; exact h63 j) (by rw [eig236, up2_c (by decide), eig227, up2_c (by decide)]; exact h19)
                refine lv_aload_n hx hb dX12_stretch_143 rfl (lv_at hl 2 rfl) ?_
                have hI := hI.su (f := (ig236 (B + 49) 19).toInt) rfl
                refine r_callV (As := []) (rest := []) C hw (t_X12_remembers l B D cA kd ig236 rg lg163 _   hI) sv_X12_342 (hsh 49 _ rfl) rfl hl.1 rfl (Nat.le_of_ble_eq_true rfl) ⟨Nat.le_of_ble_eq_true rfl, Nat.le_of_ble_eq_true rfl⟩ ⟨Nat.le_of_ble_eq_true rfl, Nat.le_of_ble_eq_true rfl⟩ dX12_stretch_144 (fun r241 kd237 ig238 rg239 lg240 H locs hw hH hp242 => ?_)
                obtain ⟨rfl, rfl, hI, hchp242, hrhp242⟩ := hp242
                have hF : Ft B [49, 54, 55, 56, 57, 58, 59, 60, 61, 63, 64, 65, 66, 67, 68, 69, 70, 71, 72, 73, 74, 76, 77, 78] ig lg ig238 lg240 := Ft.tr hF hchp242 (by decide) (by decide)
                obtain rfl := hrhp242
                have e19 := hI.u
                have hI := hI.nu
                have hM := hM.ft hchp242 (by decide) e19
                have hwp : WP B ig238 288 := WP.ft hwp hchp242 (by decide) (by decide) (by decide) (by decide) (by decide)
                have hD := hD.ft hchp242 (by decide)
                refine lv_aload_n hx hb dX12_stretch_147 rfl (lv_at hl 2 rfl) ?_
                refine lv_iload_n hx hb dX12_stretch_148 rfl (lv_at hl 3 rfl) ?_
                refine r_callV (As := [.int x]) (rest := []) C hw (t_X12_putsE l B D cA kd ig238 rg lg240 _ x (by omega) hwp σ π hM _ hD hI) sv_X12_207 (hsh 49 _ rfl) rfl hl.1 rfl (Nat.le_of_ble_eq_true rfl) ⟨Nat.le_of_ble_eq_true rfl, Nat.le_of_ble_eq_true rfl⟩ ⟨Nat.le_of_ble_eq_true rfl, Nat.le_of_ble_eq_true rfl⟩ dX12_stretch_149 (fun r247 kd243 ig244 rg245 lg246 H locs hw hH hp248 => ?_)
                obtain ⟨rfl, rfl, hI, hchp248, hrhp248⟩ := hp248
                have hF : Ft B [49, 54, 55, 56, 57, 58, 59, 60, 61, 63, 64, 65, 66, 67, 68, 69, 70, 71, 72, 73, 74, 76, 77, 78] ig lg ig244 lg246 := Ft.tr hF hchp248 (by decide) (by decide)
                obtain ⟨rfl, hvhp248⟩ := hrhp248
                obtain ⟨hM, hU⟩ := hvhp248
                refine lv_aload_n hx hb dX12_stretch_152 rfl (lv_at hl 2 rfl) ?_
                have hI := hI.su (f := (ig244 (B + 49) 19).toInt) rfl
                refine r_callV (As := []) (rest := []) C hw (t_X12_tells l B D cA kd ig244 rg lg246 _   hI) sv_X12_345 (hsh 49 _ rfl) rfl hl.1 rfl (Nat.le_of_ble_eq_true rfl) ⟨Nat.le_of_ble_eq_true rfl, Nat.le_of_ble_eq_true rfl⟩ ⟨Nat.le_of_ble_eq_true rfl, Nat.le_of_ble_eq_true rfl⟩ dX12_stretch_153 (fun r253 kd249 ig250 rg251 lg252 H locs hw hH hp254 => ?_)
                obtain ⟨rfl, rfl, hI, hchp254, hrhp254⟩ := hp254
                have hF : Ft B [49, 54, 55, 56, 57, 58, 59, 60, 61, 63, 64, 65, 66, 67, 68, 69, 70, 71, 72, 73, 74, 76, 77, 78] ig lg ig250 lg252 := Ft.tr hF hchp254 (by decide) (by decide)
                obtain ⟨z255, rfl, hz255⟩ := hrhp254
                have e19 := hI.u
                have hI := hI.nu
                have hM := hM.ft hchp254 (by decide) e19
                have hU := hU.ft hchp254 (by decide)
                exact r_iret C hw hr hlk rfl (Nat.le_of_ble_eq_true rfl) (Nat.le_of_ble_eq_true rfl) dX12_stretch_156 ⟨rfl, rfl, hI, hF, ⟨_, rfl, (by exfalso; omega)⟩⟩
              · refine lv_iconst (v := 0) hx hb dX12_stretch_136 (by decide) (ti_c 0 (by decide) fun z256 hz256 => ?_)
                refine lv_goto (tgt := 141) hx hb dX12_stretch_137 (by decide) ?_
                refine lv_iadd hx hb dX12_stretch_141 (tc_add fun z257 hz257 => ?_)
                first | replace hz257 := hz257 (by omega) | clear hz257
                refine r_iast C hw (hsh 55 _ rfl) (by omega) (by omega) dX12_stretch_142 (fun H locs hH hw => ?_)
                obtain ⟨ig258, eig258⟩ : ∃ f, f = up2 ig227 (B + 55) z231.toInt.toNat z257 := ⟨_, rfl⟩
                rw [← eig258] at hw
                have hF : Ft B [49, 54, 55, 56, 57, 58, 59, 60, 61, 63, 64, 65, 66, 67, 68, 69, 70, 71, 72, 73, 74, 76, 77, 78] ig lg ig258 lg163 := by rw [eig258]; exact hF.pi (by decide)
                have hI : IM τ φ none B kd ig258 rg := by rw [eig258]; exact hI.pdr2 (Or.inl rfl) nW2 q4
                have wf : WFr B ig258 288 := by rw [eig258, nw2]; exact WFr.uA wf k3b (by omega) fB
                have hwp : WP B ig258 288 := fun _ => wf
                have nd : NDr B ig11 ig258 := by rw [eig258]; exact nd.wr (Or.inr (Or.inr ⟨by decide, by decide, by omega, by omega⟩))
                have hfl : RowF B ig258 288 (x.toInt.toNat : Int) ((fmO (atC σ x.toInt)).set l9 (2, (stp (fmO (atC σ x.toInt)) (l9 : Int)).2.1, (stp (fmO (atC σ x.toInt)) (l9 : Int)).2.2 + (128 * 0 + 1))) := by rw [eig258, eig227]; exact RowF.longer (n := n) (hR1.2.2.1 hk2) (by omega) (by rw [emr]; exact smt) rfl k34 (by rw [f7, f4.2.1, f4.2.2]; exact pw4.1) (by rw [f7]; exact pw4.2) nw nw2 (by omega) (by omega)
                have hux := hW.uz (x := x.toInt) (by omega)
                have hD : RowM B ig258 288 (x.toInt.toNat : Int) (fCl (stL (fmO (atC σ x.toInt)) (l9 : Int) (128 * 0 + 1))) := ⟨⟨by rw [eig258, up2_c (by decide), eig227, up2_c (by decide), hR1.1.1, hk2]; rfl, by rw [eig258, up2_c (by decide), eig227, up2_c (by decide), hR1.1.2, hux.2]; rfl⟩, by unfold RowU; rw [eig258, up2_c (by decide), up2_c (by decide), up2_c (by decide), eig227, up2_c (by decide), up2_c (by decide), up2_c (by decide)]; have q := hR1.2.1; rw [hux.1] at q; exact q, fun _ => by show RowF B _ 288 _ (stL _ _ _); rw [stL_eq smt.2.1]; exact hfl, fun w => absurd rfl w⟩
                have hM := hM9.dr hI0.i120 nd (fun j => by rw [eig258, up2_c (by decide), eig227, up2_c (by decide)]; exact h63 j) (by rw [eig258, up2_c (by decide), eig227, up2_c (by decide)]; exact h19)
                refine lv_aload_n hx hb dX12_stretch_143 rfl (lv_at hl 2 rfl) ?_
                have hI := hI.su (f := (ig258 (B + 49) 19).toInt) rfl
                refine r_callV (As := []) (rest := []) C hw (t_X12_remembers l B D cA kd ig258 rg lg163 _   hI) sv_X12_342 (hsh 49 _ rfl) rfl hl.1 rfl (Nat.le_of_ble_eq_true rfl) ⟨Nat.le_of_ble_eq_true rfl, Nat.le_of_ble_eq_true rfl⟩ ⟨Nat.le_of_ble_eq_true rfl, Nat.le_of_ble_eq_true rfl⟩ dX12_stretch_144 (fun r263 kd259 ig260 rg261 lg262 H locs hw hH hp264 => ?_)
                obtain ⟨rfl, rfl, hI, hchp264, hrhp264⟩ := hp264
                have hF : Ft B [49, 54, 55, 56, 57, 58, 59, 60, 61, 63, 64, 65, 66, 67, 68, 69, 70, 71, 72, 73, 74, 76, 77, 78] ig lg ig260 lg262 := Ft.tr hF hchp264 (by decide) (by decide)
                obtain rfl := hrhp264
                have e19 := hI.u
                have hI := hI.nu
                have hM := hM.ft hchp264 (by decide) e19
                have hwp : WP B ig260 288 := WP.ft hwp hchp264 (by decide) (by decide) (by decide) (by decide) (by decide)
                have hD := hD.ft hchp264 (by decide)
                refine lv_aload_n hx hb dX12_stretch_147 rfl (lv_at hl 2 rfl) ?_
                refine lv_iload_n hx hb dX12_stretch_148 rfl (lv_at hl 3 rfl) ?_
                refine r_callV (As := [.int x]) (rest := []) C hw (t_X12_putsE l B D cA kd ig260 rg lg262 _ x (by omega) hwp σ π hM _ hD hI) sv_X12_207 (hsh 49 _ rfl) rfl hl.1 rfl (Nat.le_of_ble_eq_true rfl) ⟨Nat.le_of_ble_eq_true rfl, Nat.le_of_ble_eq_true rfl⟩ ⟨Nat.le_of_ble_eq_true rfl, Nat.le_of_ble_eq_true rfl⟩ dX12_stretch_149 (fun r269 kd265 ig266 rg267 lg268 H locs hw hH hp270 => ?_)
                obtain ⟨rfl, rfl, hI, hchp270, hrhp270⟩ := hp270
                have hF : Ft B [49, 54, 55, 56, 57, 58, 59, 60, 61, 63, 64, 65, 66, 67, 68, 69, 70, 71, 72, 73, 74, 76, 77, 78] ig lg ig266 lg268 := Ft.tr hF hchp270 (by decide) (by decide)
                obtain ⟨rfl, hvhp270⟩ := hrhp270
                obtain ⟨hM, hU⟩ := hvhp270
                refine lv_aload_n hx hb dX12_stretch_152 rfl (lv_at hl 2 rfl) ?_
                have hI := hI.su (f := (ig266 (B + 49) 19).toInt) rfl
                refine r_callV (As := []) (rest := []) C hw (t_X12_tells l B D cA kd ig266 rg lg268 _   hI) sv_X12_345 (hsh 49 _ rfl) rfl hl.1 rfl (Nat.le_of_ble_eq_true rfl) ⟨Nat.le_of_ble_eq_true rfl, Nat.le_of_ble_eq_true rfl⟩ ⟨Nat.le_of_ble_eq_true rfl, Nat.le_of_ble_eq_true rfl⟩ dX12_stretch_153 (fun r275 kd271 ig272 rg273 lg274 H locs hw hH hp276 => ?_)
                obtain ⟨rfl, rfl, hI, hchp276, hrhp276⟩ := hp276
                have hF : Ft B [49, 54, 55, 56, 57, 58, 59, 60, 61, 63, 64, 65, 66, 67, 68, 69, 70, 71, 72, 73, 74, 76, 77, 78] ig lg ig272 lg274 := Ft.tr hF hchp276 (by decide) (by decide)
                obtain ⟨z277, rfl, hz277⟩ := hrhp276
                have e19 := hI.u
                have hI := hI.nu
                have hM := hM.ft hchp276 (by decide) e19
                have hU := hU.ft hchp276 (by decide)
                exact r_iret C hw hr hlk rfl (Nat.le_of_ble_eq_true rfl) (Nat.le_of_ble_eq_true rfl) dX12_stretch_156 ⟨rfl, rfl, hI, hF, ⟨_, rfl, (by exfalso; omega)⟩⟩
          · refine lv_iconst (v := (-1)) hx hb dX12_stretch_85 (by decide) (ti_c (-1) (by decide) fun z278 hz278 => ?_)
            exact r_iret C hw hr hlk rfl (Nat.le_of_ble_eq_true rfl) (Nat.le_of_ble_eq_true rfl) dX12_stretch_86 ⟨rfl, rfl, hI, hF, ⟨_, rfl, ⟨_, _, hM, hU, ⟨none, Or.inr ⟨hk2, _, (l9 : Int), hU9.far, hsl, Or.inr (Or.inr ⟨fun w => (show (_ → _) ∧ (_ → ¬ _) from sd9).2 (by omega) (Iff.mp iB w), fun w => (show (_ → _) ∧ (_ → ¬ _) from sr9).2 (by omega) (Iff.mp iR w), rfl⟩)⟩, Or.inl ⟨rfl, rfl, rfl⟩⟩⟩⟩⟩
      · refine lv_iconst (v := 1) hx hb dX12_stretch_56 (by decide) (ti_c 1 (by decide) fun z279 hz279 => ?_)
        refine lv_goto (tgt := 61) hx hb dX12_stretch_57 (by decide) ?_
        refine lv_istore (lv' := [(4, .int z279), (3, .int u10), (0, .ref (B + 49)), (1, .int x)]) hx hb dX12_stretch_61 hl (by decide) rfl (fun ls hl => ?_)
        refine lv_iload hx hb dX12_stretch_63 (lv_at hl 0 rfl) ?_
        refine z_ne (tgt := 87) hx hb dX12_stretch_65 (by decide) (fun c65 => ?_) (fun c65 => ?_)
        · have qd := ((show (_ → _) ∧ (_ → ¬ _) from sd9).1 (by omega)).2.1
          refine lv_aload_n hx hb dX12_stretch_87 rfl (lv_at hl 2 rfl) ?_
          refine lv_iload_n hx hb dX12_stretch_88 rfl (lv_at hl 3 rfl) ?_
          refine lv_sipush (v := 288) hx hb dX12_stretch_89 (by decide) (ti_c 288 (by decide) fun z280 hz280 => ?_)
          refine r_callV (As := [.int x, .int z280]) (rest := []) C hw (t_X12_copyRowE l B D cA kd ig11 rg lg12 _ x z280 (by omega) (by omega) (i32_ne (by omega)) (hI.wp (by omega) (by omega)) hI) sv_X12_191 (hsh 49 _ rfl) rfl hl.1 rfl (Nat.le_of_ble_eq_true rfl) ⟨Nat.le_of_ble_eq_true rfl, Nat.le_of_ble_eq_true rfl⟩ ⟨Nat.le_of_ble_eq_true rfl, Nat.le_of_ble_eq_true rfl⟩ dX12_stretch_92 (fun r285 kd281 ig282 rg283 lg284 H locs hw hH hp286 => ?_)
          obtain ⟨rfl, rfl, hI, hchp286, hrhp286⟩ := hp286
          have hF : Ft B [49, 54, 55, 56, 57, 58, 59, 60, 61, 63, 64, 65, 66, 67, 68, 69, 70, 71, 72, 73, 74, 76, 77, 78] ig lg ig282 lg284 := Ft.tr hF hchp286 (by decide) (by decide)
          obtain ⟨rfl, hvhp286⟩ := hrhp286
          have hcx := CRx.toY (y := 288) hvhp286 (by omega)
          have hcr := hcx.1
          have nd : NDr B ig11 ig282 := NDr.cr hcx
          have h63 : ∀ j, ig282 (B + 63) j = ig11 (B + 63) j := fun j => hchp286.i 63 j (by decide)
          have h19 := congrArg Int32.toInt (hchp286.i 49 19 (by decide))
          have hR1 := hcx.row hrow
          have wf : WFr B ig282 288 := (hI0.row (p := x.toInt.toNat) (by omega) (by omega) hkd).copy hcr
          have f4 := CRw.f4 (q := j + 4) hcr (by omega)
          have f7 := congrArg Int32.toInt (hcr.2.2.2.1 57 (j + 4) (by decide) (by decide) (by omega))
          rw [show 120 * x.toInt.toNat + (j + 4) = (120 * x.toInt.toNat + (j + 2)) + 2 by omega] at f4 f7
          have f7 : (ig282 (B + 57) (34560 + (j + 4))).toInt = (ig11 (B + 57) (120 * x.toInt.toNat + (j + 2) + 2)).toInt := f7
          have q4 : j + 4 < 120 := by omega
          have emr : mR B ig282 (x.toInt.toNat : Int) 288 = mR B ig11 (x.toInt.toNat : Int) x.toInt.toNat := mR.ag hcr.2.1 (fun c k a b hk => hcr.2.2.2.1 c k a b hk)
          have k34 : (ig282 (B + 54) (34560 + (j + 4))).toInt = 3 := by rw [f4.1]; exact r4.1
          have e58 := congrArg Int32.toInt hcr.2.1
          have pw4 := r4.2.2.2.2
          refine lv_aload_n hx hb dX12_stretch_95 rfl (lv_at hl 2 rfl) ?_
          refine r_get C hw (hsh 49 _ rfl) fl_X12_71 (oV_r rfl (hrm (49, 11, 56) (by decide))) dX12_stretch_96 ?_
          refine lv_ldc (v := 34560) hx hb hown (hts _ kc_X12_142) dX12_stretch_99 (ti_c 34560 (by decide) fun z287 hz287 => ?_)
          refine lv_iload_n hx hb dX12_stretch_101 rfl (lv_at hl 1 rfl) ?_
          refine lv_iadd hx hb dX12_stretch_102 (tc_add fun z288 hz288 => ?_)
          first | replace hz288 := hz288 (by omega) | clear hz288
          refine lv_iconst (v := 4) hx hb dX12_stretch_103 (by decide) (ti_c 4 (by decide) fun z289 hz289 => ?_)
          refine lv_iadd hx hb dX12_stretch_104 (tc_add fun z290 hz290 => ?_)
          first | replace hz290 := hz290 (by omega) | clear hz290
          refine lv_dup2_11 hx hb dX12_stretch_105 rfl rfl ?_
          have nw : z290.toInt.toNat = 34560 + (j + 4) := by omega
          have nW : nEq z290.toInt.toNat (34560 + (j + 4)) := nw
          refine r_iald C hw (hsh 56 _ rfl) (by omega) (by omega) dX12_stretch_106 (ti_c (ig282 (B + 56) z290.toInt.toNat).toInt rfl fun z291 hz291 => ?_)
          rw [nw] at hz291
          refine lv_iload hx hb dX12_stretch_107 (lv_at hl 0 rfl) ?_
          refine z_eq (tgt := 116) hx hb dX12_stretch_109 (by decide) (fun c109 => ?_) (fun c109 => ?_)
          · refine lv_iconst (v := 0) hx hb dX12_stretch_116 (by decide) (ti_c 0 (by decide) fun z293 hz293 => ?_)
            refine lv_iadd hx hb dX12_stretch_117 (tc_add fun z294 hz294 => ?_)
            first | replace hz294 := hz294 (by omega) | clear hz294
            refine r_iast C hw (hsh 56 _ rfl) (by omega) (by omega) dX12_stretch_118 (fun H locs hH hw => ?_)
            obtain ⟨ig295, eig295⟩ : ∃ f, f = up2 ig282 (B + 56) z290.toInt.toNat z294 := ⟨_, rfl⟩
            rw [← eig295] at hw
            have hF : Ft B [49, 54, 55, 56, 57, 58, 59, 60, 61, 63, 64, 65, 66, 67, 68, 69, 70, 71, 72, 73, 74, 76, 77, 78] ig lg ig295 lg284 := by rw [eig295]; exact hF.pi (by decide)
            have hI : IM τ φ none B kd ig295 rg := by rw [eig295]; exact hI.pdr2 (Or.inr rfl) nW q4
            have wf : WFr B ig295 288 := by rw [eig295, nw]; exact WFr.uB wf k34 (by omega) (by omega)
            have k3b : (ig295 (B + 54) (34560 + (j + 4))).toInt = 3 := by rw [eig295, up2_c (by decide)]; exact k34
            have fA : (ig295 (B + 55) (34560 + (j + 4))).toInt = (ig282 (B + 55) (34560 + (j + 4))).toInt := by rw [eig295, up2_c (by decide)]
            have fB : 0 ≤ (ig295 (B + 56) (34560 + (j + 4))).toInt ∧ (ig295 (B + 56) (34560 + (j + 4))).toInt < 24 := by rw [eig295, nw, up2_eq]; omega
            have nd : NDr B ig11 ig295 := by rw [eig295]; exact nd.wr (Or.inr (Or.inr ⟨by decide, by decide, by omega, by omega⟩))
            refine lv_aload_n hx hb dX12_stretch_119 rfl (lv_at hl 2 rfl) ?_
            refine r_get C hw (hsh 49 _ rfl) fl_X12_68 (oV_r rfl (hrm (49, 10, 55) (by decide))) dX12_stretch_120 ?_
            refine lv_ldc (v := 34560) hx hb hown (hts _ kc_X12_142) dX12_stretch_123 (ti_c 34560 (by decide) fun z296 hz296 => ?_)
            refine lv_iload_n hx hb dX12_stretch_125 rfl (lv_at hl 1 rfl) ?_
            refine lv_iadd hx hb dX12_stretch_126 (tc_add fun z297 hz297 => ?_)
            first | replace hz297 := hz297 (by omega) | clear hz297
            refine lv_iconst (v := 4) hx hb dX12_stretch_127 (by decide) (ti_c 4 (by decide) fun z298 hz298 => ?_)
            refine lv_iadd hx hb dX12_stretch_128 (tc_add fun z299 hz299 => ?_)
            first | replace hz299 := hz299 (by omega) | clear hz299
            refine lv_dup2_11 hx hb dX12_stretch_129 rfl rfl ?_
            have nw2 : z299.toInt.toNat = 34560 + (j + 4) := by omega
            have nW2 : nEq z299.toInt.toNat (34560 + (j + 4)) := nw2
            refine r_iald C hw (hsh 55 _ rfl) (by omega) (by omega) dX12_stretch_130 (ti_c (ig295 (B + 55) z299.toInt.toNat).toInt rfl fun z300 hz300 => ?_)
            rw [nw2] at hz300
            refine lv_iload hx hb dX12_stretch_131 (lv_at hl 0 rfl) ?_
            refine z_eq (tgt := 140) hx hb dX12_stretch_133 (by decide) (fun c133 => ?_) (fun c133 => ?_)
            · refine lv_iconst (v := 1) hx hb dX12_stretch_140 (by decide) (ti_c 1 (by decide) fun z302 hz302 => ?_)
              refine lv_iadd hx hb dX12_stretch_141 (tc_add fun z303 hz303 => ?_)
              first | replace hz303 := hz303 (by omega) | clear hz303
              refine r_iast C hw (hsh 55 _ rfl) (by omega) (by omega) dX12_stretch_142 (fun H locs hH hw => ?_)
              obtain ⟨ig304, eig304⟩ : ∃ f, f = up2 ig295 (B + 55) z299.toInt.toNat z303 := ⟨_, rfl⟩
              rw [← eig304] at hw
              have hF : Ft B [49, 54, 55, 56, 57, 58, 59, 60, 61, 63, 64, 65, 66, 67, 68, 69, 70, 71, 72, 73, 74, 76, 77, 78] ig lg ig304 lg284 := by rw [eig304]; exact hF.pi (by decide)
              have hI : IM τ φ none B kd ig304 rg := by rw [eig304]; exact hI.pdr2 (Or.inl rfl) nW2 q4
              have wf : WFr B ig304 288 := by rw [eig304, nw2]; exact WFr.uA wf k3b (by omega) fB
              have hwp : WP B ig304 288 := fun _ => wf
              have nd : NDr B ig11 ig304 := by rw [eig304]; exact nd.wr (Or.inr (Or.inr ⟨by decide, by decide, by omega, by omega⟩))
              have hfl : RowF B ig304 288 (x.toInt.toNat : Int) ((fmO (atC σ x.toInt)).set l9 (2, (stp (fmO (atC σ x.toInt)) (l9 : Int)).2.1, (stp (fmO (atC σ x.toInt)) (l9 : Int)).2.2 + (128 * 1 + 0))) := by rw [eig304, eig295]; exact RowF.longer (n := n) (hR1.2.2.1 hk2) (by omega) (by rw [emr]; exact smt) rfl k34 (by rw [f7, f4.2.1, f4.2.2]; exact pw4.1) (by rw [f7]; exact pw4.2) nw nw2 (by omega) (by omega)
              have hux := hW.uz (x := x.toInt) (by omega)
              have hD : RowM B ig304 288 (x.toInt.toNat : Int) (fCl (stL (fmO (atC σ x.toInt)) (l9 : Int) (128 * 1 + 0))) := ⟨⟨by rw [eig304, up2_c (by decide), eig295, up2_c (by decide), hR1.1.1, hk2]; rfl, by rw [eig304, up2_c (by decide), eig295, up2_c (by decide), hR1.1.2, hux.2]; rfl⟩, by unfold RowU; rw [eig304, up2_c (by decide), up2_c (by decide), up2_c (by decide), eig295, up2_c (by decide), up2_c (by decide), up2_c (by decide)]; have q := hR1.2.1; rw [hux.1] at q; exact q, fun _ => by show RowF B _ 288 _ (stL _ _ _); rw [stL_eq smt.2.1]; exact hfl, fun w => absurd rfl w⟩
              have hM := hM9.dr hI0.i120 nd (fun j => by rw [eig304, up2_c (by decide), eig295, up2_c (by decide)]; exact h63 j) (by rw [eig304, up2_c (by decide), eig295, up2_c (by decide)]; exact h19)
              refine lv_aload_n hx hb dX12_stretch_143 rfl (lv_at hl 2 rfl) ?_
              have hI := hI.su (f := (ig304 (B + 49) 19).toInt) rfl
              refine r_callV (As := []) (rest := []) C hw (t_X12_remembers l B D cA kd ig304 rg lg284 _   hI) sv_X12_342 (hsh 49 _ rfl) rfl hl.1 rfl (Nat.le_of_ble_eq_true rfl) ⟨Nat.le_of_ble_eq_true rfl, Nat.le_of_ble_eq_true rfl⟩ ⟨Nat.le_of_ble_eq_true rfl, Nat.le_of_ble_eq_true rfl⟩ dX12_stretch_144 (fun r309 kd305 ig306 rg307 lg308 H locs hw hH hp310 => ?_)
              obtain ⟨rfl, rfl, hI, hchp310, hrhp310⟩ := hp310
              have hF : Ft B [49, 54, 55, 56, 57, 58, 59, 60, 61, 63, 64, 65, 66, 67, 68, 69, 70, 71, 72, 73, 74, 76, 77, 78] ig lg ig306 lg308 := Ft.tr hF hchp310 (by decide) (by decide)
              obtain rfl := hrhp310
              have e19 := hI.u
              have hI := hI.nu
              have hM := hM.ft hchp310 (by decide) e19
              have hwp : WP B ig306 288 := WP.ft hwp hchp310 (by decide) (by decide) (by decide) (by decide) (by decide)
              have hD := hD.ft hchp310 (by decide)
              refine lv_aload_n hx hb dX12_stretch_147 rfl (lv_at hl 2 rfl) ?_
              refine lv_iload_n hx hb dX12_stretch_148 rfl (lv_at hl 3 rfl) ?_
              refine r_callV (As := [.int x]) (rest := []) C hw (t_X12_putsE l B D cA kd ig306 rg lg308 _ x (by omega) hwp σ π hM _ hD hI) sv_X12_207 (hsh 49 _ rfl) rfl hl.1 rfl (Nat.le_of_ble_eq_true rfl) ⟨Nat.le_of_ble_eq_true rfl, Nat.le_of_ble_eq_true rfl⟩ ⟨Nat.le_of_ble_eq_true rfl, Nat.le_of_ble_eq_true rfl⟩ dX12_stretch_149 (fun r315 kd311 ig312 rg313 lg314 H locs hw hH hp316 => ?_)
              obtain ⟨rfl, rfl, hI, hchp316, hrhp316⟩ := hp316
              have hF : Ft B [49, 54, 55, 56, 57, 58, 59, 60, 61, 63, 64, 65, 66, 67, 68, 69, 70, 71, 72, 73, 74, 76, 77, 78] ig lg ig312 lg314 := Ft.tr hF hchp316 (by decide) (by decide)
              obtain ⟨rfl, hvhp316⟩ := hrhp316
              obtain ⟨hM, hU⟩ := hvhp316
              refine lv_aload_n hx hb dX12_stretch_152 rfl (lv_at hl 2 rfl) ?_
              have hI := hI.su (f := (ig312 (B + 49) 19).toInt) rfl
              refine r_callV (As := []) (rest := []) C hw (t_X12_tells l B D cA kd ig312 rg lg314 _   hI) sv_X12_345 (hsh 49 _ rfl) rfl hl.1 rfl (Nat.le_of_ble_eq_true rfl) ⟨Nat.le_of_ble_eq_true rfl, Nat.le_of_ble_eq_true rfl⟩ ⟨Nat.le_of_ble_eq_true rfl, Nat.le_of_ble_eq_true rfl⟩ dX12_stretch_153 (fun r321 kd317 ig318 rg319 lg320 H locs hw hH hp322 => ?_)
              obtain ⟨rfl, rfl, hI, hchp322, hrhp322⟩ := hp322
              have hF : Ft B [49, 54, 55, 56, 57, 58, 59, 60, 61, 63, 64, 65, 66, 67, 68, 69, 70, 71, 72, 73, 74, 76, 77, 78] ig lg ig318 lg320 := Ft.tr hF hchp322 (by decide) (by decide)
              obtain ⟨z323, rfl, hz323⟩ := hrhp322
              have e19 := hI.u
              have hI := hI.nu
              have hM := hM.ft hchp322 (by decide) e19
              have hU := hU.ft hchp322 (by decide)
              exact r_iret C hw hr hlk rfl (Nat.le_of_ble_eq_true rfl) (Nat.le_of_ble_eq_true rfl) dX12_stretch_156 ⟨rfl, rfl, hI, hF, ⟨_, rfl, (by exfalso; omega)⟩⟩
            · refine lv_iconst (v := 0) hx hb dX12_stretch_136 (by decide) (ti_c 0 (by decide) fun z324 hz324 => ?_)
              refine lv_goto (tgt := 141) hx hb dX12_stretch_137 (by decide) ?_
              refine lv_iadd hx hb dX12_stretch_141 (tc_add fun z325 hz325 => ?_)
              first | replace hz325 := hz325 (by omega) | clear hz325
              refine r_iast C hw (hsh 55 _ rfl) (by omega) (by omega) dX12_stretch_142 (fun H locs hH hw => ?_)
              obtain ⟨ig326, eig326⟩ : ∃ f, f = up2 ig295 (B + 55) z299.toInt.toNat z325 := ⟨_, rfl⟩
              rw [← eig326] at hw
              have hF : Ft B [49, 54, 55, 56, 57, 58, 59, 60, 61, 63, 64, 65, 66, 67, 68, 69, 70, 71, 72, 73, 74, 76, 77, 78] ig lg ig326 lg284 := by rw [eig326]; exact hF.pi (by decide)
              have hI : IM τ φ none B kd ig326 rg := by rw [eig326]; exact hI.pdr2 (Or.inl rfl) nW2 q4
              have wf : WFr B ig326 288 := by rw [eig326, nw2]; exact WFr.uA wf k3b (by omega) fB
              have hwp : WP B ig326 288 := fun _ => wf
              have nd : NDr B ig11 ig326 := by rw [eig326]; exact nd.wr (Or.inr (Or.inr ⟨by decide, by decide, by omega, by omega⟩))
              have hfl : RowF B ig326 288 (x.toInt.toNat : Int) ((fmO (atC σ x.toInt)).set l9 (2, (stp (fmO (atC σ x.toInt)) (l9 : Int)).2.1, (stp (fmO (atC σ x.toInt)) (l9 : Int)).2.2 + (128 * 0 + 0))) := by rw [eig326, eig295]; exact RowF.longer (n := n) (hR1.2.2.1 hk2) (by omega) (by rw [emr]; exact smt) rfl k34 (by rw [f7, f4.2.1, f4.2.2]; exact pw4.1) (by rw [f7]; exact pw4.2) nw nw2 (by omega) (by omega)
              have hux := hW.uz (x := x.toInt) (by omega)
              have hD : RowM B ig326 288 (x.toInt.toNat : Int) (fCl (stL (fmO (atC σ x.toInt)) (l9 : Int) (128 * 0 + 0))) := ⟨⟨by rw [eig326, up2_c (by decide), eig295, up2_c (by decide), hR1.1.1, hk2]; rfl, by rw [eig326, up2_c (by decide), eig295, up2_c (by decide), hR1.1.2, hux.2]; rfl⟩, by unfold RowU; rw [eig326, up2_c (by decide), up2_c (by decide), up2_c (by decide), eig295, up2_c (by decide), up2_c (by decide), up2_c (by decide)]; have q := hR1.2.1; rw [hux.1] at q; exact q, fun _ => by show RowF B _ 288 _ (stL _ _ _); rw [stL_eq smt.2.1]; exact hfl, fun w => absurd rfl w⟩
              have hM := hM9.dr hI0.i120 nd (fun j => by rw [eig326, up2_c (by decide), eig295, up2_c (by decide)]; exact h63 j) (by rw [eig326, up2_c (by decide), eig295, up2_c (by decide)]; exact h19)
              refine lv_aload_n hx hb dX12_stretch_143 rfl (lv_at hl 2 rfl) ?_
              have hI := hI.su (f := (ig326 (B + 49) 19).toInt) rfl
              refine r_callV (As := []) (rest := []) C hw (t_X12_remembers l B D cA kd ig326 rg lg284 _   hI) sv_X12_342 (hsh 49 _ rfl) rfl hl.1 rfl (Nat.le_of_ble_eq_true rfl) ⟨Nat.le_of_ble_eq_true rfl, Nat.le_of_ble_eq_true rfl⟩ ⟨Nat.le_of_ble_eq_true rfl, Nat.le_of_ble_eq_true rfl⟩ dX12_stretch_144 (fun r331 kd327 ig328 rg329 lg330 H locs hw hH hp332 => ?_)
              obtain ⟨rfl, rfl, hI, hchp332, hrhp332⟩ := hp332
              have hF : Ft B [49, 54, 55, 56, 57, 58, 59, 60, 61, 63, 64, 65, 66, 67, 68, 69, 70, 71, 72, 73, 74, 76, 77, 78] ig lg ig328 lg330 := Ft.tr hF hchp332 (by decide) (by decide)
              obtain rfl := hrhp332
              have e19 := hI.u
              have hI := hI.nu
              have hM := hM.ft hchp332 (by decide) e19
              have hwp : WP B ig328 288 := WP.ft hwp hchp332 (by decide) (by decide) (by decide) (by decide) (by decide)
              have hD := hD.ft hchp332 (by decide)
              refine lv_aload_n hx hb dX12_stretch_147 rfl (lv_at hl 2 rfl) ?_
              refine lv_iload_n hx hb dX12_stretch_148 rfl (lv_at hl 3 rfl) ?_
              refine r_callV (As := [.int x]) (rest := []) C hw (t_X12_putsE l B D cA kd ig328 rg lg330 _ x (by omega) hwp σ π hM _ hD hI) sv_X12_207 (hsh 49 _ rfl) rfl hl.1 rfl (Nat.le_of_ble_eq_true rfl) ⟨Nat.le_of_ble_eq_true rfl, Nat.le_of_ble_eq_true rfl⟩ ⟨Nat.le_of_ble_eq_true rfl, Nat.le_of_ble_eq_true rfl⟩ dX12_stretch_149 (fun r337 kd333 ig334 rg335 lg336 H locs hw hH hp338 => ?_)
              obtain ⟨rfl, rfl, hI, hchp338, hrhp338⟩ := hp338
              have hF : Ft B [49, 54, 55, 56, 57, 58, 59, 60, 61, 63, 64, 65, 66, 67, 68, 69, 70, 71, 72, 73, 74, 76, 77, 78] ig lg ig334 lg336 := Ft.tr hF hchp338 (by decide) (by decide)
              obtain ⟨rfl, hvhp338⟩ := hrhp338
              obtain ⟨hM, hU⟩ := hvhp338
              refine lv_aload_n hx hb dX12_stretch_152 rfl (lv_at hl 2 rfl) ?_
              have hI := hI.su (f := (ig334 (B + 49) 19).toInt) rfl
              refine r_callV (As := []) (rest := []) C hw (t_X12_tells l B D cA kd ig334 rg lg336 _   hI) sv_X12_345 (hsh 49 _ rfl) rfl hl.1 rfl (Nat.le_of_ble_eq_true rfl) ⟨Nat.le_of_ble_eq_true rfl, Nat.le_of_ble_eq_true rfl⟩ ⟨Nat.le_of_ble_eq_true rfl, Nat.le_of_ble_eq_true rfl⟩ dX12_stretch_153 (fun r343 kd339 ig340 rg341 lg342 H locs hw hH hp344 => ?_)
              obtain ⟨rfl, rfl, hI, hchp344, hrhp344⟩ := hp344
              have hF : Ft B [49, 54, 55, 56, 57, 58, 59, 60, 61, 63, 64, 65, 66, 67, 68, 69, 70, 71, 72, 73, 74, 76, 77, 78] ig lg ig340 lg342 := Ft.tr hF hchp344 (by decide) (by decide)
              obtain ⟨z345, rfl, hz345⟩ := hrhp344
              have e19 := hI.u
              have hI := hI.nu
              have hM := hM.ft hchp344 (by decide) e19
              have hU := hU.ft hchp344 (by decide)
              exact r_iret C hw hr hlk rfl (Nat.le_of_ble_eq_true rfl) (Nat.le_of_ble_eq_true rfl) dX12_stretch_156 ⟨rfl, rfl, hI, hF, ⟨_, rfl, (by exfalso; omega)⟩⟩
          · refine lv_iconst (v := 1) hx hb dX12_stretch_112 (by decide) (ti_c 1 (by decide) fun z346 hz346 => ?_)
            refine lv_goto (tgt := 117) hx hb dX12_stretch_113 (by decide) ?_
            refine lv_iadd hx hb dX12_stretch_117 (tc_add fun z347 hz347 => ?_)
            first | replace hz347 := hz347 (by omega) | clear hz347
            refine r_iast C hw (hsh 56 _ rfl) (by omega) (by omega) dX12_stretch_118 (fun H locs hH hw => ?_)
            obtain ⟨ig348, eig348⟩ : ∃ f, f = up2 ig282 (B + 56) z290.toInt.toNat z347 := ⟨_, rfl⟩
            rw [← eig348] at hw
            have hF : Ft B [49, 54, 55, 56, 57, 58, 59, 60, 61, 63, 64, 65, 66, 67, 68, 69, 70, 71, 72, 73, 74, 76, 77, 78] ig lg ig348 lg284 := by rw [eig348]; exact hF.pi (by decide)
            have hI : IM τ φ none B kd ig348 rg := by rw [eig348]; exact hI.pdr2 (Or.inr rfl) nW q4
            have wf : WFr B ig348 288 := by rw [eig348, nw]; exact WFr.uB wf k34 (by omega) (by omega)
            have k3b : (ig348 (B + 54) (34560 + (j + 4))).toInt = 3 := by rw [eig348, up2_c (by decide)]; exact k34
            have fA : (ig348 (B + 55) (34560 + (j + 4))).toInt = (ig282 (B + 55) (34560 + (j + 4))).toInt := by rw [eig348, up2_c (by decide)]
            have fB : 0 ≤ (ig348 (B + 56) (34560 + (j + 4))).toInt ∧ (ig348 (B + 56) (34560 + (j + 4))).toInt < 24 := by rw [eig348, nw, up2_eq]; omega
            have nd : NDr B ig11 ig348 := by rw [eig348]; exact nd.wr (Or.inr (Or.inr ⟨by decide, by decide, by omega, by omega⟩))
            refine lv_aload_n hx hb dX12_stretch_119 rfl (lv_at hl 2 rfl) ?_
            refine r_get C hw (hsh 49 _ rfl) fl_X12_68 (oV_r rfl (hrm (49, 10, 55) (by decide))) dX12_stretch_120 ?_
            refine lv_ldc (v := 34560) hx hb hown (hts _ kc_X12_142) dX12_stretch_123 (ti_c 34560 (by decide) fun z349 hz349 => ?_)
            refine lv_iload_n hx hb dX12_stretch_125 rfl (lv_at hl 1 rfl) ?_
            refine lv_iadd hx hb dX12_stretch_126 (tc_add fun z350 hz350 => ?_)
            first | replace hz350 := hz350 (by omega) | clear hz350
            refine lv_iconst (v := 4) hx hb dX12_stretch_127 (by decide) (ti_c 4 (by decide) fun z351 hz351 => ?_)
            refine lv_iadd hx hb dX12_stretch_128 (tc_add fun z352 hz352 => ?_)
            first | replace hz352 := hz352 (by omega) | clear hz352
            refine lv_dup2_11 hx hb dX12_stretch_129 rfl rfl ?_
            have nw2 : z352.toInt.toNat = 34560 + (j + 4) := by omega
            have nW2 : nEq z352.toInt.toNat (34560 + (j + 4)) := nw2
            refine r_iald C hw (hsh 55 _ rfl) (by omega) (by omega) dX12_stretch_130 (ti_c (ig348 (B + 55) z352.toInt.toNat).toInt rfl fun z353 hz353 => ?_)
            rw [nw2] at hz353
            refine lv_iload hx hb dX12_stretch_131 (lv_at hl 0 rfl) ?_
            refine z_eq (tgt := 140) hx hb dX12_stretch_133 (by decide) (fun c133 => ?_) (fun c133 => ?_)
            · refine lv_iconst (v := 1) hx hb dX12_stretch_140 (by decide) (ti_c 1 (by decide) fun z355 hz355 => ?_)
              refine lv_iadd hx hb dX12_stretch_141 (tc_add fun z356 hz356 => ?_)
              first | replace hz356 := hz356 (by omega) | clear hz356
              refine r_iast C hw (hsh 55 _ rfl) (by omega) (by omega) dX12_stretch_142 (fun H locs hH hw => ?_)
              obtain ⟨ig357, eig357⟩ : ∃ f, f = up2 ig348 (B + 55) z352.toInt.toNat z356 := ⟨_, rfl⟩
              rw [← eig357] at hw
              have hF : Ft B [49, 54, 55, 56, 57, 58, 59, 60, 61, 63, 64, 65, 66, 67, 68, 69, 70, 71, 72, 73, 74, 76, 77, 78] ig lg ig357 lg284 := by rw [eig357]; exact hF.pi (by decide)
              have hI : IM τ φ none B kd ig357 rg := by rw [eig357]; exact hI.pdr2 (Or.inl rfl) nW2 q4
              have wf : WFr B ig357 288 := by rw [eig357, nw2]; exact WFr.uA wf k3b (by omega) fB
              have hwp : WP B ig357 288 := fun _ => wf
              have nd : NDr B ig11 ig357 := by rw [eig357]; exact nd.wr (Or.inr (Or.inr ⟨by decide, by decide, by omega, by omega⟩))
              have hfl : RowF B ig357 288 (x.toInt.toNat : Int) ((fmO (atC σ x.toInt)).set l9 (2, (stp (fmO (atC σ x.toInt)) (l9 : Int)).2.1, (stp (fmO (atC σ x.toInt)) (l9 : Int)).2.2 + (128 * 1 + 1))) := by rw [eig357, eig348]; exact RowF.longer (n := n) (hR1.2.2.1 hk2) (by omega) (by rw [emr]; exact smt) rfl k34 (by rw [f7, f4.2.1, f4.2.2]; exact pw4.1) (by rw [f7]; exact pw4.2) nw nw2 (by omega) (by omega)
              have hux := hW.uz (x := x.toInt) (by omega)
              have hD : RowM B ig357 288 (x.toInt.toNat : Int) (fCl (stL (fmO (atC σ x.toInt)) (l9 : Int) (128 * 1 + 1))) := ⟨⟨by rw [eig357, up2_c (by decide), eig348, up2_c (by decide), hR1.1.1, hk2]; rfl, by rw [eig357, up2_c (by decide), eig348, up2_c (by decide), hR1.1.2, hux.2]; rfl⟩, by unfold RowU; rw [eig357, up2_c (by decide), up2_c (by decide), up2_c (by decide), eig348, up2_c (by decide), up2_c (by decide), up2_c (by decide)]; have q := hR1.2.1; rw [hux.1] at q; exact q, fun _ => by show RowF B _ 288 _ (stL _ _ _); rw [stL_eq smt.2.1]; exact hfl, fun w => absurd rfl w⟩
              have hM := hM9.dr hI0.i120 nd (fun j => by rw [eig357, up2_c (by decide), eig348, up2_c (by decide)]; exact h63 j) (by rw [eig357, up2_c (by decide), eig348, up2_c (by decide)]; exact h19)
              refine lv_aload_n hx hb dX12_stretch_143 rfl (lv_at hl 2 rfl) ?_
              have hI := hI.su (f := (ig357 (B + 49) 19).toInt) rfl
              refine r_callV (As := []) (rest := []) C hw (t_X12_remembers l B D cA kd ig357 rg lg284 _   hI) sv_X12_342 (hsh 49 _ rfl) rfl hl.1 rfl (Nat.le_of_ble_eq_true rfl) ⟨Nat.le_of_ble_eq_true rfl, Nat.le_of_ble_eq_true rfl⟩ ⟨Nat.le_of_ble_eq_true rfl, Nat.le_of_ble_eq_true rfl⟩ dX12_stretch_144 (fun r362 kd358 ig359 rg360 lg361 H locs hw hH hp363 => ?_)
              obtain ⟨rfl, rfl, hI, hchp363, hrhp363⟩ := hp363
              have hF : Ft B [49, 54, 55, 56, 57, 58, 59, 60, 61, 63, 64, 65, 66, 67, 68, 69, 70, 71, 72, 73, 74, 76, 77, 78] ig lg ig359 lg361 := Ft.tr hF hchp363 (by decide) (by decide)
              obtain rfl := hrhp363
              have e19 := hI.u
              have hI := hI.nu
              have hM := hM.ft hchp363 (by decide) e19
              have hwp : WP B ig359 288 := WP.ft hwp hchp363 (by decide) (by decide) (by decide) (by decide) (by decide)
              have hD := hD.ft hchp363 (by decide)
              refine lv_aload_n hx hb dX12_stretch_147 rfl (lv_at hl 2 rfl) ?_
              refine lv_iload_n hx hb dX12_stretch_148 rfl (lv_at hl 3 rfl) ?_
              refine r_callV (As := [.int x]) (rest := []) C hw (t_X12_putsE l B D cA kd ig359 rg lg361 _ x (by omega) hwp σ π hM _ hD hI) sv_X12_207 (hsh 49 _ rfl) rfl hl.1 rfl (Nat.le_of_ble_eq_true rfl) ⟨Nat.le_of_ble_eq_true rfl, Nat.le_of_ble_eq_true rfl⟩ ⟨Nat.le_of_ble_eq_true rfl, Nat.le_of_ble_eq_true rfl⟩ dX12_stretch_149 (fun r368 kd364 ig365 rg366 lg367 H locs hw hH hp369 => ?_)
              obtain ⟨rfl, rfl, hI, hchp369, hrhp369⟩ := hp369
              have hF : Ft B [49, 54, 55, 56, 57, 58, 59, 60, 61, 63, 64, 65, 66, 67, 68, 69, 70, 71, 72, 73, 74, 76, 77, 78] ig lg ig365 lg367 := Ft.tr hF hchp369 (by decide) (by decide)
              obtain ⟨rfl, hvhp369⟩ := hrhp369
              obtain ⟨hM, hU⟩ := hvhp369
              refine lv_aload_n hx hb dX12_stretch_152 rfl (lv_at hl 2 rfl) ?_
              have hI := hI.su (f := (ig365 (B + 49) 19).toInt) rfl
              refine r_callV (As := []) (rest := []) C hw (t_X12_tells l B D cA kd ig365 rg lg367 _   hI) sv_X12_345 (hsh 49 _ rfl) rfl hl.1 rfl (Nat.le_of_ble_eq_true rfl) ⟨Nat.le_of_ble_eq_true rfl, Nat.le_of_ble_eq_true rfl⟩ ⟨Nat.le_of_ble_eq_true rfl, Nat.le_of_ble_eq_true rfl⟩ dX12_stretch_153 (fun r374 kd370 ig371 rg372 lg373 H locs hw hH hp375 => ?_)
              obtain ⟨rfl, rfl, hI, hchp375, hrhp375⟩ := hp375
              have hF : Ft B [49, 54, 55, 56, 57, 58, 59, 60, 61, 63, 64, 65, 66, 67, 68, 69, 70, 71, 72, 73, 74, 76, 77, 78] ig lg ig371 lg373 := Ft.tr hF hchp375 (by decide) (by decide)
              obtain ⟨z376, rfl, hz376⟩ := hrhp375
              have e19 := hI.u
              have hI := hI.nu
              have hM := hM.ft hchp375 (by decide) e19
              have hU := hU.ft hchp375 (by decide)
              exact r_iret C hw hr hlk rfl (Nat.le_of_ble_eq_true rfl) (Nat.le_of_ble_eq_true rfl) dX12_stretch_156 ⟨rfl, rfl, hI, hF, ⟨_, rfl, (by exfalso; omega)⟩⟩
            · refine lv_iconst (v := 0) hx hb dX12_stretch_136 (by decide) (ti_c 0 (by decide) fun z377 hz377 => ?_)
              refine lv_goto (tgt := 141) hx hb dX12_stretch_137 (by decide) ?_
              refine lv_iadd hx hb dX12_stretch_141 (tc_add fun z378 hz378 => ?_)
              first | replace hz378 := hz378 (by omega) | clear hz378
              refine r_iast C hw (hsh 55 _ rfl) (by omega) (by omega) dX12_stretch_142 (fun H locs hH hw => ?_)
              obtain ⟨ig379, eig379⟩ : ∃ f, f = up2 ig348 (B + 55) z352.toInt.toNat z378 := ⟨_, rfl⟩
              rw [← eig379] at hw
              have hF : Ft B [49, 54, 55, 56, 57, 58, 59, 60, 61, 63, 64, 65, 66, 67, 68, 69, 70, 71, 72, 73, 74, 76, 77, 78] ig lg ig379 lg284 := by rw [eig379]; exact hF.pi (by decide)
              have hI : IM τ φ none B kd ig379 rg := by rw [eig379]; exact hI.pdr2 (Or.inl rfl) nW2 q4
              have wf : WFr B ig379 288 := by rw [eig379, nw2]; exact WFr.uA wf k3b (by omega) fB
              have hwp : WP B ig379 288 := fun _ => wf
              have nd : NDr B ig11 ig379 := by rw [eig379]; exact nd.wr (Or.inr (Or.inr ⟨by decide, by decide, by omega, by omega⟩))
              have hfl : RowF B ig379 288 (x.toInt.toNat : Int) ((fmO (atC σ x.toInt)).set l9 (2, (stp (fmO (atC σ x.toInt)) (l9 : Int)).2.1, (stp (fmO (atC σ x.toInt)) (l9 : Int)).2.2 + (128 * 0 + 1))) := by rw [eig379, eig348]; exact RowF.longer (n := n) (hR1.2.2.1 hk2) (by omega) (by rw [emr]; exact smt) rfl k34 (by rw [f7, f4.2.1, f4.2.2]; exact pw4.1) (by rw [f7]; exact pw4.2) nw nw2 (by omega) (by omega)
              have hux := hW.uz (x := x.toInt) (by omega)
              have hD : RowM B ig379 288 (x.toInt.toNat : Int) (fCl (stL (fmO (atC σ x.toInt)) (l9 : Int) (128 * 0 + 1))) := ⟨⟨by rw [eig379, up2_c (by decide), eig348, up2_c (by decide), hR1.1.1, hk2]; rfl, by rw [eig379, up2_c (by decide), eig348, up2_c (by decide), hR1.1.2, hux.2]; rfl⟩, by unfold RowU; rw [eig379, up2_c (by decide), up2_c (by decide), up2_c (by decide), eig348, up2_c (by decide), up2_c (by decide), up2_c (by decide)]; have q := hR1.2.1; rw [hux.1] at q; exact q, fun _ => by show RowF B _ 288 _ (stL _ _ _); rw [stL_eq smt.2.1]; exact hfl, fun w => absurd rfl w⟩
              have hM := hM9.dr hI0.i120 nd (fun j => by rw [eig379, up2_c (by decide), eig348, up2_c (by decide)]; exact h63 j) (by rw [eig379, up2_c (by decide), eig348, up2_c (by decide)]; exact h19)
              refine lv_aload_n hx hb dX12_stretch_143 rfl (lv_at hl 2 rfl) ?_
              have hI := hI.su (f := (ig379 (B + 49) 19).toInt) rfl
              refine r_callV (As := []) (rest := []) C hw (t_X12_remembers l B D cA kd ig379 rg lg284 _   hI) sv_X12_342 (hsh 49 _ rfl) rfl hl.1 rfl (Nat.le_of_ble_eq_true rfl) ⟨Nat.le_of_ble_eq_true rfl, Nat.le_of_ble_eq_true rfl⟩ ⟨Nat.le_of_ble_eq_true rfl, Nat.le_of_ble_eq_true rfl⟩ dX12_stretch_144 (fun r384 kd380 ig381 rg382 lg383 H locs hw hH hp385 => ?_)
              obtain ⟨rfl, rfl, hI, hchp385, hrhp385⟩ := hp385
              have hF : Ft B [49, 54, 55, 56, 57, 58, 59, 60, 61, 63, 64, 65, 66, 67, 68, 69, 70, 71, 72, 73, 74, 76, 77, 78] ig lg ig381 lg383 := Ft.tr hF hchp385 (by decide) (by decide)
              obtain rfl := hrhp385
              have e19 := hI.u
              have hI := hI.nu
              have hM := hM.ft hchp385 (by decide) e19
              have hwp : WP B ig381 288 := WP.ft hwp hchp385 (by decide) (by decide) (by decide) (by decide) (by decide)
              have hD := hD.ft hchp385 (by decide)
              refine lv_aload_n hx hb dX12_stretch_147 rfl (lv_at hl 2 rfl) ?_
              refine lv_iload_n hx hb dX12_stretch_148 rfl (lv_at hl 3 rfl) ?_
              refine r_callV (As := [.int x]) (rest := []) C hw (t_X12_putsE l B D cA kd ig381 rg lg383 _ x (by omega) hwp σ π hM _ hD hI) sv_X12_207 (hsh 49 _ rfl) rfl hl.1 rfl (Nat.le_of_ble_eq_true rfl) ⟨Nat.le_of_ble_eq_true rfl, Nat.le_of_ble_eq_true rfl⟩ ⟨Nat.le_of_ble_eq_true rfl, Nat.le_of_ble_eq_true rfl⟩ dX12_stretch_149 (fun r390 kd386 ig387 rg388 lg389 H locs hw hH hp391 => ?_)
              obtain ⟨rfl, rfl, hI, hchp391, hrhp391⟩ := hp391
              have hF : Ft B [49, 54, 55, 56, 57, 58, 59, 60, 61, 63, 64, 65, 66, 67, 68, 69, 70, 71, 72, 73, 74, 76, 77, 78] ig lg ig387 lg389 := Ft.tr hF hchp391 (by decide) (by decide)
              obtain ⟨rfl, hvhp391⟩ := hrhp391
              obtain ⟨hM, hU⟩ := hvhp391
              refine lv_aload_n hx hb dX12_stretch_152 rfl (lv_at hl 2 rfl) ?_
              have hI := hI.su (f := (ig387 (B + 49) 19).toInt) rfl
              refine r_callV (As := []) (rest := []) C hw (t_X12_tells l B D cA kd ig387 rg lg389 _   hI) sv_X12_345 (hsh 49 _ rfl) rfl hl.1 rfl (Nat.le_of_ble_eq_true rfl) ⟨Nat.le_of_ble_eq_true rfl, Nat.le_of_ble_eq_true rfl⟩ ⟨Nat.le_of_ble_eq_true rfl, Nat.le_of_ble_eq_true rfl⟩ dX12_stretch_153 (fun r396 kd392 ig393 rg394 lg395 H locs hw hH hp397 => ?_)
              obtain ⟨rfl, rfl, hI, hchp397, hrhp397⟩ := hp397
              have hF : Ft B [49, 54, 55, 56, 57, 58, 59, 60, 61, 63, 64, 65, 66, 67, 68, 69, 70, 71, 72, 73, 74, 76, 77, 78] ig lg ig393 lg395 := Ft.tr hF hchp397 (by decide) (by decide)
              obtain ⟨z398, rfl, hz398⟩ := hrhp397
              have e19 := hI.u
              have hI := hI.nu
              have hM := hM.ft hchp397 (by decide) e19
              have hU := hU.ft hchp397 (by decide)
              exact r_iret C hw hr hlk rfl (Nat.le_of_ble_eq_true rfl) (Nat.le_of_ble_eq_true rfl) dX12_stretch_156 ⟨rfl, rfl, hI, hF, ⟨_, rfl, ⟨_, _, hM, hU, ⟨some (stL (fmO (atC σ x.toInt)) (l9 : Int) (128 * 0 + 1)), Or.inr ⟨hk2, _, (l9 : Int), hU9.far, hsl, Or.inl ⟨Iff.mpr iB ((show (_ → _) ∧ (_ → ¬ _) from sd9).1 (by omega)), rfl⟩⟩, Or.inr ⟨_, rfl, rfl, rfl⟩⟩⟩⟩⟩
        · refine lv_aload_n hx hb dX12_stretch_68 rfl (lv_at hl 2 rfl) ?_
          refine lv_iload_n hx hb dX12_stretch_69 rfl (lv_at hl 3 rfl) ?_
          refine lv_bipush (v := 120) hx hb dX12_stretch_70 (by decide) (ti_c 120 (by decide) fun z399 hz399 => ?_)
          refine lv_iload_n hx hb dX12_stretch_72 rfl (lv_at hl 3 rfl) ?_
          refine lv_imul hx hb dX12_stretch_73 (tc_mulL 120 hz399 fun z400 hz400 => ?_)
          first | replace hz400 := hz400 (by omega) | clear hz400
          refine lv_iload_n hx hb dX12_stretch_74 rfl (lv_at hl 1 rfl) ?_
          refine lv_iadd hx hb dX12_stretch_75 (tc_add fun z401 hz401 => ?_)
          first | replace hz401 := hz401 (by omega) | clear hz401
          refine lv_iconst (v := 2) hx hb dX12_stretch_76 (by decide) (ti_c 2 (by decide) fun z402 hz402 => ?_)
          refine lv_iadd hx hb dX12_stretch_77 (tc_add fun z403 hz403 => ?_)
          first | replace hz403 := hz403 (by omega) | clear hz403
          refine lv_iconst (v := 0) hx hb dX12_stretch_78 (by decide) (ti_c 0 (by decide) fun z404 hz404 => ?_)
          refine r_callV (As := [.int x, .int z403, .int z404]) (rest := []) C hw (t_X12_shortByE l B D cA kd ig11 rg lg12 _ x z403 z404 (by omega) (by omega) (by omega) (by rw [show z403.toInt.toNat + 2 = (120 * x.toInt.toNat + (j + 2)) + 2 by omega]; exact rg4) σ π hM hU hI) sv_X12_320 (hsh 49 _ rfl) rfl hl.1 rfl (Nat.le_of_ble_eq_true rfl) ⟨Nat.le_of_ble_eq_true rfl, Nat.le_of_ble_eq_true rfl⟩ ⟨Nat.le_of_ble_eq_true rfl, Nat.le_of_ble_eq_true rfl⟩ dX12_stretch_79 (fun r409 kd405 ig406 rg407 lg408 H locs hw hH hp410 => ?_)
          obtain ⟨rfl, rfl, rfl, rfl, hzhp410, hrhp410⟩ := hp410
          obtain ⟨z411, rfl, hz411⟩ := hrhp410
          rw [show z403.toInt.toNat = 120 * x.toInt.toNat + (j + 2) by omega] at hz411
          have sr9 := sh_x (hz411.2 (by omega)) (by omega)
          replace sr9 : hid _ := sr9
          refine z_ge (tgt := 87) hx hb dX12_stretch_82 (by decide) (fun c82 => ?_) (fun c82 => ?_)
          · have qd := ((show (_ → _) ∧ (_ → ¬ _) from sd9).1 (by omega)).2.1
            refine lv_aload_n hx hb dX12_stretch_87 rfl (lv_at hl 2 rfl) ?_
            refine lv_iload_n hx hb dX12_stretch_88 rfl (lv_at hl 3 rfl) ?_
            refine lv_sipush (v := 288) hx hb dX12_stretch_89 (by decide) (ti_c 288 (by decide) fun z412 hz412 => ?_)
            refine r_callV (As := [.int x, .int z412]) (rest := []) C hw (t_X12_copyRowE l B D cA kd ig11 rg lg12 _ x z412 (by omega) (by omega) (i32_ne (by omega)) (hI.wp (by omega) (by omega)) hI) sv_X12_191 (hsh 49 _ rfl) rfl hl.1 rfl (Nat.le_of_ble_eq_true rfl) ⟨Nat.le_of_ble_eq_true rfl, Nat.le_of_ble_eq_true rfl⟩ ⟨Nat.le_of_ble_eq_true rfl, Nat.le_of_ble_eq_true rfl⟩ dX12_stretch_92 (fun r417 kd413 ig414 rg415 lg416 H locs hw hH hp418 => ?_)
            obtain ⟨rfl, rfl, hI, hchp418, hrhp418⟩ := hp418
            have hF : Ft B [49, 54, 55, 56, 57, 58, 59, 60, 61, 63, 64, 65, 66, 67, 68, 69, 70, 71, 72, 73, 74, 76, 77, 78] ig lg ig414 lg416 := Ft.tr hF hchp418 (by decide) (by decide)
            obtain ⟨rfl, hvhp418⟩ := hrhp418
            have hcx := CRx.toY (y := 288) hvhp418 (by omega)
            have hcr := hcx.1
            have nd : NDr B ig11 ig414 := NDr.cr hcx
            have h63 : ∀ j, ig414 (B + 63) j = ig11 (B + 63) j := fun j => hchp418.i 63 j (by decide)
            have h19 := congrArg Int32.toInt (hchp418.i 49 19 (by decide))
            have hR1 := hcx.row hrow
            have wf : WFr B ig414 288 := (hI0.row (p := x.toInt.toNat) (by omega) (by omega) hkd).copy hcr
            have f4 := CRw.f4 (q := j + 4) hcr (by omega)
            have f7 := congrArg Int32.toInt (hcr.2.2.2.1 57 (j + 4) (by decide) (by decide) (by omega))
            rw [show 120 * x.toInt.toNat + (j + 4) = (120 * x.toInt.toNat + (j + 2)) + 2 by omega] at f4 f7
            have f7 : (ig414 (B + 57) (34560 + (j + 4))).toInt = (ig11 (B + 57) (120 * x.toInt.toNat + (j + 2) + 2)).toInt := f7
            have q4 : j + 4 < 120 := by omega
            have emr : mR B ig414 (x.toInt.toNat : Int) 288 = mR B ig11 (x.toInt.toNat : Int) x.toInt.toNat := mR.ag hcr.2.1 (fun c k a b hk => hcr.2.2.2.1 c k a b hk)
            have k34 : (ig414 (B + 54) (34560 + (j + 4))).toInt = 3 := by rw [f4.1]; exact r4.1
            have e58 := congrArg Int32.toInt hcr.2.1
            have pw4 := r4.2.2.2.2
            refine lv_aload_n hx hb dX12_stretch_95 rfl (lv_at hl 2 rfl) ?_
            refine r_get C hw (hsh 49 _ rfl) fl_X12_71 (oV_r rfl (hrm (49, 11, 56) (by decide))) dX12_stretch_96 ?_
            refine lv_ldc (v := 34560) hx hb hown (hts _ kc_X12_142) dX12_stretch_99 (ti_c 34560 (by decide) fun z419 hz419 => ?_)
            refine lv_iload_n hx hb dX12_stretch_101 rfl (lv_at hl 1 rfl) ?_
            refine lv_iadd hx hb dX12_stretch_102 (tc_add fun z420 hz420 => ?_)
            first | replace hz420 := hz420 (by omega) | clear hz420
            refine lv_iconst (v := 4) hx hb dX12_stretch_103 (by decide) (ti_c 4 (by decide) fun z421 hz421 => ?_)
            refine lv_iadd hx hb dX12_stretch_104 (tc_add fun z422 hz422 => ?_)
            first | replace hz422 := hz422 (by omega) | clear hz422
            refine lv_dup2_11 hx hb dX12_stretch_105 rfl rfl ?_
            have nw : z422.toInt.toNat = 34560 + (j + 4) := by omega
            have nW : nEq z422.toInt.toNat (34560 + (j + 4)) := nw
            refine r_iald C hw (hsh 56 _ rfl) (by omega) (by omega) dX12_stretch_106 (ti_c (ig414 (B + 56) z422.toInt.toNat).toInt rfl fun z423 hz423 => ?_)
            rw [nw] at hz423
            refine lv_iload hx hb dX12_stretch_107 (lv_at hl 0 rfl) ?_
            refine z_eq (tgt := 116) hx hb dX12_stretch_109 (by decide) (fun c109 => ?_) (fun c109 => ?_)
            · refine lv_iconst (v := 0) hx hb dX12_stretch_116 (by decide) (ti_c 0 (by decide) fun z425 hz425 => ?_)
              refine lv_iadd hx hb dX12_stretch_117 (tc_add fun z426 hz426 => ?_)
              first | replace hz426 := hz426 (by omega) | clear hz426
              refine r_iast C hw (hsh 56 _ rfl) (by omega) (by omega) dX12_stretch_118 (fun H locs hH hw => ?_)
              obtain ⟨ig427, eig427⟩ : ∃ f, f = up2 ig414 (B + 56) z422.toInt.toNat z426 := ⟨_, rfl⟩
              rw [← eig427] at hw
              have hF : Ft B [49, 54, 55, 56, 57, 58, 59, 60, 61, 63, 64, 65, 66, 67, 68, 69, 70, 71, 72, 73, 74, 76, 77, 78] ig lg ig427 lg416 := by rw [eig427]; exact hF.pi (by decide)
              have hI : IM τ φ none B kd ig427 rg := by rw [eig427]; exact hI.pdr2 (Or.inr rfl) nW q4
              have wf : WFr B ig427 288 := by rw [eig427, nw]; exact WFr.uB wf k34 (by omega) (by omega)
              have k3b : (ig427 (B + 54) (34560 + (j + 4))).toInt = 3 := by rw [eig427, up2_c (by decide)]; exact k34
              have fA : (ig427 (B + 55) (34560 + (j + 4))).toInt = (ig414 (B + 55) (34560 + (j + 4))).toInt := by rw [eig427, up2_c (by decide)]
              have fB : 0 ≤ (ig427 (B + 56) (34560 + (j + 4))).toInt ∧ (ig427 (B + 56) (34560 + (j + 4))).toInt < 24 := by rw [eig427, nw, up2_eq]; omega
              have nd : NDr B ig11 ig427 := by rw [eig427]; exact nd.wr (Or.inr (Or.inr ⟨by decide, by decide, by omega, by omega⟩))
              refine lv_aload_n hx hb dX12_stretch_119 rfl (lv_at hl 2 rfl) ?_
              refine r_get C hw (hsh 49 _ rfl) fl_X12_68 (oV_r rfl (hrm (49, 10, 55) (by decide))) dX12_stretch_120 ?_
              refine lv_ldc (v := 34560) hx hb hown (hts _ kc_X12_142) dX12_stretch_123 (ti_c 34560 (by decide) fun z428 hz428 => ?_)
              refine lv_iload_n hx hb dX12_stretch_125 rfl (lv_at hl 1 rfl) ?_
              refine lv_iadd hx hb dX12_stretch_126 (tc_add fun z429 hz429 => ?_)
              first | replace hz429 := hz429 (by omega) | clear hz429
              refine lv_iconst (v := 4) hx hb dX12_stretch_127 (by decide) (ti_c 4 (by decide) fun z430 hz430 => ?_)
              refine lv_iadd hx hb dX12_stretch_128 (tc_add fun z431 hz431 => ?_)
              first | replace hz431 := hz431 (by omega) | clear hz431
              refine lv_dup2_11 hx hb dX12_stretch_129 rfl rfl ?_
              have nw2 : z431.toInt.toNat = 34560 + (j + 4) := by omega
              have nW2 : nEq z431.toInt.toNat (34560 + (j + 4)) := nw2
              refine r_iald C hw (hsh 55 _ rfl) (by omega) (by omega) dX12_stretch_130 (ti_c (ig427 (B + 55) z431.toInt.toNat).toInt rfl fun z432 hz432 => ?_)
              rw [nw2] at hz432
              refine lv_iload hx hb dX12_stretch_131 (lv_at hl 0 rfl) ?_
              refine z_eq (tgt := 140) hx hb dX12_stretch_133 (by decide) (fun c133 => ?_) (fun c133 => ?_)
              · refine lv_iconst (v := 1) hx hb dX12_stretch_140 (by decide) (ti_c 1 (by decide) fun z434 hz434 => ?_)
                refine lv_iadd hx hb dX12_stretch_141 (tc_add fun z435 hz435 => ?_)
                first | replace hz435 := hz435 (by omega) | clear hz435
                refine r_iast C hw (hsh 55 _ rfl) (by omega) (by omega) dX12_stretch_142 (fun H locs hH hw => ?_)
                obtain ⟨ig436, eig436⟩ : ∃ f, f = up2 ig427 (B + 55) z431.toInt.toNat z435 := ⟨_, rfl⟩
                rw [← eig436] at hw
                have hF : Ft B [49, 54, 55, 56, 57, 58, 59, 60, 61, 63, 64, 65, 66, 67, 68, 69, 70, 71, 72, 73, 74, 76, 77, 78] ig lg ig436 lg416 := by rw [eig436]; exact hF.pi (by decide)
                have hI : IM τ φ none B kd ig436 rg := by rw [eig436]; exact hI.pdr2 (Or.inl rfl) nW2 q4
                have wf : WFr B ig436 288 := by rw [eig436, nw2]; exact WFr.uA wf k3b (by omega) fB
                have hwp : WP B ig436 288 := fun _ => wf
                have nd : NDr B ig11 ig436 := by rw [eig436]; exact nd.wr (Or.inr (Or.inr ⟨by decide, by decide, by omega, by omega⟩))
                have hfl : RowF B ig436 288 (x.toInt.toNat : Int) ((fmO (atC σ x.toInt)).set l9 (2, (stp (fmO (atC σ x.toInt)) (l9 : Int)).2.1, (stp (fmO (atC σ x.toInt)) (l9 : Int)).2.2 + (128 * 1 + 0))) := by rw [eig436, eig427]; exact RowF.longer (n := n) (hR1.2.2.1 hk2) (by omega) (by rw [emr]; exact smt) rfl k34 (by rw [f7, f4.2.1, f4.2.2]; exact pw4.1) (by rw [f7]; exact pw4.2) nw nw2 (by omega) (by omega)
                have hux := hW.uz (x := x.toInt) (by omega)
                have hD : RowM B ig436 288 (x.toInt.toNat : Int) (fCl (stL (fmO (atC σ x.toInt)) (l9 : Int) (128 * 1 + 0))) := ⟨⟨by rw [eig436, up2_c (by decide), eig427, up2_c (by decide), hR1.1.1, hk2]; rfl, by rw [eig436, up2_c (by decide), eig427, up2_c (by decide), hR1.1.2, hux.2]; rfl⟩, by unfold RowU; rw [eig436, up2_c (by decide), up2_c (by decide), up2_c (by decide), eig427, up2_c (by decide), up2_c (by decide), up2_c (by decide)]; have q := hR1.2.1; rw [hux.1] at q; exact q, fun _ => by show RowF B _ 288 _ (stL _ _ _); rw [stL_eq smt.2.1]; exact hfl, fun w => absurd rfl w⟩
                have hM := hM9.dr hI0.i120 nd (fun j => by rw [eig436, up2_c (by decide), eig427, up2_c (by decide)]; exact h63 j) (by rw [eig436, up2_c (by decide), eig427, up2_c (by decide)]; exact h19)
                refine lv_aload_n hx hb dX12_stretch_143 rfl (lv_at hl 2 rfl) ?_
                have hI := hI.su (f := (ig436 (B + 49) 19).toInt) rfl
                refine r_callV (As := []) (rest := []) C hw (t_X12_remembers l B D cA kd ig436 rg lg416 _   hI) sv_X12_342 (hsh 49 _ rfl) rfl hl.1 rfl (Nat.le_of_ble_eq_true rfl) ⟨Nat.le_of_ble_eq_true rfl, Nat.le_of_ble_eq_true rfl⟩ ⟨Nat.le_of_ble_eq_true rfl, Nat.le_of_ble_eq_true rfl⟩ dX12_stretch_144 (fun r441 kd437 ig438 rg439 lg440 H locs hw hH hp442 => ?_)
                obtain ⟨rfl, rfl, hI, hchp442, hrhp442⟩ := hp442
                have hF : Ft B [49, 54, 55, 56, 57, 58, 59, 60, 61, 63, 64, 65, 66, 67, 68, 69, 70, 71, 72, 73, 74, 76, 77, 78] ig lg ig438 lg440 := Ft.tr hF hchp442 (by decide) (by decide)
                obtain rfl := hrhp442
                have e19 := hI.u
                have hI := hI.nu
                have hM := hM.ft hchp442 (by decide) e19
                have hwp : WP B ig438 288 := WP.ft hwp hchp442 (by decide) (by decide) (by decide) (by decide) (by decide)
                have hD := hD.ft hchp442 (by decide)
                refine lv_aload_n hx hb dX12_stretch_147 rfl (lv_at hl 2 rfl) ?_
                refine lv_iload_n hx hb dX12_stretch_148 rfl (lv_at hl 3 rfl) ?_
                refine r_callV (As := [.int x]) (rest := []) C hw (t_X12_putsE l B D cA kd ig438 rg lg440 _ x (by omega) hwp σ π hM _ hD hI) sv_X12_207 (hsh 49 _ rfl) rfl hl.1 rfl (Nat.le_of_ble_eq_true rfl) ⟨Nat.le_of_ble_eq_true rfl, Nat.le_of_ble_eq_true rfl⟩ ⟨Nat.le_of_ble_eq_true rfl, Nat.le_of_ble_eq_true rfl⟩ dX12_stretch_149 (fun r447 kd443 ig444 rg445 lg446 H locs hw hH hp448 => ?_)
                obtain ⟨rfl, rfl, hI, hchp448, hrhp448⟩ := hp448
                have hF : Ft B [49, 54, 55, 56, 57, 58, 59, 60, 61, 63, 64, 65, 66, 67, 68, 69, 70, 71, 72, 73, 74, 76, 77, 78] ig lg ig444 lg446 := Ft.tr hF hchp448 (by decide) (by decide)
                obtain ⟨rfl, hvhp448⟩ := hrhp448
                obtain ⟨hM, hU⟩ := hvhp448
                refine lv_aload_n hx hb dX12_stretch_152 rfl (lv_at hl 2 rfl) ?_
                have hI := hI.su (f := (ig444 (B + 49) 19).toInt) rfl
                refine r_callV (As := []) (rest := []) C hw (t_X12_tells l B D cA kd ig444 rg lg446 _   hI) sv_X12_345 (hsh 49 _ rfl) rfl hl.1 rfl (Nat.le_of_ble_eq_true rfl) ⟨Nat.le_of_ble_eq_true rfl, Nat.le_of_ble_eq_true rfl⟩ ⟨Nat.le_of_ble_eq_true rfl, Nat.le_of_ble_eq_true rfl⟩ dX12_stretch_153 (fun r453 kd449 ig450 rg451 lg452 H locs hw hH hp454 => ?_)
                obtain ⟨rfl, rfl, hI, hchp454, hrhp454⟩ := hp454
                have hF : Ft B [49, 54, 55, 56, 57, 58, 59, 60, 61, 63, 64, 65, 66, 67, 68, 69, 70, 71, 72, 73, 74, 76, 77, 78] ig lg ig450 lg452 := Ft.tr hF hchp454 (by decide) (by decide)
                obtain ⟨z455, rfl, hz455⟩ := hrhp454
                have e19 := hI.u
                have hI := hI.nu
                have hM := hM.ft hchp454 (by decide) e19
                have hU := hU.ft hchp454 (by decide)
                exact r_iret C hw hr hlk rfl (Nat.le_of_ble_eq_true rfl) (Nat.le_of_ble_eq_true rfl) dX12_stretch_156 ⟨rfl, rfl, hI, hF, ⟨_, rfl, (by exfalso; omega)⟩⟩
              · refine lv_iconst (v := 0) hx hb dX12_stretch_136 (by decide) (ti_c 0 (by decide) fun z456 hz456 => ?_)
                refine lv_goto (tgt := 141) hx hb dX12_stretch_137 (by decide) ?_
                refine lv_iadd hx hb dX12_stretch_141 (tc_add fun z457 hz457 => ?_)
                first | replace hz457 := hz457 (by omega) | clear hz457
                refine r_iast C hw (hsh 55 _ rfl) (by omega) (by omega) dX12_stretch_142 (fun H locs hH hw => ?_)
                obtain ⟨ig458, eig458⟩ : ∃ f, f = up2 ig427 (B + 55) z431.toInt.toNat z457 := ⟨_, rfl⟩
                rw [← eig458] at hw
                have hF : Ft B [49, 54, 55, 56, 57, 58, 59, 60, 61, 63, 64, 65, 66, 67, 68, 69, 70, 71, 72, 73, 74, 76, 77, 78] ig lg ig458 lg416 := by rw [eig458]; exact hF.pi (by decide)
                have hI : IM τ φ none B kd ig458 rg := by rw [eig458]; exact hI.pdr2 (Or.inl rfl) nW2 q4
                have wf : WFr B ig458 288 := by rw [eig458, nw2]; exact WFr.uA wf k3b (by omega) fB
                have hwp : WP B ig458 288 := fun _ => wf
                have nd : NDr B ig11 ig458 := by rw [eig458]; exact nd.wr (Or.inr (Or.inr ⟨by decide, by decide, by omega, by omega⟩))
                have hfl : RowF B ig458 288 (x.toInt.toNat : Int) ((fmO (atC σ x.toInt)).set l9 (2, (stp (fmO (atC σ x.toInt)) (l9 : Int)).2.1, (stp (fmO (atC σ x.toInt)) (l9 : Int)).2.2 + (128 * 0 + 0))) := by rw [eig458, eig427]; exact RowF.longer (n := n) (hR1.2.2.1 hk2) (by omega) (by rw [emr]; exact smt) rfl k34 (by rw [f7, f4.2.1, f4.2.2]; exact pw4.1) (by rw [f7]; exact pw4.2) nw nw2 (by omega) (by omega)
                have hux := hW.uz (x := x.toInt) (by omega)
                have hD : RowM B ig458 288 (x.toInt.toNat : Int) (fCl (stL (fmO (atC σ x.toInt)) (l9 : Int) (128 * 0 + 0))) := ⟨⟨by rw [eig458, up2_c (by decide), eig427, up2_c (by decide), hR1.1.1, hk2]; rfl, by rw [eig458, up2_c (by decide), eig427, up2_c (by decide), hR1.1.2, hux.2]; rfl⟩, by unfold RowU; rw [eig458, up2_c (by decide), up2_c (by decide), up2_c (by decide), eig427, up2_c (by decide), up2_c (by decide), up2_c (by decide)]; have q := hR1.2.1; rw [hux.1] at q; exact q, fun _ => by show RowF B _ 288 _ (stL _ _ _); rw [stL_eq smt.2.1]; exact hfl, fun w => absurd rfl w⟩
                have hM := hM9.dr hI0.i120 nd (fun j => by rw [eig458, up2_c (by decide), eig427, up2_c (by decide)]; exact h63 j) (by rw [eig458, up2_c (by decide), eig427, up2_c (by decide)]; exact h19)
                refine lv_aload_n hx hb dX12_stretch_143 rfl (lv_at hl 2 rfl) ?_
                have hI := hI.su (f := (ig458 (B + 49) 19).toInt) rfl
                refine r_callV (As := []) (rest := []) C hw (t_X12_remembers l B D cA kd ig458 rg lg416 _   hI) sv_X12_342 (hsh 49 _ rfl) rfl hl.1 rfl (Nat.le_of_ble_eq_true rfl) ⟨Nat.le_of_ble_eq_true rfl, Nat.le_of_ble_eq_true rfl⟩ ⟨Nat.le_of_ble_eq_true rfl, Nat.le_of_ble_eq_true rfl⟩ dX12_stretch_144 (fun r463 kd459 ig460 rg461 lg462 H locs hw hH hp464 => ?_)
                obtain ⟨rfl, rfl, hI, hchp464, hrhp464⟩ := hp464
                have hF : Ft B [49, 54, 55, 56, 57, 58, 59, 60, 61, 63, 64, 65, 66, 67, 68, 69, 70, 71, 72, 73, 74, 76, 77, 78] ig lg ig460 lg462 := Ft.tr hF hchp464 (by decide) (by decide)
                obtain rfl := hrhp464
                have e19 := hI.u
                have hI := hI.nu
                have hM := hM.ft hchp464 (by decide) e19
                have hwp : WP B ig460 288 := WP.ft hwp hchp464 (by decide) (by decide) (by decide) (by decide) (by decide)
                have hD := hD.ft hchp464 (by decide)
                refine lv_aload_n hx hb dX12_stretch_147 rfl (lv_at hl 2 rfl) ?_
                refine lv_iload_n hx hb dX12_stretch_148 rfl (lv_at hl 3 rfl) ?_
                refine r_callV (As := [.int x]) (rest := []) C hw (t_X12_putsE l B D cA kd ig460 rg lg462 _ x (by omega) hwp σ π hM _ hD hI) sv_X12_207 (hsh 49 _ rfl) rfl hl.1 rfl (Nat.le_of_ble_eq_true rfl) ⟨Nat.le_of_ble_eq_true rfl, Nat.le_of_ble_eq_true rfl⟩ ⟨Nat.le_of_ble_eq_true rfl, Nat.le_of_ble_eq_true rfl⟩ dX12_stretch_149 (fun r469 kd465 ig466 rg467 lg468 H locs hw hH hp470 => ?_)
                obtain ⟨rfl, rfl, hI, hchp470, hrhp470⟩ := hp470
                have hF : Ft B [49, 54, 55, 56, 57, 58, 59, 60, 61, 63, 64, 65, 66, 67, 68, 69, 70, 71, 72, 73, 74, 76, 77, 78] ig lg ig466 lg468 := Ft.tr hF hchp470 (by decide) (by decide)
                obtain ⟨rfl, hvhp470⟩ := hrhp470
                obtain ⟨hM, hU⟩ := hvhp470
                refine lv_aload_n hx hb dX12_stretch_152 rfl (lv_at hl 2 rfl) ?_
                have hI := hI.su (f := (ig466 (B + 49) 19).toInt) rfl
                refine r_callV (As := []) (rest := []) C hw (t_X12_tells l B D cA kd ig466 rg lg468 _   hI) sv_X12_345 (hsh 49 _ rfl) rfl hl.1 rfl (Nat.le_of_ble_eq_true rfl) ⟨Nat.le_of_ble_eq_true rfl, Nat.le_of_ble_eq_true rfl⟩ ⟨Nat.le_of_ble_eq_true rfl, Nat.le_of_ble_eq_true rfl⟩ dX12_stretch_153 (fun r475 kd471 ig472 rg473 lg474 H locs hw hH hp476 => ?_)
                obtain ⟨rfl, rfl, hI, hchp476, hrhp476⟩ := hp476
                have hF : Ft B [49, 54, 55, 56, 57, 58, 59, 60, 61, 63, 64, 65, 66, 67, 68, 69, 70, 71, 72, 73, 74, 76, 77, 78] ig lg ig472 lg474 := Ft.tr hF hchp476 (by decide) (by decide)
                obtain ⟨z477, rfl, hz477⟩ := hrhp476
                have e19 := hI.u
                have hI := hI.nu
                have hM := hM.ft hchp476 (by decide) e19
                have hU := hU.ft hchp476 (by decide)
                exact r_iret C hw hr hlk rfl (Nat.le_of_ble_eq_true rfl) (Nat.le_of_ble_eq_true rfl) dX12_stretch_156 ⟨rfl, rfl, hI, hF, ⟨_, rfl, (by exfalso; omega)⟩⟩
            · refine lv_iconst (v := 1) hx hb dX12_stretch_112 (by decide) (ti_c 1 (by decide) fun z478 hz478 => ?_)
              refine lv_goto (tgt := 117) hx hb dX12_stretch_113 (by decide) ?_
              refine lv_iadd hx hb dX12_stretch_117 (tc_add fun z479 hz479 => ?_)
              first | replace hz479 := hz479 (by omega) | clear hz479
              refine r_iast C hw (hsh 56 _ rfl) (by omega) (by omega) dX12_stretch_118 (fun H locs hH hw => ?_)
              obtain ⟨ig480, eig480⟩ : ∃ f, f = up2 ig414 (B + 56) z422.toInt.toNat z479 := ⟨_, rfl⟩
              rw [← eig480] at hw
              have hF : Ft B [49, 54, 55, 56, 57, 58, 59, 60, 61, 63, 64, 65, 66, 67, 68, 69, 70, 71, 72, 73, 74, 76, 77, 78] ig lg ig480 lg416 := by rw [eig480]; exact hF.pi (by decide)
              have hI : IM τ φ none B kd ig480 rg := by rw [eig480]; exact hI.pdr2 (Or.inr rfl) nW q4
              have wf : WFr B ig480 288 := by rw [eig480, nw]; exact WFr.uB wf k34 (by omega) (by omega)
              have k3b : (ig480 (B + 54) (34560 + (j + 4))).toInt = 3 := by rw [eig480, up2_c (by decide)]; exact k34
              have fA : (ig480 (B + 55) (34560 + (j + 4))).toInt = (ig414 (B + 55) (34560 + (j + 4))).toInt := by rw [eig480, up2_c (by decide)]
              have fB : 0 ≤ (ig480 (B + 56) (34560 + (j + 4))).toInt ∧ (ig480 (B + 56) (34560 + (j + 4))).toInt < 24 := by rw [eig480, nw, up2_eq]; omega
              have nd : NDr B ig11 ig480 := by rw [eig480]; exact nd.wr (Or.inr (Or.inr ⟨by decide, by decide, by omega, by omega⟩))
              refine lv_aload_n hx hb dX12_stretch_119 rfl (lv_at hl 2 rfl) ?_
              refine r_get C hw (hsh 49 _ rfl) fl_X12_68 (oV_r rfl (hrm (49, 10, 55) (by decide))) dX12_stretch_120 ?_
              refine lv_ldc (v := 34560) hx hb hown (hts _ kc_X12_142) dX12_stretch_123 (ti_c 34560 (by decide) fun z481 hz481 => ?_)
              refine lv_iload_n hx hb dX12_stretch_125 rfl (lv_at hl 1 rfl) ?_
              refine lv_iadd hx hb dX12_stretch_126 (tc_add fun z482 hz482 => ?_)
              first | replace hz482 := hz482 (by omega) | clear hz482
              refine lv_iconst (v := 4) hx hb dX12_stretch_127 (by decide) (ti_c 4 (by decide) fun z483 hz483 => ?_)
              refine lv_iadd hx hb dX12_stretch_128 (tc_add fun z484 hz484 => ?_)
              first | replace hz484 := hz484 (by omega) | clear hz484
              refine lv_dup2_11 hx hb dX12_stretch_129 rfl rfl ?_
              have nw2 : z484.toInt.toNat = 34560 + (j + 4) := by omega
              have nW2 : nEq z484.toInt.toNat (34560 + (j + 4)) := nw2
              refine r_iald C hw (hsh 55 _ rfl) (by omega) (by omega) dX12_stretch_130 (ti_c (ig480 (B + 55) z484.toInt.toNat).toInt rfl fun z485 hz485 => ?_)
              rw [nw2] at hz485
              refine lv_iload hx hb dX12_stretch_131 (lv_at hl 0 rfl) ?_
              refine z_eq (tgt := 140) hx hb dX12_stretch_133 (by decide) (fun c133 => ?_) (fun c133 => ?_)
              · refine lv_iconst (v := 1) hx hb dX12_stretch_140 (by decide) (ti_c 1 (by decide) fun z487 hz487 => ?_)
                refine lv_iadd hx hb dX12_stretch_141 (tc_add fun z488 hz488 => ?_)
                first | replace hz488 := hz488 (by omega) | clear hz488
                refine r_iast C hw (hsh 55 _ rfl) (by omega) (by omega) dX12_stretch_142 (fun H locs hH hw => ?_)
                obtain ⟨ig489, eig489⟩ : ∃ f, f = up2 ig480 (B + 55) z484.toInt.toNat z488 := ⟨_, rfl⟩
                rw [← eig489] at hw
                have hF : Ft B [49, 54, 55, 56, 57, 58, 59, 60, 61, 63, 64, 65, 66, 67, 68, 69, 70, 71, 72, 73, 74, 76, 77, 78] ig lg ig489 lg416 := by rw [eig489]; exact hF.pi (by decide)
                have hI : IM τ φ none B kd ig489 rg := by rw [eig489]; exact hI.pdr2 (Or.inl rfl) nW2 q4
                have wf : WFr B ig489 288 := by rw [eig489, nw2]; exact WFr.uA wf k3b (by omega) fB
                have hwp : WP B ig489 288 := fun _ => wf
                have nd : NDr B ig11 ig489 := by rw [eig489]; exact nd.wr (Or.inr (Or.inr ⟨by decide, by decide, by omega, by omega⟩))
                have hfl : RowF B ig489 288 (x.toInt.toNat : Int) ((fmO (atC σ x.toInt)).set l9 (2, (stp (fmO (atC σ x.toInt)) (l9 : Int)).2.1, (stp (fmO (atC σ x.toInt)) (l9 : Int)).2.2 + (128 * 1 + 1))) := by rw [eig489, eig480]; exact RowF.longer (n := n) (hR1.2.2.1 hk2) (by omega) (by rw [emr]; exact smt) rfl k34 (by rw [f7, f4.2.1, f4.2.2]; exact pw4.1) (by rw [f7]; exact pw4.2) nw nw2 (by omega) (by omega)
                have hux := hW.uz (x := x.toInt) (by omega)
                have hD : RowM B ig489 288 (x.toInt.toNat : Int) (fCl (stL (fmO (atC σ x.toInt)) (l9 : Int) (128 * 1 + 1))) := ⟨⟨by rw [eig489, up2_c (by decide), eig480, up2_c (by decide), hR1.1.1, hk2]; rfl, by rw [eig489, up2_c (by decide), eig480, up2_c (by decide), hR1.1.2, hux.2]; rfl⟩, by unfold RowU; rw [eig489, up2_c (by decide), up2_c (by decide), up2_c (by decide), eig480, up2_c (by decide), up2_c (by decide), up2_c (by decide)]; have q := hR1.2.1; rw [hux.1] at q; exact q, fun _ => by show RowF B _ 288 _ (stL _ _ _); rw [stL_eq smt.2.1]; exact hfl, fun w => absurd rfl w⟩
                have hM := hM9.dr hI0.i120 nd (fun j => by rw [eig489, up2_c (by decide), eig480, up2_c (by decide)]; exact h63 j) (by rw [eig489, up2_c (by decide), eig480, up2_c (by decide)]; exact h19)
                refine lv_aload_n hx hb dX12_stretch_143 rfl (lv_at hl 2 rfl) ?_
                have hI := hI.su (f := (ig489 (B + 49) 19).toInt) rfl
                refine r_callV (As := []) (rest := []) C hw (t_X12_remembers l B D cA kd ig489 rg lg416 _   hI) sv_X12_342 (hsh 49 _ rfl) rfl hl.1 rfl (Nat.le_of_ble_eq_true rfl) ⟨Nat.le_of_ble_eq_true rfl, Nat.le_of_ble_eq_true rfl⟩ ⟨Nat.le_of_ble_eq_true rfl, Nat.le_of_ble_eq_true rfl⟩ dX12_stretch_144 (fun r494 kd490 ig491 rg492 lg493 H locs hw hH hp495 => ?_)
                obtain ⟨rfl, rfl, hI, hchp495, hrhp495⟩ := hp495
                have hF : Ft B [49, 54, 55, 56, 57, 58, 59, 60, 61, 63, 64, 65, 66, 67, 68, 69, 70, 71, 72, 73, 74, 76, 77, 78] ig lg ig491 lg493 := Ft.tr hF hchp495 (by decide) (by decide)
                obtain rfl := hrhp495
                have e19 := hI.u
                have hI := hI.nu
                have hM := hM.ft hchp495 (by decide) e19
                have hwp : WP B ig491 288 := WP.ft hwp hchp495 (by decide) (by decide) (by decide) (by decide) (by decide)
                have hD := hD.ft hchp495 (by decide)
                refine lv_aload_n hx hb dX12_stretch_147 rfl (lv_at hl 2 rfl) ?_
                refine lv_iload_n hx hb dX12_stretch_148 rfl (lv_at hl 3 rfl) ?_
                refine r_callV (As := [.int x]) (rest := []) C hw (t_X12_putsE l B D cA kd ig491 rg lg493 _ x (by omega) hwp σ π hM _ hD hI) sv_X12_207 (hsh 49 _ rfl) rfl hl.1 rfl (Nat.le_of_ble_eq_true rfl) ⟨Nat.le_of_ble_eq_true rfl, Nat.le_of_ble_eq_true rfl⟩ ⟨Nat.le_of_ble_eq_true rfl, Nat.le_of_ble_eq_true rfl⟩ dX12_stretch_149 (fun r500 kd496 ig497 rg498 lg499 H locs hw hH hp501 => ?_)
                obtain ⟨rfl, rfl, hI, hchp501, hrhp501⟩ := hp501
                have hF : Ft B [49, 54, 55, 56, 57, 58, 59, 60, 61, 63, 64, 65, 66, 67, 68, 69, 70, 71, 72, 73, 74, 76, 77, 78] ig lg ig497 lg499 := Ft.tr hF hchp501 (by decide) (by decide)
                obtain ⟨rfl, hvhp501⟩ := hrhp501
                obtain ⟨hM, hU⟩ := hvhp501
                refine lv_aload_n hx hb dX12_stretch_152 rfl (lv_at hl 2 rfl) ?_
                have hI := hI.su (f := (ig497 (B + 49) 19).toInt) rfl
                refine r_callV (As := []) (rest := []) C hw (t_X12_tells l B D cA kd ig497 rg lg499 _   hI) sv_X12_345 (hsh 49 _ rfl) rfl hl.1 rfl (Nat.le_of_ble_eq_true rfl) ⟨Nat.le_of_ble_eq_true rfl, Nat.le_of_ble_eq_true rfl⟩ ⟨Nat.le_of_ble_eq_true rfl, Nat.le_of_ble_eq_true rfl⟩ dX12_stretch_153 (fun r506 kd502 ig503 rg504 lg505 H locs hw hH hp507 => ?_)
                obtain ⟨rfl, rfl, hI, hchp507, hrhp507⟩ := hp507
                have hF : Ft B [49, 54, 55, 56, 57, 58, 59, 60, 61, 63, 64, 65, 66, 67, 68, 69, 70, 71, 72, 73, 74, 76, 77, 78] ig lg ig503 lg505 := Ft.tr hF hchp507 (by decide) (by decide)
                obtain ⟨z508, rfl, hz508⟩ := hrhp507
                have e19 := hI.u
                have hI := hI.nu
                have hM := hM.ft hchp507 (by decide) e19
                have hU := hU.ft hchp507 (by decide)
                exact r_iret C hw hr hlk rfl (Nat.le_of_ble_eq_true rfl) (Nat.le_of_ble_eq_true rfl) dX12_stretch_156 ⟨rfl, rfl, hI, hF, ⟨_, rfl, (by exfalso; omega)⟩⟩
              · refine lv_iconst (v := 0) hx hb dX12_stretch_136 (by decide) (ti_c 0 (by decide) fun z509 hz509 => ?_)
                refine lv_goto (tgt := 141) hx hb dX12_stretch_137 (by decide) ?_
                refine lv_iadd hx hb dX12_stretch_141 (tc_add fun z510 hz510 => ?_)
                first | replace hz510 := hz510 (by omega) | clear hz510
                refine r_iast C hw (hsh 55 _ rfl) (by omega) (by omega) dX12_stretch_142 (fun H locs hH hw => ?_)
                obtain ⟨ig511, eig511⟩ : ∃ f, f = up2 ig480 (B + 55) z484.toInt.toNat z510 := ⟨_, rfl⟩
                rw [← eig511] at hw
                have hF : Ft B [49, 54, 55, 56, 57, 58, 59, 60, 61, 63, 64, 65, 66, 67, 68, 69, 70, 71, 72, 73, 74, 76, 77, 78] ig lg ig511 lg416 := by rw [eig511]; exact hF.pi (by decide)
                have hI : IM τ φ none B kd ig511 rg := by rw [eig511]; exact hI.pdr2 (Or.inl rfl) nW2 q4
                have wf : WFr B ig511 288 := by rw [eig511, nw2]; exact WFr.uA wf k3b (by omega) fB
                have hwp : WP B ig511 288 := fun _ => wf
                have nd : NDr B ig11 ig511 := by rw [eig511]; exact nd.wr (Or.inr (Or.inr ⟨by decide, by decide, by omega, by omega⟩))
                have hfl : RowF B ig511 288 (x.toInt.toNat : Int) ((fmO (atC σ x.toInt)).set l9 (2, (stp (fmO (atC σ x.toInt)) (l9 : Int)).2.1, (stp (fmO (atC σ x.toInt)) (l9 : Int)).2.2 + (128 * 0 + 1))) := by rw [eig511, eig480]; exact RowF.longer (n := n) (hR1.2.2.1 hk2) (by omega) (by rw [emr]; exact smt) rfl k34 (by rw [f7, f4.2.1, f4.2.2]; exact pw4.1) (by rw [f7]; exact pw4.2) nw nw2 (by omega) (by omega)
                have hux := hW.uz (x := x.toInt) (by omega)
                have hD : RowM B ig511 288 (x.toInt.toNat : Int) (fCl (stL (fmO (atC σ x.toInt)) (l9 : Int) (128 * 0 + 1))) := ⟨⟨by rw [eig511, up2_c (by decide), eig480, up2_c (by decide), hR1.1.1, hk2]; rfl, by rw [eig511, up2_c (by decide), eig480, up2_c (by decide), hR1.1.2, hux.2]; rfl⟩, by unfold RowU; rw [eig511, up2_c (by decide), up2_c (by decide), up2_c (by decide), eig480, up2_c (by decide), up2_c (by decide), up2_c (by decide)]; have q := hR1.2.1; rw [hux.1] at q; exact q, fun _ => by show RowF B _ 288 _ (stL _ _ _); rw [stL_eq smt.2.1]; exact hfl, fun w => absurd rfl w⟩
                have hM := hM9.dr hI0.i120 nd (fun j => by rw [eig511, up2_c (by decide), eig480, up2_c (by decide)]; exact h63 j) (by rw [eig511, up2_c (by decide), eig480, up2_c (by decide)]; exact h19)
                refine lv_aload_n hx hb dX12_stretch_143 rfl (lv_at hl 2 rfl) ?_
                have hI := hI.su (f := (ig511 (B + 49) 19).toInt) rfl
                refine r_callV (As := []) (rest := []) C hw (t_X12_remembers l B D cA kd ig511 rg lg416 _   hI) sv_X12_342 (hsh 49 _ rfl) rfl hl.1 rfl (Nat.le_of_ble_eq_true rfl) ⟨Nat.le_of_ble_eq_true rfl, Nat.le_of_ble_eq_true rfl⟩ ⟨Nat.le_of_ble_eq_true rfl, Nat.le_of_ble_eq_true rfl⟩ dX12_stretch_144 (fun r516 kd512 ig513 rg514 lg515 H locs hw hH hp517 => ?_)
                obtain ⟨rfl, rfl, hI, hchp517, hrhp517⟩ := hp517
                have hF : Ft B [49, 54, 55, 56, 57, 58, 59, 60, 61, 63, 64, 65, 66, 67, 68, 69, 70, 71, 72, 73, 74, 76, 77, 78] ig lg ig513 lg515 := Ft.tr hF hchp517 (by decide) (by decide)
                obtain rfl := hrhp517
                have e19 := hI.u
                have hI := hI.nu
                have hM := hM.ft hchp517 (by decide) e19
                have hwp : WP B ig513 288 := WP.ft hwp hchp517 (by decide) (by decide) (by decide) (by decide) (by decide)
                have hD := hD.ft hchp517 (by decide)
                refine lv_aload_n hx hb dX12_stretch_147 rfl (lv_at hl 2 rfl) ?_
                refine lv_iload_n hx hb dX12_stretch_148 rfl (lv_at hl 3 rfl) ?_
                refine r_callV (As := [.int x]) (rest := []) C hw (t_X12_putsE l B D cA kd ig513 rg lg515 _ x (by omega) hwp σ π hM _ hD hI) sv_X12_207 (hsh 49 _ rfl) rfl hl.1 rfl (Nat.le_of_ble_eq_true rfl) ⟨Nat.le_of_ble_eq_true rfl, Nat.le_of_ble_eq_true rfl⟩ ⟨Nat.le_of_ble_eq_true rfl, Nat.le_of_ble_eq_true rfl⟩ dX12_stretch_149 (fun r522 kd518 ig519 rg520 lg521 H locs hw hH hp523 => ?_)
                obtain ⟨rfl, rfl, hI, hchp523, hrhp523⟩ := hp523
                have hF : Ft B [49, 54, 55, 56, 57, 58, 59, 60, 61, 63, 64, 65, 66, 67, 68, 69, 70, 71, 72, 73, 74, 76, 77, 78] ig lg ig519 lg521 := Ft.tr hF hchp523 (by decide) (by decide)
                obtain ⟨rfl, hvhp523⟩ := hrhp523
                obtain ⟨hM, hU⟩ := hvhp523
                refine lv_aload_n hx hb dX12_stretch_152 rfl (lv_at hl 2 rfl) ?_
                have hI := hI.su (f := (ig519 (B + 49) 19).toInt) rfl
                refine r_callV (As := []) (rest := []) C hw (t_X12_tells l B D cA kd ig519 rg lg521 _   hI) sv_X12_345 (hsh 49 _ rfl) rfl hl.1 rfl (Nat.le_of_ble_eq_true rfl) ⟨Nat.le_of_ble_eq_true rfl, Nat.le_of_ble_eq_true rfl⟩ ⟨Nat.le_of_ble_eq_true rfl, Nat.le_of_ble_eq_true rfl⟩ dX12_stretch_153 (fun r528 kd524 ig525 rg526 lg527 H locs hw hH hp529 => ?_)
                obtain ⟨rfl, rfl, hI, hchp529, hrhp529⟩ := hp529
                have hF : Ft B [49, 54, 55, 56, 57, 58, 59, 60, 61, 63, 64, 65, 66, 67, 68, 69, 70, 71, 72, 73, 74, 76, 77, 78] ig lg ig525 lg527 := Ft.tr hF hchp529 (by decide) (by decide)
                obtain ⟨z530, rfl, hz530⟩ := hrhp529
                have e19 := hI.u
                have hI := hI.nu
                have hM := hM.ft hchp529 (by decide) e19
                have hU := hU.ft hchp529 (by decide)
                exact r_iret C hw hr hlk rfl (Nat.le_of_ble_eq_true rfl) (Nat.le_of_ble_eq_true rfl) dX12_stretch_156 ⟨rfl, rfl, hI, hF, ⟨_, rfl, ⟨_, _, hM, hU, ⟨some (stL (fmO (atC σ x.toInt)) (l9 : Int) (128 * 0 + 1)), Or.inr ⟨hk2, _, (l9 : Int), hU9.far, hsl, Or.inl ⟨Iff.mpr iB ((show (_ → _) ∧ (_ → ¬ _) from sd9).1 (by omega)), rfl⟩⟩, Or.inr ⟨_, rfl, rfl, rfl⟩⟩⟩⟩⟩
          · refine lv_iconst (v := (-1)) hx hb dX12_stretch_85 (by decide) (ti_c (-1) (by decide) fun z531 hz531 => ?_)
            exact r_iret C hw hr hlk rfl (Nat.le_of_ble_eq_true rfl) (Nat.le_of_ble_eq_true rfl) dX12_stretch_86 ⟨rfl, rfl, hI, hF, ⟨_, rfl, (by exfalso; omega)⟩⟩
    · refine lv_iconst (v := (-1)) hx hb dX12_stretch_37 (by decide) (ti_c (-1) (by decide) fun z532 hz532 => ?_)
      exact r_iret C hw hr hlk rfl (Nat.le_of_ble_eq_true rfl) (Nat.le_of_ble_eq_true rfl) dX12_stretch_38 ⟨rfl, rfl, hI, hF, ⟨_, rfl, ⟨_, _, hM, hU, (by rcases js with ⟨-, w⟩ | ⟨hon, hk2, n, hn, hsi⟩; exact ⟨none, Or.inl ⟨w, rfl⟩, Or.inl ⟨rfl, rfl, rfl⟩⟩; (have zm := hsi.neg (by omega); have hrow := hM.1 x.toInt.toNat (by omega); rw [← atC_on (σ := σ) (x := x.toInt) (by omega)] at hrow; obtain ⟨n2, q1, q2, q3⟩ := (hrow.2.2.1 hk2).1; rw [show n = n2 by omega] at hsi; rcases sum_match q3 hsi with ⟨-, w⟩ | ⟨j, l, w, -⟩; exact ⟨none, Or.inr ⟨hk2, _, -1, hU.far, w, Or.inr (Or.inr ⟨shB.no stp_m1, shR.no stp_m1, rfl⟩)⟩, Or.inl ⟨rfl, rfl, rfl⟩⟩; omega))⟩⟩⟩
  refine z_eq (tgt := 31) hx hb dX12_stretch_9 (by decide) (fun c9 => ?_) (fun c9 => ?_)
  · refine lv_iconst (v := (-1)) hx hb dX12_stretch_31 (by decide) (ti_c (-1) (by decide) fun z533 hz533 => ?_)
    exact J32 ls H locs ig2 lg z533 (lv_sub hl [0, 1] rfl) hw hI hF (hM) (hU) (Or.inl ⟨by omega, by rw [atC_off (by omega)]; decide⟩)
  · refine lv_aload_n hx hb dX12_stretch_12 rfl (lv_at hl 0 rfl) ?_
    refine r_get C hw (hsh 49 _ rfl) fl_X12_80 (oV_r rfl (hrm (49, 15, 59) (by decide))) dX12_stretch_13 ?_
    refine lv_iload_n hx hb dX12_stretch_16 rfl (lv_at hl 1 rfl) ?_
    refine r_iald C hw (hsh 59 _ rfl) (by omega) (by omega) dX12_stretch_17 (ti_c (ig2 (B + 59) x.toInt.toNat).toInt rfl fun z534 hz534 => ?_)
    have kd9 : z534.toInt = kdO (atC σ x.toInt) := by rw [hz534]; first | exact hM.kdx (x := x.toInt) (by omega) | exact hM0.kdx (x := x.toInt) (by omega)
    refine lv_iconst (v := 2) hx hb dX12_stretch_18 (by decide) (ti_c 2 (by decide) fun z536 hz536 => ?_)
    refine b_ne (tgt := 31) hx hb dX12_stretch_19 (by decide) (fun c19 => ?_) (fun c19 => ?_)
    · refine lv_iconst (v := (-1)) hx hb dX12_stretch_31 (by decide) (ti_c (-1) (by decide) fun z537 hz537 => ?_)
      exact J32 ls H locs ig2 lg z537 (lv_sub hl [0, 1] rfl) hw hI hF (hM) (hU) (Or.inl ⟨by omega, by omega⟩)
    · have kk9 : kdO (atC σ x.toInt) = 2 := by omega
      obtain ⟨n9, hn9⟩ : ∃ n : Nat, (ig2 (B + 58) x.toInt.toNat).toInt = (n : Int) := ⟨(ig2 (B + 58) x.toInt.toNat).toInt.toNat, by have q := hI.its (j := x.toInt.toNat) (by omega); omega⟩
      refine lv_aload_n hx hb dX12_stretch_22 rfl (lv_at hl 0 rfl) ?_
      refine lv_iload_n hx hb dX12_stretch_23 rfl (lv_at hl 1 rfl) ?_
      refine lv_iload_n hx hb dX12_stretch_24 rfl (lv_at hl 2 rfl) ?_
      refine r_callV (As := [.int x, .int y]) (rest := []) C hw (t_X12_sumAtE l B D cA kd ig2 rg lg _ x y (by omega) n9 hn9 hI) sv_X12_348 (hsh 49 _ rfl) rfl hl.1 rfl (Nat.le_of_ble_eq_true rfl) ⟨Nat.le_of_ble_eq_true rfl, Nat.le_of_ble_eq_true rfl⟩ ⟨Nat.le_of_ble_eq_true rfl, Nat.le_of_ble_eq_true rfl⟩ dX12_stretch_25 (fun r542 kd538 ig539 rg540 lg541 H locs hw hH hp543 => ?_)
      obtain ⟨rfl, rfl, rfl, rfl, hzhp543, hrhp543⟩ := hp543
      obtain ⟨z544, rfl, hz544⟩ := hrhp543
      have sm9 := hz544
      refine lv_goto (tgt := 32) hx hb dX12_stretch_28 (by decide) ?_
      exact J32 ls H locs ig2 lg z544 (lv_sub hl [0, 1] rfl) hw hI hF (hM) (hU) (Or.inr ⟨by omega, kk9, n9, hn9, sm9⟩)
