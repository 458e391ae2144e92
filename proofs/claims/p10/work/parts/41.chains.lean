theorem sMu.of {K : Nat → Int} {a : Nat} (h : K a = 42 ∨ K a = 47) : sMu K a := h
theorem sAd.of {K : Nat → Int} {a : Nat} (h : K a = 43 ∨ K a = 45) : sAd K a := h

set_option maxHeartbeats 4000000 in
set_option maxRecDepth 100000 in
theorem t_X12_readProduct {υ : Option Int} {τ : Tp} (l : Launch) (B : Nat) (D : va_G) (cA : Nat → ClassId) (kd : sK) (ig : sI) (rg : sR) (lg : sG) (sz : Nat) (d : Nat) (hP : RX12_readPart τ υ l B D cA d) (N : Nat) (hpv : PV B N ig) (hmt : MT B N τ ig lg) (hdp : (ig (B + 49) 14).toInt = 8 - (d : Int) ∧ d ≤ 8) (hI : IM [] none υ B kd ig rg) : MC l B D cA yX12_readProduct cX12_readProduct 1 none (rL (3 * d + 4) 0 0) [.ref (B + 49)] kd ig rg lg sz (PM [] none υ B [49, 54, 55, 56, 57, 58] kd ig rg lg (fun r ig' lg' => (r = none ∧ (PV B N ig' ∧ PR B ig ig' ∧ PQ gProd B d (ig (B + 58) 288).toInt.toNat ig' ∧ FS (pProd (tK τ) (tV τ) (tS τ) d) (ig (B + 49) 8).toInt (ig (B + 49) 7).toInt (ig' (B + 49) 8).toInt (ig' (B + 49) 7).toInt ∧ TRk B τ ig ig')))) := by
  refine MC.of (own := RX12) (by decide +kernel) rfl (Nat.le_of_ble_eq_true rfl) ?_
  intro p e s m args below meth c ls C hr hlk hnm hw hsz hl
  have hx := C.1.1
  have hb := C.1.2.1
  have hown := C.1.2.2.2.1
  have hts := C.1.2.2.2.2
  have hl : lv_has ls 1 [(0, .ref (B + 49))] := hl
  have hF : Ft B [49, 54, 55, 56, 57, 58] ig lg ig lg := Ft.rf
  have hsh := hI.sh
  have hrm := hI.rm
  have pv := hpv
  have mt := hmt
  obtain ⟨hps, hat, hfa, hit, hN⟩ := hpv
  refine lv_aload_n hx hb dX12_readProduct_0 rfl (lv_at hl 0 rfl) ?_
  refine r_callV (As := []) (rest := []) C hw (hP kd ig rg lg _  N pv mt (by omega) hI) sv_X12_161 (hsh 49 _ rfl) rfl hl.1 rfl (Nat.le_of_ble_eq_true rfl) ⟨by simp only [rL]; omega, by simp only [rL]; omega⟩ ⟨Nat.le_of_ble_eq_true rfl, Nat.le_of_ble_eq_true rfl⟩ dX12_readProduct_1 (fun r5 kd1 ig2 rg3 lg4 H locs hw hH hp6 => ?_)
  obtain ⟨rfl, rfl, hI, hchp6, hrhp6⟩ := hp6
  have hF : Ft B [49, 54, 55, 56, 57, 58] ig lg ig2 lg4 := Ft.tr hF hchp6 (by decide) (by decide)
  obtain ⟨rfl, hvhp6⟩ := hrhp6
  obtain ⟨pv, p1, q1, fs1, trk⟩ := hvhp6
  have pr := p1
  have dpe := p1.2.2.2.1
  have pq : PQ gProd B d (ig (B + 58) 288).toInt.toNat ig2 := fun q => (q1 q).one
  have fc : FC1 (pPart (tK τ) (tV τ) (tS τ) d) (sMu (tK τ)) (ig (B + 49) 8).toInt (ig (B + 49) 7).toInt (ig2 (B + 49) 8).toInt (ig2 (B + 49) 7).toInt := FC1.one fs1
  have mt := MT.ft mt hchp6 (by decide)
  have pvn := pv
  obtain ⟨hps, hat, hfa, hit, hN⟩ := pvn
  have L4 : ∀ (n : Nat) (ls : Array Slot) (H : Heap) (locs : List Loc) (ig7 : sI) (lg8 : sG) , lv_has ls 1 [(0, .ref (B + 49))] → WD B D cA s.heap kd ig7 rg lg8 H locs → IM [] none υ B kd ig7 rg → Ft B [49, 54, 55, 56, 57, 58] ig lg ig7 lg8 → (PV B N ig7) → (PR B ig ig7) → (PQ gProd B d (ig (B + 58) 288).toInt.toNat ig7) → ((ig7 (B + 49) 14).toInt = 8 - (d : Int)) → ((ig7 (B + 49) 7).toInt ≤ (N : Int)) → (MT B N τ ig7 lg8) → (FC1 (pPart (tK τ) (tV τ) (tS τ) d) (sMu (tK τ)) (ig (B + 49) 8).toInt (ig (B + 49) 7).toInt (ig7 (B + 49) 8).toInt (ig7 (B + 49) 7).toInt) → (TRk B τ ig ig7) → (N : Int) - (ig7 (B + 49) 7).toInt < (n : Int) → W p l e (rL (3 * d + 4) 0 0) s m args below meth c H locs 0 0 (MQ below (QcW B D cA (PM [] none υ B [49, 54, 55, 56, 57, 58] kd ig rg lg (fun r ig' lg' => (r = none ∧ (PV B N ig' ∧ PR B ig ig' ∧ PQ gProd B d (ig (B + 58) 288).toInt.toNat ig' ∧ FS (pProd (tK τ) (tV τ) (tS τ) d) (ig (B + 49) 8).toInt (ig (B + 49) 7).toInt (ig' (B + 49) 8).toInt (ig' (B + 49) 7).toInt ∧ TRk B τ ig ig'))))) args s 0 0 (fun q => B ≤ q)) (F0 m 4 ls []) := by
    intro n4
    induction n4 with
    | zero => intro ls H locs ig7 lg8 hl hw hI hF g4_0 g4_1 g4_2 g4_3 g4_4 g4_5 g4_6 g4_7 hmu; exact absurd hmu (by omega)
    | succ n4 ih4 =>
      intro ls H locs ig7 lg8 hl hw hI hF g4_0 g4_1 g4_2 g4_3 g4_4 g4_5 g4_6 g4_7 hmu
      have pv := g4_0
      have pr := g4_1
      have pq := g4_2
      have mt := g4_5
      have fc := g4_6
      have trk := g4_7
      have pvn := pv
      obtain ⟨hps, hat, hfa, hit, hN⟩ := pvn
      refine lv_aload_n hx hb dX12_readProduct_4 rfl (lv_at hl 0 rfl) ?_
      refine lv_bipush (v := 42) hx hb dX12_readProduct_5 (by decide) (ti_c 42 (by decide) fun z9 hz9 => ?_)
      refine r_callV (As := [.int z9]) (rest := []) C hw (t_X12_isSign l B D cA kd ig7 rg lg8 _ z9 (by omega) hI) sv_X12_55 (hsh 49 _ rfl) rfl hl.1 rfl (Nat.le_of_ble_eq_true rfl) ⟨by simp only [rL]; omega, by simp only [rL]; omega⟩ ⟨Nat.le_of_ble_eq_true rfl, Nat.le_of_ble_eq_true rfl⟩ dX12_readProduct_7 (fun r14 kd10 ig11 rg12 lg13 H locs hw hH hp15 => ?_)
      obtain ⟨rfl, rfl, rfl, rfl, hzhp15, hrhp15⟩ := hp15
      obtain ⟨z16, rfl, hz16⟩ := hrhp15
      refine z_ne (tgt := 22) hx hb dX12_readProduct_10 (by decide) (fun c10 => ?_) (fun c10 => ?_)
      · have sg := or_t hz16 (by omega)
        refine lv_aload_n hx hb dX12_readProduct_22 rfl (lv_at hl 0 rfl) ?_
        refine lv_aload_n hx hb dX12_readProduct_23 rfl (lv_at hl 0 rfl) ?_
        refine r_get C hw (hsh 49 _ rfl) fl_X12_45 (oV_r rfl (hrm (49, 6, 53) (by decide))) dX12_readProduct_24 ?_
        refine lv_aload_n hx hb dX12_readProduct_27 rfl (lv_at hl 0 rfl) ?_
        refine r_get C hw (hsh 49 _ rfl) fl_X12_49 (oV_i rfl) dX12_readProduct_28 (ti_c (ig7 (B + 49) 7).toInt rfl fun z17 hz17 => ?_)
        have ezz17 : nEq z17.toInt.toNat (ig7 (B + 49) 7).toInt.toNat := by show _ = _; omega
        refine r_lald C hw (hsh 53 _ rfl) (by omega) (by omega) dX12_readProduct_31 (lv_topl fun x18 hx18 => ?_)
        refine lv_l2i hx hb dX12_readProduct_32 rfl (lv_topi fun z19 hz19 => ?_)
        have sg2 := sg_l2i sg (nEq.e ezz17) hx18 hz19
        refine r_callV (As := [.int z19]) (rest := []) C hw (t_X12_takeSign l B D cA kd ig7 rg lg8 _ z19 N pv mt (by rw [sg2.2]; unfold sgn; omega) (by rw [sg2.2]; omega) hI) sv_X12_158 (hsh 49 _ rfl) rfl hl.1 rfl (Nat.le_of_ble_eq_true rfl) ⟨by simp only [rL]; omega, by simp only [rL]; omega⟩ ⟨Nat.le_of_ble_eq_true rfl, Nat.le_of_ble_eq_true rfl⟩ dX12_readProduct_33 (fun r24 kd20 ig21 rg22 lg23 H locs hw hH hp25 => ?_)
        obtain ⟨rfl, rfl, hI, hchp25, hrhp25⟩ := hp25
        have hF : Ft B [49, 54, 55, 56, 57, 58] ig lg ig21 lg23 := Ft.tr hF hchp25 (by decide) (by decide)
        obtain ⟨rfl, hvhp25⟩ := hrhp25
        have ks := SG.k mt hat sg
        have hat1 := hat
        obtain ⟨pv, p1, q1, s1, fs1, tk1⟩ := hvhp25
        have trk := trk.tr tk1
        have f1 := s1 sg2.1
        have at1 := (q1 f1).1
        have it0 := hit
        have dpe1 := p1.2.2.2.1
        have pr := pr.tr p1
        have mt := MT.ft mt hchp25 (by decide)
        have pvn := pv
        obtain ⟨hps, hat, hfa, hit, hN⟩ := pvn
        refine lv_aload_n hx hb dX12_readProduct_36 rfl (lv_at hl 0 rfl) ?_
        refine r_callV (As := []) (rest := []) C hw (hP kd ig21 rg lg23 _  N pv mt (by omega) hI) sv_X12_161 (hsh 49 _ rfl) rfl hl.1 rfl (Nat.le_of_ble_eq_true rfl) ⟨by simp only [rL]; omega, by simp only [rL]; omega⟩ ⟨Nat.le_of_ble_eq_true rfl, Nat.le_of_ble_eq_true rfl⟩ dX12_readProduct_37 (fun r30 kd26 ig27 rg28 lg29 H locs hw hH hp31 => ?_)
        obtain ⟨rfl, rfl, hI, hchp31, hrhp31⟩ := hp31
        have hF : Ft B [49, 54, 55, 56, 57, 58] ig lg ig27 lg29 := Ft.tr hF hchp31 (by decide) (by decide)
        obtain ⟨rfl, hvhp31⟩ := hrhp31
        obtain ⟨pv, p2, q2, fs2, tk2⟩ := hvhp31
        have trk := trk.tr tk2
        have pr := pr.tr p2
        have dpe2 := p2.2.2.2.1
        have at2 := p2.1
        have pq := PQ.turn pq it0.1 p1 q1 (by rw [sg2.2]; omega) p2 q2
        have fc : FC1 (pPart (tK τ) (tV τ) (tS τ) d) (sMu (tK τ)) (ig (B + 49) 8).toInt (ig (B + 49) 7).toInt (ig27 (B + 49) 8).toInt (ig27 (B + 49) 7).toInt := FC1.turn fc ⟨sg.1, sMu.of (by omega)⟩ ⟨f1, at1⟩ hat1.1 fs2
        have mt := MT.ft mt hchp31 (by decide)
        refine lv_goto (tgt := 4) hx hb dX12_readProduct_40 (by decide) ?_
        exact ih4 ls H locs ig27 lg29 (lv_sub hl [0] rfl) hw hI hF (pv) (pr) (pq) (by omega) (pv.2.1.2) (mt) (fc) (trk) (by omega)
      · refine lv_aload_n hx hb dX12_readProduct_13 rfl (lv_at hl 0 rfl) ?_
        refine lv_bipush (v := 47) hx hb dX12_readProduct_14 (by decide) (ti_c 47 (by decide) fun z32 hz32 => ?_)
        refine r_callV (As := [.int z32]) (rest := []) C hw (t_X12_isSign l B D cA kd ig7 rg lg8 _ z32 (by omega) hI) sv_X12_55 (hsh 49 _ rfl) rfl hl.1 rfl (Nat.le_of_ble_eq_true rfl) ⟨by simp only [rL]; omega, by simp only [rL]; omega⟩ ⟨Nat.le_of_ble_eq_true rfl, Nat.le_of_ble_eq_true rfl⟩ dX12_readProduct_16 (fun r37 kd33 ig34 rg35 lg36 H locs hw hH hp38 => ?_)
        obtain ⟨rfl, rfl, rfl, rfl, hzhp38, hrhp38⟩ := hp38
        obtain ⟨z39, rfl, hz39⟩ := hrhp38
        refine z_eq (tgt := 43) hx hb dX12_readProduct_19 (by decide) (fun c19 => ?_) (fun c19 => ?_)
        · have nsg : (ig7 (B + 49) 8).toInt = 0 → ¬ sMu (tK τ) (ig7 (B + 49) 7).toInt.toNat := fun q => (by
            have n1 := SG.kn mt hat (by unfold sgn; omega) q (or_f hz16 (by omega))
            have n2 := SG.kn mt hat (by unfold sgn; omega) q (or_f hz39 (by omega))
            unfold sMu sg
            omega)
          have fin : (PV B N ig7 ∧ PR B ig ig7 ∧ PQ gProd B d (ig (B + 58) 288).toInt.toNat ig7 ∧ FS (pProd (tK τ) (tV τ) (tS τ) d) (ig (B + 49) 8).toInt (ig (B + 49) 7).toInt (ig7 (B + 49) 8).toInt (ig7 (B + 49) 7).toInt ∧ TRk B τ ig ig7) := ⟨pv, pr, pq, FC1.fin fc nsg, trk⟩
          exact r_vret C hw hr hlk (Nat.le_of_ble_eq_true rfl) (Nat.le_of_ble_eq_true rfl) dX12_readProduct_43 ⟨rfl, rfl, hI, hF, ⟨rfl, fin⟩⟩
        · have sg := or_t hz39 (by omega)
          refine lv_aload_n hx hb dX12_readProduct_22 rfl (lv_at hl 0 rfl) ?_
          refine lv_aload_n hx hb dX12_readProduct_23 rfl (lv_at hl 0 rfl) ?_
          refine r_get C hw (hsh 49 _ rfl) fl_X12_45 (oV_r rfl (hrm (49, 6, 53) (by decide))) dX12_readProduct_24 ?_
          refine lv_aload_n hx hb dX12_readProduct_27 rfl (lv_at hl 0 rfl) ?_
          refine r_get C hw (hsh 49 _ rfl) fl_X12_49 (oV_i rfl) dX12_readProduct_28 (ti_c (ig7 (B + 49) 7).toInt rfl fun z40 hz40 => ?_)
          have ezz40 : nEq z40.toInt.toNat (ig7 (B + 49) 7).toInt.toNat := by show _ = _; omega
          refine r_lald C hw (hsh 53 _ rfl) (by omega) (by omega) dX12_readProduct_31 (lv_topl fun x41 hx41 => ?_)
          refine lv_l2i hx hb dX12_readProduct_32 rfl (lv_topi fun z42 hz42 => ?_)
          have sg2 := sg_l2i sg (nEq.e ezz40) hx41 hz42
          refine r_callV (As := [.int z42]) (rest := []) C hw (t_X12_takeSign l B D cA kd ig7 rg lg8 _ z42 N pv mt (by rw [sg2.2]; unfold sgn; omega) (by rw [sg2.2]; omega) hI) sv_X12_158 (hsh 49 _ rfl) rfl hl.1 rfl (Nat.le_of_ble_eq_true rfl) ⟨by simp only [rL]; omega, by simp only [rL]; omega⟩ ⟨Nat.le_of_ble_eq_true rfl, Nat.le_of_ble_eq_true rfl⟩ dX12_readProduct_33 (fun r47 kd43 ig44 rg45 lg46 H locs hw hH hp48 => ?_)
          obtain ⟨rfl, rfl, hI, hchp48, hrhp48⟩ := hp48
          have hF : Ft B [49, 54, 55, 56, 57, 58] ig lg ig44 lg46 := Ft.tr hF hchp48 (by decide) (by decide)
          obtain ⟨rfl, hvhp48⟩ := hrhp48
          have ks := SG.k mt hat sg
          have hat1 := hat
          obtain ⟨pv, p1, q1, s1, fs1, tk1⟩ := hvhp48
          have trk := trk.tr tk1
          have f1 := s1 sg2.1
          have at1 := (q1 f1).1
          have it0 := hit
          have dpe1 := p1.2.2.2.1
          have pr := pr.tr p1
          have mt := MT.ft mt hchp48 (by decide)
          have pvn := pv
          obtain ⟨hps, hat, hfa, hit, hN⟩ := pvn
          refine lv_aload_n hx hb dX12_readProduct_36 rfl (lv_at hl 0 rfl) ?_
          refine r_callV (As := []) (rest := []) C hw (hP kd ig44 rg lg46 _  N pv mt (by omega) hI) sv_X12_161 (hsh 49 _ rfl) rfl hl.1 rfl (Nat.le_of_ble_eq_true rfl) ⟨by simp only [rL]; omega, by simp only [rL]; omega⟩ ⟨Nat.le_of_ble_eq_true rfl, Nat.le_of_ble_eq_true rfl⟩ dX12_readProduct_37 (fun r53 kd49 ig50 rg51 lg52 H locs hw hH hp54 => ?_)
          obtain ⟨rfl, rfl, hI, hchp54, hrhp54⟩ := hp54
          have hF : Ft B [49, 54, 55, 56, 57, 58] ig lg ig50 lg52 := Ft.tr hF hchp54 (by decide) (by decide)
          obtain ⟨rfl, hvhp54⟩ := hrhp54
          obtain ⟨pv, p2, q2, fs2, tk2⟩ := hvhp54
          have trk := trk.tr tk2
          have pr := pr.tr p2
          have dpe2 := p2.2.2.2.1
          have at2 := p2.1
          have pq := PQ.turn pq it0.1 p1 q1 (by rw [sg2.2]; omega) p2 q2
          have fc : FC1 (pPart (tK τ) (tV τ) (tS τ) d) (sMu (tK τ)) (ig (B + 49) 8).toInt (ig (B + 49) 7).toInt (ig50 (B + 49) 8).toInt (ig50 (B + 49) 7).toInt := FC1.turn fc ⟨sg.1, sMu.of (by omega)⟩ ⟨f1, at1⟩ hat1.1 fs2
          have mt := MT.ft mt hchp54 (by decide)
          refine lv_goto (tgt := 4) hx hb dX12_readProduct_40 (by decide) ?_
          exact ih4 ls H locs ig50 lg52 (lv_sub hl [0] rfl) hw hI hF (pv) (pr) (pq) (by omega) (pv.2.1.2) (mt) (fc) (trk) (by omega)
  exact L4 (((N : Int) - (ig2 (B + 49) 7).toInt) + 1).toNat ls H locs ig2 lg4 (lv_sub hl [0] rfl) hw hI hF (pv) (pr) (pq) (by omega) (by omega) (mt) (fc) (trk) (by omega)

set_option maxHeartbeats 4000000 in
set_option maxRecDepth 100000 in
theorem t_X12_readE {υ : Option Int} {τ : Tp} (l : Launch) (B : Nat) (D : va_G) (cA : Nat → ClassId) (kd : sK) (ig : sI) (rg : sR) (lg : sG) (sz : Nat) (d : Nat) (hQ : RX12_readProduct τ υ l B D cA d) (N : Nat) (hpv : PV B N ig) (hmt : MT B N τ ig lg) (hdp : (ig (B + 49) 14).toInt = 8 - (d : Int) ∧ d ≤ 8) (hI : IM [] none υ B kd ig rg) : MC l B D cA yX12_readE cX12_readE 1 none (rL (3 * d + 5) 0 0) [.ref (B + 49)] kd ig rg lg sz (PM [] none υ B [49, 54, 55, 56, 57, 58] kd ig rg lg (fun r ig' lg' => (r = none ∧ (PV B N ig' ∧ PR B ig ig' ∧ PQ gE B d (ig (B + 58) 288).toInt.toNat ig' ∧ FS (pE (tK τ) (tV τ) (tS τ) d) (ig (B + 49) 8).toInt (ig (B + 49) 7).toInt (ig' (B + 49) 8).toInt (ig' (B + 49) 7).toInt ∧ TRk B τ ig ig')))) := by
  refine MC.of (own := RX12) (by decide +kernel) rfl (Nat.le_of_ble_eq_true rfl) ?_
  intro p e s m args below meth c ls C hr hlk hnm hw hsz hl
  have hx := C.1.1
  have hb := C.1.2.1
  have hown := C.1.2.2.2.1
  have hts := C.1.2.2.2.2
  have hl : lv_has ls 1 [(0, .ref (B + 49))] := hl
  have hF : Ft B [49, 54, 55, 56, 57, 58] ig lg ig lg := Ft.rf
  have hsh := hI.sh
  have hrm := hI.rm
  have pv := hpv
  have mt := hmt
  obtain ⟨hps, hat, hfa, hit, hN⟩ := hpv
  refine lv_aload_n hx hb dX12_readE_0 rfl (lv_at hl 0 rfl) ?_
  refine r_callV (As := []) (rest := []) C hw (hQ kd ig rg lg _  N pv mt (by omega) hI) sv_X12_155 (hsh 49 _ rfl) rfl hl.1 rfl (Nat.le_of_ble_eq_true rfl) ⟨by simp only [rL]; omega, by simp only [rL]; omega⟩ ⟨Nat.le_of_ble_eq_true rfl, Nat.le_of_ble_eq_true rfl⟩ dX12_readE_1 (fun r5 kd1 ig2 rg3 lg4 H locs hw hH hp6 => ?_)
  obtain ⟨rfl, rfl, hI, hchp6, hrhp6⟩ := hp6
  have hF : Ft B [49, 54, 55, 56, 57, 58] ig lg ig2 lg4 := Ft.tr hF hchp6 (by decide) (by decide)
  obtain ⟨rfl, hvhp6⟩ := hrhp6
  obtain ⟨pv, p1, q1, fs1, trk⟩ := hvhp6
  have pr := p1
  have dpe := p1.2.2.2.1
  have pq : PQ gE B d (ig (B + 58) 288).toInt.toNat ig2 := fun q => (q1 q).oneE
  have fc : FC1 (pProd (tK τ) (tV τ) (tS τ) d) (sAd (tK τ)) (ig (B + 49) 8).toInt (ig (B + 49) 7).toInt (ig2 (B + 49) 8).toInt (ig2 (B + 49) 7).toInt := FC1.one fs1
  have mt := MT.ft mt hchp6 (by decide)
  have pvn := pv
  obtain ⟨hps, hat, hfa, hit, hN⟩ := pvn
  have L4 : ∀ (n : Nat) (ls : Array Slot) (H : Heap) (locs : List Loc) (ig7 : sI) (lg8 : sG) , lv_has ls 1 [(0, .ref (B + 49))] → WD B D cA s.heap kd ig7 rg lg8 H locs → IM [] none υ B kd ig7 rg → Ft B [49, 54, 55, 56, 57, 58] ig lg ig7 lg8 → (PV B N ig7) → (PR B ig ig7) → (PQ gE B d (ig (B + 58) 288).toInt.toNat ig7) → ((ig7 (B + 49) 14).toInt = 8 - (d : Int)) → ((ig7 (B + 49) 7).toInt ≤ (N : Int)) → (MT B N τ ig7 lg8) → (FC1 (pProd (tK τ) (tV τ) (tS τ) d) (sAd (tK τ)) (ig (B + 49) 8).toInt (ig (B + 49) 7).toInt (ig7 (B + 49) 8).toInt (ig7 (B + 49) 7).toInt) → (TRk B τ ig ig7) → (N : Int) - (ig7 (B + 49) 7).toInt < (n : Int) → W p l e (rL (3 * d + 5) 0 0) s m args below meth c H locs 0 0 (MQ below (QcW B D cA (PM [] none υ B [49, 54, 55, 56, 57, 58] kd ig rg lg (fun r ig' lg' => (r = none ∧ (PV B N ig' ∧ PR B ig ig' ∧ PQ gE B d (ig (B + 58) 288).toInt.toNat ig' ∧ FS (pE (tK τ) (tV τ) (tS τ) d) (ig (B + 49) 8).toInt (ig (B + 49) 7).toInt (ig' (B + 49) 8).toInt (ig' (B + 49) 7).toInt ∧ TRk B τ ig ig'))))) args s 0 0 (fun q => B ≤ q)) (F0 m 4 ls []) := by
    intro n4
    induction n4 with
    | zero => intro ls H locs ig7 lg8 hl hw hI hF g4_0 g4_1 g4_2 g4_3 g4_4 g4_5 g4_6 g4_7 hmu; exact absurd hmu (by omega)
    | succ n4 ih4 =>
      intro ls H locs ig7 lg8 hl hw hI hF g4_0 g4_1 g4_2 g4_3 g4_4 g4_5 g4_6 g4_7 hmu
      have pv := g4_0
      have pr := g4_1
      have pq := g4_2
      have mt := g4_5
      have fc := g4_6
      have trk := g4_7
      have pvn := pv
      obtain ⟨hps, hat, hfa, hit, hN⟩ := pvn
      refine lv_aload_n hx hb dX12_readE_4 rfl (lv_at hl 0 rfl) ?_
      refine lv_bipush (v := 43) hx hb dX12_readE_5 (by decide) (ti_c 43 (by decide) fun z9 hz9 => ?_)
      refine r_callV (As := [.int z9]) (rest := []) C hw (t_X12_isSign l B D cA kd ig7 rg lg8 _ z9 (by omega) hI) sv_X12_55 (hsh 49 _ rfl) rfl hl.1 rfl (Nat.le_of_ble_eq_true rfl) ⟨by simp only [rL]; omega, by simp only [rL]; omega⟩ ⟨Nat.le_of_ble_eq_true rfl, Nat.le_of_ble_eq_true rfl⟩ dX12_readE_7 (fun r14 kd10 ig11 rg12 lg13 H locs hw hH hp15 => ?_)
      obtain ⟨rfl, rfl, rfl, rfl, hzhp15, hrhp15⟩ := hp15
      obtain ⟨z16, rfl, hz16⟩ := hrhp15
      refine z_ne (tgt := 22) hx hb dX12_readE_10 (by decide) (fun c10 => ?_) (fun c10 => ?_)
      · have sg := or_t hz16 (by omega)
        refine lv_aload_n hx hb dX12_readE_22 rfl (lv_at hl 0 rfl) ?_
        refine lv_aload_n hx hb dX12_readE_23 rfl (lv_at hl 0 rfl) ?_
        refine r_get C hw (hsh 49 _ rfl) fl_X12_45 (oV_r rfl (hrm (49, 6, 53) (by decide))) dX12_readE_24 ?_
        refine lv_aload_n hx hb dX12_readE_27 rfl (lv_at hl 0 rfl) ?_
        refine r_get C hw (hsh 49 _ rfl) fl_X12_49 (oV_i rfl) dX12_readE_28 (ti_c (ig7 (B + 49) 7).toInt rfl fun z17 hz17 => ?_)
        have ezz17 : nEq z17.toInt.toNat (ig7 (B + 49) 7).toInt.toNat := by show _ = _; omega
        refine r_lald C hw (hsh 53 _ rfl) (by omega) (by omega) dX12_readE_31 (lv_topl fun x18 hx18 => ?_)
        refine lv_l2i hx hb dX12_readE_32 rfl (lv_topi fun z19 hz19 => ?_)
        have sg2 := sg_l2i sg (nEq.e ezz17) hx18 hz19
        refine r_callV (As := [.int z19]) (rest := []) C hw (t_X12_takeSign l B D cA kd ig7 rg lg8 _ z19 N pv mt (by rw [sg2.2]; unfold sgn; omega) (by rw [sg2.2]; omega) hI) sv_X12_158 (hsh 49 _ rfl) rfl hl.1 rfl (Nat.le_of_ble_eq_true rfl) ⟨by simp only [rL]; omega, by simp only [rL]; omega⟩ ⟨Nat.le_of_ble_eq_true rfl, Nat.le_of_ble_eq_true rfl⟩ dX12_readE_33 (fun r24 kd20 ig21 rg22 lg23 H locs hw hH hp25 => ?_)
        obtain ⟨rfl, rfl, hI, hchp25, hrhp25⟩ := hp25
        have hF : Ft B [49, 54, 55, 56, 57, 58] ig lg ig21 lg23 := Ft.tr hF hchp25 (by decide) (by decide)
        obtain ⟨rfl, hvhp25⟩ := hrhp25
        have ks := SG.k mt hat sg
        have hat1 := hat
        obtain ⟨pv, p1, q1, s1, fs1, tk1⟩ := hvhp25
        have trk := trk.tr tk1
        have f1 := s1 sg2.1
        have at1 := (q1 f1).1
        have it0 := hit
        have dpe1 := p1.2.2.2.1
        have pr := pr.tr p1
        have mt := MT.ft mt hchp25 (by decide)
        have pvn := pv
        obtain ⟨hps, hat, hfa, hit, hN⟩ := pvn
        refine lv_aload_n hx hb dX12_readE_36 rfl (lv_at hl 0 rfl) ?_
        refine r_callV (As := []) (rest := []) C hw (hQ kd ig21 rg lg23 _  N pv mt (by omega) hI) sv_X12_155 (hsh 49 _ rfl) rfl hl.1 rfl (Nat.le_of_ble_eq_true rfl) ⟨by simp only [rL]; omega, by simp only [rL]; omega⟩ ⟨Nat.le_of_ble_eq_true rfl, Nat.le_of_ble_eq_true rfl⟩ dX12_readE_37 (fun r30 kd26 ig27 rg28 lg29 H locs hw hH hp31 => ?_)
        obtain ⟨rfl, rfl, hI, hchp31, hrhp31⟩ := hp31
        have hF : Ft B [49, 54, 55, 56, 57, 58] ig lg ig27 lg29 := Ft.tr hF hchp31 (by decide) (by decide)
        obtain ⟨rfl, hvhp31⟩ := hrhp31
        obtain ⟨pv, p2, q2, fs2, tk2⟩ := hvhp31
        have trk := trk.tr tk2
        have pr := pr.tr p2
        have dpe2 := p2.2.2.2.1
        have at2 := p2.1
        have pq := PQ.turnE pq it0.1 p1 q1 (by rw [sg2.2]; omega) p2 q2
        have fc : FC1 (pProd (tK τ) (tV τ) (tS τ) d) (sAd (tK τ)) (ig (B + 49) 8).toInt (ig (B + 49) 7).toInt (ig27 (B + 49) 8).toInt (ig27 (B + 49) 7).toInt := FC1.turn fc ⟨sg.1, sAd.of (by omega)⟩ ⟨f1, at1⟩ hat1.1 fs2
        have mt := MT.ft mt hchp31 (by decide)
        refine lv_goto (tgt := 4) hx hb dX12_readE_40 (by decide) ?_
        exact ih4 ls H locs ig27 lg29 (lv_sub hl [0] rfl) hw hI hF (pv) (pr) (pq) (by omega) (pv.2.1.2) (mt) (fc) (trk) (by omega)
      · refine lv_aload_n hx hb dX12_readE_13 rfl (lv_at hl 0 rfl) ?_
        refine lv_bipush (v := 45) hx hb dX12_readE_14 (by decide) (ti_c 45 (by decide) fun z32 hz32 => ?_)
        refine r_callV (As := [.int z32]) (rest := []) C hw (t_X12_isSign l B D cA kd ig7 rg lg8 _ z32 (by omega) hI) sv_X12_55 (hsh 49 _ rfl) rfl hl.1 rfl (Nat.le_of_ble_eq_true rfl) ⟨by simp only [rL]; omega, by simp only [rL]; omega⟩ ⟨Nat.le_of_ble_eq_true rfl, Nat.le_of_ble_eq_true rfl⟩ dX12_readE_16 (fun r37 kd33 ig34 rg35 lg36 H locs hw hH hp38 => ?_)
        obtain ⟨rfl, rfl, rfl, rfl, hzhp38, hrhp38⟩ := hp38
        obtain ⟨z39, rfl, hz39⟩ := hrhp38
        refine z_eq (tgt := 43) hx hb dX12_readE_19 (by decide) (fun c19 => ?_) (fun c19 => ?_)
        · have nsg : (ig7 (B + 49) 8).toInt = 0 → ¬ sAd (tK τ) (ig7 (B + 49) 7).toInt.toNat := fun q => (by
            have n1 := SG.kn mt hat (by unfold sgn; omega) q (or_f hz16 (by omega))
            have n2 := SG.kn mt hat (by unfold sgn; omega) q (or_f hz39 (by omega))
            unfold sAd sg
            omega)
          have fin : (PV B N ig7 ∧ PR B ig ig7 ∧ PQ gE B d (ig (B + 58) 288).toInt.toNat ig7 ∧ FS (pE (tK τ) (tV τ) (tS τ) d) (ig (B + 49) 8).toInt (ig (B + 49) 7).toInt (ig7 (B + 49) 8).toInt (ig7 (B + 49) 7).toInt ∧ TRk B τ ig ig7) := ⟨pv, pr, pq, FC1.fin fc nsg, trk⟩
          exact r_vret C hw hr hlk (Nat.le_of_ble_eq_true rfl) (Nat.le_of_ble_eq_true rfl) dX12_readE_43 ⟨rfl, rfl, hI, hF, ⟨rfl, fin⟩⟩
        · have sg := or_t hz39 (by omega)
          refine lv_aload_n hx hb dX12_readE_22 rfl (lv_at hl 0 rfl) ?_
          refine lv_aload_n hx hb dX12_readE_23 rfl (lv_at hl 0 rfl) ?_
          refine r_get C hw (hsh 49 _ rfl) fl_X12_45 (oV_r rfl (hrm (49, 6, 53) (by decide))) dX12_readE_24 ?_
          refine lv_aload_n hx hb dX12_readE_27 rfl (lv_at hl 0 rfl) ?_
          refine r_get C hw (hsh 49 _ rfl) fl_X12_49 (oV_i rfl) dX12_readE_28 (ti_c (ig7 (B + 49) 7).toInt rfl fun z40 hz40 => ?_)
          have ezz40 : nEq z40.toInt.toNat (ig7 (B + 49) 7).toInt.toNat := by show _ = _; omega
          refine r_lald C hw (hsh 53 _ rfl) (by omega) (by omega) dX12_readE_31 (lv_topl fun x41 hx41 => ?_)
          refine lv_l2i hx hb dX12_readE_32 rfl (lv_topi fun z42 hz42 => ?_)
          have sg2 := sg_l2i sg (nEq.e ezz40) hx41 hz42
          refine r_callV (As := [.int z42]) (rest := []) C hw (t_X12_takeSign l B D cA kd ig7 rg lg8 _ z42 N pv mt (by rw [sg2.2]; unfold sgn; omega) (by rw [sg2.2]; omega) hI) sv_X12_158 (hsh 49 _ rfl) rfl hl.1 rfl (Nat.le_of_ble_eq_true rfl) ⟨by simp only [rL]; omega, by simp only [rL]; omega⟩ ⟨Nat.le_of_ble_eq_true rfl, Nat.le_of_ble_eq_true rfl⟩ dX12_readE_33 (fun r47 kd43 ig44 rg45 lg46 H locs hw hH hp48 => ?_)
          obtain ⟨rfl, rfl, hI, hchp48, hrhp48⟩ := hp48
          have hF : Ft B [49, 54, 55, 56, 57, 58] ig lg ig44 lg46 := Ft.tr hF hchp48 (by decide) (by decide)
          obtain ⟨rfl, hvhp48⟩ := hrhp48
          have ks := SG.k mt hat sg
          have hat1 := hat
          obtain ⟨pv, p1, q1, s1, fs1, tk1⟩ := hvhp48
          have trk := trk.tr tk1
          have f1 := s1 sg2.1
          have at1 := (q1 f1).1
          have it0 := hit
          have dpe1 := p1.2.2.2.1
          have pr := pr.tr p1
          have mt := MT.ft mt hchp48 (by decide)
          have pvn := pv
          obtain ⟨hps, hat, hfa, hit, hN⟩ := pvn
          refine lv_aload_n hx hb dX12_readE_36 rfl (lv_at hl 0 rfl) ?_
          refine r_callV (As := []) (rest := []) C hw (hQ kd ig44 rg lg46 _  N pv mt (by omega) hI) sv_X12_155 (hsh 49 _ rfl) rfl hl.1 rfl (Nat.le_of_ble_eq_true rfl) ⟨by simp only [rL]; omega, by simp only [rL]; omega⟩ ⟨Nat.le_of_ble_eq_true rfl, Nat.le_of_ble_eq_true rfl⟩ dX12_readE_37 (fun r53 kd49 ig50 rg51 lg52 H locs hw hH hp54 => ?_)
          obtain ⟨rfl, rfl, hI, hchp54, hrhp54⟩ := hp54
          have hF : Ft B [49, 54, 55, 56, 57, 58] ig lg ig50 lg52 := Ft.tr hF hchp54 (by decide) (by decide)
          obtain ⟨rfl, hvhp54⟩ := hrhp54
          obtain ⟨pv, p2, q2, fs2, tk2⟩ := hvhp54
          have trk := trk.tr tk2
          have pr := pr.tr p2
          have dpe2 := p2.2.2.2.1
          have at2 := p2.1
          have pq := PQ.turnE pq it0.1 p1 q1 (by rw [sg2.2]; omega) p2 q2
          have fc : FC1 (pProd (tK τ) (tV τ) (tS τ) d) (sAd (tK τ)) (ig (B + 49) 8).toInt (ig (B + 49) 7).toInt (ig50 (B + 49) 8).toInt (ig50 (B + 49) 7).toInt := FC1.turn fc ⟨sg.1, sAd.of (by omega)⟩ ⟨f1, at1⟩ hat1.1 fs2
          have mt := MT.ft mt hchp54 (by decide)
          refine lv_goto (tgt := 4) hx hb dX12_readE_40 (by decide) ?_
          exact ih4 ls H locs ig50 lg52 (lv_sub hl [0] rfl) hw hI hF (pv) (pr) (pq) (by omega) (pv.2.1.2) (mt) (fc) (trk) (by omega)
  exact L4 (((N : Int) - (ig2 (B + 49) 7).toInt) + 1).toNat ls H locs ig2 lg4 (lv_sub hl [0] rfl) hw hI hF (pv) (pr) (pq) (by omega) (by omega) (mt) (fc) (trk) (by omega)

theorem t_X12_readE_all {υ : Option Int} {τ : Tp} (l : Launch) (B : Nat) (D : va_G) (cA : Nat → ClassId) : ∀ d, RX12_readPart τ υ l B D cA d ∧ RX12_readProduct τ υ l B D cA d ∧ RX12_readE τ υ l B D cA d := by
  intro d
  induction d with
  | zero =>
    have h1 : RX12_readPart τ υ l B D cA 0 := fun kd ig rg lg sz N q1 q0 q2 hI => t_X12_readPart l B D cA kd ig rg lg sz 0 (fun d1 h => by omega) N q1 q0 q2 hI
    have h2 : RX12_readProduct τ υ l B D cA 0 := fun kd ig rg lg sz N q1 q0 q2 hI => t_X12_readProduct l B D cA kd ig rg lg sz 0 h1 N q1 q0 q2 hI
    exact ⟨h1, h2, fun kd ig rg lg sz N q1 q0 q2 hI => t_X12_readE l B D cA kd ig rg lg sz 0 h2 N q1 q0 q2 hI⟩
  | succ d ih =>
    have h1 : RX12_readPart τ υ l B D cA (d + 1) := fun kd ig rg lg sz N q1 q0 q2 hI => t_X12_readPart l B D cA kd ig rg lg sz (d + 1) (fun d1 h => by cases h; exact ⟨ih.1, ih.2.2⟩) N q1 q0 q2 hI
    have h2 : RX12_readProduct τ υ l B D cA (d + 1) := fun kd ig rg lg sz N q1 q0 q2 hI => t_X12_readProduct l B D cA kd ig rg lg sz (d + 1) h1 N q1 q0 q2 hI
    exact ⟨h1, h2, fun kd ig rg lg sz N q1 q0 q2 hI => t_X12_readE l B D cA kd ig rg lg sz (d + 1) h2 N q1 q0 q2 hI⟩
