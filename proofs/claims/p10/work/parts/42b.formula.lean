/-- the draft is what the tape spells -/
def DRF (B : Nat) (τ : Tp) (h : Nat) (ig : sI) : Prop := ∀ L, tTop τ h L → RowM B ig 288 (h : Int) (fCl L)
theorem TRI.z {B : Nat} {τ : Tp} {h : Nat} {ig : sI} (h1 : (ig (B + 58) 288).toInt = 0) (h2 : (ig (B + 49) 7).toInt = 0) : TRI B τ h ig := fun _ => by
  rw [h1, h2]
  exact ⟨rfl, fun k hk => absurd hk (Nat.not_lt_zero k)⟩
theorem DRF.of {B : Nat} {τ : Tp} {h : Nat} {ig : sI} (t : TRI B τ h ig) (hf : (ig (B + 49) 8).toInt = 0) (he : tK τ (ig (B + 49) 7).toInt.toNat = 0) (hi : 0 ≤ (ig (B + 58) 288).toInt ∧ (ig (B + 58) 288).toInt ≤ 120) (h59 : (ig (B + 59) 288).toInt = 2) (h60 : (ig (B + 60) 288).toInt = 0) (hu : RowU B ig 288 (0, 0, 0)) : DRF B τ h ig := fun L tt => by
  obtain ⟨t1, t2⟩ := t hf
  have hq : RwQ (dI B ig h) (ig (B + 58) 288).toInt.toNat (mR B ig (h : Int) 288) := by
    refine ⟨fun k hk => ?_, fun k hk => ?_⟩
    · unfold mR
      rw [if_pos (by omega)]
      rfl
    · unfold mR
      rw [if_neg (by omega)]
  refine ⟨⟨h59, h60⟩, hu, fun _ => ⟨⟨(ig (B + 58) 288).toInt.toNat, by omega, by omega, tTop.it t1 hq he tt⟩, fun k hk => t2 k (by omega)⟩, fun w => absurd rfl w⟩

set_option maxHeartbeats 4000000 in
set_option maxRecDepth 100000 in
theorem t_X12_formulaE {τ : Tp} (l : Launch) (B : Nat) (D : va_G) (cA : Nat → ClassId) (kd : sK) (ig : sI) (rg : sR) (lg : sG) (sz : Nat) (x : Int32) (σ : Sg) (π : Ps) (hM : SM B σ π ig) (hU : FMm B σ ig) (hT : onS x.toInt → pTop (tK τ) (tV τ) (tS τ) 0 → ∃ L, tTop τ x.toInt.toNat L ∧ fitW x.toInt.toNat L) (hI : IM τ none none B kd ig rg) : MC l B D cA yX12_formula cX12_formula 2 (some .int) (rL 33 0 0) [.ref (B + 49), .int x] kd ig rg lg sz (PM [] none none B [49, 51, 52, 53, 54, 55, 56, 57, 58, 59, 60, 61, 63, 64, 65, 66, 67, 68, 69, 70, 71, 72, 73, 74] kd ig rg lg (fun r ig' lg' => ∃ z : Int32, r = some (.int z) ∧ (∃ σ' π', SM B σ' π' ig' ∧ FMm B σ' ig' ∧ stF τ σ π x.toInt z.toInt σ' π'))) := by
  refine MC.of (own := RX12) (by decide +kernel) rfl (Nat.le_of_ble_eq_true rfl) ?_
  intro p e s m args below meth c ls C hr hlk hnm hw hsz hl
  have hx := C.1.1
  have hb := C.1.2.1
  have hown := C.1.2.2.2.1
  have hts := C.1.2.2.2.2
  have hl : lv_has ls 2 [(0, .ref (B + 49)), (1, .int x)] := hl
  have hF : Ft B [49, 51, 52, 53, 54, 55, 56, 57, 58, 59, 60, 61, 63, 64, 65, 66, 67, 68, 69, 70, 71, 72, 73, 74] ig lg ig lg := Ft.rf
  have hsh := hI.sh
  have hrm := hI.rm
  refine lv_aload_n hx hb dX12_formula_0 rfl (lv_at hl 0 rfl) ?_
  refine lv_iconst (v := 0) hx hb dX12_formula_1 (by decide) (ti_c 0 (by decide) fun z1 hz1 => ?_)
  refine r_puti C hw (hsh 49 _ rfl) fl_X12_1 rfl rfl rfl dX12_formula_2 (fun H locs hH hw => ?_)
  obtain ⟨ig2, eig2⟩ : ∃ f, f = up2 ig (B + 49) 0 z1 := ⟨_, rfl⟩
  rw [← eig2] at hw
  have hF : Ft B [49, 51, 52, 53, 54, 55, 56, 57, 58, 59, 60, 61, 63, 64, 65, 66, 67, 68, 69, 70, 71, 72, 73, 74] ig lg ig2 lg := by rw [eig2]; exact hF.pi (by decide)
  have hI : IM τ none none B kd ig2 rg := by rw [eig2]; exact hI.pi (by decide) (show okR none _ from trivial)
  have wig2_49_7 : (ig2 (B + 49) 7).toInt = (ig (B + 49) 7).toInt := by rw [eig2, up2_j (by decide)]
  have wig2_49_8 : (ig2 (B + 49) 8).toInt = (ig (B + 49) 8).toInt := by rw [eig2, up2_j (by decide)]
  have wig2_49_14 : (ig2 (B + 49) 14).toInt = (ig (B + 49) 14).toInt := by rw [eig2, up2_j (by decide)]
  have hM : SM B σ π ig2 := by rw [eig2]; exact hM.wr (by decide)
  have hU : FMm B σ ig2 := by rw [eig2]; exact hU.wr (by decide)
  refine lv_iload_n hx hb dX12_formula_5 rfl (lv_at hl 1 rfl) ?_
  refine r_callS (As := [.int x]) (rest := []) C hw (t_X12_isPlace l B D cA kd ig2 rg lg _ x  hI) ss_X12_198 rfl hl.1 rfl (Nat.le_of_ble_eq_true rfl) ⟨Nat.le_of_ble_eq_true rfl, Nat.le_of_ble_eq_true rfl⟩ ⟨Nat.le_of_ble_eq_true rfl, Nat.le_of_ble_eq_true rfl⟩ dX12_formula_6 (fun r7 kd3 ig4 rg5 lg6 H locs hw hH hp8 => ?_)
  obtain ⟨rfl, rfl, rfl, rfl, hzhp8, hrhp8⟩ := hp8
  obtain ⟨z9, rfl, hz9⟩ := hrhp8
  refine z_ne (tgt := 19) hx hb dX12_formula_9 (by decide) (fun c9 => ?_) (fun c9 => ?_)
  · refine lv_aload_n hx hb dX12_formula_19 rfl (lv_at hl 0 rfl) ?_
    have hI := hI.su (f := (ig2 (B + 49) 19).toInt) rfl
    refine r_callV (As := []) (rest := []) C hw (t_X12_cutAll l B D cA kd ig2 rg lg _   hI) sv_X12_201 (hsh 49 _ rfl) rfl hl.1 rfl (Nat.le_of_ble_eq_true rfl) ⟨Nat.le_of_ble_eq_true rfl, Nat.le_of_ble_eq_true rfl⟩ ⟨Nat.le_of_ble_eq_true rfl, Nat.le_of_ble_eq_true rfl⟩ dX12_formula_20 (fun r14 kd10 ig11 rg12 lg13 H locs hw hH hp15 => ?_)
    obtain ⟨rfl, rfl, hI, hchp15, hrhp15⟩ := hp15
    have hF : Ft B [49, 51, 52, 53, 54, 55, 56, 57, 58, 59, 60, 61, 63, 64, 65, 66, 67, 68, 69, 70, 71, 72, 73, 74] ig lg ig11 lg13 := Ft.tr hF hchp15 (by decide) (by decide)
    obtain ⟨rfl, hvhp15⟩ := hrhp15
    have e19 := hI.u
    have hI := hI.nu
    obtain ⟨N, ps, a0, f0, mt⟩ := hvhp15
    have hM := hM.ft hchp15 (by decide) e19
    have hU := hU.ft hchp15 (by decide)
    refine lv_aload_n hx hb dX12_formula_23 rfl (lv_at hl 0 rfl) ?_
    refine lv_iconst (v := 2) hx hb dX12_formula_24 (by decide) (ti_c 2 (by decide) fun z16 hz16 => ?_)
    refine lv_iconst (v := 0) hx hb dX12_formula_25 (by decide) (ti_c 0 (by decide) fun z17 hz17 => ?_)
    have hIc := hI
    refine r_callV (As := [.int z16, .int z17]) (rest := []) C hw (t_X12_clearDraftE l B D cA kd ig11 rg lg13 _ z16 z17  hI) sv_X12_204 (hsh 49 _ rfl) rfl hl.1 rfl (Nat.le_of_ble_eq_true rfl) ⟨Nat.le_of_ble_eq_true rfl, Nat.le_of_ble_eq_true rfl⟩ ⟨Nat.le_of_ble_eq_true rfl, Nat.le_of_ble_eq_true rfl⟩ dX12_formula_26 (fun r22 kd18 ig19 rg20 lg21 H locs hw hH hp23 => ?_)
    obtain ⟨rfl, rfl, hI, hchp23, hrhp23⟩ := hp23
    have hF : Ft B [49, 51, 52, 53, 54, 55, 56, 57, 58, 59, 60, 61, 63, 64, 65, 66, 67, 68, 69, 70, 71, 72, 73, 74] ig lg ig19 lg21 := Ft.tr hF hchp23 (by decide) (by decide)
    obtain ⟨rfl, hvhp23⟩ := hrhp23
    obtain ⟨⟨⟨k59, k60⟩, k58⟩, ku, kk⟩ := hvhp23
    have hM := hM.dr hIc.i120 (fun c j a b q => kk c j ⟨a, b⟩ (fun w => q (by unfold drp; omega))) (fun j => hchp23.i 63 j (by decide)) (congrArg Int32.toInt (hchp23.i 49 19 (by decide)))
    have hU := hU.ft hchp23 (by decide)
    have ps := PSt.ft ps hchp23 (by decide) (by decide)
    have mt := MT.ft mt hchp23 (by decide)
    have c7 := congrArg Int32.toInt (hchp23.i 49 7 (by decide))
    have c8 := congrArg Int32.toInt (hchp23.i 49 8 (by decide))
    have hN := ps.1
    have k59 : (ig19 (B + 59) 288).toInt = 2 := by rw [k59]; omega
    have k60 : (ig19 (B + 60) 288).toInt = 0 := by rw [k60]; omega
    refine lv_aload_n hx hb dX12_formula_29 rfl (lv_at hl 0 rfl) ?_
    refine lv_iconst (v := 0) hx hb dX12_formula_30 (by decide) (ti_c 0 (by decide) fun z24 hz24 => ?_)
    refine r_puti C hw (hsh 49 _ rfl) fl_X12_174 rfl rfl rfl dX12_formula_31 (fun H locs hH hw => ?_)
    obtain ⟨ig25, eig25⟩ : ∃ f, f = up2 ig19 (B + 49) 14 z24 := ⟨_, rfl⟩
    rw [← eig25] at hw
    have hF : Ft B [49, 51, 52, 53, 54, 55, 56, 57, 58, 59, 60, 61, 63, 64, 65, 66, 67, 68, 69, 70, 71, 72, 73, 74] ig lg ig25 lg21 := by rw [eig25]; exact hF.pi (by decide)
    have hI : IM [] none none B kd ig25 rg := by rw [eig25]; exact hI.pi (by decide) (show okR none _ from trivial)
    have wig25_49_7 : (ig25 (B + 49) 7).toInt = (ig19 (B + 49) 7).toInt := by rw [eig25, up2_j (by decide)]
    have wig25_49_8 : (ig25 (B + 49) 8).toInt = (ig19 (B + 49) 8).toInt := by rw [eig25, up2_j (by decide)]
    have wig25 : (ig25 (B + 49) 14).toInt = z24.toInt := by rw [eig25, up2_eq]
    have i58 : (ig25 (B + 58) 288).toInt = 0 := by rw [eig25, up2_c (by decide)]; exact k58
    have pv : PV B N ig25 := ⟨by rw [eig25]; exact ps.wr (by decide), ⟨by omega, by omega⟩, by omega, ⟨by omega, by omega⟩, hN⟩
    have dp0 : (ig25 (B + 49) 14).toInt = 0 := by rw [eig25, up2_eq]; omega
    have mt : MT B N τ ig25 lg21 := by rw [eig25]; exact mt.wr (by decide)
    have hM : SM B σ π ig25 := by rw [eig25]; exact hM.wr (by decide)
    have hU : FMm B σ ig25 := by rw [eig25]; exact hU.wr (by decide)
    have k59 : (ig25 (B + 59) 288).toInt = 2 := by rw [eig25, up2_c (by decide)]; exact k59
    have k60 : (ig25 (B + 60) 288).toInt = 0 := by rw [eig25, up2_c (by decide)]; exact k60
    have ku : RowU B ig25 288 (0, 0, 0) := by unfold RowU; rw [eig25, up2_c (by decide), up2_c (by decide), up2_c (by decide)]; exact ku
    have hIr := hI
    have tri : TRI B τ x.toInt.toNat ig25 := TRI.z i58 (by omega)
    refine lv_aload_n hx hb dX12_formula_34 rfl (lv_at hl 0 rfl) ?_
    have hI := hI.su (f := (ig25 (B + 49) 19).toInt) rfl
    refine r_callV (As := []) (rest := []) C hw ((t_X12_readE_all l B D cA 8).2.2 kd ig25 rg lg21 _  N pv mt (by omega) hI) sv_X12_180 (hsh 49 _ rfl) rfl hl.1 rfl (Nat.le_of_ble_eq_true rfl) ⟨Nat.le_of_ble_eq_true rfl, Nat.le_of_ble_eq_true rfl⟩ ⟨Nat.le_of_ble_eq_true rfl, Nat.le_of_ble_eq_true rfl⟩ dX12_formula_35 (fun r30 kd26 ig27 rg28 lg29 H locs hw hH hp31 => ?_)
    obtain ⟨rfl, rfl, hI, hchp31, hrhp31⟩ := hp31
    have hF : Ft B [49, 51, 52, 53, 54, 55, 56, 57, 58, 59, 60, 61, 63, 64, 65, 66, 67, 68, 69, 70, 71, 72, 73, 74] ig lg ig27 lg29 := Ft.tr hF hchp31 (by decide) (by decide)
    obtain ⟨rfl, hvhp31⟩ := hrhp31
    have e19 := hI.u
    have hI := hI.nu
    obtain ⟨pv, p1, q1, fs1, tk⟩ := hvhp31
    have mt := MT.ft mt hchp31 (by decide)
    have ki := hI.its (j := 288) (by decide)
    have fq : FQ B ig27 := fun q => by
      have w := q1 q
      rw [show (ig25 (B + 58) 288).toInt.toNat = 0 by omega] at w
      exact QN.wp w (by omega) (by omega)
    have pvn := pv
    obtain ⟨hps, hat, hfa, hit, hN⟩ := pvn
    have pz1 : (ig25 (B + 49) 8).toInt = 0 ∧ (ig25 (B + 49) 7).toInt = 0 := ⟨by omega, by omega⟩
    have hM := hM.dr hIr.i120 tk.2 (fun j => hchp31.i 63 j (by decide)) e19
    have hU := hU.ft hchp31 (by decide)
    have tri := tk.1 _ tri
    have k59 : (ig27 (B + 59) 288).toInt = 2 := by rw [hchp31.i 59 _ (by decide)]; exact k59
    have k60 : (ig27 (B + 60) 288).toInt = 0 := by rw [hchp31.i 60 _ (by decide)]; exact k60
    have ku : RowU B ig27 288 (0, 0, 0) := by unfold RowU; rw [hchp31.i 61 _ (by decide), hchp31.i 61 _ (by decide), hchp31.i 61 _ (by decide)]; exact ku
    refine lv_aload_n hx hb dX12_formula_38 rfl (lv_at hl 0 rfl) ?_
    refine r_get C hw (hsh 49 _ rfl) fl_X12_52 (oV_i rfl) dX12_formula_39 (ti_c (ig27 (B + 49) 8).toInt rfl fun z32 hz32 => ?_)
    have J62 : ∀ (ls : Array Slot) (H : Heap) (locs : List Loc) (ig33 : sI) (lg34 : sG) , lv_has ls 2 [(0, .ref (B + 49)), (1, .int x)] → WD B D cA s.heap kd ig33 rg lg34 H locs → IM [] none none B kd ig33 rg → Ft B [49, 51, 52, 53, 54, 55, 56, 57, 58, 59, 60, 61, 63, 64, 65, 66, 67, 68, 69, 70, 71, 72, 73, 74] ig lg ig33 lg34 → (FQ B ig33) → (0 ≤ x.toInt) → (x.toInt < 288) → (pTop (tK τ) (tV τ) (tS τ) (ig33 (B + 49) 8).toInt) → (SM B σ π ig33) → (FMm B σ ig33) → ((ig33 (B + 49) 8).toInt = 0 → DRF B τ x.toInt.toNat ig33) → W p l e (rL 33 0 0) s m args below meth c H locs 0 0 (MQ below (QcW B D cA (PM [] none none B [49, 51, 52, 53, 54, 55, 56, 57, 58, 59, 60, 61, 63, 64, 65, 66, 67, 68, 69, 70, 71, 72, 73, 74] kd ig rg lg (fun r ig' lg' => ∃ z : Int32, r = some (.int z) ∧ (∃ σ' π', SM B σ' π' ig' ∧ FMm B σ' ig' ∧ stF τ σ π x.toInt z.toInt σ' π')))) args s 0 0 (fun q => B ≤ q)) (F0 m 62 ls []) := by
      intro ls H locs ig33 lg34 hl hw hI hF g62_0 g62_1 g62_2 g62_3 g62_4 g62_5 g62_6
      have fq := g62_0
      have pt := g62_3
      have hM := g62_4
      have hU := g62_5
      have drf := g62_6
      refine lv_aload_n hx hb dX12_formula_62 rfl (lv_at hl 0 rfl) ?_
      refine r_get C hw (hsh 49 _ rfl) fl_X12_52 (oV_i rfl) dX12_formula_63 (ti_c (ig33 (B + 49) 8).toInt rfl fun z35 hz35 => ?_)
      refine z_ne (tgt := 74) hx hb dX12_formula_66 (by decide) (fun c66 => ?_) (fun c66 => ?_)
      · refine lv_aload_n hx hb dX12_formula_74 rfl (lv_at hl 0 rfl) ?_
        refine r_get C hw (hsh 49 _ rfl) fl_X12_52 (oV_i rfl) dX12_formula_75 (ti_c (ig33 (B + 49) 8).toInt rfl fun z36 hz36 => ?_)
        exact r_iret C hw hr hlk rfl (Nat.le_of_ble_eq_true rfl) (Nat.le_of_ble_eq_true rfl) dX12_formula_78 ⟨rfl, rfl, hI, hF, ⟨_, rfl, ⟨_, _, hM, hU, Or.inr ⟨by unfold onS; omega, Or.inl ⟨by omega, by rw [hz36]; exact pt, rfl, rfl⟩⟩⟩⟩⟩
      · refine lv_aload_n hx hb dX12_formula_69 rfl (lv_at hl 0 rfl) ?_
        refine lv_iload_n hx hb dX12_formula_70 rfl (lv_at hl 1 rfl) ?_
        have f7 : (ig33 (B + 49) 8).toInt = 0 := by omega
        have hon : onS x.toInt := by unfold onS; omega
        obtain ⟨L, tt, fw9⟩ := hT hon (by have w := pt; rw [f7] at w; exact w)
        have hD := drf f7 L tt
        have hwp := fq f7
        have hI := hI.so (f := 0) f7
        refine r_callV (As := [.int x]) (rest := []) C hw (t_X12_putsE l B D cA kd ig33 rg lg34 _ x (by omega) hwp σ π hM _ hD hI) sv_X12_207 (hsh 49 _ rfl) rfl hl.1 rfl (Nat.le_of_ble_eq_true rfl) ⟨Nat.le_of_ble_eq_true rfl, Nat.le_of_ble_eq_true rfl⟩ ⟨Nat.le_of_ble_eq_true rfl, Nat.le_of_ble_eq_true rfl⟩ dX12_formula_71 (fun r41 kd37 ig38 rg39 lg40 H locs hw hH hp42 => ?_)
        obtain ⟨rfl, rfl, hI, hchp42, hrhp42⟩ := hp42
        have hF : Ft B [49, 51, 52, 53, 54, 55, 56, 57, 58, 59, 60, 61, 63, 64, 65, 66, 67, 68, 69, 70, 71, 72, 73, 74] ig lg ig38 lg40 := Ft.tr hF hchp42 (by decide) (by decide)
        obtain ⟨rfl, hvhp42⟩ := hrhp42
        obtain ⟨hM, hU⟩ := hvhp42
        have f8 := hI.f
        have hI := hI.no
        refine lv_aload_n hx hb dX12_formula_74 rfl (lv_at hl 0 rfl) ?_
        refine r_get C hw (hsh 49 _ rfl) fl_X12_52 (oV_i rfl) dX12_formula_75 (ti_c (ig38 (B + 49) 8).toInt rfl fun z43 hz43 => ?_)
        exact r_iret C hw hr hlk rfl (Nat.le_of_ble_eq_true rfl) (Nat.le_of_ble_eq_true rfl) dX12_formula_78 ⟨rfl, rfl, hI, hF, ⟨_, rfl, ⟨_, _, hM, hU, Or.inr ⟨hon, Or.inr ⟨by rw [hz43]; exact f8, by have w := pt; rw [f7] at w; exact w, L, tt, fw9, rfl, rfl⟩⟩⟩⟩⟩
    refine z_ne (tgt := 62) hx hb dX12_formula_42 (by decide) (fun c42 => ?_) (fun c42 => ?_)
    · exact J62 ls H locs ig27 lg29 (lv_sub hl [0, 1] rfl) hw hI hF (fq) (by omega) (by omega) (PT.f fs1 pz1 (by omega)) (hM) (hU) (fun q => absurd q (by omega))
    · refine lv_aload_n hx hb dX12_formula_45 rfl (lv_at hl 0 rfl) ?_
      refine r_get C hw (hsh 49 _ rfl) fl_X12_32 (oV_r rfl (hrm (49, 4, 51) (by decide))) dX12_formula_46 ?_
      refine lv_aload_n hx hb dX12_formula_49 rfl (lv_at hl 0 rfl) ?_
      refine r_get C hw (hsh 49 _ rfl) fl_X12_49 (oV_i rfl) dX12_formula_50 (ti_c (ig27 (B + 49) 7).toInt rfl fun z44 hz44 => ?_)
      have ezz44 : nEq z44.toInt.toNat (ig27 (B + 49) 7).toInt.toNat := by show _ = _; omega
      refine r_iald C hw (hsh 51 _ rfl) (by omega) (by omega) dX12_formula_53 (ti_c (ig27 (B + 51) z44.toInt.toNat).toInt rfl fun z45 hz45 => ?_)
      rw [nEq.e ezz44] at hz45
      refine z_eq (tgt := 62) hx hb dX12_formula_54 (by decide) (fun c54 => ?_) (fun c54 => ?_)
      · exact J62 ls H locs ig27 lg29 (lv_sub hl [0, 1] rfl) hw hI hF (fq) (by omega) (by omega) (PT.e fs1 pz1 (by omega) ((mt_end mt hat).mp (by omega))) (hM) (hU) (fun q => DRF.of tri q ((mt_end mt hat).mp (by omega)) ki k59 k60 ku)
      · refine lv_aload_n hx hb dX12_formula_57 rfl (lv_at hl 0 rfl) ?_
        refine lv_iconst (v := 1) hx hb dX12_formula_58 (by decide) (ti_c 1 (by decide) fun z47 hz47 => ?_)
        have hI := hI.su (f := (ig27 (B + 49) 19).toInt) rfl
        refine r_callV (As := [.int z47]) (rest := []) C hw (t_X12_wrong l B D cA kd ig27 rg lg29 _ z47 N pv mt (by omega) hI) sv_X12_147 (hsh 49 _ rfl) rfl hl.1 rfl (Nat.le_of_ble_eq_true rfl) ⟨Nat.le_of_ble_eq_true rfl, Nat.le_of_ble_eq_true rfl⟩ ⟨Nat.le_of_ble_eq_true rfl, Nat.le_of_ble_eq_true rfl⟩ dX12_formula_59 (fun r52 kd48 ig49 rg50 lg51 H locs hw hH hp53 => ?_)
        obtain ⟨rfl, rfl, hI, hchp53, hrhp53⟩ := hp53
        have hF : Ft B [49, 51, 52, 53, 54, 55, 56, 57, 58, 59, 60, 61, 63, 64, 65, 66, 67, 68, 69, 70, 71, 72, 73, 74] ig lg ig49 lg51 := Ft.tr hF hchp53 (by decide) (by decide)
        obtain ⟨rfl, hvhp53⟩ := hrhp53
        have e19 := hI.u
        have hI := hI.nu
        obtain ⟨pv, p2, w3, w4, w5, w6⟩ := hvhp53
        have fq : FQ B ig49 := fun q => absurd q (by omega)
        have hM := hM.ft hchp53 (by decide) e19
        have hU := hU.ft hchp53 (by decide)
        exact J62 ls H locs ig49 lg51 (lv_sub hl [0, 1] rfl) hw hI hF (fq) (by omega) (by omega) (PT.w fs1 pz1 (by omega) (fun e9 => absurd ((mt_end mt hat).mpr e9) (by omega)) (by rw [w4 (by omega)]; unfold fw; omega)) (hM) (hU) (fun q => absurd q (by omega))
  · refine lv_aload_n hx hb dX12_formula_12 rfl (lv_at hl 0 rfl) ?_
    refine lv_iconst (v := 0) hx hb dX12_formula_13 (by decide) (ti_c 0 (by decide) fun z54 hz54 => ?_)
    refine r_puti C hw (hsh 49 _ rfl) fl_X12_11 rfl rfl rfl dX12_formula_14 (fun H locs hH hw => ?_)
    obtain ⟨ig55, eig55⟩ : ∃ f, f = up2 ig2 (B + 49) 2 z54 := ⟨_, rfl⟩
    rw [← eig55] at hw
    have hF : Ft B [49, 51, 52, 53, 54, 55, 56, 57, 58, 59, 60, 61, 63, 64, 65, 66, 67, 68, 69, 70, 71, 72, 73, 74] ig lg ig55 lg := by rw [eig55]; exact hF.pi (by decide)
    have hI : IM [] none none B kd ig55 rg := by rw [eig55]; exact hI.clr (by omega)
    have wig55_49_7 : (ig55 (B + 49) 7).toInt = (ig2 (B + 49) 7).toInt := by rw [eig55, up2_j (by decide)]
    have wig55_49_8 : (ig55 (B + 49) 8).toInt = (ig2 (B + 49) 8).toInt := by rw [eig55, up2_j (by decide)]
    have wig55_49_14 : (ig55 (B + 49) 14).toInt = (ig2 (B + 49) 14).toInt := by rw [eig55, up2_j (by decide)]
    have hM : SM B σ π ig55 := by rw [eig55]; exact hM.wr (by decide)
    have hU : FMm B σ ig55 := by rw [eig55]; exact hU.wr (by decide)
    refine lv_iconst (v := (-1)) hx hb dX12_formula_17 (by decide) (ti_c (-1) (by decide) fun z56 hz56 => ?_)
    exact r_iret C hw hr hlk rfl (Nat.le_of_ble_eq_true rfl) (Nat.le_of_ble_eq_true rfl) dX12_formula_18 ⟨rfl, rfl, hI, hF, ⟨_, rfl, ⟨_, _, hM, hU, Or.inl ⟨by unfold onS; omega, by omega, rfl, rfl⟩⟩⟩⟩
