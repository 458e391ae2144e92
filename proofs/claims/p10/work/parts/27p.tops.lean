/-! totals with their links: the totals' version is no further than κ, the links' no less -/
def TVk (κ : Int) (B : Nat) (σ : Sg) (ν : Nat) (ig : sI) : Prop := TV B σ ν ig ∧ (ig (B + 37) 7).toInt ≤ κ
/-- families and units as they are now -/
def FmW (B : Nat) (σ : Sg) (ig : sI) : Prop := ∀ p, p < 288 → FmR σ p (ig (B + 30) p).toInt
def UW (B : Nat) (σ : Sg) (ig : sI) : Prop := UOk σ (uR B ig) (clR B ig)
section TVK
variable {κ : Int} {b B : Nat} {σ σ' : Sg} {ν ν' : Nat} {kd kd' : sK} {ig ig' : sI} {rg rg' : sR} {lg lg' : sG} {T : List Nat}
theorem TVk.nx (h : TVk κ B σ ν ig) (hN : Nx b B none kd ig rg lg kd' ig' rg' lg') (hb : b.testBit 6 = true := by decide) : TVk κ B σ ν ig' := by
  refine ⟨h.1.nx hN hb, ?_⟩
  rw [hN.2.2.2.1 37 7 (by show b.testBit 6 = true; exact hb)]
  exact h.2
theorem TVk.post (h : TVk κ B σ ν ig) (hN : Nx b B none kd ig rg lg kd' ig' rg' lg') (hv : ν' = ν + 1 ∨ (ν' = ν ∧ σ' = σ)) (hb : b.testBit 6 = true := by decide) : TVk κ B σ' ν' ig' := by
  refine ⟨h.1.post hN hv hb, ?_⟩
  rw [hN.2.2.2.1 37 7 (by show b.testBit 6 = true; exact hb)]
  exact h.2
theorem TVk.of (h1 : TtP B (isTot σ) 288 ig) (h3 : (ig (B + 37) 7).toInt = (ν : Int)) : TVk (ν : Int) B σ ν ig := ⟨TV.of h1 h3, by omega⟩
theorem TVk.fo (h : TVk κ B σ ν ig) (hO : Fo B T ig lg ig' lg') (hT : 37 ∉ T ∧ 38 ∉ T := by decide) : TVk κ B σ ν ig' := by
  have e7 : ig' (B + 37) 7 = ig (B + 37) 7 := hO.i 37 7 (by decide) hT.1
  unfold TVk TV
  rw [e7]
  exact ⟨⟨h.1.1, fun q => (h.1.2 q).ag (fun p => hO.i 38 p (by decide) hT.2)⟩, h.2⟩
theorem FmW.nx (h : FmW B σ ig) (hN : Nx b B none kd ig rg lg kd' ig' rg' lg') (hb : b.testBit 2 = true := by decide) : FmW B σ ig' := fun p hp => by
  rw [hN.2.2.2.1 30 p (by show b.testBit 2 = true; exact hb)]
  exact h p hp
theorem UW.nx (h : UW B σ ig) (hN : Nx b B none kd ig rg lg kd' ig' rg' lg') (hb : b.testBit 5 = true := by decide) : UW B σ ig' := by
  have r : ∀ c j, gO c j = 5 → ig' (B + c) j = ig (B + c) j := fun c j hc => hN.2.2.2.1 c j (by rw [hc]; exact hb)
  obtain ⟨e1, e2⟩ := rows_u (B := B) (ig := ig) (ig' := ig') (fun j => r 33 j rfl) (fun j => r 34 j rfl)
  unfold UW
  rw [e1, e2]
  exact h
theorem LV.up {κ : Int} (h : LV κ B σ ν ig lg) (e : (ig (B + 15) 11).toInt = (ν : Int)) : LV (ν : Int) B σ ν ig lg := ⟨by omega, h.2⟩
end TVK
/-- what cell() tells -/
def CeR (σ : Sg) (K : Nat → Prop) (x y z : Int) : Prop := (y = 0 → z = kdO (σ x.toNat)) ∧ (y = 1 → ∃ v e : Vl, VOk σ v e ∧ z = (v x.toNat).toInt) ∧ (y = 2 → ∃ v e : Vl, VOk σ v e ∧ z = (e x.toNat).toInt) ∧ (y = 3 → FmR σ x.toNat z) ∧ (4 ≤ y ∧ y ≤ 6 → ∃ (u : Us) (c : Cs), UOk σ u c ∧ z = (ucp (u x.toNat) (y - 4)).toInt) ∧ (y = 7 → (z = 1 ∧ isTot σ x.toNat) ∨ (z = 0 ∧ ¬ isTot σ x.toNat)) ∧ (y = 8 → CnZ (fun q => Rd σ x.toNat q) z) ∧ (y = 9 → CnZ (fun q => Rd σ q x.toNat) z) ∧ (y = 10 → (z = 1 ∧ K x.toNat) ∨ (z = 0 ∧ ¬ K x.toNat))
theorem CeR.det {σ : Sg} {π : Ps} {K : Nat → Prop} {x y z u : Int} (hW : WS σ π) (hx : onS x) (hy : 0 ≤ y ∧ y ≤ 10) (h1 : CeR σ K x y z) (h2 : CeR σ K x y u) : z = u := by
  unfold onS at hx
  obtain ⟨a0, a1, a2, a3, a4, a7, a8, a9, a10⟩ := h1
  obtain ⟨b0, b1, b2, b3, b4, b7, b8, b9, b10⟩ := h2
  have yn : ∀ {P : Prop}, ((z = 1 ∧ P) ∨ (z = 0 ∧ ¬ P)) → ((u = 1 ∧ P) ∨ (u = 0 ∧ ¬ P)) → z = u := fun p q => by
    rcases p with ⟨e, p⟩ | ⟨e, p⟩ <;> rcases q with ⟨f, q⟩ | ⟨f, q⟩
    · omega
    · exact absurd p q
    · exact absurd q p
    · omega
  by_cases c0 : y = 0
  · rw [a0 c0, b0 c0]
  by_cases c1 : y = 1
  · obtain ⟨v, e, p1, p2⟩ := a1 c1
    obtain ⟨w, d, q1, q2⟩ := b1 c1
    rw [p2, q2, (VOk.det hW p1 q1 _ (by omega)).1]
  by_cases c2 : y = 2
  · obtain ⟨v, e, p1, p2⟩ := a2 c2
    obtain ⟨w, d, q1, q2⟩ := b2 c2
    rw [p2, q2, (VOk.det hW p1 q1 _ (by omega)).2]
  by_cases c3 : y = 3
  · exact (a3 c3).det (b3 c3)
  by_cases c4 : y ≤ 6
  · obtain ⟨v, e, p1, p2⟩ := a4 (by omega)
    obtain ⟨w, d, q1, q2⟩ := b4 (by omega)
    rw [p2, q2, (UOk.det hW p1 q1 _ (by omega)).1]
  by_cases c7 : y = 7
  · exact yn (a7 c7) (b7 c7)
  by_cases c8 : y = 8
  · exact (a8 c8).det (b8 c8)
  by_cases c9 : y = 9
  · exact (a9 c9).det (b9 c9)
  · exact yn (a10 (by omega)) (b10 (by omega))
set_option maxHeartbeats 4000000 in
set_option maxRecDepth 100000 in
theorem t_X8_settleK {κ : Int} {τ : Tp} (l : Launch) (B : Nat) (D : va_G) (cA : Nat → ClassId) (kd : sK) (ig : sI) (rg : sR) (lg : sG) (sz : Nat) (σ : Sg) (π : Ps) (ν : Nat) (hS : SCh B σ π ν kd ig rg) (hLv : LV κ B σ ν ig lg) (hW : WS σ π) (hTv : TVk κ B σ ν ig) (hI : IC τ B kd ig rg) : MC l B D cA yX8_settle cX8_settle 3 none (rL 6 0 0) [.ref (B + 37)] kd ig rg lg sz (PI 950 τ B none kd ig rg lg (fun r kd' ig' rg' lg' => (r = none ∧ (LV (ν : Int) B σ ν ig' lg' ∧ TtP B (isTot σ) 288 ig' ∧ (ig' (B + 37) 7).toInt = (ν : Int) ∧ (ig' (B + 15) 11).toInt = (ν : Int))))) := by
  refine MC.of (own := RX8) (by decide +kernel) rfl (Nat.le_of_ble_eq_true rfl) ?_
  intro p e s m args below meth c ls C hr hlk hnm hw hsz hl
  have hx := C.1.1
  have hb := C.1.2.1
  have hown := C.1.2.2.2.1
  have hts := C.1.2.2.2.2
  have hl : lv_has ls 3 [(0, .ref (B + 37))] := hl
  have hN : Nx 950 B none kd ig rg lg kd ig rg lg := Nx.rf
  have hsh := hI.sh
  have hrs := hI.rs
  have hv9 := hS.v
  refine lv_aload_n hx hb dX8_settle_0 rfl (lv_at hl 0 rfl) ?_
  refine r_get C hw (hsh 37 _ rfl) fl_X8_37 (oV_i rfl) dX8_settle_1 (ti_c (ig (B + 37) 7).toInt rfl fun z1 hz1 => ?_)
  refine lv_aload_n hx hb dX8_settle_4 rfl (lv_at hl 0 rfl) ?_
  refine r_get C hw (hsh 37 _ rfl) fl_X8_9 (oV_r rfl (hrs (37, 0, 9) (by decide))) dX8_settle_5 ?_
  refine r_get C hw (hsh 9 _ rfl) fl_X8_41 (oV_i rfl) dX8_settle_8 (ti_c (ig (B + 9) 6).toInt rfl fun z2 hz2 => ?_)
  refine b_ne (tgt := 15) hx hb dX8_settle_11 (by decide) (fun c11 => ?_) (fun c11 => ?_)
  · refine lv_aload_n hx hb dX8_settle_15 rfl (lv_at hl 0 rfl) ?_
    refine lv_aload_n hx hb dX8_settle_16 rfl (lv_at hl 0 rfl) ?_
    refine r_get C hw (hsh 37 _ rfl) fl_X8_9 (oV_r rfl (hrs (37, 0, 9) (by decide))) dX8_settle_17 ?_
    refine r_get C hw (hsh 9 _ rfl) fl_X8_41 (oV_i rfl) dX8_settle_20 (ti_c (ig (B + 9) 6).toInt rfl fun z3 hz3 => ?_)
    refine r_puti C hw (hsh 37 _ rfl) fl_X8_37 rfl rfl rfl dX8_settle_23 (fun H locs hH hw => ?_)
    obtain ⟨ig4, eig4⟩ : ∃ f, f = up2 ig (B + 37) 7 z3 := ⟨_, rfl⟩
    rw [← eig4] at hw
    have hN : Nx 950 B none kd ig rg lg kd ig4 rg lg := by rw [eig4]; exact hN.pi (by omega)
    have hI : IC τ B kd ig4 rg := by rw [eig4]; exact hI.pi (show okR none _ from trivial)
    have wig4 : (ig4 (B + 37) 7).toInt = z3.toInt := by rw [eig4, up2_eq]
    have wig4_9_6 : (ig4 (B + 9) 6).toInt = (ig (B + 9) 6).toInt := by rw [eig4, up2_a (by omega)]
    have wig4_15_11 : (ig4 (B + 15) 11).toInt = (ig (B + 15) 11).toInt := by rw [eig4, up2_a (by omega)]
    have hLv : LV κ B σ ν ig4 lg := by rw [eig4]; exact hLv.w (by decide)
    refine lv_aload_n hx hb dX8_settle_26 rfl (lv_at hl 0 rfl) ?_
    refine r_get C hw (hsh 37 _ rfl) fl_X8_15 (oV_r rfl (hrs (37, 1, 15) (by decide))) dX8_settle_27 ?_
    refine r_callV (As := []) (rest := []) C hw (t_X5_settleE l B D cA kd ig4 rg lg _  σ π ν (hS.nx hN) hLv hW hI) sv_X8_44 (hsh 15 _ rfl) rfl hl.1 rfl (Nat.le_of_ble_eq_true rfl) ⟨Nat.le_of_ble_eq_true rfl, Nat.le_of_ble_eq_true rfl⟩ ⟨Nat.le_of_ble_eq_true rfl, Nat.le_of_ble_eq_true rfl⟩ dX8_settle_30 (fun r9 kd5 ig6 rg7 lg8 H locs hw hH hp10 => ?_)
    obtain ⟨hI, hchp10, hrhp10⟩ := hp10
    have hN := hN.tr hchp10
    have hsh := hI.sh
    have hrs := hI.rs
    have hLv := LV.of hrhp10.2.1.1 hrhp10.2.1.2.1 hrhp10.2.1.2.2 hLv.le
    have rg0 := hrhp10.2.1.1.2.1
    have fo9 := hrhp10.2.2
    have v15 := hrhp10.2.1.2.2
    obtain ⟨rfl, hvhp10⟩ := hrhp10
    refine lv_iconst (v := 0) hx hb dX8_settle_33 (by decide) (ti_c 0 (by decide) fun z11 hz11 => ?_)
    refine lv_istore_n (lv' := [(1, .int z11), (0, .ref (B + 37))]) hx hb dX8_settle_34 rfl hl (by decide) rfl (fun ls hl => ?_)
    have L35 : ∀ (n : Nat) (ls : Array Slot) (H : Heap) (locs : List Loc) (kd13 : sK) (ig14 : sI) (rg15 : sR) (lg16 : sG) (v12 : Int32), lv_has ls 3 [(1, .int v12), (0, .ref (B + 37))] → WD B D cA s.heap kd13 ig14 rg15 lg16 H locs → IC τ B kd13 ig14 rg15 → Nx 950 B none kd ig rg lg kd13 ig14 rg15 lg16 → (0 ≤ v12.toInt) → (v12.toInt ≤ 288) → (TtP B (isTot σ) v12.toInt.toNat ig14) → (RgA B (Rg σ) ig14) → ((ig14 (B + 37) 7).toInt = (ν : Int)) → ((ig14 (B + 15) 11).toInt = (ν : Int)) → (LV κ B σ ν ig14 lg16) → 288 - v12.toInt < (n : Int) → W p l e (rL 6 0 0) s m args below meth c H locs 0 0 (MQ below (QcW B D cA (PI 950 τ B none kd ig rg lg (fun r kd' ig' rg' lg' => (r = none ∧ (LV (ν : Int) B σ ν ig' lg' ∧ TtP B (isTot σ) 288 ig' ∧ (ig' (B + 37) 7).toInt = (ν : Int) ∧ (ig' (B + 15) 11).toInt = (ν : Int)))))) args s 0 0 (fun q => B ≤ q)) (F0 m 35 ls []) := by
      intro n35
      induction n35 with
      | zero => intro ls H locs kd13 ig14 rg15 lg16 v12 hl hw hI hN g35_0 g35_1 g35_2 g35_3 g35_4 g35_5 g35_6 hmu; exact absurd hmu (by omega)
      | succ n35 ih35 =>
        intro ls H locs kd13 ig14 rg15 lg16 v12 hl hw hI hN g35_0 g35_1 g35_2 g35_3 g35_4 g35_5 g35_6 hmu
        have hsh := hI.sh
        have hrs := hI.rs
        have hLv := g35_6
        refine lv_iload_n hx hb dX8_settle_35 rfl (lv_at hl 0 rfl) ?_
        refine lv_sipush (v := 288) hx hb dX8_settle_36 (by decide) (ti_c 288 (by decide) fun z17 hz17 => ?_)
        refine b_ge (tgt := 90) hx hb dX8_settle_39 (by decide) (fun c39 => ?_) (fun c39 => ?_)
        · exact r_vret C hw hr hlk (Nat.le_of_ble_eq_true rfl) (Nat.le_of_ble_eq_true rfl) dX8_settle_90 ⟨hI, hN, ⟨rfl, ⟨hLv.up (by omega), (by have q9 := g35_2; rw [show v12.toInt.toNat = 288 by omega] at q9; exact q9), by omega, by omega⟩⟩⟩
        · refine lv_aload_n hx hb dX8_settle_42 rfl (lv_at hl 1 rfl) ?_
          refine r_get C hw (hsh 37 _ rfl) fl_X8_9 (oV_r rfl (hrs (37, 0, 9) (by decide))) dX8_settle_43 ?_
          refine lv_iload_n hx hb dX8_settle_46 rfl (lv_at hl 0 rfl) ?_
          refine r_callV (As := [.int v12]) (rest := []) C hw (t_X6_formulaAtE l B D cA kd13 ig14 rg15 lg16 _ v12 σ π ν (hS.nx hN) hI) sv_X8_49 (hsh 9 _ rfl) rfl hl.1 rfl (Nat.le_of_ble_eq_true rfl) ⟨Nat.le_of_ble_eq_true rfl, Nat.le_of_ble_eq_true rfl⟩ ⟨Nat.le_of_ble_eq_true rfl, Nat.le_of_ble_eq_true rfl⟩ dX8_settle_47 (fun r22 kd18 ig19 rg20 lg21 H locs hw hH hp23 => ?_)
          obtain ⟨rfl, rfl, rfl, rfl, hzhp23, hrhp23⟩ := hp23
          rcases hrhp23 with ⟨rfl, nkf24⟩ | ⟨f24, rfl, nkf24, hLf24⟩
          · refine lv_astore_nN (lv' := [(2, .null), (1, .int v12), (0, .ref (B + 37))]) hx hb dX8_settle_50 rfl hl (by decide) rfl (fun ls hl => ?_)
            refine lv_aload_n hx hb dX8_settle_51 rfl (lv_at hl 2 rfl) ?_
            refine r_get C hw (hsh 37 _ rfl) fl_X8_19 (oV_r rfl (hrs (37, 2, 38) (by decide))) dX8_settle_52 ?_
            refine lv_iload_n hx hb dX8_settle_55 rfl (lv_at hl 1 rfl) ?_
            refine lv_aload_nN hx hb dX8_settle_56 rfl (lv_at hl 0 rfl) ?_
            refine lv_ifnullN (tgt := 82) hx hb dX8_settle_57 (by decide) ?_
            refine lv_iconst (v := 0) hx hb dX8_settle_82 (by decide) (ti_c 0 (by decide) fun z25 hz25 => ?_)
            refine r_zast C hw (hsh 38 _ rfl) (by omega) (by omega) (nar_b (by omega)) dX8_settle_83 (fun H locs hH hw => ?_)
            obtain ⟨ig26, eig26⟩ : ∃ f, f = up2 ig14 (B + 38) v12.toInt.toNat z25 := ⟨_, rfl⟩
            rw [← eig26] at hw
            have hN : Nx 950 B none kd ig rg lg kd13 ig26 rg15 lg16 := by rw [eig26]; exact hN.pi (by omega)
            have hI : IC τ B kd13 ig26 rg15 := by rw [eig26]; exact hI.pi (show okR none _ from trivial)
            have wig26_37_7 : (ig26 (B + 37) 7).toInt = (ig14 (B + 37) 7).toInt := by rw [eig26, up2_a (by omega)]
            have wig26_9_6 : (ig26 (B + 9) 6).toInt = (ig14 (B + 9) 6).toInt := by rw [eig26, up2_a (by omega)]
            have wig26_15_11 : (ig26 (B + 15) 11).toInt = (ig14 (B + 15) 11).toInt := by rw [eig26, up2_a (by omega)]
            have tt9 : TtP B (isTot σ) (v12.toInt.toNat + 1) ig26 := by rw [eig26]; exact TtP.up g35_2 (Or.inr ⟨by omega, fun q => nkf24 (by have q8 := q.2.1; rw [← atC_on (σ := σ) (x := v12.toInt) (by omega)] at q8; exact q8)⟩)
            have rgn : RgA B (Rg σ) ig26 := by rw [eig26]; exact g35_3.ag (fun p => up2_a (by omega))
            have hLv : LV κ B σ ν ig26 lg16 := by rw [eig26]; exact hLv.w (by decide)
            refine tc_inc hx hb dX8_settle_84 hl (k := 1) rfl (by decide) (by decide) (fun z27 hz27 ls hl => ?_)
            first | replace hz27 := hz27 (by omega) | clear hz27
            have hl : lv_has ls 3 [(1, .int z27), (2, .null), (0, .ref (B + 37))] := hl
            refine lv_goto (tgt := 35) hx hb dX8_settle_87 (by decide) ?_
            exact ih35 ls H locs kd13 ig26 rg15 lg16 z27 (lv_sub hl [0, 2] rfl) hw hI hN (by omega) (by omega) (by rw [show z27.toInt.toNat = v12.toInt.toNat + 1 by omega]; exact tt9) (rgn) (by omega) (by omega) (hLv) (by omega)
          · have lf24 := hLf24.le
            refine lv_astore_n (lv' := [(2, .ref f24), (1, .int v12), (0, .ref (B + 37))]) hx hb dX8_settle_50 rfl hl (by decide) rfl (fun ls hl => ?_)
            refine lv_aload_n hx hb dX8_settle_51 rfl (lv_at hl 2 rfl) ?_
            refine r_get C hw (hsh 37 _ rfl) fl_X8_19 (oV_r rfl (hrs (37, 2, 38) (by decide))) dX8_settle_52 ?_
            refine lv_iload_n hx hb dX8_settle_55 rfl (lv_at hl 1 rfl) ?_
            refine lv_aload_n hx hb dX8_settle_56 rfl (lv_at hl 0 rfl) ?_
            refine lv_ifnull hx hb dX8_settle_57 ?_
            refine lv_aload_n hx hb dX8_settle_60 rfl (lv_at hl 0 rfl) ?_
            refine r_callV (As := []) (rest := [.int v12, .ref (B + 38)]) C hw (t_X4_isOfReadsAndPlusE l B D cA kd13 ig14 rg15 lg16 _ f24 (fmO (atC σ v12.toInt)) hLf24  hI) sv_X8_53 (isFn.k (FnL.F hLf24)) rfl hl.1 rfl (Nat.le_of_ble_eq_true rfl) ⟨Nat.le_of_ble_eq_true rfl, Nat.le_of_ble_eq_true rfl⟩ ⟨Nat.le_of_ble_eq_true rfl, Nat.le_of_ble_eq_true rfl⟩ dX8_settle_61 (fun r32 kd28 ig29 rg30 lg31 H locs hw hH hp33 => ?_)
            obtain ⟨rfl, rfl, rfl, rfl, hzhp33, hrhp33⟩ := hp33
            obtain ⟨z34, rfl, hz34⟩ := hrhp33
            have tlh := hz34
            refine z_eq (tgt := 82) hx hb dX8_settle_64 (by decide) (fun c64 => ?_) (fun c64 => ?_)
            · refine lv_iconst (v := 0) hx hb dX8_settle_82 (by decide) (ti_c 0 (by decide) fun z35 hz35 => ?_)
              refine r_zast C hw (hsh 38 _ rfl) (by omega) (by omega) (nar_b (by omega)) dX8_settle_83 (fun H locs hH hw => ?_)
              obtain ⟨ig36, eig36⟩ : ∃ f, f = up2 ig14 (B + 38) v12.toInt.toNat z35 := ⟨_, rfl⟩
              rw [← eig36] at hw
              have hN : Nx 950 B none kd ig rg lg kd13 ig36 rg15 lg16 := by rw [eig36]; exact hN.pi (by omega)
              have hI : IC τ B kd13 ig36 rg15 := by rw [eig36]; exact hI.pi (show okR none _ from trivial)
              have wig36_37_7 : (ig36 (B + 37) 7).toInt = (ig14 (B + 37) 7).toInt := by rw [eig36, up2_a (by omega)]
              have wig36_9_6 : (ig36 (B + 9) 6).toInt = (ig14 (B + 9) 6).toInt := by rw [eig36, up2_a (by omega)]
              have wig36_15_11 : (ig36 (B + 15) 11).toInt = (ig14 (B + 15) 11).toInt := by rw [eig36, up2_a (by omega)]
              have tt9 : TtP B (isTot σ) (v12.toInt.toNat + 1) ig36 := by rw [eig36]; exact TtP.up g35_2 (Or.inr ⟨by omega, fun q => by0 tlh (by omega) (by have q8 := q.2.2.1; rw [← atC_on (σ := σ) (x := v12.toInt) (by omega)] at q8; exact q8)⟩)
              have rgn : RgA B (Rg σ) ig36 := by rw [eig36]; exact g35_3.ag (fun p => up2_a (by omega))
              have hLv : LV κ B σ ν ig36 lg16 := by rw [eig36]; exact hLv.w (by decide)
              refine tc_inc hx hb dX8_settle_84 hl (k := 1) rfl (by decide) (by decide) (fun z37 hz37 ls hl => ?_)
              first | replace hz37 := hz37 (by omega) | clear hz37
              have hl : lv_has ls 3 [(1, .int z37), (2, .ref f24), (0, .ref (B + 37))] := hl
              refine lv_goto (tgt := 35) hx hb dX8_settle_87 (by decide) ?_
              exact ih35 ls H locs kd13 ig36 rg15 lg16 z37 (lv_sub hl [0, 2] rfl) hw hI hN (by omega) (by omega) (by rw [show z37.toInt.toNat = v12.toInt.toNat + 1 by omega]; exact tt9) (rgn) (by omega) (by omega) (hLv) (by omega)
            · have tl9 := by1 tlh (by omega)
              refine lv_aload_n hx hb dX8_settle_67 rfl (lv_at hl 2 rfl) ?_
              refine r_get C hw (hsh 37 _ rfl) fl_X8_15 (oV_r rfl (hrs (37, 1, 15) (by decide))) dX8_settle_68 ?_
              refine lv_iload_n hx hb dX8_settle_71 rfl (lv_at hl 1 rfl) ?_
              refine r_callV (As := [.int v12]) (rest := [.int v12, .ref (B + 38)]) C hw (t_X5_inRingE l B D cA kd13 ig14 rg15 lg16 _ v12 (Rg σ) g35_3 (by omega) hI) sv_X8_59 (hsh 15 _ rfl) rfl hl.1 rfl (Nat.le_of_ble_eq_true rfl) ⟨Nat.le_of_ble_eq_true rfl, Nat.le_of_ble_eq_true rfl⟩ ⟨Nat.le_of_ble_eq_true rfl, Nat.le_of_ble_eq_true rfl⟩ dX8_settle_72 (fun r42 kd38 ig39 rg40 lg41 H locs hw hH hp43 => ?_)
              obtain ⟨rfl, rfl, rfl, rfl, hzhp43, hrhp43⟩ := hp43
              obtain ⟨z44, rfl, hz44⟩ := hrhp43
              have rg9 := hz44
              refine z_ne (tgt := 82) hx hb dX8_settle_75 (by decide) (fun c75 => ?_) (fun c75 => ?_)
              · refine lv_iconst (v := 0) hx hb dX8_settle_82 (by decide) (ti_c 0 (by decide) fun z45 hz45 => ?_)
                refine r_zast C hw (hsh 38 _ rfl) (by omega) (by omega) (nar_b (by omega)) dX8_settle_83 (fun H locs hH hw => ?_)
                obtain ⟨ig46, eig46⟩ : ∃ f, f = up2 ig14 (B + 38) v12.toInt.toNat z45 := ⟨_, rfl⟩
                rw [← eig46] at hw
                have hN : Nx 950 B none kd ig rg lg kd13 ig46 rg15 lg16 := by rw [eig46]; exact hN.pi (by omega)
                have hI : IC τ B kd13 ig46 rg15 := by rw [eig46]; exact hI.pi (show okR none _ from trivial)
                have wig46_37_7 : (ig46 (B + 37) 7).toInt = (ig14 (B + 37) 7).toInt := by rw [eig46, up2_a (by omega)]
                have wig46_9_6 : (ig46 (B + 9) 6).toInt = (ig14 (B + 9) 6).toInt := by rw [eig46, up2_a (by omega)]
                have wig46_15_11 : (ig46 (B + 15) 11).toInt = (ig14 (B + 15) 11).toInt := by rw [eig46, up2_a (by omega)]
                have tt9 : TtP B (isTot σ) (v12.toInt.toNat + 1) ig46 := by rw [eig46]; exact TtP.up g35_2 (Or.inr ⟨by omega, fun q => q.2.2.2 (by1 rg9 (by omega))⟩)
                have rgn : RgA B (Rg σ) ig46 := by rw [eig46]; exact g35_3.ag (fun p => up2_a (by omega))
                have hLv : LV κ B σ ν ig46 lg16 := by rw [eig46]; exact hLv.w (by decide)
                refine tc_inc hx hb dX8_settle_84 hl (k := 1) rfl (by decide) (by decide) (fun z47 hz47 ls hl => ?_)
                first | replace hz47 := hz47 (by omega) | clear hz47
                have hl : lv_has ls 3 [(1, .int z47), (2, .ref f24), (0, .ref (B + 37))] := hl
                refine lv_goto (tgt := 35) hx hb dX8_settle_87 (by decide) ?_
                exact ih35 ls H locs kd13 ig46 rg15 lg16 z47 (lv_sub hl [0, 2] rfl) hw hI hN (by omega) (by omega) (by rw [show z47.toInt.toNat = v12.toInt.toNat + 1 by omega]; exact tt9) (rgn) (by omega) (by omega) (hLv) (by omega)
              · refine lv_iconst (v := 1) hx hb dX8_settle_78 (by decide) (ti_c 1 (by decide) fun z48 hz48 => ?_)
                refine lv_goto (tgt := 83) hx hb dX8_settle_79 (by decide) ?_
                refine r_zast C hw (hsh 38 _ rfl) (by omega) (by omega) (nar_b (by omega)) dX8_settle_83 (fun H locs hH hw => ?_)
                obtain ⟨ig49, eig49⟩ : ∃ f, f = up2 ig14 (B + 38) v12.toInt.toNat z48 := ⟨_, rfl⟩
                rw [← eig49] at hw
                have hN : Nx 950 B none kd ig rg lg kd13 ig49 rg15 lg16 := by rw [eig49]; exact hN.pi (by omega)
                have hI : IC τ B kd13 ig49 rg15 := by rw [eig49]; exact hI.pi (show okR none _ from trivial)
                have wig49_37_7 : (ig49 (B + 37) 7).toInt = (ig14 (B + 37) 7).toInt := by rw [eig49, up2_a (by omega)]
                have wig49_9_6 : (ig49 (B + 9) 6).toInt = (ig14 (B + 9) 6).toInt := by rw [eig49, up2_a (by omega)]
                have wig49_15_11 : (ig49 (B + 15) 11).toInt = (ig14 (B + 15) 11).toInt := by rw [eig49, up2_a (by omega)]
                have tt9 : TtP B (isTot σ) (v12.toInt.toNat + 1) ig49 := by rw [eig49]; exact TtP.up g35_2 (Or.inl ⟨by omega, by omega, (by rw [← atC_on (σ := σ) (x := v12.toInt) (by omega)]; exact nkf24), (by rw [← atC_on (σ := σ) (x := v12.toInt) (by omega)]; exact tl9), by0 rg9 (by omega)⟩)
                have rgn : RgA B (Rg σ) ig49 := by rw [eig49]; exact g35_3.ag (fun p => up2_a (by omega))
                have hLv : LV κ B σ ν ig49 lg16 := by rw [eig49]; exact hLv.w (by decide)
                refine tc_inc hx hb dX8_settle_84 hl (k := 1) rfl (by decide) (by decide) (fun z50 hz50 ls hl => ?_)
                first | replace hz50 := hz50 (by omega) | clear hz50
                have hl : lv_has ls 3 [(1, .int z50), (2, .ref f24), (0, .ref (B + 37))] := hl
                refine lv_goto (tgt := 35) hx hb dX8_settle_87 (by decide) ?_
                exact ih35 ls H locs kd13 ig49 rg15 lg16 z50 (lv_sub hl [0, 2] rfl) hw hI hN (by omega) (by omega) (by rw [show z50.toInt.toNat = v12.toInt.toNat + 1 by omega]; exact tt9) (rgn) (by omega) (by omega) (hLv) (by omega)
    exact L35 ((288 - z11.toInt) + 1).toNat ls H locs kd5 ig6 rg7 lg8 z11 (lv_sub hl [0, 1] rfl) hw hI hN (by omega) (by omega) (fun p hp => by omega) (rg0) (by rw [fo9.i 37 _]; omega) (v15) (hLv) (by omega)
  · exact r_vret C hw hr hlk (Nat.le_of_ble_eq_true rfl) (Nat.le_of_ble_eq_true rfl) dX8_settle_14 ⟨hI, hN, ⟨rfl, (by have q9 := hLv.1; have q8 := hTv.2; exact ⟨hLv.up (by omega), hTv.1.2 (by omega), by omega, by omega⟩)⟩⟩

set_option maxHeartbeats 4000000 in
set_option maxRecDepth 100000 in
theorem t_X11_checkC {κ : Int} {τ : Tp} (l : Launch) (B : Nat) (D : va_G) (cA : Nat → ClassId) (kd : sK) (ig : sI) (rg : sR) (lg : sG) (sz : Nat) (σ : Sg) (π : Ps) (ν : Nat) (hS : SCh B σ π ν kd ig rg) (hV : FV B σ ν ig) (hν : ν < 1000000) (hLv : LV κ B σ ν ig lg) (hVv : VV B σ ν ig) (hW : WS σ π) (hHt : HtS σ) (hUv : UV B σ ν ig) (hTv : TVk κ B σ ν ig) (hK3 : K3S σ π) (K : Nat → Prop) (hK : KpC B K ig) (w : Nat → Nat → Int) (hwr : WR σ w) (u : Us) (cz9 : Cs) (hu : UOk σ u cz9) (hI : IC τ B kd ig rg) : MC l B D cA yX11_check cX11_check 1 (some .int) (rL 7 0 0) [.ref (B + 0)] kd ig rg lg sz (PI 786 τ B none kd ig rg lg (fun r kd' ig' rg' lg' => ∃ z : Int32, r = some (.int z) ∧ ((∃ κ' : Int, (SCh B σ π ν kd' ig' rg' ∧ FV B σ ν ig' ∧ LV κ' B σ ν ig' lg' ∧ VV B σ ν ig' ∧ UV B σ ν ig' ∧ TVk κ' B σ ν ig' ∧ KpC B K ig')) ∧ ∃ ff : List Fng, FdT σ K ff ∧ FdS B ff ig' ∧ z.toInt = (ff.length : Int)))) := by
  refine MC.of (own := RX11) (by decide +kernel) rfl (Nat.le_of_ble_eq_true rfl) ?_
  intro p e s m args below meth c ls C hr hlk hnm hw hsz hl
  have hx := C.1.1
  have hb := C.1.2.1
  have hown := C.1.2.2.2.1
  have hts := C.1.2.2.2.2
  have hl : lv_has ls 1 [(0, .ref (B + 0))] := hl
  have hN : Nx 786 B none kd ig rg lg kd ig rg lg := Nx.rf
  have hsh := hI.sh
  have hrs := hI.rs
  refine lv_aload_n hx hb dX11_check_0 rfl (lv_at hl 0 rfl) ?_
  refine r_get C hw (hsh 0 _ rfl) fl_X11_44 (oV_r rfl (hrs (0, 4, 29) (by decide))) dX11_check_1 ?_
  refine r_callV (As := []) (rest := []) C hw (t_X2_settleE l B D cA kd ig rg lg _  σ π ν hS hV hI) sv_X11_140 (hsh 29 _ rfl) rfl hl.1 rfl (Nat.le_of_ble_eq_true rfl) ⟨Nat.le_of_ble_eq_true rfl, Nat.le_of_ble_eq_true rfl⟩ ⟨Nat.le_of_ble_eq_true rfl, Nat.le_of_ble_eq_true rfl⟩ dX11_check_4 (fun r5 kd1 ig2 rg3 lg4 H locs hw hH hp6 => ?_)
  obtain ⟨hI, hchp6, hrhp6⟩ := hp6
  have hN := hN.tr hchp6
  have hsh := hI.sh
  have hrs := hI.rs
  have hV := FV.of hrhp6.2.1 hrhp6.2.2
  have hS := SCh.nx hS hchp6
  have hLv := LV.nx hLv hchp6
  have hVv := VV.nx hVv hchp6
  have hUv := UV.nx hUv hchp6
  have hTv := TVk.nx hTv hchp6
  have hK := KpC.nx hK hchp6
  have hFk : FmW B σ ig2 := hrhp6.2.1
  obtain ⟨rfl, hvhp6⟩ := hrhp6
  refine lv_aload_n hx hb dX11_check_7 rfl (lv_at hl 0 rfl) ?_
  refine r_get C hw (hsh 0 _ rfl) fl_X11_51 (oV_r rfl (hrs (0, 5, 32) (by decide))) dX11_check_8 ?_
  refine r_callV (As := []) (rest := []) C hw (t_X9_settleU l B D cA kd1 ig2 rg3 lg4 _  σ π ν hS hLv hUv hW hHt hI) sv_X11_143 (hsh 32 _ rfl) rfl hl.1 rfl (Nat.le_of_ble_eq_true rfl) ⟨Nat.le_of_ble_eq_true rfl, Nat.le_of_ble_eq_true rfl⟩ ⟨Nat.le_of_ble_eq_true rfl, Nat.le_of_ble_eq_true rfl⟩ dX11_check_11 (fun r11 kd7 ig8 rg9 lg10 H locs hw hH hp12 => ?_)
  obtain ⟨hI, hchp12, hrhp12⟩ := hp12
  have hN := hN.tr hchp12
  have hsh := hI.sh
  have hrs := hI.rs
  have hUk : UW B σ ig8 := hrhp12.2.1.1
  have hUv := UV.of hrhp12.2.1.1 hrhp12.2.1.2.1
  have hLv := hrhp12.2.1.2.2
  have hS := SCh.nx hS hchp12
  have hV := FV.nx hV hchp12
  have hVv := VV.nx hVv hchp12
  have hTv := TVk.nx hTv hchp12
  have hK := KpC.nx hK hchp12
  have hFk := FmW.nx hFk hchp12
  obtain ⟨rfl, hvhp12⟩ := hrhp12
  refine lv_aload_n hx hb dX11_check_14 rfl (lv_at hl 0 rfl) ?_
  refine r_get C hw (hsh 0 _ rfl) fl_X11_58 (oV_r rfl (hrs (0, 6, 37) (by decide))) dX11_check_15 ?_
  refine r_callV (As := []) (rest := []) C hw (t_X8_settleK l B D cA kd7 ig8 rg9 lg10 _  σ π ν hS hLv hW hTv hI) sv_X11_144 (hsh 37 _ rfl) rfl hl.1 rfl (Nat.le_of_ble_eq_true rfl) ⟨Nat.le_of_ble_eq_true rfl, Nat.le_of_ble_eq_true rfl⟩ ⟨Nat.le_of_ble_eq_true rfl, Nat.le_of_ble_eq_true rfl⟩ dX11_check_18 (fun r17 kd13 ig14 rg15 lg16 H locs hw hH hp18 => ?_)
  obtain ⟨hI, hchp18, hrhp18⟩ := hp18
  have hN := hN.tr hchp18
  have hsh := hI.sh
  have hrs := hI.rs
  have hTt := hrhp18.2.2.1
  have hTv := TVk.of hrhp18.2.2.1 hrhp18.2.2.2.1
  have hLv := hrhp18.2.1
  have hLs := hLv.2.2 hrhp18.2.2.2.2
  have hS := SCh.nx hS hchp18
  have hV := FV.nx hV hchp18
  have hVv := VV.nx hVv hchp18
  have hUv := UV.nx hUv hchp18
  have hK := KpC.nx hK hchp18
  have hFk := FmW.nx hFk hchp18
  have hUk := UW.nx hUk hchp18
  obtain ⟨rfl, hvhp18⟩ := hrhp18
  refine lv_aload_n hx hb dX11_check_21 rfl (lv_at hl 0 rfl) ?_
  refine r_get C hw (hsh 0 _ rfl) fl_X11_67 (oV_r rfl (hrs (0, 7, 43) (by decide))) dX11_check_22 ?_
  have fk9 := hFk
  refine r_callV (As := []) (rest := []) C hw (t_X3_gatherE l B D cA kd13 ig14 rg15 lg16 _  σ π ν hS (fun p => (ig14 (B + 30) p).toInt) (fun p hp => rfl) hW hK3 K hK hLs hTt w hwr u cz9 hu (fun p hp => (UOk.det hW hUk hu p hp).2) hI) sv_X11_145 (hsh 43 _ rfl) rfl hl.1 rfl (Nat.le_of_ble_eq_true rfl) ⟨Nat.le_of_ble_eq_true rfl, Nat.le_of_ble_eq_true rfl⟩ ⟨Nat.le_of_ble_eq_true rfl, Nat.le_of_ble_eq_true rfl⟩ dX11_check_25 (fun r23 kd19 ig20 rg21 lg22 H locs hw hH hp24 => ?_)
  obtain ⟨hI, hchp24, hrhp24⟩ := hp24
  have hN := hN.tr hchp24
  have hsh := hI.sh
  have hrs := hI.rs
  have hS := SCh.nx hS hchp24
  have hV := FV.nx hV hchp24
  have hLv := LV.nx hLv hchp24
  have hVv := VV.nx hVv hchp24
  have hUv := UV.nx hUv hchp24
  have hK := KpC.nx hK hchp24
  have hFk := FmW.nx hFk hchp24
  have hUk := UW.nx hUk hchp24
  obtain ⟨z25, rfl, hz25⟩ := hrhp24
  have hTv := hTv.fo hz25.2
  have fd9 := hz25.1
  exact r_iret C hw hr hlk rfl (Nat.le_of_ble_eq_true rfl) (Nat.le_of_ble_eq_true rfl) dX11_check_28 ⟨hI, hN, ⟨_, rfl, ⟨⟨_, hS, hV, hLv, hVv, hUv, hTv, hK⟩, (by obtain ⟨l9, q1, q2, q3⟩ := fd9; exact ⟨l9, ⟨(fun p => (ig14 (B + 30) p).toInt), w, u, cz9, fk9, hwr, hu, q1⟩, q2, q3⟩)⟩⟩⟩

set_option maxHeartbeats 4000000 in
set_option maxRecDepth 100000 in
theorem t_X11_findingC {τ : Tp} (l : Launch) (B : Nat) (D : va_G) (cA : Nat → ClassId) (kd : sK) (ig : sI) (rg : sR) (lg : sG) (sz : Nat) (x : Int32) (y : Int32) (ff : List Fng) (hF : FdS B ff ig) (hI : IC τ B kd ig rg) : MC l B D cA yX11_finding cX11_finding 3 (some .int) (rL 1 0 0) [.ref (B + 0), .int x, .int y] kd ig rg lg sz (Pu kd ig rg lg sz (fun r => ∃ z : Int32, r = some (.int z) ∧ FgR ff x.toInt y.toInt z.toInt)) := by
  refine MC.of (own := RX11) (by decide +kernel) rfl (Nat.le_of_ble_eq_true rfl) ?_
  intro p e s m args below meth c ls C hr hlk hnm hw hsz hl
  have hx := C.1.1
  have hb := C.1.2.1
  have hown := C.1.2.2.2.1
  have hts := C.1.2.2.2.2
  have hl : lv_has ls 3 [(0, .ref (B + 0)), (1, .int x), (2, .int y)] := hl
  have hsh := hI.sh
  have hrs := hI.rs
  refine lv_aload_n hx hb dX11_finding_0 rfl (lv_at hl 0 rfl) ?_
  refine r_get C hw (hsh 0 _ rfl) fl_X11_67 (oV_r rfl (hrs (0, 7, 43) (by decide))) dX11_finding_1 ?_
  refine lv_iload_n hx hb dX11_finding_4 rfl (lv_at hl 1 rfl) ?_
  refine lv_iload_n hx hb dX11_finding_5 rfl (lv_at hl 2 rfl) ?_
  refine r_callV (As := [.int x, .int y]) (rest := []) C hw (t_X3_tellE l B D cA kd ig rg lg _ x y ff hF hI) sv_X11_149 (hsh 43 _ rfl) rfl hl.1 rfl (Nat.le_of_ble_eq_true rfl) ⟨Nat.le_of_ble_eq_true rfl, Nat.le_of_ble_eq_true rfl⟩ ⟨Nat.le_of_ble_eq_true rfl, Nat.le_of_ble_eq_true rfl⟩ dX11_finding_6 (fun r5 kd1 ig2 rg3 lg4 H locs hw hH hp6 => ?_)
  obtain ⟨rfl, rfl, rfl, rfl, hzhp6, hrhp6⟩ := hp6
  have hsz := hzhp6.trans hsz
  obtain ⟨z7, rfl, hz7⟩ := hrhp6
  exact r_iret C hw hr hlk rfl (Nat.le_of_ble_eq_true rfl) (Nat.le_of_ble_eq_true rfl) dX11_finding_9 ⟨rfl, rfl, rfl, rfl, hsz, ⟨_, rfl, hz7⟩⟩

set_option maxHeartbeats 4000000 in
set_option maxRecDepth 100000 in
theorem t_X11_waysC {κ : Int} {τ : Tp} (l : Launch) (B : Nat) (D : va_G) (cA : Nat → ClassId) (kd : sK) (ig : sI) (rg : sR) (lg : sG) (sz : Nat) (x : Int32) (y : Int32) (σ : Sg) (π : Ps) (ν : Nat) (hS : SCh B σ π ν kd ig rg) (hV : FV B σ ν ig) (hν : ν < 1000000) (hLv : LV κ B σ ν ig lg) (hVv : VV B σ ν ig) (hW : WS σ π) (hHt : HtS σ) (hUv : UV B σ ν ig) (hTv : TVk κ B σ ν ig) (hK3 : K3S σ π) (K : Nat → Prop) (hK : KpC B K ig) (hI : IC τ B kd ig rg) : MC l B D cA yX11_ways cX11_ways 3 (some .int) (rL 7 0 0) [.ref (B + 0), .int x, .int y] kd ig rg lg sz (PI 950 τ B none kd ig rg lg (fun r kd' ig' rg' lg' => ∃ z : Int32, r = some (.int z) ∧ ((∃ κ' : Int, (SCh B σ π ν kd' ig' rg' ∧ FV B σ ν ig' ∧ LV κ' B σ ν ig' lg' ∧ VV B σ ν ig' ∧ UV B σ ν ig' ∧ TVk κ' B σ ν ig' ∧ KpC B K ig')) ∧ WyR σ x.toInt y.toInt z.toInt))) := by
  refine MC.of (own := RX11) (by decide +kernel) rfl (Nat.le_of_ble_eq_true rfl) ?_
  intro p e s m args below meth c ls C hr hlk hnm hw hsz hl
  have hx := C.1.1
  have hb := C.1.2.1
  have hown := C.1.2.2.2.1
  have hts := C.1.2.2.2.2
  have hl : lv_has ls 3 [(0, .ref (B + 0)), (1, .int x), (2, .int y)] := hl
  have hN : Nx 950 B none kd ig rg lg kd ig rg lg := Nx.rf
  have hsh := hI.sh
  have hrs := hI.rs
  refine lv_iload_n hx hb dX11_ways_0 rfl (lv_at hl 1 rfl) ?_
  refine r_callS (As := [.int x]) (rest := []) C hw (t_X11_onSheet l B D cA kd ig rg lg _ x  hI) ss_X11_88 rfl hl.1 rfl (Nat.le_of_ble_eq_true rfl) ⟨Nat.le_of_ble_eq_true rfl, Nat.le_of_ble_eq_true rfl⟩ ⟨Nat.le_of_ble_eq_true rfl, Nat.le_of_ble_eq_true rfl⟩ dX11_ways_1 (fun r5 kd1 ig2 rg3 lg4 H locs hw hH hp6 => ?_)
  obtain ⟨rfl, rfl, rfl, rfl, hzhp6, hrhp6⟩ := hp6
  obtain ⟨z7, rfl, hz7⟩ := hrhp6
  refine z_eq (tgt := 14) hx hb dX11_ways_4 (by decide) (fun c4 => ?_) (fun c4 => ?_)
  · refine lv_iconst (v := (-1)) hx hb dX11_ways_14 (by decide) (ti_c (-1) (by decide) fun z8 hz8 => ?_)
    exact r_iret C hw hr hlk rfl (Nat.le_of_ble_eq_true rfl) (Nat.le_of_ble_eq_true rfl) dX11_ways_15 ⟨hI, hN, ⟨_, rfl, ⟨⟨_, hS, hV, hLv, hVv, hUv, hTv, hK⟩, fun q9 => by omega, fun q9 => absurd q9 (fun q8 => by have q7 := q8.1; have q6 := q8.2; unfold onS at q7 q6; omega)⟩⟩⟩
  · refine lv_iload_n hx hb dX11_ways_7 rfl (lv_at hl 2 rfl) ?_
    refine r_callS (As := [.int y]) (rest := []) C hw (t_X11_onSheet l B D cA kd ig rg lg _ y  hI) ss_X11_88 rfl hl.1 rfl (Nat.le_of_ble_eq_true rfl) ⟨Nat.le_of_ble_eq_true rfl, Nat.le_of_ble_eq_true rfl⟩ ⟨Nat.le_of_ble_eq_true rfl, Nat.le_of_ble_eq_true rfl⟩ dX11_ways_8 (fun r13 kd9 ig10 rg11 lg12 H locs hw hH hp14 => ?_)
    obtain ⟨rfl, rfl, rfl, rfl, hzhp14, hrhp14⟩ := hp14
    obtain ⟨z15, rfl, hz15⟩ := hrhp14
    refine z_ne (tgt := 16) hx hb dX11_ways_11 (by decide) (fun c11 => ?_) (fun c11 => ?_)
    · refine lv_aload_n hx hb dX11_ways_16 rfl (lv_at hl 0 rfl) ?_
      refine r_get C hw (hsh 0 _ rfl) fl_X11_58 (oV_r rfl (hrs (0, 6, 37) (by decide))) dX11_ways_17 ?_
      refine r_callV (As := []) (rest := []) C hw (t_X8_settleK l B D cA kd ig rg lg _  σ π ν hS hLv hW hTv hI) sv_X11_144 (hsh 37 _ rfl) rfl hl.1 rfl (Nat.le_of_ble_eq_true rfl) ⟨Nat.le_of_ble_eq_true rfl, Nat.le_of_ble_eq_true rfl⟩ ⟨Nat.le_of_ble_eq_true rfl, Nat.le_of_ble_eq_true rfl⟩ dX11_ways_20 (fun r20 kd16 ig17 rg18 lg19 H locs hw hH hp21 => ?_)
      obtain ⟨hI, hchp21, hrhp21⟩ := hp21
      have hN := hN.tr hchp21
      have hsh := hI.sh
      have hrs := hI.rs
      have hTt := hrhp21.2.2.1
      have hTv := TVk.of hrhp21.2.2.1 hrhp21.2.2.2.1
      have hLv := hrhp21.2.1
      have hLs := hLv.2.2 hrhp21.2.2.2.2
      have hS := SCh.nx hS hchp21
      have hV := FV.nx hV hchp21
      have hVv := VV.nx hVv hchp21
      have hUv := UV.nx hUv hchp21
      have hK := KpC.nx hK hchp21
      obtain ⟨rfl, hvhp21⟩ := hrhp21
      refine lv_aload_n hx hb dX11_ways_23 rfl (lv_at hl 0 rfl) ?_
      refine r_get C hw (hsh 0 _ rfl) fl_X11_58 (oV_r rfl (hrs (0, 6, 37) (by decide))) dX11_ways_24 ?_
      refine lv_iload_n hx hb dX11_ways_27 rfl (lv_at hl 2 rfl) ?_
      refine r_callV (As := [.int y]) (rest := []) C hw (t_X8_isTotalE l B D cA kd16 ig17 rg18 lg19 _ y (isTot σ) hTt hI) sv_X11_196 (hsh 37 _ rfl) rfl hl.1 rfl (Nat.le_of_ble_eq_true rfl) ⟨Nat.le_of_ble_eq_true rfl, Nat.le_of_ble_eq_true rfl⟩ ⟨Nat.le_of_ble_eq_true rfl, Nat.le_of_ble_eq_true rfl⟩ dX11_ways_28 (fun r26 kd22 ig23 rg24 lg25 H locs hw hH hp27 => ?_)
      obtain ⟨rfl, rfl, rfl, rfl, hzhp27, hrhp27⟩ := hp27
      obtain ⟨z28, rfl, hz28⟩ := hrhp27
      have it9 := hz28
      refine z_eq (tgt := 46) hx hb dX11_ways_31 (by decide) (fun c31 => ?_) (fun c31 => ?_)
      · refine lv_iconst (v := (-1)) hx hb dX11_ways_46 (by decide) (ti_c (-1) (by decide) fun z29 hz29 => ?_)
        exact r_iret C hw hr hlk rfl (Nat.le_of_ble_eq_true rfl) (Nat.le_of_ble_eq_true rfl) dX11_ways_47 ⟨hI, hN, ⟨_, rfl, ⟨⟨_, hS, hV, hLv, hVv, hUv, hTv, hK⟩, fun q9 => by omega, fun q9 => ⟨fun q8 => by omega, fun q8 => absurd ⟨⟨by omega, by omega⟩, q8⟩ (by0 it9 (by omega))⟩⟩⟩⟩
      · have tot9 : isTot σ y.toInt.toNat := (by1 it9 (by omega)).2
        have on9 : onS x.toInt ∧ onS y.toInt := ⟨⟨by omega, by omega⟩, ⟨by omega, by omega⟩⟩
        refine lv_aload_n hx hb dX11_ways_34 rfl (lv_at hl 0 rfl) ?_
        refine r_get C hw (hsh 0 _ rfl) fl_X11_58 (oV_r rfl (hrs (0, 6, 37) (by decide))) dX11_ways_35 ?_
        refine lv_iload_n hx hb dX11_ways_38 rfl (lv_at hl 1 rfl) ?_
        refine lv_iload_n hx hb dX11_ways_39 rfl (lv_at hl 2 rfl) ?_
        refine r_callV (As := [.int x, .int y]) (rest := []) C hw (t_X8_waysIntoE l B D cA kd16 ig17 rg18 lg19 _ x y σ π ν hS hLs hTt hW (by omega) (by omega) tot9 hI) sv_X11_209 (hsh 37 _ rfl) rfl hl.1 rfl (Nat.le_of_ble_eq_true rfl) ⟨Nat.le_of_ble_eq_true rfl, Nat.le_of_ble_eq_true rfl⟩ ⟨Nat.le_of_ble_eq_true rfl, Nat.le_of_ble_eq_true rfl⟩ dX11_ways_40 (fun r34 kd30 ig31 rg32 lg33 H locs hw hH hp35 => ?_)
        obtain ⟨hI, hchp35, hrhp35⟩ := hp35
        have hN := hN.tr hchp35
        have hsh := hI.sh
        have hrs := hI.rs
        have hS := SCh.nx hS hchp35
        have hV := FV.nx hV hchp35
        have hLv := LV.nx hLv hchp35
        have hVv := VV.nx hVv hchp35
        have hUv := UV.nx hUv hchp35
        have hK := KpC.nx hK hchp35
        obtain ⟨z36, rfl, hz36⟩ := hrhp35
        have hTv := hTv.fo hz36.2
        have wy9 := hz36.1
        refine lv_goto (tgt := 47) hx hb dX11_ways_43 (by decide) ?_
        exact r_iret C hw hr hlk rfl (Nat.le_of_ble_eq_true rfl) (Nat.le_of_ble_eq_true rfl) dX11_ways_47 ⟨hI, hN, ⟨_, rfl, ⟨⟨_, hS, hV, hLv, hVv, hUv, hTv, hK⟩, fun q9 => absurd on9 q9, fun q9 => ⟨fun q8 => absurd tot9 q8, fun _ => wy9⟩⟩⟩⟩
    · refine lv_iconst (v := (-1)) hx hb dX11_ways_14 (by decide) (ti_c (-1) (by decide) fun z37 hz37 => ?_)
      exact r_iret C hw hr hlk rfl (Nat.le_of_ble_eq_true rfl) (Nat.le_of_ble_eq_true rfl) dX11_ways_15 ⟨hI, hN, ⟨_, rfl, ⟨⟨_, hS, hV, hLv, hVv, hUv, hTv, hK⟩, fun q9 => by omega, fun q9 => absurd q9 (fun q8 => by have q7 := q8.1; have q6 := q8.2; unfold onS at q7 q6; omega)⟩⟩⟩

set_option maxHeartbeats 4000000 in
set_option maxRecDepth 100000 in
theorem t_X2_familyAtE {τ : Tp} (l : Launch) (B : Nat) (D : va_G) (cA : Nat → ClassId) (kd : sK) (ig : sI) (rg : sR) (lg : sG) (sz : Nat) (x : Int32) (hx0 : 0 ≤ x.toInt ∧ x.toInt < 288) (hI : IC τ B kd ig rg) : MC l B D cA yX2_familyAt cX2_familyAt 2 (some .int) (rL 1 0 0) [.ref (B + 29), .int x] kd ig rg lg sz (Pu kd ig rg lg sz (fun r => ∃ z : Int32, r = some (.int z) ∧ z.toInt = (ig (B + 30) x.toInt.toNat).toInt)) := by
  refine MC.of (own := RX2) (by decide +kernel) rfl (Nat.le_of_ble_eq_true rfl) ?_
  intro p e s m args below meth c ls C hr hlk hnm hw hsz hl
  have hx := C.1.1
  have hb := C.1.2.1
  have hown := C.1.2.2.2.1
  have hts := C.1.2.2.2.2
  have hl : lv_has ls 2 [(0, .ref (B + 29)), (1, .int x)] := hl
  have hsh := hI.sh
  have hrs := hI.rs
  refine lv_iload_n hx hb dX2_familyAt_0 rfl (lv_at hl 1 rfl) ?_
  refine r_callN (As := [.int x]) (rest := []) C hw (t_X11_onSheet l B D cA kd ig rg lg _ x  hI) sn_X2_46 rfl hl.1 rfl (Nat.le_of_ble_eq_true rfl) ⟨Nat.le_of_ble_eq_true rfl, Nat.le_of_ble_eq_true rfl⟩ ⟨Nat.le_of_ble_eq_true rfl, Nat.le_of_ble_eq_true rfl⟩ dX2_familyAt_1 (fun r5 kd1 ig2 rg3 lg4 H locs hw hH hp6 => ?_)
  obtain ⟨rfl, rfl, rfl, rfl, hzhp6, hrhp6⟩ := hp6
  have hsz := hzhp6.trans hsz
  obtain ⟨z7, rfl, hz7⟩ := hrhp6
  refine z_eq (tgt := 16) hx hb dX2_familyAt_4 (by decide) (fun c4 => ?_) (fun c4 => ?_)
  · exact absurd c4 (by omega)
  · refine lv_aload_n hx hb dX2_familyAt_7 rfl (lv_at hl 0 rfl) ?_
    refine r_get C hw (hsh 29 _ rfl) fl_X2_15 (oV_r rfl (hrs (29, 1, 30) (by decide))) dX2_familyAt_8 ?_
    refine lv_iload_n hx hb dX2_familyAt_11 rfl (lv_at hl 1 rfl) ?_
    refine r_iald C hw (hsh 30 _ rfl) (by omega) (by omega) dX2_familyAt_12 (ti_c (ig (B + 30) x.toInt.toNat).toInt rfl fun z8 hz8 => ?_)
    refine lv_goto (tgt := 17) hx hb dX2_familyAt_13 (by decide) ?_
    exact r_iret C hw hr hlk rfl (Nat.le_of_ble_eq_true rfl) (Nat.le_of_ble_eq_true rfl) dX2_familyAt_17 ⟨rfl, rfl, rfl, rfl, hsz, ⟨_, rfl, hz8⟩⟩

set_option maxHeartbeats 4000000 in
set_option maxRecDepth 100000 in
theorem t_X11_cellC {κ : Int} {τ : Tp} (l : Launch) (B : Nat) (D : va_G) (cA : Nat → ClassId) (kd : sK) (ig : sI) (rg : sR) (lg : sG) (sz : Nat) (x : Int32) (y : Int32) (hst : l.stackTraces = false) (σ : Sg) (π : Ps) (ν : Nat) (hS : SCh B σ π ν kd ig rg) (hV : FV B σ ν ig) (hν : ν < 1000000) (hLv : LV κ B σ ν ig lg) (hVv : VV B σ ν ig) (hW : WS σ π) (hHt : HtS σ) (hUv : UV B σ ν ig) (hTv : TVk κ B σ ν ig) (hK3 : K3S σ π) (K : Nat → Prop) (hK : KpC B K ig) (hI : IC τ B kd ig rg) : MX l B D cA yX11_cell cX11_cell 3 (some .int) (rL 7 1 6) [.ref (B + 0), .int x, .int y] kd ig rg lg sz ((0 ≤ x.toInt ∧ x.toInt < 288) ∧ 0 ≤ y.toInt ∧ y.toInt ≤ 10) (PI 898 τ B none kd ig rg lg (fun r kd' ig' rg' lg' => ∃ z : Int32, r = some (.int z) ∧ (((0 ≤ x.toInt ∧ x.toInt < 288) ∧ 0 ≤ y.toInt ∧ y.toInt ≤ 10) ∧ (∃ κ' : Int, (SCh B σ π ν kd' ig' rg' ∧ FV B σ ν ig' ∧ LV κ' B σ ν ig' lg' ∧ VV B σ ν ig' ∧ UV B σ ν ig' ∧ TVk κ' B σ ν ig' ∧ KpC B K ig')) ∧ CeR σ K x.toInt y.toInt z.toInt))) := by
  refine MX.of (own := RX11) (by decide +kernel) rfl (Nat.le_of_ble_eq_true rfl) ?_
  intro p e s m args below meth c ls C hr hlk hnm hw hsz hl hnt
  have hx := C.1.1
  have hb := C.1.2.1
  have hown := C.1.2.2.2.1
  have hts := C.1.2.2.2.2
  have hl : lv_has ls 3 [(0, .ref (B + 0)), (1, .int x), (2, .int y)] := hl
  have hN : Nx 898 B none kd ig rg lg kd ig rg lg := Nx.rf
  have hsh := hI.sh
  have hrs := hI.rs
  obtain ⟨sa, hKX⟩ := C.2.2.2.2.1
  refine lv_iload_n hx hb dX11_cell_0 rfl (lv_at hl 1 rfl) ?_
  refine r_callS (As := [.int x]) (rest := []) C hw (t_X11_onSheet l B D cA kd ig rg lg _ x  hI) ss_X11_88 rfl hl.1 rfl (Nat.le_of_ble_eq_true rfl) ⟨Nat.le_of_ble_eq_true rfl, Nat.le_of_ble_eq_true rfl⟩ ⟨Nat.le_of_ble_eq_true rfl, Nat.le_of_ble_eq_true rfl⟩ dX11_cell_1 (fun r5 kd1 ig2 rg3 lg4 H locs hw hH hp6 => ?_)
  obtain ⟨rfl, rfl, rfl, rfl, hzhp6, hrhp6⟩ := hp6
  obtain ⟨z7, rfl, hz7⟩ := hrhp6
  refine z_eq (tgt := 17) hx hb dX11_cell_4 (by decide) (fun c4 => ?_) (fun c4 => ?_)
  · exact vx_throwX (pc := 17) (ix := 13) (rx := prog_27_method_4_code) (own := RX11) (cls := NSE) (names := NSEs) (ik := 177) (is := 179) (ic := 181) (sa := sa) hx hb hst (by decide +kernel) (by decide +kernel) (by decide +kernel) (by decide +kernel) hown (by decide +kernel) (by decide +kernel) (hts _ (TBg_in (atN_c _ (List.mem_cons_self)).1 (atN_c _ (List.mem_cons_self)).2)) (hts _ (TBg_in (atN_c _ (List.mem_cons_of_mem _ List.mem_cons_self)).1 (atN_c _ (List.mem_cons_of_mem _ List.mem_cons_self)).2)) hKX.2.1 (atN hts hKX.1) atN_o hKX.2.2.1 hKX.2.2.2 hw.2.2.1 (hl.1.trans C.1.2.2.1.symm) dX11_cell_17 dX11_cell_20 dX11_cell_21 dX11_cell_23 dX11_cell_26 (fun x hx => (hnt x hx).elim) (by decide) (by decide) (Nat.le_of_ble_eq_true rfl) (Nat.le_of_ble_eq_true rfl) hlk (XcW.now hw (by omega)) hw.2.2.1.2.2 (Nat.le_of_ble_eq_true rfl) (Nat.le_of_ble_eq_true rfl)
  · refine lv_iload_n hx hb dX11_cell_7 rfl (lv_at hl 2 rfl) ?_
    refine z_lt (tgt := 17) hx hb dX11_cell_8 (by decide) (fun c8 => ?_) (fun c8 => ?_)
    · exact vx_throwX (pc := 17) (ix := 13) (rx := prog_27_method_4_code) (own := RX11) (cls := NSE) (names := NSEs) (ik := 177) (is := 179) (ic := 181) (sa := sa) hx hb hst (by decide +kernel) (by decide +kernel) (by decide +kernel) (by decide +kernel) hown (by decide +kernel) (by decide +kernel) (hts _ (TBg_in (atN_c _ (List.mem_cons_self)).1 (atN_c _ (List.mem_cons_self)).2)) (hts _ (TBg_in (atN_c _ (List.mem_cons_of_mem _ List.mem_cons_self)).1 (atN_c _ (List.mem_cons_of_mem _ List.mem_cons_self)).2)) hKX.2.1 (atN hts hKX.1) atN_o hKX.2.2.1 hKX.2.2.2 hw.2.2.1 (hl.1.trans C.1.2.2.1.symm) dX11_cell_17 dX11_cell_20 dX11_cell_21 dX11_cell_23 dX11_cell_26 (fun x hx => (hnt x hx).elim) (by decide) (by decide) (Nat.le_of_ble_eq_true rfl) (Nat.le_of_ble_eq_true rfl) hlk (XcW.now hw (by omega)) hw.2.2.1.2.2 (Nat.le_of_ble_eq_true rfl) (Nat.le_of_ble_eq_true rfl)
    · refine lv_iload_n hx hb dX11_cell_11 rfl (lv_at hl 2 rfl) ?_
      refine lv_bipush (v := 10) hx hb dX11_cell_12 (by decide) (ti_c 10 (by decide) fun z8 hz8 => ?_)
      refine b_le (tgt := 27) hx hb dX11_cell_14 (by decide) (fun c14 => ?_) (fun c14 => ?_)
      · refine lv_iload_n hx hb dX11_cell_27 rfl (lv_at hl 2 rfl) ?_
        by_cases s28_0 : y.toInt = 0
        · refine lv_tableIn hx hb dX11_cell_28 (by omega) (by omega) (off := 56) (by rw [s28_0]; rfl) (tgt := 84) (by decide) ?_
          refine lv_aload_n hx hb dX11_cell_84 rfl (lv_at hl 0 rfl) ?_
          refine r_get C hw (hsh 0 _ rfl) fl_X11_19 (oV_r rfl (hrs (0, 1, 9) (by decide))) dX11_cell_85 ?_
          refine lv_iload_n hx hb dX11_cell_88 rfl (lv_at hl 1 rfl) ?_
          refine r_callV (As := [.int x]) (rest := []) C hw (t_X6_kindAtE l B D cA kd ig rg lg _ x σ π ν hS hI) sv_X11_116 (hsh 9 _ rfl) rfl hl.1 rfl (Nat.le_of_ble_eq_true rfl) ⟨Nat.le_of_ble_eq_true rfl, Nat.le_of_ble_eq_true rfl⟩ ⟨Nat.le_of_ble_eq_true rfl, Nat.le_of_ble_eq_true rfl⟩ dX11_cell_89 (fun r13 kd9 ig10 rg11 lg12 H locs hw hH hp14 => ?_)
          obtain ⟨rfl, rfl, rfl, rfl, hzhp14, hrhp14⟩ := hp14
          obtain ⟨z15, rfl, hz15⟩ := hrhp14
          exact vx_ret (r_iret C hw hr hlk rfl (Nat.le_of_ble_eq_true rfl) (Nat.le_of_ble_eq_true rfl) dX11_cell_92 ⟨hI, hN, ⟨_, rfl, ⟨⟨⟨by omega, by omega⟩, by omega, by omega⟩, ⟨_, hS, hV, hLv, hVv, hUv, hTv, hK⟩, ⟨fun _ => (by rw [← atC_on (σ := σ) (x := x.toInt) (by omega)]; exact hz15), fun w9 => absurd w9 (by omega), fun w9 => absurd w9 (by omega), fun w9 => absurd w9 (by omega), fun w9 => absurd w9 (by omega), fun w9 => absurd w9 (by omega), fun w9 => absurd w9 (by omega), fun w9 => absurd w9 (by omega), fun w9 => absurd w9 (by omega)⟩⟩⟩⟩)
        by_cases s28_1 : y.toInt = 1
        · refine lv_tableIn hx hb dX11_cell_28 (by omega) (by omega) (off := 65) (by rw [s28_1]; rfl) (tgt := 93) (by decide) ?_
          refine lv_aload_n hx hb dX11_cell_93 rfl (lv_at hl 0 rfl) ?_
          refine r_get C hw (hsh 0 _ rfl) fl_X11_37 (oV_r rfl (hrs (0, 3, 24) (by decide))) dX11_cell_94 ?_
          refine r_callV (As := []) (rest := []) C hw (t_X10_settleE l B D cA kd ig rg lg _  σ π ν hS hLv hVv hW hHt hI) sv_X11_159 (hsh 24 _ rfl) rfl hl.1 rfl (Nat.le_of_ble_eq_true rfl) ⟨Nat.le_of_ble_eq_true rfl, Nat.le_of_ble_eq_true rfl⟩ ⟨Nat.le_of_ble_eq_true rfl, Nat.le_of_ble_eq_true rfl⟩ dX11_cell_97 (fun r20 kd16 ig17 rg18 lg19 H locs hw hH hp21 => ?_)
          obtain ⟨hI, hchp21, hrhp21⟩ := hp21
          have hN := hN.tr hchp21
          have hsh := hI.sh
          have hrs := hI.rs
          have hLv := hrhp21.2.1.2.2
          have hVk := hrhp21.2.1.1
          have hVv := VV.of hrhp21.2.1.1 hrhp21.2.1.2.1
          have hS := SCh.nx hS hchp21
          have hV := FV.nx hV hchp21
          have hUv := UV.nx hUv hchp21
          have hTv := TVk.nx hTv hchp21
          have hK := KpC.nx hK hchp21
          obtain ⟨rfl, hvhp21⟩ := hrhp21
          refine lv_aload_n hx hb dX11_cell_100 rfl (lv_at hl 0 rfl) ?_
          refine r_get C hw (hsh 0 _ rfl) fl_X11_37 (oV_r rfl (hrs (0, 3, 24) (by decide))) dX11_cell_101 ?_
          refine lv_iload_n hx hb dX11_cell_104 rfl (lv_at hl 1 rfl) ?_
          refine r_callV (As := [.int x]) (rest := []) C hw (t_X10_valueAtE l B D cA kd16 ig17 rg18 lg19 _ x (by omega) hI) sv_X11_184 (hsh 24 _ rfl) rfl hl.1 rfl (Nat.le_of_ble_eq_true rfl) ⟨Nat.le_of_ble_eq_true rfl, Nat.le_of_ble_eq_true rfl⟩ ⟨Nat.le_of_ble_eq_true rfl, Nat.le_of_ble_eq_true rfl⟩ dX11_cell_105 (fun r26 kd22 ig23 rg24 lg25 H locs hw hH hp27 => ?_)
          obtain ⟨rfl, rfl, rfl, rfl, hzhp27, hrhp27⟩ := hp27
          obtain ⟨z28, rfl, hz28⟩ := hrhp27
          exact vx_ret (r_iret C hw hr hlk rfl (Nat.le_of_ble_eq_true rfl) (Nat.le_of_ble_eq_true rfl) dX11_cell_108 ⟨hI, hN, ⟨_, rfl, ⟨⟨⟨by omega, by omega⟩, by omega, by omega⟩, ⟨_, hS, hV, hLv, hVv, hUv, hTv, hK⟩, ⟨fun w9 => absurd w9 (by omega), fun _ => ⟨_, _, hVk, by rw [hz28]⟩, fun w9 => absurd w9 (by omega), fun w9 => absurd w9 (by omega), fun w9 => absurd w9 (by omega), fun w9 => absurd w9 (by omega), fun w9 => absurd w9 (by omega), fun w9 => absurd w9 (by omega), fun w9 => absurd w9 (by omega)⟩⟩⟩⟩)
        by_cases s28_2 : y.toInt = 2
        · refine lv_tableIn hx hb dX11_cell_28 (by omega) (by omega) (off := 81) (by rw [s28_2]; rfl) (tgt := 109) (by decide) ?_
          refine lv_aload_n hx hb dX11_cell_109 rfl (lv_at hl 0 rfl) ?_
          refine r_get C hw (hsh 0 _ rfl) fl_X11_37 (oV_r rfl (hrs (0, 3, 24) (by decide))) dX11_cell_110 ?_
          refine r_callV (As := []) (rest := []) C hw (t_X10_settleE l B D cA kd ig rg lg _  σ π ν hS hLv hVv hW hHt hI) sv_X11_159 (hsh 24 _ rfl) rfl hl.1 rfl (Nat.le_of_ble_eq_true rfl) ⟨Nat.le_of_ble_eq_true rfl, Nat.le_of_ble_eq_true rfl⟩ ⟨Nat.le_of_ble_eq_true rfl, Nat.le_of_ble_eq_true rfl⟩ dX11_cell_113 (fun r33 kd29 ig30 rg31 lg32 H locs hw hH hp34 => ?_)
          obtain ⟨hI, hchp34, hrhp34⟩ := hp34
          have hN := hN.tr hchp34
          have hsh := hI.sh
          have hrs := hI.rs
          have hLv := hrhp34.2.1.2.2
          have hVk := hrhp34.2.1.1
          have hVv := VV.of hrhp34.2.1.1 hrhp34.2.1.2.1
          have hS := SCh.nx hS hchp34
          have hV := FV.nx hV hchp34
          have hUv := UV.nx hUv hchp34
          have hTv := TVk.nx hTv hchp34
          have hK := KpC.nx hK hchp34
          obtain ⟨rfl, hvhp34⟩ := hrhp34
          refine lv_aload_n hx hb dX11_cell_116 rfl (lv_at hl 0 rfl) ?_
          refine r_get C hw (hsh 0 _ rfl) fl_X11_37 (oV_r rfl (hrs (0, 3, 24) (by decide))) dX11_cell_117 ?_
          refine lv_iload_n hx hb dX11_cell_120 rfl (lv_at hl 1 rfl) ?_
          refine r_callV (As := [.int x]) (rest := []) C hw (t_X10_errorAtE l B D cA kd29 ig30 rg31 lg32 _ x (by omega) hI) sv_X11_187 (hsh 24 _ rfl) rfl hl.1 rfl (Nat.le_of_ble_eq_true rfl) ⟨Nat.le_of_ble_eq_true rfl, Nat.le_of_ble_eq_true rfl⟩ ⟨Nat.le_of_ble_eq_true rfl, Nat.le_of_ble_eq_true rfl⟩ dX11_cell_121 (fun r39 kd35 ig36 rg37 lg38 H locs hw hH hp40 => ?_)
          obtain ⟨rfl, rfl, rfl, rfl, hzhp40, hrhp40⟩ := hp40
          obtain ⟨z41, rfl, hz41⟩ := hrhp40
          exact vx_ret (r_iret C hw hr hlk rfl (Nat.le_of_ble_eq_true rfl) (Nat.le_of_ble_eq_true rfl) dX11_cell_124 ⟨hI, hN, ⟨_, rfl, ⟨⟨⟨by omega, by omega⟩, by omega, by omega⟩, ⟨_, hS, hV, hLv, hVv, hUv, hTv, hK⟩, ⟨fun w9 => absurd w9 (by omega), fun w9 => absurd w9 (by omega), fun _ => ⟨_, _, hVk, by rw [hz41]⟩, fun w9 => absurd w9 (by omega), fun w9 => absurd w9 (by omega), fun w9 => absurd w9 (by omega), fun w9 => absurd w9 (by omega), fun w9 => absurd w9 (by omega), fun w9 => absurd w9 (by omega)⟩⟩⟩⟩)
        by_cases s28_3 : y.toInt = 3
        · refine lv_tableIn hx hb dX11_cell_28 (by omega) (by omega) (off := 97) (by rw [s28_3]; rfl) (tgt := 125) (by decide) ?_
          refine lv_aload_n hx hb dX11_cell_125 rfl (lv_at hl 0 rfl) ?_
          refine r_get C hw (hsh 0 _ rfl) fl_X11_44 (oV_r rfl (hrs (0, 4, 29) (by decide))) dX11_cell_126 ?_
          refine r_callV (As := []) (rest := []) C hw (t_X2_settleE l B D cA kd ig rg lg _  σ π ν hS hV hI) sv_X11_140 (hsh 29 _ rfl) rfl hl.1 rfl (Nat.le_of_ble_eq_true rfl) ⟨Nat.le_of_ble_eq_true rfl, Nat.le_of_ble_eq_true rfl⟩ ⟨Nat.le_of_ble_eq_true rfl, Nat.le_of_ble_eq_true rfl⟩ dX11_cell_129 (fun r46 kd42 ig43 rg44 lg45 H locs hw hH hp47 => ?_)
          obtain ⟨hI, hchp47, hrhp47⟩ := hp47
          have hN := hN.tr hchp47
          have hsh := hI.sh
          have hrs := hI.rs
          have hV := FV.of hrhp47.2.1 hrhp47.2.2
          have hS := SCh.nx hS hchp47
          have hLv := LV.nx hLv hchp47
          have hVv := VV.nx hVv hchp47
          have hUv := UV.nx hUv hchp47
          have hTv := TVk.nx hTv hchp47
          have hK := KpC.nx hK hchp47
          have hFk : FmW B σ ig43 := hrhp47.2.1
          obtain ⟨rfl, hvhp47⟩ := hrhp47
          refine lv_aload_n hx hb dX11_cell_132 rfl (lv_at hl 0 rfl) ?_
          refine r_get C hw (hsh 0 _ rfl) fl_X11_44 (oV_r rfl (hrs (0, 4, 29) (by decide))) dX11_cell_133 ?_
          refine lv_iload_n hx hb dX11_cell_136 rfl (lv_at hl 1 rfl) ?_
          refine r_callV (As := [.int x]) (rest := []) C hw (t_X2_familyAtE l B D cA kd42 ig43 rg44 lg45 _ x (by omega) hI) sv_X11_190 (hsh 29 _ rfl) rfl hl.1 rfl (Nat.le_of_ble_eq_true rfl) ⟨Nat.le_of_ble_eq_true rfl, Nat.le_of_ble_eq_true rfl⟩ ⟨Nat.le_of_ble_eq_true rfl, Nat.le_of_ble_eq_true rfl⟩ dX11_cell_137 (fun r52 kd48 ig49 rg50 lg51 H locs hw hH hp53 => ?_)
          obtain ⟨rfl, rfl, rfl, rfl, hzhp53, hrhp53⟩ := hp53
          obtain ⟨z54, rfl, hz54⟩ := hrhp53
          exact vx_ret (r_iret C hw hr hlk rfl (Nat.le_of_ble_eq_true rfl) (Nat.le_of_ble_eq_true rfl) dX11_cell_140 ⟨hI, hN, ⟨_, rfl, ⟨⟨⟨by omega, by omega⟩, by omega, by omega⟩, ⟨_, hS, hV, hLv, hVv, hUv, hTv, hK⟩, ⟨fun w9 => absurd w9 (by omega), fun w9 => absurd w9 (by omega), fun w9 => absurd w9 (by omega), fun _ => (by rw [hz54]; exact hFk _ (by omega)), fun w9 => absurd w9 (by omega), fun w9 => absurd w9 (by omega), fun w9 => absurd w9 (by omega), fun w9 => absurd w9 (by omega), fun w9 => absurd w9 (by omega)⟩⟩⟩⟩)
        by_cases s28_4 : y.toInt = 4
        · refine lv_tableIn hx hb dX11_cell_28 (by omega) (by omega) (off := 113) (by rw [s28_4]; rfl) (tgt := 141) (by decide) ?_
          refine lv_aload_n hx hb dX11_cell_141 rfl (lv_at hl 0 rfl) ?_
          refine r_get C hw (hsh 0 _ rfl) fl_X11_51 (oV_r rfl (hrs (0, 5, 32) (by decide))) dX11_cell_142 ?_
          refine r_callV (As := []) (rest := []) C hw (t_X9_settleU l B D cA kd ig rg lg _  σ π ν hS hLv hUv hW hHt hI) sv_X11_143 (hsh 32 _ rfl) rfl hl.1 rfl (Nat.le_of_ble_eq_true rfl) ⟨Nat.le_of_ble_eq_true rfl, Nat.le_of_ble_eq_true rfl⟩ ⟨Nat.le_of_ble_eq_true rfl, Nat.le_of_ble_eq_true rfl⟩ dX11_cell_145 (fun r59 kd55 ig56 rg57 lg58 H locs hw hH hp60 => ?_)
          obtain ⟨hI, hchp60, hrhp60⟩ := hp60
          have hN := hN.tr hchp60
          have hsh := hI.sh
          have hrs := hI.rs
          have hUk : UW B σ ig56 := hrhp60.2.1.1
          have hUv := UV.of hrhp60.2.1.1 hrhp60.2.1.2.1
          have hLv := hrhp60.2.1.2.2
          have hS := SCh.nx hS hchp60
          have hV := FV.nx hV hchp60
          have hVv := VV.nx hVv hchp60
          have hTv := TVk.nx hTv hchp60
          have hK := KpC.nx hK hchp60
          obtain ⟨rfl, hvhp60⟩ := hrhp60
          refine lv_aload_n hx hb dX11_cell_148 rfl (lv_at hl 0 rfl) ?_
          refine r_get C hw (hsh 0 _ rfl) fl_X11_51 (oV_r rfl (hrs (0, 5, 32) (by decide))) dX11_cell_149 ?_
          refine lv_iload_n hx hb dX11_cell_152 rfl (lv_at hl 1 rfl) ?_
          refine lv_iload_n hx hb dX11_cell_153 rfl (lv_at hl 2 rfl) ?_
          refine lv_iconst (v := 4) hx hb dX11_cell_154 (by decide) (ti_c 4 (by decide) fun z61 hz61 => ?_)
          refine lv_isub hx hb dX11_cell_155 (tc_sub fun z62 hz62 => ?_)
          first | replace hz62 := hz62 (by omega) | clear hz62
          refine r_callV (As := [.int x, .int z62]) (rest := []) C hw (t_X9_exponentAtE l B D cA kd55 ig56 rg57 lg58 _ x z62 (by omega) hI) sv_X11_193 (hsh 32 _ rfl) rfl hl.1 rfl (Nat.le_of_ble_eq_true rfl) ⟨Nat.le_of_ble_eq_true rfl, Nat.le_of_ble_eq_true rfl⟩ ⟨Nat.le_of_ble_eq_true rfl, Nat.le_of_ble_eq_true rfl⟩ dX11_cell_156 (fun r67 kd63 ig64 rg65 lg66 H locs hw hH hp68 => ?_)
          obtain ⟨rfl, rfl, rfl, rfl, hzhp68, hrhp68⟩ := hp68
          obtain ⟨z69, rfl, hz69⟩ := hrhp68
          exact vx_ret (r_iret C hw hr hlk rfl (Nat.le_of_ble_eq_true rfl) (Nat.le_of_ble_eq_true rfl) dX11_cell_159 ⟨hI, hN, ⟨_, rfl, ⟨⟨⟨by omega, by omega⟩, by omega, by omega⟩, ⟨_, hS, hV, hLv, hVv, hUv, hTv, hK⟩, ⟨fun w9 => absurd w9 (by omega), fun w9 => absurd w9 (by omega), fun w9 => absurd w9 (by omega), fun w9 => absurd w9 (by omega), fun _ => ⟨_, _, hUk, by rw [hz69, unA_on (by omega), show z62.toInt = y.toInt - 4 by omega]⟩, fun w9 => absurd w9 (by omega), fun w9 => absurd w9 (by omega), fun w9 => absurd w9 (by omega), fun w9 => absurd w9 (by omega)⟩⟩⟩⟩)
        by_cases s28_5 : y.toInt = 5
        · refine lv_tableIn hx hb dX11_cell_28 (by omega) (by omega) (off := 113) (by rw [s28_5]; rfl) (tgt := 141) (by decide) ?_
          refine lv_aload_n hx hb dX11_cell_141 rfl (lv_at hl 0 rfl) ?_
          refine r_get C hw (hsh 0 _ rfl) fl_X11_51 (oV_r rfl (hrs (0, 5, 32) (by decide))) dX11_cell_142 ?_
          refine r_callV (As := []) (rest := []) C hw (t_X9_settleU l B D cA kd ig rg lg _  σ π ν hS hLv hUv hW hHt hI) sv_X11_143 (hsh 32 _ rfl) rfl hl.1 rfl (Nat.le_of_ble_eq_true rfl) ⟨Nat.le_of_ble_eq_true rfl, Nat.le_of_ble_eq_true rfl⟩ ⟨Nat.le_of_ble_eq_true rfl, Nat.le_of_ble_eq_true rfl⟩ dX11_cell_145 (fun r74 kd70 ig71 rg72 lg73 H locs hw hH hp75 => ?_)
          obtain ⟨hI, hchp75, hrhp75⟩ := hp75
          have hN := hN.tr hchp75
          have hsh := hI.sh
          have hrs := hI.rs
          have hUk : UW B σ ig71 := hrhp75.2.1.1
          have hUv := UV.of hrhp75.2.1.1 hrhp75.2.1.2.1
          have hLv := hrhp75.2.1.2.2
          have hS := SCh.nx hS hchp75
          have hV := FV.nx hV hchp75
          have hVv := VV.nx hVv hchp75
          have hTv := TVk.nx hTv hchp75
          have hK := KpC.nx hK hchp75
          obtain ⟨rfl, hvhp75⟩ := hrhp75
          refine lv_aload_n hx hb dX11_cell_148 rfl (lv_at hl 0 rfl) ?_
          refine r_get C hw (hsh 0 _ rfl) fl_X11_51 (oV_r rfl (hrs (0, 5, 32) (by decide))) dX11_cell_149 ?_
          refine lv_iload_n hx hb dX11_cell_152 rfl (lv_at hl 1 rfl) ?_
          refine lv_iload_n hx hb dX11_cell_153 rfl (lv_at hl 2 rfl) ?_
          refine lv_iconst (v := 4) hx hb dX11_cell_154 (by decide) (ti_c 4 (by decide) fun z76 hz76 => ?_)
          refine lv_isub hx hb dX11_cell_155 (tc_sub fun z77 hz77 => ?_)
          first | replace hz77 := hz77 (by omega) | clear hz77
          refine r_callV (As := [.int x, .int z77]) (rest := []) C hw (t_X9_exponentAtE l B D cA kd70 ig71 rg72 lg73 _ x z77 (by omega) hI) sv_X11_193 (hsh 32 _ rfl) rfl hl.1 rfl (Nat.le_of_ble_eq_true rfl) ⟨Nat.le_of_ble_eq_true rfl, Nat.le_of_ble_eq_true rfl⟩ ⟨Nat.le_of_ble_eq_true rfl, Nat.le_of_ble_eq_true rfl⟩ dX11_cell_156 (fun r82 kd78 ig79 rg80 lg81 H locs hw hH hp83 => ?_)
          obtain ⟨rfl, rfl, rfl, rfl, hzhp83, hrhp83⟩ := hp83
          obtain ⟨z84, rfl, hz84⟩ := hrhp83
          exact vx_ret (r_iret C hw hr hlk rfl (Nat.le_of_ble_eq_true rfl) (Nat.le_of_ble_eq_true rfl) dX11_cell_159 ⟨hI, hN, ⟨_, rfl, ⟨⟨⟨by omega, by omega⟩, by omega, by omega⟩, ⟨_, hS, hV, hLv, hVv, hUv, hTv, hK⟩, ⟨fun w9 => absurd w9 (by omega), fun w9 => absurd w9 (by omega), fun w9 => absurd w9 (by omega), fun w9 => absurd w9 (by omega), fun _ => ⟨_, _, hUk, by rw [hz84, unA_on (by omega), show z77.toInt = y.toInt - 4 by omega]⟩, fun w9 => absurd w9 (by omega), fun w9 => absurd w9 (by omega), fun w9 => absurd w9 (by omega), fun w9 => absurd w9 (by omega)⟩⟩⟩⟩)
        by_cases s28_6 : y.toInt = 6
        · refine lv_tableIn hx hb dX11_cell_28 (by omega) (by omega) (off := 113) (by rw [s28_6]; rfl) (tgt := 141) (by decide) ?_
          refine lv_aload_n hx hb dX11_cell_141 rfl (lv_at hl 0 rfl) ?_
          refine r_get C hw (hsh 0 _ rfl) fl_X11_51 (oV_r rfl (hrs (0, 5, 32) (by decide))) dX11_cell_142 ?_
          refine r_callV (As := []) (rest := []) C hw (t_X9_settleU l B D cA kd ig rg lg _  σ π ν hS hLv hUv hW hHt hI) sv_X11_143 (hsh 32 _ rfl) rfl hl.1 rfl (Nat.le_of_ble_eq_true rfl) ⟨Nat.le_of_ble_eq_true rfl, Nat.le_of_ble_eq_true rfl⟩ ⟨Nat.le_of_ble_eq_true rfl, Nat.le_of_ble_eq_true rfl⟩ dX11_cell_145 (fun r89 kd85 ig86 rg87 lg88 H locs hw hH hp90 => ?_)
          obtain ⟨hI, hchp90, hrhp90⟩ := hp90
          have hN := hN.tr hchp90
          have hsh := hI.sh
          have hrs := hI.rs
          have hUk : UW B σ ig86 := hrhp90.2.1.1
          have hUv := UV.of hrhp90.2.1.1 hrhp90.2.1.2.1
          have hLv := hrhp90.2.1.2.2
          have hS := SCh.nx hS hchp90
          have hV := FV.nx hV hchp90
          have hVv := VV.nx hVv hchp90
          have hTv := TVk.nx hTv hchp90
          have hK := KpC.nx hK hchp90
          obtain ⟨rfl, hvhp90⟩ := hrhp90
          refine lv_aload_n hx hb dX11_cell_148 rfl (lv_at hl 0 rfl) ?_
          refine r_get C hw (hsh 0 _ rfl) fl_X11_51 (oV_r rfl (hrs (0, 5, 32) (by decide))) dX11_cell_149 ?_
          refine lv_iload_n hx hb dX11_cell_152 rfl (lv_at hl 1 rfl) ?_
          refine lv_iload_n hx hb dX11_cell_153 rfl (lv_at hl 2 rfl) ?_
          refine lv_iconst (v := 4) hx hb dX11_cell_154 (by decide) (ti_c 4 (by decide) fun z91 hz91 => ?_)
          refine lv_isub hx hb dX11_cell_155 (tc_sub fun z92 hz92 => ?_)
          first | replace hz92 := hz92 (by omega) | clear hz92
          refine r_callV (As := [.int x, .int z92]) (rest := []) C hw (t_X9_exponentAtE l B D cA kd85 ig86 rg87 lg88 _ x z92 (by omega) hI) sv_X11_193 (hsh 32 _ rfl) rfl hl.1 rfl (Nat.le_of_ble_eq_true rfl) ⟨Nat.le_of_ble_eq_true rfl, Nat.le_of_ble_eq_true rfl⟩ ⟨Nat.le_of_ble_eq_true rfl, Nat.le_of_ble_eq_true rfl⟩ dX11_cell_156 (fun r97 kd93 ig94 rg95 lg96 H locs hw hH hp98 => ?_)
          obtain ⟨rfl, rfl, rfl, rfl, hzhp98, hrhp98⟩ := hp98
          obtain ⟨z99, rfl, hz99⟩ := hrhp98
          exact vx_ret (r_iret C hw hr hlk rfl (Nat.le_of_ble_eq_true rfl) (Nat.le_of_ble_eq_true rfl) dX11_cell_159 ⟨hI, hN, ⟨_, rfl, ⟨⟨⟨by omega, by omega⟩, by omega, by omega⟩, ⟨_, hS, hV, hLv, hVv, hUv, hTv, hK⟩, ⟨fun w9 => absurd w9 (by omega), fun w9 => absurd w9 (by omega), fun w9 => absurd w9 (by omega), fun w9 => absurd w9 (by omega), fun _ => ⟨_, _, hUk, by rw [hz99, unA_on (by omega), show z92.toInt = y.toInt - 4 by omega]⟩, fun w9 => absurd w9 (by omega), fun w9 => absurd w9 (by omega), fun w9 => absurd w9 (by omega), fun w9 => absurd w9 (by omega)⟩⟩⟩⟩)
        by_cases s28_7 : y.toInt = 7
        · refine lv_tableIn hx hb dX11_cell_28 (by omega) (by omega) (off := 132) (by rw [s28_7]; rfl) (tgt := 160) (by decide) ?_
          refine lv_aload_n hx hb dX11_cell_160 rfl (lv_at hl 0 rfl) ?_
          refine r_get C hw (hsh 0 _ rfl) fl_X11_58 (oV_r rfl (hrs (0, 6, 37) (by decide))) dX11_cell_161 ?_
          refine r_callV (As := []) (rest := []) C hw (t_X8_settleK l B D cA kd ig rg lg _  σ π ν hS hLv hW hTv hI) sv_X11_144 (hsh 37 _ rfl) rfl hl.1 rfl (Nat.le_of_ble_eq_true rfl) ⟨Nat.le_of_ble_eq_true rfl, Nat.le_of_ble_eq_true rfl⟩ ⟨Nat.le_of_ble_eq_true rfl, Nat.le_of_ble_eq_true rfl⟩ dX11_cell_164 (fun r104 kd100 ig101 rg102 lg103 H locs hw hH hp105 => ?_)
          obtain ⟨hI, hchp105, hrhp105⟩ := hp105
          have hN := hN.tr hchp105
          have hsh := hI.sh
          have hrs := hI.rs
          have hTt := hrhp105.2.2.1
          have hTv := TVk.of hrhp105.2.2.1 hrhp105.2.2.2.1
          have hLv := hrhp105.2.1
          have hLs := hLv.2.2 hrhp105.2.2.2.2
          have hS := SCh.nx hS hchp105
          have hV := FV.nx hV hchp105
          have hVv := VV.nx hVv hchp105
          have hUv := UV.nx hUv hchp105
          have hK := KpC.nx hK hchp105
          obtain ⟨rfl, hvhp105⟩ := hrhp105
          refine lv_aload_n hx hb dX11_cell_167 rfl (lv_at hl 0 rfl) ?_
          refine r_get C hw (hsh 0 _ rfl) fl_X11_58 (oV_r rfl (hrs (0, 6, 37) (by decide))) dX11_cell_168 ?_
          refine lv_iload_n hx hb dX11_cell_171 rfl (lv_at hl 1 rfl) ?_
          refine r_callV (As := [.int x]) (rest := []) C hw (t_X8_isTotalE l B D cA kd100 ig101 rg102 lg103 _ x (isTot σ) hTt hI) sv_X11_196 (hsh 37 _ rfl) rfl hl.1 rfl (Nat.le_of_ble_eq_true rfl) ⟨Nat.le_of_ble_eq_true rfl, Nat.le_of_ble_eq_true rfl⟩ ⟨Nat.le_of_ble_eq_true rfl, Nat.le_of_ble_eq_true rfl⟩ dX11_cell_172 (fun r110 kd106 ig107 rg108 lg109 H locs hw hH hp111 => ?_)
          obtain ⟨rfl, rfl, rfl, rfl, hzhp111, hrhp111⟩ := hp111
          obtain ⟨z112, rfl, hz112⟩ := hrhp111
          have tt9 := hz112
          refine z_eq (tgt := 182) hx hb dX11_cell_175 (by decide) (fun c175 => ?_) (fun c175 => ?_)
          · refine lv_iconst (v := 0) hx hb dX11_cell_182 (by decide) (ti_c 0 (by decide) fun z113 hz113 => ?_)
            exact vx_ret (r_iret C hw hr hlk rfl (Nat.le_of_ble_eq_true rfl) (Nat.le_of_ble_eq_true rfl) dX11_cell_183 ⟨hI, hN, ⟨_, rfl, ⟨⟨⟨by omega, by omega⟩, by omega, by omega⟩, ⟨_, hS, hV, hLv, hVv, hUv, hTv, hK⟩, ⟨fun w9 => absurd w9 (by omega), fun w9 => absurd w9 (by omega), fun w9 => absurd w9 (by omega), fun w9 => absurd w9 (by omega), fun w9 => absurd w9 (by omega), fun _ => Or.inr ⟨by omega, fun q9 => by0 tt9 (by omega) ⟨by omega, q9⟩⟩, fun w9 => absurd w9 (by omega), fun w9 => absurd w9 (by omega), fun w9 => absurd w9 (by omega)⟩⟩⟩⟩)
          · refine lv_iconst (v := 1) hx hb dX11_cell_178 (by decide) (ti_c 1 (by decide) fun z114 hz114 => ?_)
            refine lv_goto (tgt := 183) hx hb dX11_cell_179 (by decide) ?_
            exact vx_ret (r_iret C hw hr hlk rfl (Nat.le_of_ble_eq_true rfl) (Nat.le_of_ble_eq_true rfl) dX11_cell_183 ⟨hI, hN, ⟨_, rfl, ⟨⟨⟨by omega, by omega⟩, by omega, by omega⟩, ⟨_, hS, hV, hLv, hVv, hUv, hTv, hK⟩, ⟨fun w9 => absurd w9 (by omega), fun w9 => absurd w9 (by omega), fun w9 => absurd w9 (by omega), fun w9 => absurd w9 (by omega), fun w9 => absurd w9 (by omega), fun _ => Or.inl ⟨by omega, (by1 tt9 (by omega)).2⟩, fun w9 => absurd w9 (by omega), fun w9 => absurd w9 (by omega), fun w9 => absurd w9 (by omega)⟩⟩⟩⟩)
        by_cases s28_8 : y.toInt = 8
        · refine lv_tableIn hx hb dX11_cell_28 (by omega) (by omega) (off := 156) (by rw [s28_8]; rfl) (tgt := 184) (by decide) ?_
          refine lv_aload_n hx hb dX11_cell_184 rfl (lv_at hl 0 rfl) ?_
          refine r_get C hw (hsh 0 _ rfl) fl_X11_28 (oV_r rfl (hrs (0, 2, 15) (by decide))) dX11_cell_185 ?_
          refine r_callV (As := []) (rest := []) C hw (t_X5_settleE l B D cA kd ig rg lg _  σ π ν hS hLv hW hI) sv_X11_199 (hsh 15 _ rfl) rfl hl.1 rfl (Nat.le_of_ble_eq_true rfl) ⟨Nat.le_of_ble_eq_true rfl, Nat.le_of_ble_eq_true rfl⟩ ⟨Nat.le_of_ble_eq_true rfl, Nat.le_of_ble_eq_true rfl⟩ dX11_cell_188 (fun r119 kd115 ig116 rg117 lg118 H locs hw hH hp120 => ?_)
          obtain ⟨hI, hchp120, hrhp120⟩ := hp120
          have hN := hN.tr hchp120
          have hsh := hI.sh
          have hrs := hI.rs
          have hLv := LV.of hrhp120.2.1.1 hrhp120.2.1.2.1 hrhp120.2.1.2.2 hLv.le
          have hS := SCh.nx hS hchp120
          have hV := FV.nx hV hchp120
          have hVv := VV.nx hVv hchp120
          have hUv := UV.nx hUv hchp120
          have hTv := TVk.nx hTv hchp120
          have hK := KpC.nx hK hchp120
          have hLs9 := hrhp120.2.1.1
          obtain ⟨rfl, hvhp120⟩ := hrhp120
          refine lv_aload_n hx hb dX11_cell_191 rfl (lv_at hl 0 rfl) ?_
          refine r_get C hw (hsh 0 _ rfl) fl_X11_28 (oV_r rfl (hrs (0, 2, 15) (by decide))) dX11_cell_192 ?_
          refine lv_iload_n hx hb dX11_cell_195 rfl (lv_at hl 1 rfl) ?_
          refine r_callV (As := [.int x]) (rest := []) C hw (t_X5_cellsReadByE l B D cA kd115 ig116 rg117 lg118 _ x σ hLs9.1 (by omega) hI) sv_X11_200 (hsh 15 _ rfl) rfl hl.1 rfl (Nat.le_of_ble_eq_true rfl) ⟨Nat.le_of_ble_eq_true rfl, Nat.le_of_ble_eq_true rfl⟩ ⟨Nat.le_of_ble_eq_true rfl, Nat.le_of_ble_eq_true rfl⟩ dX11_cell_196 (fun r125 kd121 ig122 rg123 lg124 H locs hw hH hp126 => ?_)
          obtain ⟨rfl, rfl, rfl, rfl, hzhp126, hrhp126⟩ := hp126
          obtain ⟨z127, rfl, hz127⟩ := hrhp126
          exact vx_ret (r_iret C hw hr hlk rfl (Nat.le_of_ble_eq_true rfl) (Nat.le_of_ble_eq_true rfl) dX11_cell_199 ⟨hI, hN, ⟨_, rfl, ⟨⟨⟨by omega, by omega⟩, by omega, by omega⟩, ⟨_, hS, hV, hLv, hVv, hUv, hTv, hK⟩, ⟨fun w9 => absurd w9 (by omega), fun w9 => absurd w9 (by omega), fun w9 => absurd w9 (by omega), fun w9 => absurd w9 (by omega), fun w9 => absurd w9 (by omega), fun w9 => absurd w9 (by omega), fun _ => hz127, fun w9 => absurd w9 (by omega), fun w9 => absurd w9 (by omega)⟩⟩⟩⟩)
        by_cases s28_9 : y.toInt = 9
        · refine lv_tableIn hx hb dX11_cell_28 (by omega) (by omega) (off := 172) (by rw [s28_9]; rfl) (tgt := 200) (by decide) ?_
          refine lv_aload_n hx hb dX11_cell_200 rfl (lv_at hl 0 rfl) ?_
          refine r_get C hw (hsh 0 _ rfl) fl_X11_28 (oV_r rfl (hrs (0, 2, 15) (by decide))) dX11_cell_201 ?_
          refine r_callV (As := []) (rest := []) C hw (t_X5_settleE l B D cA kd ig rg lg _  σ π ν hS hLv hW hI) sv_X11_199 (hsh 15 _ rfl) rfl hl.1 rfl (Nat.le_of_ble_eq_true rfl) ⟨Nat.le_of_ble_eq_true rfl, Nat.le_of_ble_eq_true rfl⟩ ⟨Nat.le_of_ble_eq_true rfl, Nat.le_of_ble_eq_true rfl⟩ dX11_cell_204 (fun r132 kd128 ig129 rg130 lg131 H locs hw hH hp133 => ?_)
          obtain ⟨hI, hchp133, hrhp133⟩ := hp133
          have hN := hN.tr hchp133
          have hsh := hI.sh
          have hrs := hI.rs
          have hLv := LV.of hrhp133.2.1.1 hrhp133.2.1.2.1 hrhp133.2.1.2.2 hLv.le
          have hS := SCh.nx hS hchp133
          have hV := FV.nx hV hchp133
          have hVv := VV.nx hVv hchp133
          have hUv := UV.nx hUv hchp133
          have hTv := TVk.nx hTv hchp133
          have hK := KpC.nx hK hchp133
          have hLs9 := hrhp133.2.1.1
          obtain ⟨rfl, hvhp133⟩ := hrhp133
          refine lv_aload_n hx hb dX11_cell_207 rfl (lv_at hl 0 rfl) ?_
          refine r_get C hw (hsh 0 _ rfl) fl_X11_28 (oV_r rfl (hrs (0, 2, 15) (by decide))) dX11_cell_208 ?_
          refine lv_iload_n hx hb dX11_cell_211 rfl (lv_at hl 1 rfl) ?_
          refine r_callV (As := [.int x]) (rest := []) C hw (t_X5_readersOfE l B D cA kd128 ig129 rg130 lg131 _ x σ hLs9.1 (by omega) hI) sv_X11_203 (hsh 15 _ rfl) rfl hl.1 rfl (Nat.le_of_ble_eq_true rfl) ⟨Nat.le_of_ble_eq_true rfl, Nat.le_of_ble_eq_true rfl⟩ ⟨Nat.le_of_ble_eq_true rfl, Nat.le_of_ble_eq_true rfl⟩ dX11_cell_212 (fun r138 kd134 ig135 rg136 lg137 H locs hw hH hp139 => ?_)
          obtain ⟨rfl, rfl, rfl, rfl, hzhp139, hrhp139⟩ := hp139
          obtain ⟨z140, rfl, hz140⟩ := hrhp139
          exact vx_ret (r_iret C hw hr hlk rfl (Nat.le_of_ble_eq_true rfl) (Nat.le_of_ble_eq_true rfl) dX11_cell_215 ⟨hI, hN, ⟨_, rfl, ⟨⟨⟨by omega, by omega⟩, by omega, by omega⟩, ⟨_, hS, hV, hLv, hVv, hUv, hTv, hK⟩, ⟨fun w9 => absurd w9 (by omega), fun w9 => absurd w9 (by omega), fun w9 => absurd w9 (by omega), fun w9 => absurd w9 (by omega), fun w9 => absurd w9 (by omega), fun w9 => absurd w9 (by omega), fun w9 => absurd w9 (by omega), fun _ => hz140, fun w9 => absurd w9 (by omega)⟩⟩⟩⟩)
        refine lv_tableOut hx hb dX11_cell_28 (by omega) (tgt := 216) (by decide) ?_
        refine lv_aload_n hx hb dX11_cell_216 rfl (lv_at hl 0 rfl) ?_
        refine r_get C hw (hsh 0 _ rfl) fl_X11_19 (oV_r rfl (hrs (0, 1, 9) (by decide))) dX11_cell_217 ?_
        refine lv_iload_n hx hb dX11_cell_220 rfl (lv_at hl 1 rfl) ?_
        refine r_callV (As := [.int x]) (rest := []) C hw (t_X6_isKeptE l B D cA kd ig rg lg _ x K hK (by omega) hI) sv_X11_206 (hsh 9 _ rfl) rfl hl.1 rfl (Nat.le_of_ble_eq_true rfl) ⟨Nat.le_of_ble_eq_true rfl, Nat.le_of_ble_eq_true rfl⟩ ⟨Nat.le_of_ble_eq_true rfl, Nat.le_of_ble_eq_true rfl⟩ dX11_cell_221 (fun r145 kd141 ig142 rg143 lg144 H locs hw hH hp146 => ?_)
        obtain ⟨rfl, rfl, rfl, rfl, hzhp146, hrhp146⟩ := hp146
        obtain ⟨z147, rfl, hz147⟩ := hrhp146
        have kp9 := hz147
        refine z_eq (tgt := 231) hx hb dX11_cell_224 (by decide) (fun c224 => ?_) (fun c224 => ?_)
        · refine lv_iconst (v := 0) hx hb dX11_cell_231 (by decide) (ti_c 0 (by decide) fun z148 hz148 => ?_)
          exact vx_ret (r_iret C hw hr hlk rfl (Nat.le_of_ble_eq_true rfl) (Nat.le_of_ble_eq_true rfl) dX11_cell_232 ⟨hI, hN, ⟨_, rfl, ⟨⟨⟨by omega, by omega⟩, by omega, by omega⟩, ⟨_, hS, hV, hLv, hVv, hUv, hTv, hK⟩, ⟨fun w9 => absurd w9 (by omega), fun w9 => absurd w9 (by omega), fun w9 => absurd w9 (by omega), fun w9 => absurd w9 (by omega), fun w9 => absurd w9 (by omega), fun w9 => absurd w9 (by omega), fun w9 => absurd w9 (by omega), fun w9 => absurd w9 (by omega), fun _ => Or.inr ⟨by omega, by0 kp9 (by omega)⟩⟩⟩⟩⟩)
        · refine lv_iconst (v := 1) hx hb dX11_cell_227 (by decide) (ti_c 1 (by decide) fun z149 hz149 => ?_)
          refine lv_goto (tgt := 232) hx hb dX11_cell_228 (by decide) ?_
          exact vx_ret (r_iret C hw hr hlk rfl (Nat.le_of_ble_eq_true rfl) (Nat.le_of_ble_eq_true rfl) dX11_cell_232 ⟨hI, hN, ⟨_, rfl, ⟨⟨⟨by omega, by omega⟩, by omega, by omega⟩, ⟨_, hS, hV, hLv, hVv, hUv, hTv, hK⟩, ⟨fun w9 => absurd w9 (by omega), fun w9 => absurd w9 (by omega), fun w9 => absurd w9 (by omega), fun w9 => absurd w9 (by omega), fun w9 => absurd w9 (by omega), fun w9 => absurd w9 (by omega), fun w9 => absurd w9 (by omega), fun w9 => absurd w9 (by omega), fun _ => Or.inl ⟨by omega, by1 kp9 (by omega)⟩⟩⟩⟩⟩)
      · exact vx_throwX (pc := 17) (ix := 13) (rx := prog_27_method_4_code) (own := RX11) (cls := NSE) (names := NSEs) (ik := 177) (is := 179) (ic := 181) (sa := sa) hx hb hst (by decide +kernel) (by decide +kernel) (by decide +kernel) (by decide +kernel) hown (by decide +kernel) (by decide +kernel) (hts _ (TBg_in (atN_c _ (List.mem_cons_self)).1 (atN_c _ (List.mem_cons_self)).2)) (hts _ (TBg_in (atN_c _ (List.mem_cons_of_mem _ List.mem_cons_self)).1 (atN_c _ (List.mem_cons_of_mem _ List.mem_cons_self)).2)) hKX.2.1 (atN hts hKX.1) atN_o hKX.2.2.1 hKX.2.2.2 hw.2.2.1 (hl.1.trans C.1.2.2.1.symm) dX11_cell_17 dX11_cell_20 dX11_cell_21 dX11_cell_23 dX11_cell_26 (fun x hx => (hnt x hx).elim) (by decide) (by decide) (Nat.le_of_ble_eq_true rfl) (Nat.le_of_ble_eq_true rfl) hlk (XcW.now hw (by omega)) hw.2.2.1.2.2 (Nat.le_of_ble_eq_true rfl) (Nat.le_of_ble_eq_true rfl)
