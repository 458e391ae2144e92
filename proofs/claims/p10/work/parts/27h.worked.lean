set_option maxHeartbeats 4000000 in
set_option maxRecDepth 100000 in
theorem t_X10_workOutE {τ : Tp} (l : Launch) (B : Nat) (D : va_G) (cA : Nat → ClassId) (kd : sK) (ig : sI) (rg : sR) (lg : sG) (sz : Nat) (x : Int32) (g : Nat) (M : Fm) (hM : FnL B kd ig rg g M) (σ : Sg) (hX : RgA B (Rg σ) ig) (hx0 : 0 ≤ x.toInt ∧ x.toInt < 288) (hM9 : M = fmO (σ x.toInt.toNat)) (hft : fitL x.toInt M) (hwf : WfL M) (hg : HgL M) (hI : IC τ B kd ig rg) : MC l B D cA yX10_workOut cX10_workOut 5 none (rL 4 0 0) [.ref (B + 24), .int x, .ref g] kd ig rg lg sz (PI 998 τ B none kd ig rg lg (fun r kd' ig' rg' lg' => (r = none ∧ (WkO B σ x.toInt.toNat ig ig' ∧ Fo B [24, 25, 26, 27, 28] ig lg ig' lg' ∧ (ig' (B + 24) 8).toInt = (ig (B + 24) 8).toInt)))) := by
  refine MC.of (own := RX10) (by decide +kernel) rfl (Nat.le_of_ble_eq_true rfl) ?_
  intro p e s m args below meth c ls C hr hlk hnm hw hsz hl
  have hx := C.1.1
  have hb := C.1.2.1
  have hown := C.1.2.2.2.1
  have hts := C.1.2.2.2.2
  have hl : lv_has ls 5 [(0, .ref (B + 24)), (1, .int x), (2, .ref g)] := hl
  have hN : Nx 998 B none kd ig rg lg kd ig rg lg := Nx.rf
  have hsh := hI.sh
  have hrs := hI.rs
  have hO : Fo B [24, 25, 26, 27, 28] ig lg ig lg := Fo.rf
  have lng := hM.le
  refine lv_aload_n hx hb dX10_workOut_0 rfl (lv_at hl 0 rfl) ?_
  refine lv_aload_n hx hb dX10_workOut_1 rfl (lv_at hl 0 rfl) ?_
  refine r_get C hw (hsh 24 _ rfl) fl_X10_15 (oV_r rfl (hrs (24, 1, 15) (by decide))) dX10_workOut_2 ?_
  refine lv_iload_n hx hb dX10_workOut_5 rfl (lv_at hl 1 rfl) ?_
  refine r_callV (As := [.int x]) (rest := [.ref (B + 24)]) C hw (t_X5_inRingE l B D cA kd ig rg lg _ x (Rg σ) hX (by omega) hI) sv_X10_73 (hsh 15 _ rfl) rfl hl.1 rfl (Nat.le_of_ble_eq_true rfl) ⟨Nat.le_of_ble_eq_true rfl, Nat.le_of_ble_eq_true rfl⟩ ⟨Nat.le_of_ble_eq_true rfl, Nat.le_of_ble_eq_true rfl⟩ dX10_workOut_6 (fun r5 kd1 ig2 rg3 lg4 H locs hw hH hp6 => ?_)
  obtain ⟨rfl, rfl, rfl, rfl, hzhp6, hrhp6⟩ := hp6
  obtain ⟨z7, rfl, hz7⟩ := hrhp6
  have rh9 := hz7
  have J17 : ∀ (ls : Array Slot) (H : Heap) (locs : List Loc) (kd9 : sK) (ig10 : sI) (rg11 : sR) (lg12 : sG) (u8 : Int32), lv_has ls 5 [(0, .ref (B + 24)), (1, .int x), (2, .ref g)] → WD B D cA s.heap kd9 ig10 rg11 lg12 H locs → IC τ B kd9 ig10 rg11 → Nx 998 B none kd ig rg lg kd9 ig10 rg11 lg12 → ((u8.toInt = 2 ∧ Rg σ x.toInt.toNat) ∨ (u8.toInt = 0 ∧ ¬ Rg σ x.toInt.toNat)) → (Fo B [24, 27, 28] ig lg ig10 lg12) → (Fo B [24, 25, 26, 27, 28] ig lg ig10 lg12) → ((ig10 (B + 24) 8).toInt = (ig (B + 24) 8).toInt) → W p l e (rL 4 0 0) s m args below meth c H locs 0 0 (MQ below (QcW B D cA (PI 998 τ B none kd ig rg lg (fun r kd' ig' rg' lg' => (r = none ∧ (WkO B σ x.toInt.toNat ig ig' ∧ Fo B [24, 25, 26, 27, 28] ig lg ig' lg' ∧ (ig' (B + 24) 8).toInt = (ig (B + 24) 8).toInt))))) args s 0 0 (fun q => B ≤ q)) (F0 m 17 ls [.int u8, .ref (B + 24)]) := by
    intro ls H locs kd9 ig10 rg11 lg12 u8 hl hw hI hN g17_0 g17_1 g17_2 g17_3
    have hsh := hI.sh
    have hrs := hI.rs
    have hO := g17_2
    refine r_puti C hw (hsh 24 _ rfl) fl_X10_76 rfl rfl rfl dX10_workOut_17 (fun H locs hH hw => ?_)
    have hO0 := hO
    obtain ⟨ig13, eig13⟩ : ∃ f, f = up2 ig10 (B + 24) 7 u8 := ⟨_, rfl⟩
    rw [← eig13] at hw
    have hN : Nx 998 B none kd ig rg lg kd9 ig13 rg11 lg12 := by rw [eig13]; exact hN.pi (by omega)
    have hI : IC τ B kd9 ig13 rg11 := by rw [eig13]; exact hI.pi (show okR none _ from trivial)
    have wig13 : (ig13 (B + 24) 7).toInt = u8.toInt := by rw [eig13, up2_eq]
    have wig13_24_6 : (ig13 (B + 24) 6).toInt = (ig10 (B + 24) 6).toInt := by rw [eig13, up2_j (by decide)]
    have wig13_24_8 : (ig13 (B + 24) 8).toInt = (ig10 (B + 24) 8).toInt := by rw [eig13, up2_j (by decide)]
    have hO : Fo B [24, 25, 26, 27, 28] ig lg ig13 lg12 := by rw [eig13]; exact hO0.pi (by decide)
    clear hO0
    refine lv_aload_n hx hb dX10_workOut_20 rfl (lv_at hl 0 rfl) ?_
    refine lv_iconst (v := 0) hx hb dX10_workOut_21 (by decide) (ti_c 0 (by decide) fun z14 hz14 => ?_)
    refine r_puti C hw (hsh 24 _ rfl) fl_X10_79 rfl rfl rfl dX10_workOut_22 (fun H locs hH hw => ?_)
    have hO0 := hO
    obtain ⟨ig15, eig15⟩ : ∃ f, f = up2 ig13 (B + 24) 6 z14 := ⟨_, rfl⟩
    rw [← eig15] at hw
    have hN : Nx 998 B none kd ig rg lg kd9 ig15 rg11 lg12 := by rw [eig15]; exact hN.pi (by omega)
    have hI : IC τ B kd9 ig15 rg11 := by rw [eig15]; exact hI.pi (show okR (some (0, 32)) _ from ⟨by show (0 : Int) ≤ _; omega, by show _ ≤ (32 : Int); omega⟩)
    have wig15_24_7 : (ig15 (B + 24) 7).toInt = (ig13 (B + 24) 7).toInt := by rw [eig15, up2_j (by decide)]
    have wig15 : (ig15 (B + 24) 6).toInt = z14.toInt := by rw [eig15, up2_eq]
    have wig15_24_8 : (ig15 (B + 24) 8).toInt = (ig13 (B + 24) 8).toInt := by rw [eig15, up2_j (by decide)]
    have hO : Fo B [24, 25, 26, 27, 28] ig lg ig15 lg12 := by rw [eig15]; exact hO0.pi (by decide)
    clear hO0
    have wk0 : WkS B (ig (B + 25)) (ig (B + 26)) x.toInt M (Rg σ x.toInt.toNat) 0 ig15 := WkS.zero (by rcases g17_0 with ⟨q8, q9⟩ | ⟨q8, q9⟩; exact Or.inl ⟨by omega, q9⟩; exact Or.inr ⟨by omega, q9⟩) (by omega)
    refine lv_iconst (v := 0) hx hb dX10_workOut_25 (by decide) (ti_c 0 (by decide) fun z16 hz16 => ?_)
    refine lv_istore_n (lv' := [(3, .int z16), (0, .ref (B + 24)), (1, .int x), (2, .ref g)]) hx hb dX10_workOut_26 rfl hl (by decide) rfl (fun ls hl => ?_)
    have L27 : ∀ (n : Nat) (ls : Array Slot) (H : Heap) (locs : List Loc) (kd18 : sK) (ig19 : sI) (rg20 : sR) (lg21 : sG) (v17 : Int32), lv_has ls 5 [(3, .int v17), (0, .ref (B + 24)), (1, .int x), (2, .ref g)] → WD B D cA s.heap kd18 ig19 rg20 lg21 H locs → IC τ B kd18 ig19 rg20 → Nx 998 B none kd ig rg lg kd18 ig19 rg20 lg21 → (0 ≤ v17.toInt) → (v17.toInt ≤ (M.length : Int)) → (WkS B (ig (B + 25)) (ig (B + 26)) x.toInt M (Rg σ x.toInt.toNat) v17.toInt.toNat ig19) → (Fo B [24, 27, 28] ig lg ig19 lg21) → (Fo B [24, 25, 26, 27, 28] ig lg ig19 lg21) → ((ig19 (B + 24) 8).toInt = (ig (B + 24) 8).toInt) → (M.length : Int) - v17.toInt < (n : Int) → W p l e (rL 4 0 0) s m args below meth c H locs 0 0 (MQ below (QcW B D cA (PI 998 τ B none kd ig rg lg (fun r kd' ig' rg' lg' => (r = none ∧ (WkO B σ x.toInt.toNat ig ig' ∧ Fo B [24, 25, 26, 27, 28] ig lg ig' lg' ∧ (ig' (B + 24) 8).toInt = (ig (B + 24) 8).toInt))))) args s 0 0 (fun q => B ≤ q)) (F0 m 27 ls []) := by
      intro n27
      induction n27 with
      | zero => intro ls H locs kd18 ig19 rg20 lg21 v17 hl hw hI hN g27_0 g27_1 g27_2 g27_3 g27_4 g27_5 hmu; exact absurd hmu (by omega)
      | succ n27 ih27 =>
        intro ls H locs kd18 ig19 rg20 lg21 v17 hl hw hI hN g27_0 g27_1 g27_2 g27_3 g27_4 g27_5 hmu
        have hsh := hI.sh
        have hrs := hI.rs
        have hO := g27_4
        have hO8 := g27_3
        refine lv_iload_n hx hb dX10_workOut_27 rfl (lv_at hl 0 rfl) ?_
        refine lv_aload_n hx hb dX10_workOut_28 rfl (lv_at hl 3 rfl) ?_
        refine r_callV (As := []) (rest := [.int v17]) C hw (t_X4_size l B D cA kd18 ig19 rg20 lg21 _ g M.length (FnL.F (hM.nx hN))  hI) sv_X10_82 (isFn.k (FnL.F (hM.nx hN))) rfl hl.1 rfl (Nat.le_of_ble_eq_true rfl) ⟨Nat.le_of_ble_eq_true rfl, Nat.le_of_ble_eq_true rfl⟩ ⟨Nat.le_of_ble_eq_true rfl, Nat.le_of_ble_eq_true rfl⟩ dX10_workOut_29 (fun r26 kd22 ig23 rg24 lg25 H locs hw hH hp27 => ?_)
        obtain ⟨rfl, rfl, rfl, rfl, hzhp27, hrhp27⟩ := hp27
        obtain ⟨z28, rfl, hz28⟩ := hrhp27
        refine b_ge (tgt := 124) hx hb dX10_workOut_32 (by decide) (fun c32 => ?_) (fun c32 => ?_)
        · have hO9 := g27_3
          refine lv_aload_n hx hb dX10_workOut_124 rfl (lv_at hl 1 rfl) ?_
          refine r_get C hw (hsh 24 _ rfl) fl_X10_19 (oV_r rfl (hrs (24, 2, 25) (by decide))) dX10_workOut_125 ?_
          refine lv_iload_n hx hb dX10_workOut_128 rfl (lv_at hl 2 rfl) ?_
          refine lv_aload_n hx hb dX10_workOut_129 rfl (lv_at hl 1 rfl) ?_
          refine r_get C hw (hsh 24 _ rfl) fl_X10_76 (oV_i rfl) dX10_workOut_130 (ti_c (ig19 (B + 24) 7).toInt rfl fun z29 hz29 => ?_)
          refine z_ne (tgt := 143) hx hb dX10_workOut_133 (by decide) (fun c133 => ?_) (fun c133 => ?_)
          · refine lv_iconst (v := 0) hx hb dX10_workOut_143 (by decide) (ti_c 0 (by decide) fun z30 hz30 => ?_)
            refine r_iast C hw (hsh 25 _ rfl) (by omega) (by omega) dX10_workOut_144 (fun H locs hH hw => ?_)
            have hO0 := hO
            obtain ⟨ig31, eig31⟩ : ∃ f, f = up2 ig19 (B + 25) x.toInt.toNat z30 := ⟨_, rfl⟩
            rw [← eig31] at hw
            have hN : Nx 998 B none kd ig rg lg kd18 ig31 rg20 lg21 := by rw [eig31]; exact hN.pi (by omega)
            have hI : IC τ B kd18 ig31 rg20 := by rw [eig31]; exact hI.pi (show okR none _ from trivial)
            have wig31_24_7 : (ig31 (B + 24) 7).toInt = (ig19 (B + 24) 7).toInt := by rw [eig31, up2_a (by omega)]
            have wig31_24_6 : (ig31 (B + 24) 6).toInt = (ig19 (B + 24) 6).toInt := by rw [eig31, up2_a (by omega)]
            have wig31_24_8 : (ig31 (B + 24) 8).toInt = (ig19 (B + 24) 8).toInt := by rw [eig31, up2_a (by omega)]
            have hO : Fo B [24, 25, 26, 27, 28] ig lg ig31 lg21 := by rw [eig31]; exact hO0.pi (by decide)
            clear hO0
            refine lv_aload_n hx hb dX10_workOut_145 rfl (lv_at hl 1 rfl) ?_
            refine r_get C hw (hsh 24 _ rfl) fl_X10_23 (oV_r rfl (hrs (24, 3, 26) (by decide))) dX10_workOut_146 ?_
            refine lv_iload_n hx hb dX10_workOut_149 rfl (lv_at hl 2 rfl) ?_
            refine lv_aload_n hx hb dX10_workOut_150 rfl (lv_at hl 1 rfl) ?_
            refine r_get C hw (hsh 24 _ rfl) fl_X10_76 (oV_i rfl) dX10_workOut_151 (ti_c (ig31 (B + 24) 7).toInt rfl fun z32 hz32 => ?_)
            have hw154 : z32.toInt = (ig19 (B + 24) 7).toInt := by rw [hz32, eig31, up2_a (by omega)]
            refine r_iast C hw (hsh 26 _ rfl) (by omega) (by omega) dX10_workOut_154 (fun H locs hH hw => ?_)
            have hO0 := hO
            obtain ⟨ig33, eig33⟩ : ∃ f, f = up2 ig31 (B + 26) x.toInt.toNat z32 := ⟨_, rfl⟩
            rw [← eig33] at hw
            have hN : Nx 998 B none kd ig rg lg kd18 ig33 rg20 lg21 := by rw [eig33]; exact hN.pi (by omega)
            have hI : IC τ B kd18 ig33 rg20 := by rw [eig33]; exact hI.pi (show okR none _ from trivial)
            have wig33_24_7 : (ig33 (B + 24) 7).toInt = (ig31 (B + 24) 7).toInt := by rw [eig33, up2_a (by omega)]
            have wig33_24_6 : (ig33 (B + 24) 6).toInt = (ig31 (B + 24) 6).toInt := by rw [eig33, up2_a (by omega)]
            have wig33_24_8 : (ig33 (B + 24) 8).toInt = (ig31 (B + 24) 8).toInt := by rw [eig33, up2_a (by omega)]
            have hO : Fo B [24, 25, 26, 27, 28] ig lg ig33 lg21 := by rw [eig33]; exact hO0.pi (by decide)
            clear hO0
            exact r_vret C hw hr hlk (Nat.le_of_ble_eq_true rfl) (Nat.le_of_ble_eq_true rfl) dX10_workOut_155 ⟨hI, hN, ⟨rfl, ⟨WkO.mk (M := M) (h := x.toInt) (fun j hj => ⟨by rw [eig33, up2_a (by omega), eig31, up2_j hj]; exact hO9.i 25 j, by rw [eig33, up2_j hj, eig31, up2_a (by omega)]; exact hO9.i 26 j⟩) (by rw [eig33, up2_a (by omega), eig31, up2_eq]) (by rw [eig33, up2_eq]) hM9 (by omega) (Or.inr ⟨fun q9 => c133 (by have q8 : z32.toInt = (0 : Int32).toInt := congrArg _ q9; have q7 : (0 : Int32).toInt = 0 := rfl; omega), i32_z (by omega), (by have q9 := g27_2.2 (by omega); rw [show z32 = ig19 (B + 24) 7 from i32_inj (by omega)]; exact q9)⟩), hO, by omega⟩⟩⟩
          · have hl9 : v17.toInt = (M.length : Int) := by omega
            obtain ⟨nR, sk9, ev9⟩ := g27_2.1 (by omega)
            rw [show v17.toInt.toNat = M.length by omega] at sk9 ev9
            obtain ⟨x0, ek0⟩ := evA_1 (v := ig (B + 25)) (e := ig (B + 26)) (h := x.toInt) hg
            refine lv_aload_n hx hb dX10_workOut_136 rfl (lv_at hl 1 rfl) ?_
            refine r_callV (As := []) (rest := [.int x, .ref (B + 25)]) C hw (t_X10_popE l B D cA kd18 ig19 rg20 lg21 _  x0 [] (by rw [← ek0]; exact sk9) hI) sv_X10_104 (hsh 24 _ rfl) rfl hl.1 rfl (Nat.le_of_ble_eq_true rfl) ⟨Nat.le_of_ble_eq_true rfl, Nat.le_of_ble_eq_true rfl⟩ ⟨Nat.le_of_ble_eq_true rfl, Nat.le_of_ble_eq_true rfl⟩ dX10_workOut_137 (fun r38 kd34 ig35 rg36 lg37 H locs hw hH hp39 => ?_)
            obtain ⟨hI, hchp39, hrhp39⟩ := hp39
            have hN := hN.tr hchp39
            have hsh := hI.sh
            have hrs := hI.rs
            obtain ⟨z40, rfl, hz40⟩ := hrhp39
            obtain ⟨phz40, ohz40, khz40_0, khz40_1⟩ := hz40
            have hO := hO.tr ohz40
            have hO9 := hO9.tr ohz40
            refine lv_goto (tgt := 144) hx hb dX10_workOut_140 (by decide) ?_
            refine r_iast C hw (hsh 25 _ rfl) (by omega) (by omega) dX10_workOut_144 (fun H locs hH hw => ?_)
            have hO0 := hO
            obtain ⟨ig41, eig41⟩ : ∃ f, f = up2 ig35 (B + 25) x.toInt.toNat z40 := ⟨_, rfl⟩
            rw [← eig41] at hw
            have hN : Nx 998 B none kd ig rg lg kd34 ig41 rg36 lg37 := by rw [eig41]; exact hN.pi (by omega)
            have hI : IC τ B kd34 ig41 rg36 := by rw [eig41]; exact hI.pi (show okR none _ from trivial)
            have wig41_24_7 : (ig41 (B + 24) 7).toInt = (ig35 (B + 24) 7).toInt := by rw [eig41, up2_a (by omega)]
            have wig41_24_6 : (ig41 (B + 24) 6).toInt = (ig35 (B + 24) 6).toInt := by rw [eig41, up2_a (by omega)]
            have wig41_24_8 : (ig41 (B + 24) 8).toInt = (ig35 (B + 24) 8).toInt := by rw [eig41, up2_a (by omega)]
            have hO : Fo B [24, 25, 26, 27, 28] ig lg ig41 lg37 := by rw [eig41]; exact hO0.pi (by decide)
            clear hO0
            refine lv_aload_n hx hb dX10_workOut_145 rfl (lv_at hl 1 rfl) ?_
            refine r_get C hw (hsh 24 _ rfl) fl_X10_23 (oV_r rfl (hrs (24, 3, 26) (by decide))) dX10_workOut_146 ?_
            refine lv_iload_n hx hb dX10_workOut_149 rfl (lv_at hl 2 rfl) ?_
            refine lv_aload_n hx hb dX10_workOut_150 rfl (lv_at hl 1 rfl) ?_
            refine r_get C hw (hsh 24 _ rfl) fl_X10_76 (oV_i rfl) dX10_workOut_151 (ti_c (ig41 (B + 24) 7).toInt rfl fun z42 hz42 => ?_)
            have hw154 : z42.toInt = (ig35 (B + 24) 7).toInt := by rw [hz42, eig41, up2_a (by omega)]
            refine r_iast C hw (hsh 26 _ rfl) (by omega) (by omega) dX10_workOut_154 (fun H locs hH hw => ?_)
            have hO0 := hO
            obtain ⟨ig43, eig43⟩ : ∃ f, f = up2 ig41 (B + 26) x.toInt.toNat z42 := ⟨_, rfl⟩
            rw [← eig43] at hw
            have hN : Nx 998 B none kd ig rg lg kd34 ig43 rg36 lg37 := by rw [eig43]; exact hN.pi (by omega)
            have hI : IC τ B kd34 ig43 rg36 := by rw [eig43]; exact hI.pi (show okR none _ from trivial)
            have wig43_24_7 : (ig43 (B + 24) 7).toInt = (ig41 (B + 24) 7).toInt := by rw [eig43, up2_a (by omega)]
            have wig43_24_6 : (ig43 (B + 24) 6).toInt = (ig41 (B + 24) 6).toInt := by rw [eig43, up2_a (by omega)]
            have wig43_24_8 : (ig43 (B + 24) 8).toInt = (ig41 (B + 24) 8).toInt := by rw [eig43, up2_a (by omega)]
            have hO : Fo B [24, 25, 26, 27, 28] ig lg ig43 lg37 := by rw [eig43]; exact hO0.pi (by decide)
            clear hO0
            exact r_vret C hw hr hlk (Nat.le_of_ble_eq_true rfl) (Nat.le_of_ble_eq_true rfl) dX10_workOut_155 ⟨hI, hN, ⟨rfl, ⟨WkO.mk (M := M) (h := x.toInt) (fun j hj => ⟨by rw [eig43, up2_a (by omega), eig41, up2_j hj]; exact hO9.i 25 j, by rw [eig43, up2_j hj, eig41, up2_a (by omega)]; exact hO9.i 26 j⟩) (by rw [eig43, up2_a (by omega), eig41, up2_eq]) (by rw [eig43, up2_eq]) hM9 (by omega) (Or.inl ⟨nR, i32_z (by omega), by rw [phz40.1]; exact ek0, ev9⟩), hO, by omega⟩⟩⟩
        · refine lv_aload_n hx hb dX10_workOut_35 rfl (lv_at hl 1 rfl) ?_
          refine r_get C hw (hsh 24 _ rfl) fl_X10_76 (oV_i rfl) dX10_workOut_36 (ti_c (ig19 (B + 24) 7).toInt rfl fun z44 hz44 => ?_)
          refine z_ne (tgt := 124) hx hb dX10_workOut_39 (by decide) (fun c39 => ?_) (fun c39 => ?_)
          · have hO9 := g27_3
            refine lv_aload_n hx hb dX10_workOut_124 rfl (lv_at hl 1 rfl) ?_
            refine r_get C hw (hsh 24 _ rfl) fl_X10_19 (oV_r rfl (hrs (24, 2, 25) (by decide))) dX10_workOut_125 ?_
            refine lv_iload_n hx hb dX10_workOut_128 rfl (lv_at hl 2 rfl) ?_
            refine lv_aload_n hx hb dX10_workOut_129 rfl (lv_at hl 1 rfl) ?_
            refine r_get C hw (hsh 24 _ rfl) fl_X10_76 (oV_i rfl) dX10_workOut_130 (ti_c (ig19 (B + 24) 7).toInt rfl fun z45 hz45 => ?_)
            refine z_ne (tgt := 143) hx hb dX10_workOut_133 (by decide) (fun c133 => ?_) (fun c133 => ?_)
            · refine lv_iconst (v := 0) hx hb dX10_workOut_143 (by decide) (ti_c 0 (by decide) fun z46 hz46 => ?_)
              refine r_iast C hw (hsh 25 _ rfl) (by omega) (by omega) dX10_workOut_144 (fun H locs hH hw => ?_)
              have hO0 := hO
              obtain ⟨ig47, eig47⟩ : ∃ f, f = up2 ig19 (B + 25) x.toInt.toNat z46 := ⟨_, rfl⟩
              rw [← eig47] at hw
              have hN : Nx 998 B none kd ig rg lg kd18 ig47 rg20 lg21 := by rw [eig47]; exact hN.pi (by omega)
              have hI : IC τ B kd18 ig47 rg20 := by rw [eig47]; exact hI.pi (show okR none _ from trivial)
              have wig47_24_7 : (ig47 (B + 24) 7).toInt = (ig19 (B + 24) 7).toInt := by rw [eig47, up2_a (by omega)]
              have wig47_24_6 : (ig47 (B + 24) 6).toInt = (ig19 (B + 24) 6).toInt := by rw [eig47, up2_a (by omega)]
              have wig47_24_8 : (ig47 (B + 24) 8).toInt = (ig19 (B + 24) 8).toInt := by rw [eig47, up2_a (by omega)]
              have hO : Fo B [24, 25, 26, 27, 28] ig lg ig47 lg21 := by rw [eig47]; exact hO0.pi (by decide)
              clear hO0
              refine lv_aload_n hx hb dX10_workOut_145 rfl (lv_at hl 1 rfl) ?_
              refine r_get C hw (hsh 24 _ rfl) fl_X10_23 (oV_r rfl (hrs (24, 3, 26) (by decide))) dX10_workOut_146 ?_
              refine lv_iload_n hx hb dX10_workOut_149 rfl (lv_at hl 2 rfl) ?_
              refine lv_aload_n hx hb dX10_workOut_150 rfl (lv_at hl 1 rfl) ?_
              refine r_get C hw (hsh 24 _ rfl) fl_X10_76 (oV_i rfl) dX10_workOut_151 (ti_c (ig47 (B + 24) 7).toInt rfl fun z48 hz48 => ?_)
              have hw154 : z48.toInt = (ig19 (B + 24) 7).toInt := by rw [hz48, eig47, up2_a (by omega)]
              refine r_iast C hw (hsh 26 _ rfl) (by omega) (by omega) dX10_workOut_154 (fun H locs hH hw => ?_)
              have hO0 := hO
              obtain ⟨ig49, eig49⟩ : ∃ f, f = up2 ig47 (B + 26) x.toInt.toNat z48 := ⟨_, rfl⟩
              rw [← eig49] at hw
              have hN : Nx 998 B none kd ig rg lg kd18 ig49 rg20 lg21 := by rw [eig49]; exact hN.pi (by omega)
              have hI : IC τ B kd18 ig49 rg20 := by rw [eig49]; exact hI.pi (show okR none _ from trivial)
              have wig49_24_7 : (ig49 (B + 24) 7).toInt = (ig47 (B + 24) 7).toInt := by rw [eig49, up2_a (by omega)]
              have wig49_24_6 : (ig49 (B + 24) 6).toInt = (ig47 (B + 24) 6).toInt := by rw [eig49, up2_a (by omega)]
              have wig49_24_8 : (ig49 (B + 24) 8).toInt = (ig47 (B + 24) 8).toInt := by rw [eig49, up2_a (by omega)]
              have hO : Fo B [24, 25, 26, 27, 28] ig lg ig49 lg21 := by rw [eig49]; exact hO0.pi (by decide)
              clear hO0
              exact r_vret C hw hr hlk (Nat.le_of_ble_eq_true rfl) (Nat.le_of_ble_eq_true rfl) dX10_workOut_155 ⟨hI, hN, ⟨rfl, ⟨WkO.mk (M := M) (h := x.toInt) (fun j hj => ⟨by rw [eig49, up2_a (by omega), eig47, up2_j hj]; exact hO9.i 25 j, by rw [eig49, up2_j hj, eig47, up2_a (by omega)]; exact hO9.i 26 j⟩) (by rw [eig49, up2_a (by omega), eig47, up2_eq]) (by rw [eig49, up2_eq]) hM9 (by omega) (Or.inr ⟨fun q9 => c133 (by have q8 : z48.toInt = (0 : Int32).toInt := congrArg _ q9; have q7 : (0 : Int32).toInt = 0 := rfl; omega), i32_z (by omega), (by have q9 := g27_2.2 (by omega); rw [show z48 = ig19 (B + 24) 7 from i32_inj (by omega)]; exact q9)⟩), hO, by omega⟩⟩⟩
            · have hl9 : v17.toInt = (M.length : Int) := by omega
              obtain ⟨nR, sk9, ev9⟩ := g27_2.1 (by omega)
              rw [show v17.toInt.toNat = M.length by omega] at sk9 ev9
              obtain ⟨x0, ek0⟩ := evA_1 (v := ig (B + 25)) (e := ig (B + 26)) (h := x.toInt) hg
              refine lv_aload_n hx hb dX10_workOut_136 rfl (lv_at hl 1 rfl) ?_
              refine r_callV (As := []) (rest := [.int x, .ref (B + 25)]) C hw (t_X10_popE l B D cA kd18 ig19 rg20 lg21 _  x0 [] (by rw [← ek0]; exact sk9) hI) sv_X10_104 (hsh 24 _ rfl) rfl hl.1 rfl (Nat.le_of_ble_eq_true rfl) ⟨Nat.le_of_ble_eq_true rfl, Nat.le_of_ble_eq_true rfl⟩ ⟨Nat.le_of_ble_eq_true rfl, Nat.le_of_ble_eq_true rfl⟩ dX10_workOut_137 (fun r54 kd50 ig51 rg52 lg53 H locs hw hH hp55 => ?_)
              obtain ⟨hI, hchp55, hrhp55⟩ := hp55
              have hN := hN.tr hchp55
              have hsh := hI.sh
              have hrs := hI.rs
              obtain ⟨z56, rfl, hz56⟩ := hrhp55
              obtain ⟨phz56, ohz56, khz56_0, khz56_1⟩ := hz56
              have hO := hO.tr ohz56
              have hO9 := hO9.tr ohz56
              refine lv_goto (tgt := 144) hx hb dX10_workOut_140 (by decide) ?_
              refine r_iast C hw (hsh 25 _ rfl) (by omega) (by omega) dX10_workOut_144 (fun H locs hH hw => ?_)
              have hO0 := hO
              obtain ⟨ig57, eig57⟩ : ∃ f, f = up2 ig51 (B + 25) x.toInt.toNat z56 := ⟨_, rfl⟩
              rw [← eig57] at hw
              have hN : Nx 998 B none kd ig rg lg kd50 ig57 rg52 lg53 := by rw [eig57]; exact hN.pi (by omega)
              have hI : IC τ B kd50 ig57 rg52 := by rw [eig57]; exact hI.pi (show okR none _ from trivial)
              have wig57_24_7 : (ig57 (B + 24) 7).toInt = (ig51 (B + 24) 7).toInt := by rw [eig57, up2_a (by omega)]
              have wig57_24_6 : (ig57 (B + 24) 6).toInt = (ig51 (B + 24) 6).toInt := by rw [eig57, up2_a (by omega)]
              have wig57_24_8 : (ig57 (B + 24) 8).toInt = (ig51 (B + 24) 8).toInt := by rw [eig57, up2_a (by omega)]
              have hO : Fo B [24, 25, 26, 27, 28] ig lg ig57 lg53 := by rw [eig57]; exact hO0.pi (by decide)
              clear hO0
              refine lv_aload_n hx hb dX10_workOut_145 rfl (lv_at hl 1 rfl) ?_
              refine r_get C hw (hsh 24 _ rfl) fl_X10_23 (oV_r rfl (hrs (24, 3, 26) (by decide))) dX10_workOut_146 ?_
              refine lv_iload_n hx hb dX10_workOut_149 rfl (lv_at hl 2 rfl) ?_
              refine lv_aload_n hx hb dX10_workOut_150 rfl (lv_at hl 1 rfl) ?_
              refine r_get C hw (hsh 24 _ rfl) fl_X10_76 (oV_i rfl) dX10_workOut_151 (ti_c (ig57 (B + 24) 7).toInt rfl fun z58 hz58 => ?_)
              have hw154 : z58.toInt = (ig51 (B + 24) 7).toInt := by rw [hz58, eig57, up2_a (by omega)]
              refine r_iast C hw (hsh 26 _ rfl) (by omega) (by omega) dX10_workOut_154 (fun H locs hH hw => ?_)
              have hO0 := hO
              obtain ⟨ig59, eig59⟩ : ∃ f, f = up2 ig57 (B + 26) x.toInt.toNat z58 := ⟨_, rfl⟩
              rw [← eig59] at hw
              have hN : Nx 998 B none kd ig rg lg kd50 ig59 rg52 lg53 := by rw [eig59]; exact hN.pi (by omega)
              have hI : IC τ B kd50 ig59 rg52 := by rw [eig59]; exact hI.pi (show okR none _ from trivial)
              have wig59_24_7 : (ig59 (B + 24) 7).toInt = (ig57 (B + 24) 7).toInt := by rw [eig59, up2_a (by omega)]
              have wig59_24_6 : (ig59 (B + 24) 6).toInt = (ig57 (B + 24) 6).toInt := by rw [eig59, up2_a (by omega)]
              have wig59_24_8 : (ig59 (B + 24) 8).toInt = (ig57 (B + 24) 8).toInt := by rw [eig59, up2_a (by omega)]
              have hO : Fo B [24, 25, 26, 27, 28] ig lg ig59 lg53 := by rw [eig59]; exact hO0.pi (by decide)
              clear hO0
              exact r_vret C hw hr hlk (Nat.le_of_ble_eq_true rfl) (Nat.le_of_ble_eq_true rfl) dX10_workOut_155 ⟨hI, hN, ⟨rfl, ⟨WkO.mk (M := M) (h := x.toInt) (fun j hj => ⟨by rw [eig59, up2_a (by omega), eig57, up2_j hj]; exact hO9.i 25 j, by rw [eig59, up2_j hj, eig57, up2_a (by omega)]; exact hO9.i 26 j⟩) (by rw [eig59, up2_a (by omega), eig57, up2_eq]) (by rw [eig59, up2_eq]) hM9 (by omega) (Or.inl ⟨nR, i32_z (by omega), by rw [phz56.1]; exact ek0, ev9⟩), hO, by omega⟩⟩⟩
          · obtain ⟨nR, sk9, ev9⟩ := g27_2.1 (by omega)
            obtain ⟨n9, ln9, n32, np9, n49, n59⟩ := opr_n (v := ig (B + 25)) (e := ig (B + 26)) (h := x.toInt) hg (i := v17.toInt.toNat) (by omega)
            rw [show ((v17.toInt.toNat : Nat) : Int) = v17.toInt by omega] at np9 n49 n59
            have es9 := evA_t (v := ig (B + 25)) (e := ig (B + 26)) (h := x.toInt) (M := M) (i := v17.toInt.toNat) (z := v17.toInt) (by omega) (by omega)
            refine lv_aload_n hx hb dX10_workOut_42 rfl (lv_at hl 3 rfl) ?_
            refine lv_iload_n hx hb dX10_workOut_43 rfl (lv_at hl 0 rfl) ?_
            refine r_callV (As := [.int v17]) (rest := []) C hw (t_X4_stepAtE l B D cA kd18 ig19 rg20 lg21 _ g M (hM.nx hN) v17  hI) sv_X10_87 (isFn.k (FnL.F (hM.nx hN))) rfl hl.1 rfl (Nat.le_of_ble_eq_true rfl) ⟨Nat.le_of_ble_eq_true rfl, Nat.le_of_ble_eq_true rfl⟩ ⟨Nat.le_of_ble_eq_true rfl, Nat.le_of_ble_eq_true rfl⟩ dX10_workOut_44 (fun r64 kd60 ig61 rg62 lg63 H locs hw hH hp65 => ?_)
            obtain ⟨rfl, rfl, rfl, rfl, hzhp65, hrhp65⟩ := hp65
            obtain ⟨z66, rfl, hz66⟩ := hrhp65
            refine lv_istore (lv' := [(4, .int z66), (3, .int v17), (0, .ref (B + 24)), (1, .int x), (2, .ref g)]) hx hb dX10_workOut_47 hl (by decide) rfl (fun ls hl => ?_)
            refine lv_iload hx hb dX10_workOut_49 (lv_at hl 0 rfl) ?_
            have J118 : ∀ (ls : Array Slot) (H : Heap) (locs : List Loc) (kd67 : sK) (ig68 : sI) (rg69 : sR) (lg70 : sG) , lv_has ls 5 [(3, .int v17), (0, .ref (B + 24)), (1, .int x), (2, .ref g)] → WD B D cA s.heap kd67 ig68 rg69 lg70 H locs → IC τ B kd67 ig68 rg69 → Nx 998 B none kd ig rg lg kd67 ig68 rg69 lg70 → (WkS B (ig (B + 25)) (ig (B + 26)) x.toInt M (Rg σ x.toInt.toNat) (v17.toInt.toNat + 1) ig68) → (Fo B [24, 27, 28] ig lg ig68 lg70) → (Fo B [24, 25, 26, 27, 28] ig lg ig68 lg70) → ((ig68 (B + 24) 8).toInt = (ig (B + 24) 8).toInt) → W p l e (rL 4 0 0) s m args below meth c H locs 0 0 (MQ below (QcW B D cA (PI 998 τ B none kd ig rg lg (fun r kd' ig' rg' lg' => (r = none ∧ (WkO B σ x.toInt.toNat ig ig' ∧ Fo B [24, 25, 26, 27, 28] ig lg ig' lg' ∧ (ig' (B + 24) 8).toInt = (ig (B + 24) 8).toInt))))) args s 0 0 (fun q => B ≤ q)) (F0 m 118 ls []) := by
              intro ls H locs kd67 ig68 rg69 lg70 hl hw hI hN g118_0 g118_1 g118_2 g118_3
              have hsh := hI.sh
              have hrs := hI.rs
              have hO := g118_2
              refine tc_inc hx hb dX10_workOut_118 hl (k := 0) rfl (by decide) (by decide) (fun z71 hz71 ls hl => ?_)
              first | replace hz71 := hz71 (by omega) | clear hz71
              have hl : lv_has ls 5 [(3, .int z71), (0, .ref (B + 24)), (1, .int x), (2, .ref g)] := hl
              refine lv_goto (tgt := 27) hx hb dX10_workOut_121 (by decide) ?_
              exact ih27 ls H locs kd67 ig68 rg69 lg70 z71 (lv_sub hl [0, 1, 2, 3] rfl) hw hI hN (by omega) (by omega) (by rw [show z71.toInt.toNat = v17.toInt.toNat + 1 by omega]; exact g118_0) (g118_1) (hO) (by omega) (by omega)
            refine z_ne (tgt := 66) hx hb dX10_workOut_51 (by decide) (fun c51 => ?_) (fun c51 => ?_)
            · refine lv_aload_n hx hb dX10_workOut_66 rfl (lv_at hl 4 rfl) ?_
              refine lv_iload_n hx hb dX10_workOut_67 rfl (lv_at hl 1 rfl) ?_
              refine r_callV (As := [.int v17]) (rest := []) C hw (t_X4_readsAtE l B D cA kd18 ig19 rg20 lg21 _ g M (hM.nx hN) v17  hI) sv_X10_97 (isFn.k (FnL.F (hM.nx hN))) rfl hl.1 rfl (Nat.le_of_ble_eq_true rfl) ⟨Nat.le_of_ble_eq_true rfl, Nat.le_of_ble_eq_true rfl⟩ ⟨Nat.le_of_ble_eq_true rfl, Nat.le_of_ble_eq_true rfl⟩ dX10_workOut_68 (fun r76 kd72 ig73 rg74 lg75 H locs hw hH hp77 => ?_)
              obtain ⟨rfl, rfl, rfl, rfl, hzhp77, hrhp77⟩ := hp77
              obtain ⟨z78, rfl, hz78⟩ := hrhp77
              have rdh := hz78
              refine z_eq (tgt := 88) hx hb dX10_workOut_71 (by decide) (fun c71 => ?_) (fun c71 => ?_)
              · have nr9 := by0 rdh (by omega)
                refine lv_iload hx hb dX10_workOut_88 (lv_at hl 0 rfl) ?_
                refine lv_iconst (v := 4) hx hb dX10_workOut_90 (by decide) (ti_c 4 (by decide) fun z79 hz79 => ?_)
                refine b_ne (tgt := 106) hx hb dX10_workOut_91 (by decide) (fun c91 => ?_) (fun c91 => ?_)
                · refine lv_iload hx hb dX10_workOut_106 (lv_at hl 0 rfl) ?_
                  refine lv_iconst (v := 3) hx hb dX10_workOut_108 (by decide) (ti_c 3 (by decide) fun z80 hz80 => ?_)
                  refine b_eq (tgt := 118) hx hb dX10_workOut_109 (by decide) (fun c109 => ?_) (fun c109 => ?_)
                  · exact J118 ls H locs kd18 ig19 rg20 lg21 (lv_sub hl [1, 2, 3, 4] rfl) hw hI hN (WkS.next (i := v17.toInt.toNat) (by omega) nR (by rw [es9, evS_3 (by omega), ev9]; exact i32_z (by omega)) (fun _ => by rw [es9, evS_3 (by omega)]; exact sk9)) (hO8) (hO) (by omega)
                  · have n5 := n59 (by omega) nr9 (by omega) (by omega)
                    obtain ⟨y0, x1, k1, ek1⟩ := two_of (k := (evA (ig (B + 25)) (ig (B + 26)) x.toInt M v17.toInt.toNat).1) (by rw [ln9]; exact n5)
                    have lk1 := congrArg List.length ek1
                    rw [List.length_cons, List.length_cons, ln9] at lk1
                    refine lv_aload_n hx hb dX10_workOut_112 rfl (lv_at hl 2 rfl) ?_
                    refine lv_iload hx hb dX10_workOut_113 (lv_at hl 0 rfl) ?_
                    refine r_callV (As := [.int z66]) (rest := []) C hw (t_X10_joinE l B D cA kd18 ig19 rg20 lg21 _ z66 k1 x1 y0 (by rw [← ek1]; exact sk9) (by omega) (by omega) hI) sv_X10_107 (hsh 24 _ rfl) rfl hl.1 rfl (Nat.le_of_ble_eq_true rfl) ⟨Nat.le_of_ble_eq_true rfl, Nat.le_of_ble_eq_true rfl⟩ ⟨Nat.le_of_ble_eq_true rfl, Nat.le_of_ble_eq_true rfl⟩ dX10_workOut_115 (fun r85 kd81 ig82 rg83 lg84 H locs hw hH hp86 => ?_)
                    obtain ⟨hI, hchp86, hrhp86⟩ := hp86
                    have hN := hN.tr hchp86
                    have hsh := hI.sh
                    have hrs := hI.rs
                    obtain ⟨rfl, hvhp86⟩ := hrhp86
                    obtain ⟨phvhp86, ohvhp86, khvhp86_0⟩ := hvhp86
                    have hO := hO.tr ohvhp86
                    exact J118 ls H locs kd81 ig82 rg83 lg84 (lv_sub hl [1, 2, 3, 4] rfl) hw hI hN (WkS.next (i := v17.toInt.toNat) (by omega) nR (by rw [es9, evS_5 (by omega) nr9 (by omega) (by omega) ek1, ev9, ← hz66]; exact i32_inj phvhp86.2) (fun _ => by rw [es9, evS_5 (by omega) nr9 (by omega) (by omega) ek1, ← hz66]; exact phvhp86.1)) (hO8.tr ohvhp86) (hO) (by omega)
                · obtain ⟨x0, k0, ek0⟩ := one_of (k := (evA (ig (B + 25)) (ig (B + 26)) x.toInt M v17.toInt.toNat).1) (by have q9 := n49 (by omega); rw [ln9]; exact q9)
                  have lk0 := congrArg List.length ek0
                  rw [List.length_cons, ln9] at lk0
                  refine lv_aload_n hx hb dX10_workOut_94 rfl (lv_at hl 2 rfl) ?_
                  refine lv_aload_n hx hb dX10_workOut_95 rfl (lv_at hl 2 rfl) ?_
                  refine r_callV (As := []) (rest := [.ref (B + 24)]) C hw (t_X10_popE l B D cA kd18 ig19 rg20 lg21 _  x0 k0 (by rw [← ek0]; exact sk9) hI) sv_X10_104 (hsh 24 _ rfl) rfl hl.1 rfl (Nat.le_of_ble_eq_true rfl) ⟨Nat.le_of_ble_eq_true rfl, Nat.le_of_ble_eq_true rfl⟩ ⟨Nat.le_of_ble_eq_true rfl, Nat.le_of_ble_eq_true rfl⟩ dX10_workOut_96 (fun r91 kd87 ig88 rg89 lg90 H locs hw hH hp92 => ?_)
                  obtain ⟨hI, hchp92, hrhp92⟩ := hp92
                  have hN := hN.tr hchp92
                  have hsh := hI.sh
                  have hrs := hI.rs
                  obtain ⟨z93, rfl, hz93⟩ := hrhp92
                  obtain ⟨phz93, ohz93, khz93_0, khz93_1⟩ := hz93
                  have hO := hO.tr ohz93
                  refine lv_ineg hx hb dX10_workOut_99 (lv_topi fun z94 hz94 => ?_)
                  refine r_callV (As := [.int z94]) (rest := []) C hw (t_X10_pushE l B D cA kd87 ig88 rg89 lg90 _ z94 k0 phz93.2 (by omega) hI) sv_X10_93 (hsh 24 _ rfl) rfl hl.1 rfl (Nat.le_of_ble_eq_true rfl) ⟨Nat.le_of_ble_eq_true rfl, Nat.le_of_ble_eq_true rfl⟩ ⟨Nat.le_of_ble_eq_true rfl, Nat.le_of_ble_eq_true rfl⟩ dX10_workOut_100 (fun r99 kd95 ig96 rg97 lg98 H locs hw hH hp100 => ?_)
                  obtain ⟨hI, hchp100, hrhp100⟩ := hp100
                  have hN := hN.tr hchp100
                  have hsh := hI.sh
                  have hrs := hI.rs
                  obtain ⟨rfl, hvhp100⟩ := hrhp100
                  obtain ⟨phvhp100, ohvhp100, khvhp100_0, khvhp100_1⟩ := hvhp100
                  have hO := hO.tr ohvhp100
                  refine lv_goto (tgt := 118) hx hb dX10_workOut_103 (by decide) ?_
                  exact J118 ls H locs kd95 ig96 rg97 lg98 (lv_sub hl [1, 2, 3, 4] rfl) hw hI hN (WkS.next (i := v17.toInt.toNat) (by omega) nR (by rw [es9, evS_4 (by omega) ek0, ev9]; exact i32_z (by omega)) (fun _ => by rw [es9, evS_4 (by omega) ek0, ← phz93.1, ← hz94]; exact phvhp100)) ((hO8.tr ohz93).tr ohvhp100) (hO) (by omega)
              · have rd9 := by1 rdh (by omega)
                refine lv_aload_n hx hb dX10_workOut_74 rfl (lv_at hl 2 rfl) ?_
                refine lv_aload_n hx hb dX10_workOut_75 rfl (lv_at hl 2 rfl) ?_
                refine lv_iload_n hx hb dX10_workOut_76 rfl (lv_at hl 3 rfl) ?_
                refine lv_aload_n hx hb dX10_workOut_77 rfl (lv_at hl 4 rfl) ?_
                refine lv_iload_n hx hb dX10_workOut_78 rfl (lv_at hl 1 rfl) ?_
                refine r_callV (As := [.int x, .ref g, .int v17]) (rest := [.ref (B + 24)]) C hw (t_X10_spanSumE l B D cA kd18 ig19 rg20 lg21 _ x g M (hM.nx hN) v17 (by omega) (by omega) (hwf.at (by omega) (by omega) rd9) (hft _ (stp_mem (L := M) (x := v17.toInt) (by omega) (by omega)) rd9) (by omega) hI) sv_X10_100 (hsh 24 _ rfl) rfl hl.1 rfl (Nat.le_of_ble_eq_true rfl) ⟨Nat.le_of_ble_eq_true rfl, Nat.le_of_ble_eq_true rfl⟩ ⟨Nat.le_of_ble_eq_true rfl, Nat.le_of_ble_eq_true rfl⟩ dX10_workOut_79 (fun r105 kd101 ig102 rg103 lg104 H locs hw hH hp106 => ?_)
                obtain ⟨hI, hchp106, hrhp106⟩ := hp106
                have hN := hN.tr hchp106
                have hsh := hI.sh
                have hrs := hI.rs
                obtain ⟨z107, rfl, hz107⟩ := hrhp106
                obtain ⟨phz107, ohz107, khz107_0, khz107_1⟩ := hz107
                have hO := hO.tr ohz107
                have ps9 := phz107
                rw [show ig19 (B + 25) = ig (B + 25) from funext fun j => hO8.i 25 j, show ig19 (B + 26) = ig (B + 26) from funext fun j => hO8.i 26 j] at ps9
                refine r_callV (As := [.int z107]) (rest := []) C hw (t_X10_pushE l B D cA kd101 ig102 rg103 lg104 _ z107 _ (sk9.ag (by omega) (fun j => ohz107.i 28 j)) (by have q9 := np9 (Or.inr rd9); rw [ln9]; exact q9) hI) sv_X10_93 (hsh 24 _ rfl) rfl hl.1 rfl (Nat.le_of_ble_eq_true rfl) ⟨Nat.le_of_ble_eq_true rfl, Nat.le_of_ble_eq_true rfl⟩ ⟨Nat.le_of_ble_eq_true rfl, Nat.le_of_ble_eq_true rfl⟩ dX10_workOut_82 (fun r112 kd108 ig109 rg110 lg111 H locs hw hH hp113 => ?_)
                obtain ⟨hI, hchp113, hrhp113⟩ := hp113
                have hN := hN.tr hchp113
                have hsh := hI.sh
                have hrs := hI.rs
                obtain ⟨rfl, hvhp113⟩ := hrhp113
                obtain ⟨phvhp113, ohvhp113, khvhp113_0, khvhp113_1⟩ := hvhp113
                have hO := hO.tr ohvhp113
                refine lv_goto (tgt := 118) hx hb dX10_workOut_85 (by decide) ?_
                exact J118 ls H locs kd108 ig109 rg110 lg111 (lv_sub hl [1, 2, 3, 4] rfl) hw hI hN (WkS.next (i := v17.toInt.toNat) (by omega) nR (by rw [es9, evS_r rd9, ev9]; exact (i32_inj (by omega)).trans ps9.1) (fun q9 => by rw [es9, evS_r rd9, ev9]; show SkV B (_ :: _) _; rw [← ps9.2 (i32_z (by omega))]; exact phvhp113)) ((hO8.tr ohz107).tr ohvhp113) (hO) (by omega)
            · refine lv_aload_n hx hb dX10_workOut_54 rfl (lv_at hl 2 rfl) ?_
              refine lv_aload_n hx hb dX10_workOut_55 rfl (lv_at hl 4 rfl) ?_
              refine lv_iload_n hx hb dX10_workOut_56 rfl (lv_at hl 1 rfl) ?_
              refine r_callV (As := [.int v17]) (rest := [.ref (B + 24)]) C hw (t_X4_constantAtE l B D cA kd18 ig19 rg20 lg21 _ g M (hM.nx hN) v17 (by omega) hI) sv_X10_90 (isFn.k (FnL.F (hM.nx hN))) rfl hl.1 rfl (Nat.le_of_ble_eq_true rfl) ⟨Nat.le_of_ble_eq_true rfl, Nat.le_of_ble_eq_true rfl⟩ ⟨Nat.le_of_ble_eq_true rfl, Nat.le_of_ble_eq_true rfl⟩ dX10_workOut_57 (fun r118 kd114 ig115 rg116 lg117 H locs hw hH hp119 => ?_)
              obtain ⟨rfl, rfl, rfl, rfl, hzhp119, hrhp119⟩ := hp119
              obtain ⟨z120, rfl, hz120⟩ := hrhp119
              refine r_callV (As := [.int z120]) (rest := []) C hw (t_X10_pushE l B D cA kd18 ig19 rg20 lg21 _ z120 _ sk9 (by have q9 := np9 (Or.inl (by omega)); rw [ln9]; exact q9) hI) sv_X10_93 (hsh 24 _ rfl) rfl hl.1 rfl (Nat.le_of_ble_eq_true rfl) ⟨Nat.le_of_ble_eq_true rfl, Nat.le_of_ble_eq_true rfl⟩ ⟨Nat.le_of_ble_eq_true rfl, Nat.le_of_ble_eq_true rfl⟩ dX10_workOut_60 (fun r125 kd121 ig122 rg123 lg124 H locs hw hH hp126 => ?_)
              obtain ⟨hI, hchp126, hrhp126⟩ := hp126
              have hN := hN.tr hchp126
              have hsh := hI.sh
              have hrs := hI.rs
              obtain ⟨rfl, hvhp126⟩ := hrhp126
              obtain ⟨phvhp126, ohvhp126, khvhp126_0, khvhp126_1⟩ := hvhp126
              have hO := hO.tr ohvhp126
              refine lv_goto (tgt := 118) hx hb dX10_workOut_63 (by decide) ?_
              exact J118 ls H locs kd121 ig122 rg123 lg124 (lv_sub hl [1, 2, 3, 4] rfl) hw hI hN (WkS.next (i := v17.toInt.toNat) (by omega) nR (by rw [es9, evS_0 (by omega), ev9]; exact i32_z (by omega)) (fun _ => by rw [es9, evS_0 (by omega), ← i32_of hz120]; exact phvhp126)) (hO8.tr ohvhp126) (hO) (by omega)
    exact L27 (((M.length : Int) - z16.toInt) + 1).toNat ls H locs kd9 ig15 rg11 lg12 z16 (lv_sub hl [0, 1, 2, 3] rfl) hw hI hN (by omega) (by omega) (by rw [show z16.toInt.toNat = 0 by omega]; exact wk0) ((by rw [eig15, eig13]; exact (g17_1.pi (by decide)).pi (by decide))) (hO) (by omega) (by omega)
  refine z_eq (tgt := 16) hx hb dX10_workOut_9 (by decide) (fun c9 => ?_) (fun c9 => ?_)
  · refine lv_iconst (v := 0) hx hb dX10_workOut_16 (by decide) (ti_c 0 (by decide) fun z127 hz127 => ?_)
    exact J17 ls H locs kd ig rg lg z127 (lv_sub hl [0, 1, 2] rfl) hw hI hN (Or.inr ⟨by omega, by0 rh9 (by omega)⟩) (Fo.rf) (hO) (by omega)
  · refine lv_iconst (v := 2) hx hb dX10_workOut_12 (by decide) (ti_c 2 (by decide) fun z128 hz128 => ?_)
    refine lv_goto (tgt := 17) hx hb dX10_workOut_13 (by decide) ?_
    exact J17 ls H locs kd ig rg lg z128 (lv_sub hl [0, 1, 2] rfl) hw hI hN (Or.inl ⟨by omega, by1 rh9 (by omega)⟩) (Fo.rf) (hO) (by omega)

set_option maxHeartbeats 4000000 in
set_option maxRecDepth 100000 in
theorem t_X10_settleE {κ : Int} {τ : Tp} (l : Launch) (B : Nat) (D : va_G) (cA : Nat → ClassId) (kd : sK) (ig : sI) (rg : sR) (lg : sG) (sz : Nat) (σ : Sg) (π : Ps) (ν : Nat) (hS : SCh B σ π ν kd ig rg) (hLv : LV κ B σ ν ig lg) (hVv : VV B σ ν ig) (hW : WS σ π) (hHt : HtS σ) (hI : IC τ B kd ig rg) : MC l B D cA yX10_settle cX10_settle 4 none (rL 6 0 0) [.ref (B + 24)] kd ig rg lg sz (PI 998 τ B none kd ig rg lg (fun r kd' ig' rg' lg' => (r = none ∧ ((VOk σ (ig' (B + 25)) (ig' (B + 26)) ∧ (ig' (B + 24) 8).toInt = (ν : Int) ∧ LV κ B σ ν ig' lg') ∧ Fo B [15, 16, 17, 18, 19, 20, 21, 22, 23, 24, 25, 26, 27, 28] ig lg ig' lg')))) := by
  refine MC.of (own := RX10) (by decide +kernel) rfl (Nat.le_of_ble_eq_true rfl) ?_
  intro p e s m args below meth c ls C hr hlk hnm hw hsz hl
  have hx := C.1.1
  have hb := C.1.2.1
  have hown := C.1.2.2.2.1
  have hts := C.1.2.2.2.2
  have hl : lv_has ls 4 [(0, .ref (B + 24))] := hl
  have hN : Nx 998 B none kd ig rg lg kd ig rg lg := Nx.rf
  have hsh := hI.sh
  have hrs := hI.rs
  have hO : Fo B [15, 16, 17, 18, 19, 20, 21, 22, 23, 24, 25, 26, 27, 28] ig lg ig lg := Fo.rf
  have hv9 := hS.v
  refine lv_aload_n hx hb dX10_settle_0 rfl (lv_at hl 0 rfl) ?_
  refine r_get C hw (hsh 24 _ rfl) fl_X10_32 (oV_i rfl) dX10_settle_1 (ti_c (ig (B + 24) 8).toInt rfl fun z1 hz1 => ?_)
  refine lv_aload_n hx hb dX10_settle_4 rfl (lv_at hl 0 rfl) ?_
  refine r_get C hw (hsh 24 _ rfl) fl_X10_9 (oV_r rfl (hrs (24, 0, 9) (by decide))) dX10_settle_5 ?_
  refine r_get C hw (hsh 9 _ rfl) fl_X10_36 (oV_i rfl) dX10_settle_8 (ti_c (ig (B + 9) 6).toInt rfl fun z2 hz2 => ?_)
  refine b_ne (tgt := 15) hx hb dX10_settle_11 (by decide) (fun c11 => ?_) (fun c11 => ?_)
  · refine lv_aload_n hx hb dX10_settle_15 rfl (lv_at hl 0 rfl) ?_
    refine lv_aload_n hx hb dX10_settle_16 rfl (lv_at hl 0 rfl) ?_
    refine r_get C hw (hsh 24 _ rfl) fl_X10_9 (oV_r rfl (hrs (24, 0, 9) (by decide))) dX10_settle_17 ?_
    refine r_get C hw (hsh 9 _ rfl) fl_X10_36 (oV_i rfl) dX10_settle_20 (ti_c (ig (B + 9) 6).toInt rfl fun z3 hz3 => ?_)
    refine r_puti C hw (hsh 24 _ rfl) fl_X10_32 rfl rfl rfl dX10_settle_23 (fun H locs hH hw => ?_)
    have hO0 := hO
    obtain ⟨ig4, eig4⟩ : ∃ f, f = up2 ig (B + 24) 8 z3 := ⟨_, rfl⟩
    rw [← eig4] at hw
    have hN : Nx 998 B none kd ig rg lg kd ig4 rg lg := by rw [eig4]; exact hN.pi (by omega)
    have hI : IC τ B kd ig4 rg := by rw [eig4]; exact hI.pi (show okR none _ from trivial)
    have wig4 : (ig4 (B + 24) 8).toInt = z3.toInt := by rw [eig4, up2_eq]
    have wig4_9_6 : (ig4 (B + 9) 6).toInt = (ig (B + 9) 6).toInt := by rw [eig4, up2_a (by omega)]
    have hO : Fo B [15, 16, 17, 18, 19, 20, 21, 22, 23, 24, 25, 26, 27, 28] ig lg ig4 lg := by rw [eig4]; exact hO0.pi (by decide)
    clear hO0
    refine lv_aload_n hx hb dX10_settle_26 rfl (lv_at hl 0 rfl) ?_
    refine r_get C hw (hsh 24 _ rfl) fl_X10_15 (oV_r rfl (hrs (24, 1, 15) (by decide))) dX10_settle_27 ?_
    refine r_callV (As := []) (rest := []) C hw (t_X5_settleE l B D cA kd ig4 rg lg _  σ π ν (hS.nx hN) (by rw [eig4]; exact hLv.w (by decide)) hW hI) sv_X10_39 (hsh 15 _ rfl) rfl hl.1 rfl (Nat.le_of_ble_eq_true rfl) ⟨Nat.le_of_ble_eq_true rfl, Nat.le_of_ble_eq_true rfl⟩ ⟨Nat.le_of_ble_eq_true rfl, Nat.le_of_ble_eq_true rfl⟩ dX10_settle_30 (fun r9 kd5 ig6 rg7 lg8 H locs hw hH hp10 => ?_)
    obtain ⟨hI, hchp10, hrhp10⟩ := hp10
    have hN := hN.tr hchp10
    have hsh := hI.sh
    have hrs := hI.rs
    obtain ⟨rfl, hvhp10⟩ := hrhp10
    obtain ⟨phvhp10, ohvhp10⟩ := hvhp10
    have hO := hO.tr ohvhp10
    have kwhvhp10_24_8 : (ig6 (B + 24) 8).toInt = (ig4 (B + 24) 8).toInt := by rw [ohvhp10.i 24 8]
    have kwhvhp10_9_6 : (ig6 (B + 9) 6).toInt = (ig4 (B + 9) 6).toInt := by rw [ohvhp10.i 9 6]
    refine lv_iconst (v := 0) hx hb dX10_settle_33 (by decide) (ti_c 0 (by decide) fun z11 hz11 => ?_)
    refine lv_istore_n (lv' := [(1, .int z11), (0, .ref (B + 24))]) hx hb dX10_settle_34 rfl hl (by decide) rfl (fun ls hl => ?_)
    have L35 : ∀ (n : Nat) (ls : Array Slot) (H : Heap) (locs : List Loc) (kd13 : sK) (ig14 : sI) (rg15 : sR) (lg16 : sG) (v12 : Int32), lv_has ls 4 [(1, .int v12), (0, .ref (B + 24))] → WD B D cA s.heap kd13 ig14 rg15 lg16 H locs → IC τ B kd13 ig14 rg15 → Nx 998 B none kd ig rg lg kd13 ig14 rg15 lg16 → (0 ≤ v12.toInt) → (v12.toInt ≤ 288) → (LkQ B σ ν ig14 lg16) → ((ig14 (B + 24) 8).toInt = (ν : Int)) → (∀ p, p < v12.toInt.toNat → ig14 (B + 25) p = Int32.ofInt (σ p).1.2 ∧ ig14 (B + 26) p = 0) → (Fo B [15, 16, 17, 18, 19, 20, 21, 22, 23, 24, 25, 26, 27, 28] ig lg ig14 lg16) → 288 - v12.toInt < (n : Int) → W p l e (rL 6 0 0) s m args below meth c H locs 0 0 (MQ below (QcW B D cA (PI 998 τ B none kd ig rg lg (fun r kd' ig' rg' lg' => (r = none ∧ ((VOk σ (ig' (B + 25)) (ig' (B + 26)) ∧ (ig' (B + 24) 8).toInt = (ν : Int) ∧ LV κ B σ ν ig' lg') ∧ Fo B [15, 16, 17, 18, 19, 20, 21, 22, 23, 24, 25, 26, 27, 28] ig lg ig' lg'))))) args s 0 0 (fun q => B ≤ q)) (F0 m 35 ls []) := by
      intro n35
      induction n35 with
      | zero => intro ls H locs kd13 ig14 rg15 lg16 v12 hl hw hI hN g35_0 g35_1 g35_2 g35_3 g35_4 g35_5 hmu; exact absurd hmu (by omega)
      | succ n35 ih35 =>
        intro ls H locs kd13 ig14 rg15 lg16 v12 hl hw hI hN g35_0 g35_1 g35_2 g35_3 g35_4 g35_5 hmu
        have hsh := hI.sh
        have hrs := hI.rs
        have hO := g35_5
        refine lv_iload_n hx hb dX10_settle_35 rfl (lv_at hl 0 rfl) ?_
        refine lv_sipush (v := 288) hx hb dX10_settle_36 (by decide) (ti_c 288 (by decide) fun z17 hz17 => ?_)
        refine b_ge (tgt := 72) hx hb dX10_settle_39 (by decide) (fun c39 => ?_) (fun c39 => ?_)
        · refine lv_iconst (v := 0) hx hb dX10_settle_72 (by decide) (ti_c 0 (by decide) fun z18 hz18 => ?_)
          refine lv_istore_n (lv' := [(1, .int z18), (0, .ref (B + 24))]) hx hb dX10_settle_73 rfl hl (by decide) rfl (fun ls hl => ?_)
          have L74 : ∀ (n : Nat) (ls : Array Slot) (H : Heap) (locs : List Loc) (kd20 : sK) (ig21 : sI) (rg22 : sR) (lg23 : sG) (v19 : Int32), lv_has ls 4 [(1, .int v19), (0, .ref (B + 24))] → WD B D cA s.heap kd20 ig21 rg22 lg23 H locs → IC τ B kd20 ig21 rg22 → Nx 998 B none kd ig rg lg kd20 ig21 rg22 lg23 → (0 ≤ v19.toInt) → (v19.toInt ≤ 288) → (LkQ B σ ν ig21 lg23) → ((ig21 (B + 24) 8).toInt = (ν : Int)) → (VOI σ (oD B ig21) v19.toInt.toNat (ig21 (B + 25)) (ig21 (B + 26))) → (v19.toInt ≤ (ig21 (B + 15) 9).toInt) → (Fo B [15, 16, 17, 18, 19, 20, 21, 22, 23, 24, 25, 26, 27, 28] ig lg ig21 lg23) → 288 - v19.toInt < (n : Int) → W p l e (rL 6 0 0) s m args below meth c H locs 0 0 (MQ below (QcW B D cA (PI 998 τ B none kd ig rg lg (fun r kd' ig' rg' lg' => (r = none ∧ ((VOk σ (ig' (B + 25)) (ig' (B + 26)) ∧ (ig' (B + 24) 8).toInt = (ν : Int) ∧ LV κ B σ ν ig' lg') ∧ Fo B [15, 16, 17, 18, 19, 20, 21, 22, 23, 24, 25, 26, 27, 28] ig lg ig' lg'))))) args s 0 0 (fun q => B ≤ q)) (F0 m 74 ls []) := by
            intro n74
            induction n74 with
            | zero => intro ls H locs kd20 ig21 rg22 lg23 v19 hl hw hI hN g74_0 g74_1 g74_2 g74_3 g74_4 g74_5 g74_6 hmu; exact absurd hmu (by omega)
            | succ n74 ih74 =>
              intro ls H locs kd20 ig21 rg22 lg23 v19 hl hw hI hN g74_0 g74_1 g74_2 g74_3 g74_4 g74_5 g74_6 hmu
              have hsh := hI.sh
              have hrs := hI.rs
              have hO := g74_6
              have k915 : 0 ≤ (ig21 (B + 15) 9).toInt ∧ (ig21 (B + 15) 9).toInt ≤ 288 := hI.i 15 9 (by decide)
              refine lv_iload_n hx hb dX10_settle_74 rfl (lv_at hl 0 rfl) ?_
              refine lv_aload_n hx hb dX10_settle_75 rfl (lv_at hl 1 rfl) ?_
              refine r_get C hw (hsh 24 _ rfl) fl_X10_15 (oV_r rfl (hrs (24, 1, 15) (by decide))) dX10_settle_76 ?_
              refine r_callV (As := []) (rest := [.int v19]) C hw (t_X5_orderSizeE l B D cA kd20 ig21 rg22 lg23 _   hI) sv_X10_53 (hsh 15 _ rfl) rfl hl.1 rfl (Nat.le_of_ble_eq_true rfl) ⟨Nat.le_of_ble_eq_true rfl, Nat.le_of_ble_eq_true rfl⟩ ⟨Nat.le_of_ble_eq_true rfl, Nat.le_of_ble_eq_true rfl⟩ dX10_settle_79 (fun r28 kd24 ig25 rg26 lg27 H locs hw hH hp29 => ?_)
              obtain ⟨rfl, rfl, rfl, rfl, hzhp29, hrhp29⟩ := hp29
              obtain ⟨z30, rfl, hz30⟩ := hrhp29
              refine b_ge (tgt := 126) hx hb dX10_settle_82 (by decide) (fun c82 => ?_) (fun c82 => ?_)
              · exact r_vret C hw hr hlk (Nat.le_of_ble_eq_true rfl) (Nat.le_of_ble_eq_true rfl) dX10_settle_126 ⟨hI, hN, ⟨rfl, ⟨⟨VOI.fin (n := oN B ig21) (by rw [← show v19.toInt.toNat = oN B ig21 by unfold oN; omega]; exact g74_4) g74_2.1.2.2, by omega, (g74_2.lv hLv.le)⟩, hO⟩⟩⟩
              · refine lv_aload_n hx hb dX10_settle_85 rfl (lv_at hl 1 rfl) ?_
                refine r_get C hw (hsh 24 _ rfl) fl_X10_15 (oV_r rfl (hrs (24, 1, 15) (by decide))) dX10_settle_86 ?_
                refine lv_iload_n hx hb dX10_settle_89 rfl (lv_at hl 0 rfl) ?_
                refine r_callV (As := [.int v19]) (rest := []) C hw (t_X5_inOrderE l B D cA kd20 ig21 rg22 lg23 _ v19 (by omega) hI) sv_X10_57 (hsh 15 _ rfl) rfl hl.1 rfl (Nat.le_of_ble_eq_true rfl) ⟨Nat.le_of_ble_eq_true rfl, Nat.le_of_ble_eq_true rfl⟩ ⟨Nat.le_of_ble_eq_true rfl, Nat.le_of_ble_eq_true rfl⟩ dX10_settle_90 (fun r35 kd31 ig32 rg33 lg34 H locs hw hH hp36 => ?_)
                obtain ⟨rfl, rfl, rfl, rfl, hzhp36, hrhp36⟩ := hp36
                obtain ⟨z37, rfl, hz37⟩ := hrhp36
                have hfo9 := g74_2.1.2.2.1 v19.toInt.toNat (by unfold oN; omega)
                have hov := oD_v hfo9.1
                have ho9 := hfo9.1
                have hod : oD B ig21 v19.toInt.toNat = z37.toInt.toNat := by omega
                have hon9 : 0 ≤ z37.toInt ∧ z37.toInt < 288 := by omega
                have hk2 : kdO (atC σ z37.toInt) = 2 := by rw [atC_on hon9, ← hod]; exact hfo9.2
                refine lv_istore_n (lv' := [(2, .int z37), (1, .int v19), (0, .ref (B + 24))]) hx hb dX10_settle_93 rfl hl (by decide) rfl (fun ls hl => ?_)
                refine lv_aload_n hx hb dX10_settle_94 rfl (lv_at hl 2 rfl) ?_
                refine r_get C hw (hsh 24 _ rfl) fl_X10_9 (oV_r rfl (hrs (24, 0, 9) (by decide))) dX10_settle_95 ?_
                refine lv_iload_n hx hb dX10_settle_98 rfl (lv_at hl 0 rfl) ?_
                refine r_callV (As := [.int z37]) (rest := []) C hw (t_X6_formulaAtE l B D cA kd20 ig21 rg22 lg23 _ z37 σ π ν (hS.nx hN) hI) sv_X10_61 (hsh 9 _ rfl) rfl hl.1 rfl (Nat.le_of_ble_eq_true rfl) ⟨Nat.le_of_ble_eq_true rfl, Nat.le_of_ble_eq_true rfl⟩ ⟨Nat.le_of_ble_eq_true rfl, Nat.le_of_ble_eq_true rfl⟩ dX10_settle_99 (fun r42 kd38 ig39 rg40 lg41 H locs hw hH hp43 => ?_)
                obtain ⟨rfl, rfl, rfl, rfl, hzhp43, hrhp43⟩ := hp43
                rcases hrhp43 with ⟨rfl, nkf44⟩ | ⟨f44, rfl, nkf44, hLf44⟩
                · refine lv_astore_nN (lv' := [(3, .null), (2, .int z37), (1, .int v19), (0, .ref (B + 24))]) hx hb dX10_settle_102 rfl hl (by decide) rfl (fun ls hl => ?_)
                  refine lv_iload_n hx hb dX10_settle_103 rfl (lv_at hl 1 rfl) ?_
                  refine r_callN (As := [.int z37]) (rest := []) C hw (t_X11_onSheet l B D cA kd20 ig21 rg22 lg23 _ z37  hI) sn_X10_65 rfl hl.1 rfl (Nat.le_of_ble_eq_true rfl) ⟨Nat.le_of_ble_eq_true rfl, Nat.le_of_ble_eq_true rfl⟩ ⟨Nat.le_of_ble_eq_true rfl, Nat.le_of_ble_eq_true rfl⟩ dX10_settle_104 (fun r49 kd45 ig46 rg47 lg48 H locs hw hH hp50 => ?_)
                  obtain ⟨rfl, rfl, rfl, rfl, hzhp50, hrhp50⟩ := hp50
                  obtain ⟨z51, rfl, hz51⟩ := hrhp50
                  refine z_eq (tgt := 120) hx hb dX10_settle_107 (by decide) (fun c107 => ?_) (fun c107 => ?_)
                  · exact absurd c107 (by omega)
                  · refine lv_aload_nN hx hb dX10_settle_110 rfl (lv_at hl 0 rfl) ?_
                    have J120 : ∀ (ls : Array Slot) (H : Heap) (locs : List Loc) (kd52 : sK) (ig53 : sI) (rg54 : sR) (lg55 : sG) , lv_has ls 4 [(1, .int v19), (0, .ref (B + 24))] → WD B D cA s.heap kd52 ig53 rg54 lg55 H locs → IC τ B kd52 ig53 rg54 → Nx 998 B none kd ig rg lg kd52 ig53 rg54 lg55 → (LkQ B σ ν ig53 lg55) → (VOI σ (oD B ig53) (v19.toInt.toNat + 1) (ig53 (B + 25)) (ig53 (B + 26))) → ((ig53 (B + 24) 8).toInt = (ν : Int)) → (v19.toInt + 1 ≤ (ig53 (B + 15) 9).toInt) → (Fo B [15, 16, 17, 18, 19, 20, 21, 22, 23, 24, 25, 26, 27, 28] ig lg ig53 lg55) → W p l e (rL 6 0 0) s m args below meth c H locs 0 0 (MQ below (QcW B D cA (PI 998 τ B none kd ig rg lg (fun r kd' ig' rg' lg' => (r = none ∧ ((VOk σ (ig' (B + 25)) (ig' (B + 26)) ∧ (ig' (B + 24) 8).toInt = (ν : Int) ∧ LV κ B σ ν ig' lg') ∧ Fo B [15, 16, 17, 18, 19, 20, 21, 22, 23, 24, 25, 26, 27, 28] ig lg ig' lg'))))) args s 0 0 (fun q => B ≤ q)) (F0 m 120 ls []) := by
                      intro ls H locs kd52 ig53 rg54 lg55 hl hw hI hN g120_0 g120_1 g120_2 g120_3 g120_4
                      have hsh := hI.sh
                      have hrs := hI.rs
                      have hO := g120_4
                      refine tc_inc hx hb dX10_settle_120 hl (k := 0) rfl (by decide) (by decide) (fun z56 hz56 ls hl => ?_)
                      first | replace hz56 := hz56 (by omega) | clear hz56
                      have hl : lv_has ls 4 [(1, .int z56), (0, .ref (B + 24))] := hl
                      refine lv_goto (tgt := 74) hx hb dX10_settle_123 (by decide) ?_
                      exact ih74 ls H locs kd52 ig53 rg54 lg55 z56 (lv_sub hl [0, 1] rfl) hw hI hN (by omega) (by omega) (g120_0) (by omega) (by rw [show z56.toInt.toNat = v19.toInt.toNat + 1 by omega]; exact g120_1) (by omega) (hO) (by omega)
                    refine lv_ifnullN (tgt := 120) hx hb dX10_settle_111 (by decide) ?_
                    exact J120 ls H locs kd20 ig21 rg22 lg23 (lv_sub hl [2, 3] rfl) hw hI hN ((nkf44 hk2).elim) ((nkf44 hk2).elim) ((nkf44 hk2).elim) ((nkf44 hk2).elim) (hO)
                · have lf44 := hLf44.le
                  refine lv_astore_n (lv' := [(3, .ref f44), (2, .int z37), (1, .int v19), (0, .ref (B + 24))]) hx hb dX10_settle_102 rfl hl (by decide) rfl (fun ls hl => ?_)
                  refine lv_iload_n hx hb dX10_settle_103 rfl (lv_at hl 1 rfl) ?_
                  refine r_callN (As := [.int z37]) (rest := []) C hw (t_X11_onSheet l B D cA kd20 ig21 rg22 lg23 _ z37  hI) sn_X10_65 rfl hl.1 rfl (Nat.le_of_ble_eq_true rfl) ⟨Nat.le_of_ble_eq_true rfl, Nat.le_of_ble_eq_true rfl⟩ ⟨Nat.le_of_ble_eq_true rfl, Nat.le_of_ble_eq_true rfl⟩ dX10_settle_104 (fun r61 kd57 ig58 rg59 lg60 H locs hw hH hp62 => ?_)
                  obtain ⟨rfl, rfl, rfl, rfl, hzhp62, hrhp62⟩ := hp62
                  obtain ⟨z63, rfl, hz63⟩ := hrhp62
                  refine z_eq (tgt := 120) hx hb dX10_settle_107 (by decide) (fun c107 => ?_) (fun c107 => ?_)
                  · exact absurd c107 (by omega)
                  · refine lv_aload_n hx hb dX10_settle_110 rfl (lv_at hl 0 rfl) ?_
                    have J120 : ∀ (ls : Array Slot) (H : Heap) (locs : List Loc) (kd64 : sK) (ig65 : sI) (rg66 : sR) (lg67 : sG) , lv_has ls 4 [(1, .int v19), (0, .ref (B + 24))] → WD B D cA s.heap kd64 ig65 rg66 lg67 H locs → IC τ B kd64 ig65 rg66 → Nx 998 B none kd ig rg lg kd64 ig65 rg66 lg67 → (LkQ B σ ν ig65 lg67) → (VOI σ (oD B ig65) (v19.toInt.toNat + 1) (ig65 (B + 25)) (ig65 (B + 26))) → ((ig65 (B + 24) 8).toInt = (ν : Int)) → (v19.toInt + 1 ≤ (ig65 (B + 15) 9).toInt) → (Fo B [15, 16, 17, 18, 19, 20, 21, 22, 23, 24, 25, 26, 27, 28] ig lg ig65 lg67) → W p l e (rL 6 0 0) s m args below meth c H locs 0 0 (MQ below (QcW B D cA (PI 998 τ B none kd ig rg lg (fun r kd' ig' rg' lg' => (r = none ∧ ((VOk σ (ig' (B + 25)) (ig' (B + 26)) ∧ (ig' (B + 24) 8).toInt = (ν : Int) ∧ LV κ B σ ν ig' lg') ∧ Fo B [15, 16, 17, 18, 19, 20, 21, 22, 23, 24, 25, 26, 27, 28] ig lg ig' lg'))))) args s 0 0 (fun q => B ≤ q)) (F0 m 120 ls []) := by
                      intro ls H locs kd64 ig65 rg66 lg67 hl hw hI hN g120_0 g120_1 g120_2 g120_3 g120_4
                      have hsh := hI.sh
                      have hrs := hI.rs
                      have hO := g120_4
                      refine tc_inc hx hb dX10_settle_120 hl (k := 0) rfl (by decide) (by decide) (fun z68 hz68 ls hl => ?_)
                      first | replace hz68 := hz68 (by omega) | clear hz68
                      have hl : lv_has ls 4 [(1, .int z68), (0, .ref (B + 24))] := hl
                      refine lv_goto (tgt := 74) hx hb dX10_settle_123 (by decide) ?_
                      exact ih74 ls H locs kd64 ig65 rg66 lg67 z68 (lv_sub hl [0, 1] rfl) hw hI hN (by omega) (by omega) (g120_0) (by omega) (by rw [show z68.toInt.toNat = v19.toInt.toNat + 1 by omega]; exact g120_1) (by omega) (hO) (by omega)
                    refine lv_ifnull hx hb dX10_settle_111 ?_
                    refine lv_aload_n hx hb dX10_settle_114 rfl (lv_at hl 3 rfl) ?_
                    refine lv_iload_n hx hb dX10_settle_115 rfl (lv_at hl 1 rfl) ?_
                    refine lv_aload_n hx hb dX10_settle_116 rfl (lv_at hl 0 rfl) ?_
                    refine r_callV (As := [.int z37, .ref f44]) (rest := []) C hw (t_X10_workOutE l B D cA kd20 ig21 rg22 lg23 _ z37 f44 (fmO (atC σ z37.toInt)) hLf44 σ g74_2.1.2.1 hon9 (by rw [atC_on hon9]) (hW.wf hk2).1 (hW.wf hk2).2 (by rw [atC_on hon9]; exact hHt _ (by omega) (by rw [← atC_on (σ := σ) hon9]; exact hk2)) hI) sv_X10_69 (hsh 24 _ rfl) rfl hl.1 rfl (Nat.le_of_ble_eq_true rfl) ⟨Nat.le_of_ble_eq_true rfl, Nat.le_of_ble_eq_true rfl⟩ ⟨Nat.le_of_ble_eq_true rfl, Nat.le_of_ble_eq_true rfl⟩ dX10_settle_117 (fun r73 kd69 ig70 rg71 lg72 H locs hw hH hp74 => ?_)
                    obtain ⟨hI, hchp74, hrhp74⟩ := hp74
                    have hN := hN.tr hchp74
                    have hsh := hI.sh
                    have hrs := hI.rs
                    obtain ⟨rfl, hvhp74⟩ := hrhp74
                    obtain ⟨phvhp74, ohvhp74, khvhp74_0⟩ := hvhp74
                    have hO := hO.tr ohvhp74
                    have kwhvhp74_9_6 : (ig70 (B + 9) 6).toInt = (ig21 (B + 9) 6).toInt := by rw [ohvhp74.i 9 6]
                    exact J120 ls H locs kd69 ig70 rg71 lg72 (lv_sub hl [2, 3] rfl) hw hI hN (g74_2.fo ohvhp74) ((by have q9 := VOI.step g74_4 g74_2.1.2.2 hW (by unfold oN; omega) (by rw [hod]; exact phvhp74); rw [LkQ.od ohvhp74]; exact q9)) ((by omega)) ((by rw [ohvhp74.i 15 _]; omega)) (hO)
          exact L74 ((288 - z18.toInt) + 1).toNat ls H locs kd13 ig14 rg15 lg16 z18 (lv_sub hl [0, 1] rfl) hw hI hN (by omega) (by omega) (g35_2) (by omega) (⟨fun p hp _ => g35_4 p (by omega), fun j hj => by omega⟩) ((by have q9 : 0 ≤ (ig14 (B + 15) 9).toInt ∧ (ig14 (B + 15) 9).toInt ≤ 288 := hI.i 15 9 (by decide); omega)) (hO) (by omega)
        · refine lv_aload_n hx hb dX10_settle_42 rfl (lv_at hl 1 rfl) ?_
          refine r_get C hw (hsh 24 _ rfl) fl_X10_19 (oV_r rfl (hrs (24, 2, 25) (by decide))) dX10_settle_43 ?_
          refine lv_iload_n hx hb dX10_settle_46 rfl (lv_at hl 0 rfl) ?_
          refine lv_aload_n hx hb dX10_settle_47 rfl (lv_at hl 1 rfl) ?_
          refine r_get C hw (hsh 24 _ rfl) fl_X10_9 (oV_r rfl (hrs (24, 0, 9) (by decide))) dX10_settle_48 ?_
          refine lv_iload_n hx hb dX10_settle_51 rfl (lv_at hl 0 rfl) ?_
          refine r_callV (As := [.int v12]) (rest := [.int v12, .ref (B + 25)]) C hw (t_X6_atE l B D cA kd13 ig14 rg15 lg16 _ v12 σ π ν (hS.nx hN) hI) sv_X10_44 (hsh 9 _ rfl) rfl hl.1 rfl (Nat.le_of_ble_eq_true rfl) ⟨Nat.le_of_ble_eq_true rfl, Nat.le_of_ble_eq_true rfl⟩ ⟨Nat.le_of_ble_eq_true rfl, Nat.le_of_ble_eq_true rfl⟩ dX10_settle_52 (fun r79 kd75 ig76 rg77 lg78 H locs hw hH hp80 => ?_)
          obtain ⟨rfl, rfl, rfl, rfl, hzhp80, hrhp80⟩ := hp80
          obtain ⟨q81, rfl, hcq81⟩ := hrhp80
          obtain ⟨nq81, kq81⟩ := hcq81.kq
          refine r_get C hw kq81 fl_X10_48 (oV_i rfl) dX10_settle_55 (ti_c (ig14 q81 1).toInt rfl fun z82 hz82 => ?_)
          have hfz82 : z82.toInt = (atC σ v12.toInt).1.2 := hz82.trans hcq81.2.2.1.2.1
          refine r_iast C hw (hsh 25 _ rfl) (by omega) (by omega) dX10_settle_58 (fun H locs hH hw => ?_)
          have hO0 := hO
          obtain ⟨ig83, eig83⟩ : ∃ f, f = up2 ig14 (B + 25) v12.toInt.toNat z82 := ⟨_, rfl⟩
          rw [← eig83] at hw
          have hN : Nx 998 B none kd ig rg lg kd13 ig83 rg15 lg16 := by rw [eig83]; exact hN.pi (by omega)
          have hI : IC τ B kd13 ig83 rg15 := by rw [eig83]; exact hI.pi (show okR none _ from trivial)
          have wig83_24_8 : (ig83 (B + 24) 8).toInt = (ig14 (B + 24) 8).toInt := by rw [eig83, up2_a (by omega)]
          have wig83_9_6 : (ig83 (B + 9) 6).toInt = (ig14 (B + 9) 6).toInt := by rw [eig83, up2_a (by omega)]
          have hO : Fo B [15, 16, 17, 18, 19, 20, 21, 22, 23, 24, 25, 26, 27, 28] ig lg ig83 lg16 := by rw [eig83]; exact hO0.pi (by decide)
          clear hO0
          have lq58 : LkQ B σ ν ig83 lg16 := by rw [eig83]; exact g35_2.w (by decide)
          refine lv_aload_n hx hb dX10_settle_59 rfl (lv_at hl 1 rfl) ?_
          refine r_get C hw (hsh 24 _ rfl) fl_X10_23 (oV_r rfl (hrs (24, 3, 26) (by decide))) dX10_settle_60 ?_
          refine lv_iload_n hx hb dX10_settle_63 rfl (lv_at hl 0 rfl) ?_
          refine lv_iconst (v := 0) hx hb dX10_settle_64 (by decide) (ti_c 0 (by decide) fun z84 hz84 => ?_)
          refine r_iast C hw (hsh 26 _ rfl) (by omega) (by omega) dX10_settle_65 (fun H locs hH hw => ?_)
          have hO0 := hO
          obtain ⟨ig85, eig85⟩ : ∃ f, f = up2 ig83 (B + 26) v12.toInt.toNat z84 := ⟨_, rfl⟩
          rw [← eig85] at hw
          have hN : Nx 998 B none kd ig rg lg kd13 ig85 rg15 lg16 := by rw [eig85]; exact hN.pi (by omega)
          have hI : IC τ B kd13 ig85 rg15 := by rw [eig85]; exact hI.pi (show okR none _ from trivial)
          have wig85_24_8 : (ig85 (B + 24) 8).toInt = (ig83 (B + 24) 8).toInt := by rw [eig85, up2_a (by omega)]
          have wig85_9_6 : (ig85 (B + 9) 6).toInt = (ig83 (B + 9) 6).toInt := by rw [eig85, up2_a (by omega)]
          have hO : Fo B [15, 16, 17, 18, 19, 20, 21, 22, 23, 24, 25, 26, 27, 28] ig lg ig85 lg16 := by rw [eig85]; exact hO0.pi (by decide)
          clear hO0
          have lq65 : LkQ B σ ν ig85 lg16 := by rw [eig85]; exact lq58.w (by decide)
          have nb65 : ∀ p, p < v12.toInt.toNat + 1 → ig85 (B + 25) p = Int32.ofInt (σ p).1.2 ∧ ig85 (B + 26) p = 0 := fun p hp => by rw [eig85, up2_a (by omega), eig83]; by_cases c : p = v12.toInt.toNat; (subst c; rw [up2_eq, up2_eq]; exact ⟨(i32_of hfz82).trans (by rw [atC_on (by omega)]), i32_z (by omega)⟩); (rw [up2_j c, up2_j c, up2_a (by omega)]; exact g35_4 p (by omega))
          refine tc_inc hx hb dX10_settle_66 hl (k := 0) rfl (by decide) (by decide) (fun z86 hz86 ls hl => ?_)
          first | replace hz86 := hz86 (by omega) | clear hz86
          have hl : lv_has ls 4 [(1, .int z86), (0, .ref (B + 24))] := hl
          refine lv_goto (tgt := 35) hx hb dX10_settle_69 (by decide) ?_
          exact ih35 ls H locs kd13 ig85 rg15 lg16 z86 (lv_sub hl [0, 1] rfl) hw hI hN (by omega) (by omega) (lq65) (by omega) (by rw [show z86.toInt.toNat = v12.toInt.toNat + 1 by omega]; exact nb65) (hO) (by omega)
    exact L35 ((288 - z11.toInt) + 1).toNat ls H locs kd5 ig6 rg7 lg8 z11 (lv_sub hl [0, 1] rfl) hw hI hN (by omega) (by omega) (phvhp10) (by rw [ohvhp10.i 24 _]; omega) (fun p hp => by omega) (hO) (by omega)
  · exact r_vret C hw hr hlk (Nat.le_of_ble_eq_true rfl) (Nat.le_of_ble_eq_true rfl) dX10_settle_14 ⟨hI, hN, ⟨rfl, ⟨⟨hVv.2 (by omega), by omega, hLv⟩, hO⟩⟩⟩
