set_option maxHeartbeats 4000000 in
set_option maxRecDepth 100000 in
theorem t_X1_rememberE {τ : Tp} (l : Launch) (B : Nat) (D : va_G) (cA : Nat → ClassId) (kd : sK) (ig : sI) (rg : sR) (lg : sG) (sz : Nat)  (hI : IC τ B kd ig rg) : MC l B D cA yX1_remember cX1_remember 2 none (rL 2 0 0) [.ref (B + 45)] kd ig rg lg sz (PI 766 τ B none kd ig rg lg (fun r kd' ig' rg' lg' => (r = none ∧ (ReM B (ig (B + 25)) (ig (B + 26)) ig' ∧ Fo B [46, 47] ig lg ig' lg')))) := by
  refine MC.of (own := RX1) (by decide +kernel) rfl (Nat.le_of_ble_eq_true rfl) ?_
  intro p e s m args below meth c ls C hr hlk hnm hw hsz hl
  have hx := C.1.1
  have hb := C.1.2.1
  have hown := C.1.2.2.2.1
  have hts := C.1.2.2.2.2
  have hl : lv_has ls 2 [(0, .ref (B + 45))] := hl
  have hN : Nx 766 B none kd ig rg lg kd ig rg lg := Nx.rf
  have hsh := hI.sh
  have hrs := hI.rs
  have hO : Fo B [46, 47] ig lg ig lg := Fo.rf
  refine lv_iconst (v := 0) hx hb dX1_remember_0 (by decide) (ti_c 0 (by decide) fun z1 hz1 => ?_)
  refine lv_istore_n (lv' := [(1, .int z1), (0, .ref (B + 45))]) hx hb dX1_remember_1 rfl hl (by decide) rfl (fun ls hl => ?_)
  have L2 : ∀ (n : Nat) (ls : Array Slot) (H : Heap) (locs : List Loc) (kd3 : sK) (ig4 : sI) (rg5 : sR) (lg6 : sG) (v2 : Int32), lv_has ls 2 [(1, .int v2), (0, .ref (B + 45))] → WD B D cA s.heap kd3 ig4 rg5 lg6 H locs → IC τ B kd3 ig4 rg5 → Nx 766 B none kd ig rg lg kd3 ig4 rg5 lg6 → (0 ≤ v2.toInt) → (v2.toInt ≤ 288) → (∀ p, p < v2.toInt.toNat → ig4 (B + 46) p = ig (B + 25) p ∧ ig4 (B + 47) p = ig (B + 26) p) → (Fo B [46, 47] ig lg ig4 lg6) → 288 - v2.toInt < (n : Int) → W p l e (rL 2 0 0) s m args below meth c H locs 0 0 (MQ below (QcW B D cA (PI 766 τ B none kd ig rg lg (fun r kd' ig' rg' lg' => (r = none ∧ (ReM B (ig (B + 25)) (ig (B + 26)) ig' ∧ Fo B [46, 47] ig lg ig' lg'))))) args s 0 0 (fun q => B ≤ q)) (F0 m 2 ls []) := by
    intro n2
    induction n2 with
    | zero => intro ls H locs kd3 ig4 rg5 lg6 v2 hl hw hI hN g2_0 g2_1 g2_2 g2_3 hmu; exact absurd hmu (by omega)
    | succ n2 ih2 =>
      intro ls H locs kd3 ig4 rg5 lg6 v2 hl hw hI hN g2_0 g2_1 g2_2 g2_3 hmu
      have hsh := hI.sh
      have hrs := hI.rs
      have hO := g2_3
      have hO1 := hO
      refine lv_iload_n hx hb dX1_remember_2 rfl (lv_at hl 0 rfl) ?_
      refine lv_sipush (v := 288) hx hb dX1_remember_3 (by decide) (ti_c 288 (by decide) fun z7 hz7 => ?_)
      refine b_ge (tgt := 43) hx hb dX1_remember_6 (by decide) (fun c6 => ?_) (fun c6 => ?_)
      · exact r_vret C hw hr hlk (Nat.le_of_ble_eq_true rfl) (Nat.le_of_ble_eq_true rfl) dX1_remember_43 ⟨hI, hN, ⟨rfl, ⟨fun p hp => g2_2 p (by omega), hO⟩⟩⟩
      · refine lv_aload_n hx hb dX1_remember_9 rfl (lv_at hl 1 rfl) ?_
        refine r_get C hw (hsh 45 _ rfl) fl_X1_15 (oV_r rfl (hrs (45, 1, 46) (by decide))) dX1_remember_10 ?_
        refine lv_iload_n hx hb dX1_remember_13 rfl (lv_at hl 0 rfl) ?_
        refine lv_aload_n hx hb dX1_remember_14 rfl (lv_at hl 1 rfl) ?_
        refine r_get C hw (hsh 45 _ rfl) fl_X1_9 (oV_r rfl (hrs (45, 0, 24) (by decide))) dX1_remember_15 ?_
        refine lv_iload_n hx hb dX1_remember_18 rfl (lv_at hl 0 rfl) ?_
        refine r_callV (As := [.int v2]) (rest := [.int v2, .ref (B + 46)]) C hw (t_X10_valueAtE l B D cA kd3 ig4 rg5 lg6 _ v2 (by omega) hI) sv_X1_29 (hsh 24 _ rfl) rfl hl.1 rfl (Nat.le_of_ble_eq_true rfl) ⟨Nat.le_of_ble_eq_true rfl, Nat.le_of_ble_eq_true rfl⟩ ⟨Nat.le_of_ble_eq_true rfl, Nat.le_of_ble_eq_true rfl⟩ dX1_remember_19 (fun r12 kd8 ig9 rg10 lg11 H locs hw hH hp13 => ?_)
        obtain ⟨rfl, rfl, rfl, rfl, hzhp13, hrhp13⟩ := hp13
        obtain ⟨z14, rfl, hz14⟩ := hrhp13
        refine r_iast C hw (hsh 46 _ rfl) (by omega) (by omega) dX1_remember_22 (fun H locs hH hw => ?_)
        have hO0 := hO
        obtain ⟨ig15, eig15⟩ : ∃ f, f = up2 ig4 (B + 46) v2.toInt.toNat z14 := ⟨_, rfl⟩
        rw [← eig15] at hw
        have hN : Nx 766 B none kd ig rg lg kd3 ig15 rg5 lg6 := by rw [eig15]; exact hN.pi (by omega)
        have hI : IC τ B kd3 ig15 rg5 := by rw [eig15]; exact hI.pi (show okR none _ from trivial)
        have hO : Fo B [46, 47] ig lg ig15 lg6 := by rw [eig15]; exact hO0.pi (by decide)
        clear hO0
        refine lv_aload_n hx hb dX1_remember_23 rfl (lv_at hl 1 rfl) ?_
        refine r_get C hw (hsh 45 _ rfl) fl_X1_19 (oV_r rfl (hrs (45, 2, 47) (by decide))) dX1_remember_24 ?_
        refine lv_iload_n hx hb dX1_remember_27 rfl (lv_at hl 0 rfl) ?_
        refine lv_aload_n hx hb dX1_remember_28 rfl (lv_at hl 1 rfl) ?_
        refine r_get C hw (hsh 45 _ rfl) fl_X1_9 (oV_r rfl (hrs (45, 0, 24) (by decide))) dX1_remember_29 ?_
        refine lv_iload_n hx hb dX1_remember_32 rfl (lv_at hl 0 rfl) ?_
        refine r_callV (As := [.int v2]) (rest := [.int v2, .ref (B + 47)]) C hw (t_X10_errorAtE l B D cA kd3 ig15 rg5 lg6 _ v2 (by omega) hI) sv_X1_35 (hsh 24 _ rfl) rfl hl.1 rfl (Nat.le_of_ble_eq_true rfl) ⟨Nat.le_of_ble_eq_true rfl, Nat.le_of_ble_eq_true rfl⟩ ⟨Nat.le_of_ble_eq_true rfl, Nat.le_of_ble_eq_true rfl⟩ dX1_remember_33 (fun r20 kd16 ig17 rg18 lg19 H locs hw hH hp21 => ?_)
        obtain ⟨rfl, rfl, rfl, rfl, hzhp21, hrhp21⟩ := hp21
        obtain ⟨z22, rfl, hz22⟩ := hrhp21
        refine r_iast C hw (hsh 47 _ rfl) (by omega) (by omega) dX1_remember_36 (fun H locs hH hw => ?_)
        have hO0 := hO
        obtain ⟨ig23, eig23⟩ : ∃ f, f = up2 ig15 (B + 47) v2.toInt.toNat z22 := ⟨_, rfl⟩
        rw [← eig23] at hw
        have hN : Nx 766 B none kd ig rg lg kd3 ig23 rg5 lg6 := by rw [eig23]; exact hN.pi (by omega)
        have hI : IC τ B kd3 ig23 rg5 := by rw [eig23]; exact hI.pi (show okR none _ from trivial)
        have hO : Fo B [46, 47] ig lg ig23 lg6 := by rw [eig23]; exact hO0.pi (by decide)
        clear hO0
        have rm36 : ∀ p, p < v2.toInt.toNat + 1 → ig23 (B + 46) p = ig (B + 25) p ∧ ig23 (B + 47) p = ig (B + 26) p := fun p hp => by rw [eig23, up2_a (by omega), eig15]; by_cases c : p = v2.toInt.toNat; (subst c; rw [up2_eq, up2_eq]; exact ⟨by rw [hz14]; exact hO1.i 25 _, by rw [hz22, eig15, up2_a (by omega)]; exact hO1.i 26 _⟩); (rw [up2_j c, up2_j c, up2_a (by omega)]; exact g2_2 p (by omega))
        refine tc_inc hx hb dX1_remember_37 hl (k := 0) rfl (by decide) (by decide) (fun z24 hz24 ls hl => ?_)
        first | replace hz24 := hz24 (by omega) | clear hz24
        have hl : lv_has ls 2 [(1, .int z24), (0, .ref (B + 45))] := hl
        refine lv_goto (tgt := 2) hx hb dX1_remember_40 (by decide) ?_
        exact ih2 ls H locs kd3 ig23 rg5 lg6 z24 (lv_sub hl [0, 1] rfl) hw hI hN (by omega) (by omega) (by rw [show z24.toInt.toNat = v2.toInt.toNat + 1 by omega]; exact rm36) (hO) (by omega)
  exact L2 ((288 - z1.toInt) + 1).toNat ls s.heap [] kd ig rg lg z1 (lv_sub hl [0, 1] rfl) hw hI hN (by omega) (by omega) (fun p hp => by omega) (hO) (by omega)

set_option maxHeartbeats 4000000 in
set_option maxRecDepth 100000 in
theorem t_X1_compareE {τ : Tp} (l : Launch) (B : Nat) (D : va_G) (cA : Nat → ClassId) (kd : sK) (ig : sI) (rg : sR) (lg : sG) (sz : Nat)  (hI : IC τ B kd ig rg) : MC l B D cA yX1_compare cX1_compare 4 (some .int) (rL 2 0 0) [.ref (B + 45)] kd ig rg lg sz (PI 766 τ B none kd ig rg lg (fun r kd' ig' rg' lg' => ∃ z : Int32, r = some (.int z) ∧ (z.toInt = (nCh (ig (B + 46)) (ig (B + 47)) (ig (B + 25)) (ig (B + 26)) : Int) ∧ Fo B [45, 48] ig lg ig' lg'))) := by
  refine MC.of (own := RX1) (by decide +kernel) rfl (Nat.le_of_ble_eq_true rfl) ?_
  intro p e s m args below meth c ls C hr hlk hnm hw hsz hl
  have hx := C.1.1
  have hb := C.1.2.1
  have hown := C.1.2.2.2.1
  have hts := C.1.2.2.2.2
  have hl : lv_has ls 4 [(0, .ref (B + 45))] := hl
  have hN : Nx 766 B none kd ig rg lg kd ig rg lg := Nx.rf
  have hsh := hI.sh
  have hrs := hI.rs
  have hO : Fo B [45, 48] ig lg ig lg := Fo.rf
  refine lv_aload_n hx hb dX1_compare_0 rfl (lv_at hl 0 rfl) ?_
  refine lv_iconst (v := 0) hx hb dX1_compare_1 (by decide) (ti_c 0 (by decide) fun z1 hz1 => ?_)
  refine r_puti C hw (hsh 45 _ rfl) fl_X1_25 rfl rfl rfl dX1_compare_2 (fun H locs hH hw => ?_)
  have hO0 := hO
  obtain ⟨ig2, eig2⟩ : ∃ f, f = up2 ig (B + 45) 4 z1 := ⟨_, rfl⟩
  rw [← eig2] at hw
  have hN : Nx 766 B none kd ig rg lg kd ig2 rg lg := by rw [eig2]; exact hN.pi (by omega)
  have hI : IC τ B kd ig2 rg := by rw [eig2]; exact hI.pi (show okR (some (0, 288)) _ from ⟨by show (0 : Int) ≤ _; omega, by show _ ≤ (288 : Int); omega⟩)
  have wig2 : (ig2 (B + 45) 4).toInt = z1.toInt := by rw [eig2, up2_eq]
  have hO : Fo B [45, 48] ig lg ig2 lg := by rw [eig2]; exact hO0.pi (by decide)
  clear hO0
  refine lv_iconst (v := 0) hx hb dX1_compare_5 (by decide) (ti_c 0 (by decide) fun z3 hz3 => ?_)
  refine lv_istore_n (lv' := [(1, .int z3), (0, .ref (B + 45))]) hx hb dX1_compare_6 rfl hl (by decide) rfl (fun ls hl => ?_)
  have L7 : ∀ (n : Nat) (ls : Array Slot) (H : Heap) (locs : List Loc) (kd5 : sK) (ig6 : sI) (rg7 : sR) (lg8 : sG) (v4 : Int32), lv_has ls 4 [(1, .int v4), (0, .ref (B + 45))] → WD B D cA s.heap kd5 ig6 rg7 lg8 H locs → IC τ B kd5 ig6 rg7 → Nx 766 B none kd ig rg lg kd5 ig6 rg7 lg8 → (0 ≤ v4.toInt) → (v4.toInt ≤ 288) → ((ig6 (B + 45) 4).toInt = (cnt (fun p => decide (¬ (ig (B + 25) p = ig (B + 46) p ∧ ig (B + 26) p = ig (B + 47) p))) v4.toInt.toNat : Int)) → (Fo B [45, 48] ig lg ig6 lg8) → 288 - v4.toInt < (n : Int) → W p l e (rL 2 0 0) s m args below meth c H locs 0 0 (MQ below (QcW B D cA (PI 766 τ B none kd ig rg lg (fun r kd' ig' rg' lg' => ∃ z : Int32, r = some (.int z) ∧ (z.toInt = (nCh (ig (B + 46)) (ig (B + 47)) (ig (B + 25)) (ig (B + 26)) : Int) ∧ Fo B [45, 48] ig lg ig' lg')))) args s 0 0 (fun q => B ≤ q)) (F0 m 7 ls []) := by
    intro n7
    induction n7 with
    | zero => intro ls H locs kd5 ig6 rg7 lg8 v4 hl hw hI hN g7_0 g7_1 g7_2 g7_3 hmu; exact absurd hmu (by omega)
    | succ n7 ih7 =>
      intro ls H locs kd5 ig6 rg7 lg8 v4 hl hw hI hN g7_0 g7_1 g7_2 g7_3 hmu
      have hsh := hI.sh
      have hrs := hI.rs
      have hO := g7_3
      have hO1 := hO
      have hcl := cnt.le (fun p => decide (¬ (ig (B + 25) p = ig (B + 46) p ∧ ig (B + 26) p = ig (B + 47) p))) v4.toInt.toNat
      refine lv_iload_n hx hb dX1_compare_7 rfl (lv_at hl 0 rfl) ?_
      refine lv_sipush (v := 288) hx hb dX1_compare_8 (by decide) (ti_c 288 (by decide) fun z9 hz9 => ?_)
      refine b_ge (tgt := 156) hx hb dX1_compare_11 (by decide) (fun c11 => ?_) (fun c11 => ?_)
      · refine lv_aload_n hx hb dX1_compare_156 rfl (lv_at hl 1 rfl) ?_
        refine r_get C hw (hsh 45 _ rfl) fl_X1_25 (oV_i rfl) dX1_compare_157 (ti_c (ig6 (B + 45) 4).toInt rfl fun z10 hz10 => ?_)
        have k11 : 0 ≤ (ig6 (B + 45) 4).toInt ∧ (ig6 (B + 45) 4).toInt ≤ 288 := hI.i 45 4 (by decide)
        exact r_iret C hw hr hlk rfl (Nat.le_of_ble_eq_true rfl) (Nat.le_of_ble_eq_true rfl) dX1_compare_160 ⟨hI, hN, ⟨_, rfl, ⟨(by have q9 := g7_2; rw [show v4.toInt.toNat = 288 by omega] at q9; show z10.toInt = (cnt (fun p => decide (¬ (ig (B + 25) p = ig (B + 46) p ∧ ig (B + 26) p = ig (B + 47) p))) 288 : Int); omega), hO⟩⟩⟩
      · refine lv_aload_n hx hb dX1_compare_14 rfl (lv_at hl 1 rfl) ?_
        refine r_get C hw (hsh 45 _ rfl) fl_X1_9 (oV_r rfl (hrs (45, 0, 24) (by decide))) dX1_compare_15 ?_
        refine lv_iload_n hx hb dX1_compare_18 rfl (lv_at hl 0 rfl) ?_
        refine r_callV (As := [.int v4]) (rest := []) C hw (t_X10_valueAtE l B D cA kd5 ig6 rg7 lg8 _ v4 (by omega) hI) sv_X1_29 (hsh 24 _ rfl) rfl hl.1 rfl (Nat.le_of_ble_eq_true rfl) ⟨Nat.le_of_ble_eq_true rfl, Nat.le_of_ble_eq_true rfl⟩ ⟨Nat.le_of_ble_eq_true rfl, Nat.le_of_ble_eq_true rfl⟩ dX1_compare_19 (fun r16 kd12 ig13 rg14 lg15 H locs hw hH hp17 => ?_)
        obtain ⟨rfl, rfl, rfl, rfl, hzhp17, hrhp17⟩ := hp17
        obtain ⟨z18, rfl, hz18⟩ := hrhp17
        have ev9 : z18.toInt = (ig (B + 25) v4.toInt.toNat).toInt := by rw [hz18, hO1.i 25 _]
        refine lv_istore_n (lv' := [(2, .int z18), (1, .int v4), (0, .ref (B + 45))]) hx hb dX1_compare_22 rfl hl (by decide) rfl (fun ls hl => ?_)
        refine lv_aload_n hx hb dX1_compare_23 rfl (lv_at hl 2 rfl) ?_
        refine r_get C hw (hsh 45 _ rfl) fl_X1_9 (oV_r rfl (hrs (45, 0, 24) (by decide))) dX1_compare_24 ?_
        refine lv_iload_n hx hb dX1_compare_27 rfl (lv_at hl 1 rfl) ?_
        refine r_callV (As := [.int v4]) (rest := []) C hw (t_X10_errorAtE l B D cA kd5 ig6 rg7 lg8 _ v4 (by omega) hI) sv_X1_35 (hsh 24 _ rfl) rfl hl.1 rfl (Nat.le_of_ble_eq_true rfl) ⟨Nat.le_of_ble_eq_true rfl, Nat.le_of_ble_eq_true rfl⟩ ⟨Nat.le_of_ble_eq_true rfl, Nat.le_of_ble_eq_true rfl⟩ dX1_compare_28 (fun r23 kd19 ig20 rg21 lg22 H locs hw hH hp24 => ?_)
        obtain ⟨rfl, rfl, rfl, rfl, hzhp24, hrhp24⟩ := hp24
        obtain ⟨z25, rfl, hz25⟩ := hrhp24
        have ee9 : z25.toInt = (ig (B + 26) v4.toInt.toNat).toInt := by rw [hz25, hO1.i 26 _]
        refine lv_istore_n (lv' := [(3, .int z25), (2, .int z18), (1, .int v4), (0, .ref (B + 45))]) hx hb dX1_compare_31 rfl hl (by decide) rfl (fun ls hl => ?_)
        refine lv_iload_n hx hb dX1_compare_32 rfl (lv_at hl 1 rfl) ?_
        refine lv_aload_n hx hb dX1_compare_33 rfl (lv_at hl 3 rfl) ?_
        refine r_get C hw (hsh 45 _ rfl) fl_X1_15 (oV_r rfl (hrs (45, 1, 46) (by decide))) dX1_compare_34 ?_
        refine lv_iload_n hx hb dX1_compare_37 rfl (lv_at hl 2 rfl) ?_
        refine r_iald C hw (hsh 46 _ rfl) (by omega) (by omega) dX1_compare_38 (ti_c (ig6 (B + 46) v4.toInt.toNat).toInt rfl fun z26 hz26 => ?_)
        have ov9 : z26.toInt = (ig (B + 46) v4.toInt.toNat).toInt := by rw [hz26, hO1.i 46 _]
        have J150 : ∀ (ls : Array Slot) (H : Heap) (locs : List Loc) (kd27 : sK) (ig28 : sI) (rg29 : sR) (lg30 : sG) , lv_has ls 4 [(1, .int v4), (0, .ref (B + 45))] → WD B D cA s.heap kd27 ig28 rg29 lg30 H locs → IC τ B kd27 ig28 rg29 → Nx 766 B none kd ig rg lg kd27 ig28 rg29 lg30 → ((ig28 (B + 45) 4).toInt = (cnt (fun p => decide (¬ (ig (B + 25) p = ig (B + 46) p ∧ ig (B + 26) p = ig (B + 47) p))) (v4.toInt.toNat + 1) : Int)) → (Fo B [45, 48] ig lg ig28 lg30) → W p l e (rL 2 0 0) s m args below meth c H locs 0 0 (MQ below (QcW B D cA (PI 766 τ B none kd ig rg lg (fun r kd' ig' rg' lg' => ∃ z : Int32, r = some (.int z) ∧ (z.toInt = (nCh (ig (B + 46)) (ig (B + 47)) (ig (B + 25)) (ig (B + 26)) : Int) ∧ Fo B [45, 48] ig lg ig' lg')))) args s 0 0 (fun q => B ≤ q)) (F0 m 150 ls []) := by
          intro ls H locs kd27 ig28 rg29 lg30 hl hw hI hN g150_0 g150_1
          have hsh := hI.sh
          have hrs := hI.rs
          have hO := g150_1
          refine tc_inc hx hb dX1_compare_150 hl (k := 0) rfl (by decide) (by decide) (fun z31 hz31 ls hl => ?_)
          first | replace hz31 := hz31 (by omega) | clear hz31
          have hl : lv_has ls 4 [(1, .int z31), (0, .ref (B + 45))] := hl
          refine lv_goto (tgt := 7) hx hb dX1_compare_153 (by decide) ?_
          exact ih7 ls H locs kd27 ig28 rg29 lg30 z31 (lv_sub hl [0, 1] rfl) hw hI hN (by omega) (by omega) (by rw [show z31.toInt.toNat = v4.toInt.toNat + 1 by omega]; exact g150_0) (hO) (by omega)
        have J52 : ∀ (ls : Array Slot) (H : Heap) (locs : List Loc) (kd32 : sK) (ig33 : sI) (rg34 : sR) (lg35 : sG) , lv_has ls 4 [(3, .int z25), (2, .int z18), (1, .int v4), (0, .ref (B + 45))] → WD B D cA s.heap kd32 ig33 rg34 lg35 H locs → IC τ B kd32 ig33 rg34 → Nx 766 B none kd ig rg lg kd32 ig33 rg34 lg35 → (¬ (ig (B + 25) v4.toInt.toNat = ig (B + 46) v4.toInt.toNat ∧ ig (B + 26) v4.toInt.toNat = ig (B + 47) v4.toInt.toNat)) → ((ig33 (B + 45) 4).toInt = (cnt (fun p => decide (¬ (ig (B + 25) p = ig (B + 46) p ∧ ig (B + 26) p = ig (B + 47) p))) v4.toInt.toNat : Int)) → (Fo B [45, 48] ig lg ig33 lg35) → W p l e (rL 2 0 0) s m args below meth c H locs 0 0 (MQ below (QcW B D cA (PI 766 τ B none kd ig rg lg (fun r kd' ig' rg' lg' => ∃ z : Int32, r = some (.int z) ∧ (z.toInt = (nCh (ig (B + 46)) (ig (B + 47)) (ig (B + 25)) (ig (B + 26)) : Int) ∧ Fo B [45, 48] ig lg ig' lg')))) args s 0 0 (fun q => B ≤ q)) (F0 m 52 ls []) := by
          intro ls H locs kd32 ig33 rg34 lg35 hl hw hI hN g52_0 g52_1 g52_2
          have hsh := hI.sh
          have hrs := hI.rs
          have hO := g52_2
          refine lv_aload_n hx hb dX1_compare_52 rfl (lv_at hl 3 rfl) ?_
          refine r_get C hw (hsh 45 _ rfl) fl_X1_25 (oV_i rfl) dX1_compare_53 (ti_c (ig33 (B + 45) 4).toInt rfl fun z36 hz36 => ?_)
          have k37 : 0 ≤ (ig33 (B + 45) 4).toInt ∧ (ig33 (B + 45) 4).toInt ≤ 288 := hI.i 45 4 (by decide)
          refine lv_sipush (v := 288) hx hb dX1_compare_56 (by decide) (ti_c 288 (by decide) fun z38 hz38 => ?_)
          refine b_ge (tgt := 150) hx hb dX1_compare_59 (by decide) (fun c59 => ?_) (fun c59 => ?_)
          · exact absurd c59 (by omega)
          · refine lv_aload_n hx hb dX1_compare_62 rfl (lv_at hl 3 rfl) ?_
            refine r_get C hw (hsh 45 _ rfl) fl_X1_22 (oV_r rfl (hrs (45, 3, 48) (by decide))) dX1_compare_63 ?_
            refine lv_aload_n hx hb dX1_compare_66 rfl (lv_at hl 3 rfl) ?_
            refine r_get C hw (hsh 45 _ rfl) fl_X1_25 (oV_i rfl) dX1_compare_67 (ti_c (ig33 (B + 45) 4).toInt rfl fun z39 hz39 => ?_)
            have k40 : 0 ≤ (ig33 (B + 45) 4).toInt ∧ (ig33 (B + 45) 4).toInt ≤ 288 := hI.i 45 4 (by decide)
            refine lv_iconst (v := 5) hx hb dX1_compare_70 (by decide) (ti_c 5 (by decide) fun z41 hz41 => ?_)
            refine lv_imul hx hb dX1_compare_71 (tc_mulR 5 hz41 fun z42 hz42 => ?_)
            first | replace hz42 := hz42 (by omega) | clear hz42
            refine lv_iload_n hx hb dX1_compare_72 rfl (lv_at hl 2 rfl) ?_
            refine r_iast C hw (hsh 48 _ rfl) (by omega) (by omega) dX1_compare_73 (fun H locs hH hw => ?_)
            have hO0 := hO
            obtain ⟨ig43, eig43⟩ : ∃ f, f = up2 ig33 (B + 48) z42.toInt.toNat v4 := ⟨_, rfl⟩
            rw [← eig43] at hw
            have hN : Nx 766 B none kd ig rg lg kd32 ig43 rg34 lg35 := by rw [eig43]; exact hN.pi (by omega)
            have hI : IC τ B kd32 ig43 rg34 := by rw [eig43]; exact hI.pi (show okR none _ from trivial)
            have wig43_45_4 : (ig43 (B + 45) 4).toInt = (ig33 (B + 45) 4).toInt := by rw [eig43, up2_a (by omega)]
            have hO : Fo B [45, 48] ig lg ig43 lg35 := by rw [eig43]; exact hO0.pi (by decide)
            clear hO0
            refine lv_aload_n hx hb dX1_compare_74 rfl (lv_at hl 3 rfl) ?_
            refine r_get C hw (hsh 45 _ rfl) fl_X1_22 (oV_r rfl (hrs (45, 3, 48) (by decide))) dX1_compare_75 ?_
            refine lv_aload_n hx hb dX1_compare_78 rfl (lv_at hl 3 rfl) ?_
            refine r_get C hw (hsh 45 _ rfl) fl_X1_25 (oV_i rfl) dX1_compare_79 (ti_c (ig43 (B + 45) 4).toInt rfl fun z44 hz44 => ?_)
            have k45 : 0 ≤ (ig43 (B + 45) 4).toInt ∧ (ig43 (B + 45) 4).toInt ≤ 288 := hI.i 45 4 (by decide)
            refine lv_iconst (v := 5) hx hb dX1_compare_82 (by decide) (ti_c 5 (by decide) fun z46 hz46 => ?_)
            refine lv_imul hx hb dX1_compare_83 (tc_mulR 5 hz46 fun z47 hz47 => ?_)
            first | replace hz47 := hz47 (by omega) | clear hz47
            refine lv_iconst (v := 1) hx hb dX1_compare_84 (by decide) (ti_c 1 (by decide) fun z48 hz48 => ?_)
            refine lv_iadd hx hb dX1_compare_85 (tc_add fun z49 hz49 => ?_)
            first | replace hz49 := hz49 (by omega) | clear hz49
            refine lv_aload_n hx hb dX1_compare_86 rfl (lv_at hl 3 rfl) ?_
            refine r_get C hw (hsh 45 _ rfl) fl_X1_15 (oV_r rfl (hrs (45, 1, 46) (by decide))) dX1_compare_87 ?_
            refine lv_iload_n hx hb dX1_compare_90 rfl (lv_at hl 2 rfl) ?_
            refine r_iald C hw (hsh 46 _ rfl) (by omega) (by omega) dX1_compare_91 (ti_c (ig43 (B + 46) v4.toInt.toNat).toInt rfl fun z50 hz50 => ?_)
            refine r_iast C hw (hsh 48 _ rfl) (by omega) (by omega) dX1_compare_92 (fun H locs hH hw => ?_)
            have hO0 := hO
            obtain ⟨ig51, eig51⟩ : ∃ f, f = up2 ig43 (B + 48) z49.toInt.toNat z50 := ⟨_, rfl⟩
            rw [← eig51] at hw
            have hN : Nx 766 B none kd ig rg lg kd32 ig51 rg34 lg35 := by rw [eig51]; exact hN.pi (by omega)
            have hI : IC τ B kd32 ig51 rg34 := by rw [eig51]; exact hI.pi (show okR none _ from trivial)
            have wig51_45_4 : (ig51 (B + 45) 4).toInt = (ig43 (B + 45) 4).toInt := by rw [eig51, up2_a (by omega)]
            have hO : Fo B [45, 48] ig lg ig51 lg35 := by rw [eig51]; exact hO0.pi (by decide)
            clear hO0
            refine lv_aload_n hx hb dX1_compare_93 rfl (lv_at hl 3 rfl) ?_
            refine r_get C hw (hsh 45 _ rfl) fl_X1_22 (oV_r rfl (hrs (45, 3, 48) (by decide))) dX1_compare_94 ?_
            refine lv_aload_n hx hb dX1_compare_97 rfl (lv_at hl 3 rfl) ?_
            refine r_get C hw (hsh 45 _ rfl) fl_X1_25 (oV_i rfl) dX1_compare_98 (ti_c (ig51 (B + 45) 4).toInt rfl fun z52 hz52 => ?_)
            have k53 : 0 ≤ (ig51 (B + 45) 4).toInt ∧ (ig51 (B + 45) 4).toInt ≤ 288 := hI.i 45 4 (by decide)
            refine lv_iconst (v := 5) hx hb dX1_compare_101 (by decide) (ti_c 5 (by decide) fun z54 hz54 => ?_)
            refine lv_imul hx hb dX1_compare_102 (tc_mulR 5 hz54 fun z55 hz55 => ?_)
            first | replace hz55 := hz55 (by omega) | clear hz55
            refine lv_iconst (v := 2) hx hb dX1_compare_103 (by decide) (ti_c 2 (by decide) fun z56 hz56 => ?_)
            refine lv_iadd hx hb dX1_compare_104 (tc_add fun z57 hz57 => ?_)
            first | replace hz57 := hz57 (by omega) | clear hz57
            refine lv_iload_n hx hb dX1_compare_105 rfl (lv_at hl 1 rfl) ?_
            refine r_iast C hw (hsh 48 _ rfl) (by omega) (by omega) dX1_compare_106 (fun H locs hH hw => ?_)
            have hO0 := hO
            obtain ⟨ig58, eig58⟩ : ∃ f, f = up2 ig51 (B + 48) z57.toInt.toNat z18 := ⟨_, rfl⟩
            rw [← eig58] at hw
            have hN : Nx 766 B none kd ig rg lg kd32 ig58 rg34 lg35 := by rw [eig58]; exact hN.pi (by omega)
            have hI : IC τ B kd32 ig58 rg34 := by rw [eig58]; exact hI.pi (show okR none _ from trivial)
            have wig58_45_4 : (ig58 (B + 45) 4).toInt = (ig51 (B + 45) 4).toInt := by rw [eig58, up2_a (by omega)]
            have hO : Fo B [45, 48] ig lg ig58 lg35 := by rw [eig58]; exact hO0.pi (by decide)
            clear hO0
            refine lv_aload_n hx hb dX1_compare_107 rfl (lv_at hl 3 rfl) ?_
            refine r_get C hw (hsh 45 _ rfl) fl_X1_22 (oV_r rfl (hrs (45, 3, 48) (by decide))) dX1_compare_108 ?_
            refine lv_aload_n hx hb dX1_compare_111 rfl (lv_at hl 3 rfl) ?_
            refine r_get C hw (hsh 45 _ rfl) fl_X1_25 (oV_i rfl) dX1_compare_112 (ti_c (ig58 (B + 45) 4).toInt rfl fun z59 hz59 => ?_)
            have k60 : 0 ≤ (ig58 (B + 45) 4).toInt ∧ (ig58 (B + 45) 4).toInt ≤ 288 := hI.i 45 4 (by decide)
            refine lv_iconst (v := 5) hx hb dX1_compare_115 (by decide) (ti_c 5 (by decide) fun z61 hz61 => ?_)
            refine lv_imul hx hb dX1_compare_116 (tc_mulR 5 hz61 fun z62 hz62 => ?_)
            first | replace hz62 := hz62 (by omega) | clear hz62
            refine lv_iconst (v := 3) hx hb dX1_compare_117 (by decide) (ti_c 3 (by decide) fun z63 hz63 => ?_)
            refine lv_iadd hx hb dX1_compare_118 (tc_add fun z64 hz64 => ?_)
            first | replace hz64 := hz64 (by omega) | clear hz64
            refine lv_aload_n hx hb dX1_compare_119 rfl (lv_at hl 3 rfl) ?_
            refine r_get C hw (hsh 45 _ rfl) fl_X1_19 (oV_r rfl (hrs (45, 2, 47) (by decide))) dX1_compare_120 ?_
            refine lv_iload_n hx hb dX1_compare_123 rfl (lv_at hl 2 rfl) ?_
            refine r_iald C hw (hsh 47 _ rfl) (by omega) (by omega) dX1_compare_124 (ti_c (ig58 (B + 47) v4.toInt.toNat).toInt rfl fun z65 hz65 => ?_)
            refine r_iast C hw (hsh 48 _ rfl) (by omega) (by omega) dX1_compare_125 (fun H locs hH hw => ?_)
            have hO0 := hO
            obtain ⟨ig66, eig66⟩ : ∃ f, f = up2 ig58 (B + 48) z64.toInt.toNat z65 := ⟨_, rfl⟩
            rw [← eig66] at hw
            have hN : Nx 766 B none kd ig rg lg kd32 ig66 rg34 lg35 := by rw [eig66]; exact hN.pi (by omega)
            have hI : IC τ B kd32 ig66 rg34 := by rw [eig66]; exact hI.pi (show okR none _ from trivial)
            have wig66_45_4 : (ig66 (B + 45) 4).toInt = (ig58 (B + 45) 4).toInt := by rw [eig66, up2_a (by omega)]
            have hO : Fo B [45, 48] ig lg ig66 lg35 := by rw [eig66]; exact hO0.pi (by decide)
            clear hO0
            refine lv_aload_n hx hb dX1_compare_126 rfl (lv_at hl 3 rfl) ?_
            refine r_get C hw (hsh 45 _ rfl) fl_X1_22 (oV_r rfl (hrs (45, 3, 48) (by decide))) dX1_compare_127 ?_
            refine lv_aload_n hx hb dX1_compare_130 rfl (lv_at hl 3 rfl) ?_
            refine r_get C hw (hsh 45 _ rfl) fl_X1_25 (oV_i rfl) dX1_compare_131 (ti_c (ig66 (B + 45) 4).toInt rfl fun z67 hz67 => ?_)
            have k68 : 0 ≤ (ig66 (B + 45) 4).toInt ∧ (ig66 (B + 45) 4).toInt ≤ 288 := hI.i 45 4 (by decide)
            refine lv_iconst (v := 5) hx hb dX1_compare_134 (by decide) (ti_c 5 (by decide) fun z69 hz69 => ?_)
            refine lv_imul hx hb dX1_compare_135 (tc_mulR 5 hz69 fun z70 hz70 => ?_)
            first | replace hz70 := hz70 (by omega) | clear hz70
            refine lv_iconst (v := 4) hx hb dX1_compare_136 (by decide) (ti_c 4 (by decide) fun z71 hz71 => ?_)
            refine lv_iadd hx hb dX1_compare_137 (tc_add fun z72 hz72 => ?_)
            first | replace hz72 := hz72 (by omega) | clear hz72
            refine lv_iload_n hx hb dX1_compare_138 rfl (lv_at hl 0 rfl) ?_
            refine r_iast C hw (hsh 48 _ rfl) (by omega) (by omega) dX1_compare_139 (fun H locs hH hw => ?_)
            have hO0 := hO
            obtain ⟨ig73, eig73⟩ : ∃ f, f = up2 ig66 (B + 48) z72.toInt.toNat z25 := ⟨_, rfl⟩
            rw [← eig73] at hw
            have hN : Nx 766 B none kd ig rg lg kd32 ig73 rg34 lg35 := by rw [eig73]; exact hN.pi (by omega)
            have hI : IC τ B kd32 ig73 rg34 := by rw [eig73]; exact hI.pi (show okR none _ from trivial)
            have wig73_45_4 : (ig73 (B + 45) 4).toInt = (ig66 (B + 45) 4).toInt := by rw [eig73, up2_a (by omega)]
            have hO : Fo B [45, 48] ig lg ig73 lg35 := by rw [eig73]; exact hO0.pi (by decide)
            clear hO0
            refine lv_aload_n hx hb dX1_compare_140 rfl (lv_at hl 3 rfl) ?_
            refine lv_dup hx hb dX1_compare_141 rfl ?_
            refine r_get C hw (hsh 45 _ rfl) fl_X1_25 (oV_i rfl) dX1_compare_142 (ti_c (ig73 (B + 45) 4).toInt rfl fun z74 hz74 => ?_)
            have k75 : 0 ≤ (ig73 (B + 45) 4).toInt ∧ (ig73 (B + 45) 4).toInt ≤ 288 := hI.i 45 4 (by decide)
            refine lv_iconst (v := 1) hx hb dX1_compare_145 (by decide) (ti_c 1 (by decide) fun z76 hz76 => ?_)
            refine lv_iadd hx hb dX1_compare_146 (tc_add fun z77 hz77 => ?_)
            first | replace hz77 := hz77 (by omega) | clear hz77
            refine r_puti C hw (hsh 45 _ rfl) fl_X1_25 rfl rfl rfl dX1_compare_147 (fun H locs hH hw => ?_)
            have hO0 := hO
            obtain ⟨ig78, eig78⟩ : ∃ f, f = up2 ig73 (B + 45) 4 z77 := ⟨_, rfl⟩
            rw [← eig78] at hw
            have hN : Nx 766 B none kd ig rg lg kd32 ig78 rg34 lg35 := by rw [eig78]; exact hN.pi (by omega)
            have hI : IC τ B kd32 ig78 rg34 := by rw [eig78]; exact hI.pi (show okR (some (0, 288)) _ from ⟨by show (0 : Int) ≤ _; omega, by show _ ≤ (288 : Int); omega⟩)
            have wig78 : (ig78 (B + 45) 4).toInt = z77.toInt := by rw [eig78, up2_eq]
            have hO : Fo B [45, 48] ig lg ig78 lg35 := by rw [eig78]; exact hO0.pi (by decide)
            clear hO0
            exact J150 ls H locs kd32 ig78 rg34 lg35 (lv_sub hl [2, 3] rfl) hw hI hN (by rw [cnt_s, if_pos (decide_eq_true g52_0)]; omega) (hO)
        refine b_ne (tgt := 52) hx hb dX1_compare_39 (by decide) (fun c39 => ?_) (fun c39 => ?_)
        · exact J52 ls H locs kd5 ig6 rg7 lg8 (lv_sub hl [0, 1, 2, 3] rfl) hw hI hN (fun w9 => by have q8 := congrArg Int32.toInt w9.1; have q9 := congrArg Int32.toInt w9.2; omega) (by omega) (hO)
        · refine lv_iload_n hx hb dX1_compare_42 rfl (lv_at hl 0 rfl) ?_
          refine lv_aload_n hx hb dX1_compare_43 rfl (lv_at hl 3 rfl) ?_
          refine r_get C hw (hsh 45 _ rfl) fl_X1_19 (oV_r rfl (hrs (45, 2, 47) (by decide))) dX1_compare_44 ?_
          refine lv_iload_n hx hb dX1_compare_47 rfl (lv_at hl 2 rfl) ?_
          refine r_iald C hw (hsh 47 _ rfl) (by omega) (by omega) dX1_compare_48 (ti_c (ig6 (B + 47) v4.toInt.toNat).toInt rfl fun z79 hz79 => ?_)
          have oe9 : z79.toInt = (ig (B + 47) v4.toInt.toNat).toInt := by rw [hz79, hO1.i 47 _]
          refine b_eq (tgt := 150) hx hb dX1_compare_49 (by decide) (fun c49 => ?_) (fun c49 => ?_)
          · exact J150 ls H locs kd5 ig6 rg7 lg8 (lv_sub hl [2, 3] rfl) hw hI hN (by rw [cnt_s, if_neg (by rw [decide_eq_true_eq, Classical.not_not]; exact ⟨i32_inj (by omega), i32_inj (by omega)⟩)]; omega) (hO)
          · exact J52 ls H locs kd5 ig6 rg7 lg8 (lv_sub hl [0, 1, 2, 3] rfl) hw hI hN (fun w9 => by have q8 := congrArg Int32.toInt w9.1; have q9 := congrArg Int32.toInt w9.2; omega) (by omega) (hO)
  exact L7 ((288 - z3.toInt) + 1).toNat ls H locs kd ig2 rg lg z3 (lv_sub hl [0, 1] rfl) hw hI hN (by omega) (by omega) (by rw [show z3.toInt.toNat = 0 by omega]; show _ = ((0 : Nat) : Int); omega) (hO) (by omega)
