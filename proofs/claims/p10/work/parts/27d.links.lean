set_option maxHeartbeats 4000000 in
set_option maxRecDepth 100000 in
theorem t_X5_forgetReadsE {τ : Tp} (l : Launch) (B : Nat) (D : va_G) (cA : Nat → ClassId) (kd : sK) (ig : sI) (rg : sR) (lg : sG) (sz : Nat) (hLA : LAz B ig lg) (hI : IC τ B kd ig rg) : MC l B D cA yX5_forgetReads cX5_forgetReads 3 none (rL 0 0 0) [.ref (B + 15)] kd ig rg lg sz (PI 1014 τ B none kd ig rg lg (fun r kd' ig' rg' lg' => (r = none ∧ ((FRz B lg' ∧ FSz B 5 lg' ∧ (ig' (B + 15) 2).toInt = 0) ∧ Fo B [15, 17, 18] ig lg ig' lg' ∧ (ig' (B + 15) 9).toInt = (ig (B + 15) 9).toInt ∧ (ig' (B + 15) 11).toInt = (ig (B + 15) 11).toInt)))) := by
  refine MC.of (own := RX5) (by decide +kernel) rfl (Nat.le_of_ble_eq_true rfl) ?_
  intro p e s m args below meth c ls C hr hlk hnm hw hsz hl
  have hx := C.1.1
  have hb := C.1.2.1
  have hown := C.1.2.2.2.1
  have hts := C.1.2.2.2.2
  have hl : lv_has ls 3 [(0, .ref (B + 15))] := hl
  have hN : Nx 1014 B none kd ig rg lg kd ig rg lg := Nx.rf
  have hsh := hI.sh
  have hrs := hI.rs
  have hO : Fo B [15, 17, 18] ig lg ig lg := Fo.rf
  refine lv_iconst (v := 0) hx hb dX5_forgetReads_0 (by decide) (ti_c 0 (by decide) fun z1 hz1 => ?_)
  refine lv_istore_n (lv' := [(1, .int z1), (0, .ref (B + 15))]) hx hb dX5_forgetReads_1 rfl hl (by decide) rfl (fun ls hl => ?_)
  have L2 : ∀ (n : Nat) (ls : Array Slot) (H : Heap) (locs : List Loc) (kd3 : sK) (ig4 : sI) (rg5 : sR) (lg6 : sG) (v2 : Int32), lv_has ls 3 [(1, .int v2), (0, .ref (B + 15))] → WD B D cA s.heap kd3 ig4 rg5 lg6 H locs → IC τ B kd3 ig4 rg5 → Nx 1014 B none kd ig rg lg kd3 ig4 rg5 lg6 → (0 ≤ v2.toInt) → (v2.toInt ≤ 288) → (FZ B ig v2.toInt.toNat lg6) → ((ig4 (B + 15) 2).toInt = (ig (B + 15) 2).toInt) → (Fo B [15, 17, 18] ig lg ig4 lg6) → ((ig4 (B + 15) 9).toInt = (ig (B + 15) 9).toInt) → ((ig4 (B + 15) 11).toInt = (ig (B + 15) 11).toInt) → 288 - v2.toInt < (n : Int) → W p l e (rL 0 0 0) s m args below meth c H locs 0 0 (MQ below (QcW B D cA (PI 1014 τ B none kd ig rg lg (fun r kd' ig' rg' lg' => (r = none ∧ ((FRz B lg' ∧ FSz B 5 lg' ∧ (ig' (B + 15) 2).toInt = 0) ∧ Fo B [15, 17, 18] ig lg ig' lg' ∧ (ig' (B + 15) 9).toInt = (ig (B + 15) 9).toInt ∧ (ig' (B + 15) 11).toInt = (ig (B + 15) 11).toInt))))) args s 0 0 (fun q => B ≤ q)) (F0 m 2 ls []) := by
    intro n2
    induction n2 with
    | zero => intro ls H locs kd3 ig4 rg5 lg6 v2 hl hw hI hN g2_0 g2_1 g2_2 g2_3 g2_4 g2_5 g2_6 hmu; exact absurd hmu (by omega)
    | succ n2 ih2 =>
      intro ls H locs kd3 ig4 rg5 lg6 v2 hl hw hI hN g2_0 g2_1 g2_2 g2_3 g2_4 g2_5 g2_6 hmu
      have hsh := hI.sh
      have hrs := hI.rs
      have hO := g2_4
      refine lv_iload_n hx hb dX5_forgetReads_2 rfl (lv_at hl 0 rfl) ?_
      refine lv_aload_n hx hb dX5_forgetReads_3 rfl (lv_at hl 1 rfl) ?_
      refine r_get C hw (hsh 15 _ rfl) fl_X5_58 (oV_i rfl) dX5_forgetReads_4 (ti_c (ig4 (B + 15) 2).toInt rfl fun z7 hz7 => ?_)
      have k8 : 0 ≤ (ig4 (B + 15) 2).toInt ∧ (ig4 (B + 15) 2).toInt ≤ 288 := hI.i 15 2 (by decide)
      refine b_ge (tgt := 45) hx hb dX5_forgetReads_7 (by decide) (fun c7 => ?_) (fun c7 => ?_)
      · refine lv_iconst (v := 0) hx hb dX5_forgetReads_45 (by decide) (ti_c 0 (by decide) fun z9 hz9 => ?_)
        refine lv_istore_n (lv' := [(1, .int z9), (0, .ref (B + 15))]) hx hb dX5_forgetReads_46 rfl hl (by decide) rfl (fun ls hl => ?_)
        have L47 : ∀ (n : Nat) (ls : Array Slot) (H : Heap) (locs : List Loc) (kd11 : sK) (ig12 : sI) (rg13 : sR) (lg14 : sG) (v10 : Int32), lv_has ls 3 [(1, .int v10), (0, .ref (B + 15))] → WD B D cA s.heap kd11 ig12 rg13 lg14 H locs → IC τ B kd11 ig12 rg13 → Nx 1014 B none kd ig rg lg kd11 ig12 rg13 lg14 → (0 ≤ v10.toInt) → (v10.toInt ≤ 5) → (FRz B lg14) → (FSz B v10.toInt.toNat lg14) → (Fo B [15, 17, 18] ig lg ig12 lg14) → ((ig12 (B + 15) 9).toInt = (ig (B + 15) 9).toInt) → ((ig12 (B + 15) 11).toInt = (ig (B + 15) 11).toInt) → 5 - v10.toInt < (n : Int) → W p l e (rL 0 0 0) s m args below meth c H locs 0 0 (MQ below (QcW B D cA (PI 1014 τ B none kd ig rg lg (fun r kd' ig' rg' lg' => (r = none ∧ ((FRz B lg' ∧ FSz B 5 lg' ∧ (ig' (B + 15) 2).toInt = 0) ∧ Fo B [15, 17, 18] ig lg ig' lg' ∧ (ig' (B + 15) 9).toInt = (ig (B + 15) 9).toInt ∧ (ig' (B + 15) 11).toInt = (ig (B + 15) 11).toInt))))) args s 0 0 (fun q => B ≤ q)) (F0 m 47 ls []) := by
          intro n47
          induction n47 with
          | zero => intro ls H locs kd11 ig12 rg13 lg14 v10 hl hw hI hN g47_0 g47_1 g47_2 g47_3 g47_4 g47_5 g47_6 hmu; exact absurd hmu (by omega)
          | succ n47 ih47 =>
            intro ls H locs kd11 ig12 rg13 lg14 v10 hl hw hI hN g47_0 g47_1 g47_2 g47_3 g47_4 g47_5 g47_6 hmu
            have hsh := hI.sh
            have hrs := hI.rs
            have hO := g47_4
            refine lv_iload_n hx hb dX5_forgetReads_47 rfl (lv_at hl 0 rfl) ?_
            refine lv_iconst (v := 5) hx hb dX5_forgetReads_48 (by decide) (ti_c 5 (by decide) fun z15 hz15 => ?_)
            refine b_ge (tgt := 65) hx hb dX5_forgetReads_49 (by decide) (fun c49 => ?_) (fun c49 => ?_)
            · refine lv_aload_n hx hb dX5_forgetReads_65 rfl (lv_at hl 1 rfl) ?_
              refine lv_iconst (v := 0) hx hb dX5_forgetReads_66 (by decide) (ti_c 0 (by decide) fun z16 hz16 => ?_)
              refine r_puti C hw (hsh 15 _ rfl) fl_X5_58 rfl rfl rfl dX5_forgetReads_67 (fun H locs hH hw => ?_)
              have hO0 := hO
              obtain ⟨ig17, eig17⟩ : ∃ f, f = up2 ig12 (B + 15) 2 z16 := ⟨_, rfl⟩
              rw [← eig17] at hw
              have hN : Nx 1014 B none kd ig rg lg kd11 ig17 rg13 lg14 := by rw [eig17]; exact hN.pi (by omega)
              have hI : IC τ B kd11 ig17 rg13 := by rw [eig17]; exact hI.pi (show okR (some (0, 288)) _ from ⟨by show (0 : Int) ≤ _; omega, by show _ ≤ (288 : Int); omega⟩)
              have wig17 : (ig17 (B + 15) 2).toInt = z16.toInt := by rw [eig17, up2_eq]
              have wig17_15_9 : (ig17 (B + 15) 9).toInt = (ig12 (B + 15) 9).toInt := by rw [eig17, up2_j (by decide)]
              have wig17_15_11 : (ig17 (B + 15) 11).toInt = (ig12 (B + 15) 11).toInt := by rw [eig17, up2_j (by decide)]
              have hO : Fo B [15, 17, 18] ig lg ig17 lg14 := by rw [eig17]; exact hO0.pi (by decide)
              clear hO0
              exact r_vret C hw hr hlk (Nat.le_of_ble_eq_true rfl) (Nat.le_of_ble_eq_true rfl) dX5_forgetReads_70 ⟨hI, hN, ⟨rfl, ⟨⟨g47_2, (by have q9 := g47_3; rw [show v10.toInt.toNat = 5 by omega] at q9; exact q9), by omega⟩, hO, by omega, by omega⟩⟩⟩
            · refine lv_aload_n hx hb dX5_forgetReads_52 rfl (lv_at hl 1 rfl) ?_
              refine r_get C hw (hsh 15 _ rfl) fl_X5_19 (oV_r rfl (hrs (15, 3, 17) (by decide))) dX5_forgetReads_53 ?_
              refine lv_iload_n hx hb dX5_forgetReads_56 rfl (lv_at hl 0 rfl) ?_
              refine lv_lconst (v := 0) hx hb dX5_forgetReads_57 (by decide) (lv_topl fun x18 hx18 => ?_)
              refine r_last C hw (hsh 17 _ rfl) (by omega) (by omega) dX5_forgetReads_58 (fun H locs hH hw => ?_)
              have hO0 := hO
              obtain ⟨lg19, elg19⟩ : ∃ f, f = up2 lg14 (B + 17) v10.toInt.toNat x18 := ⟨_, rfl⟩
              rw [← elg19] at hw
              have hN : Nx 1014 B none kd ig rg lg kd11 ig12 rg13 lg19 := by rw [elg19]; exact hN.pl (by omega)
              have hO : Fo B [15, 17, 18] ig lg ig12 lg19 := by rw [elg19]; exact hO0.pl (by decide)
              clear hO0
              have frz : FRz B lg19 := by rw [elg19]; exact g47_2.s
              have fsz : FSz B (v10.toInt.toNat + 1) lg19 := by rw [elg19]; exact g47_3.put hx18 (by omega)
              refine tc_inc hx hb dX5_forgetReads_59 hl (k := 0) rfl (by decide) (by decide) (fun z20 hz20 ls hl => ?_)
              first | replace hz20 := hz20 (by omega) | clear hz20
              have hl : lv_has ls 3 [(1, .int z20), (0, .ref (B + 15))] := hl
              refine lv_goto (tgt := 47) hx hb dX5_forgetReads_62 (by decide) ?_
              exact ih47 ls H locs kd11 ig12 rg13 lg19 z20 (lv_sub hl [0, 1] rfl) hw hI hN (by omega) (by omega) (frz) (by rw [show z20.toInt.toNat = v10.toInt.toNat + 1 by omega]; exact fsz) (hO) (by omega) (by omega) (by omega)
        exact L47 ((5 - z9.toInt) + 1).toNat ls H locs kd3 ig4 rg5 lg6 z9 (lv_sub hl [0, 1] rfl) hw hI hN (by omega) (by omega) (g2_2.all (by unfold fN; omega)) (by rw [show z9.toInt.toNat = 0 by omega]; exact FSz.zero) (hO) (by omega) (by omega) (by omega)
      · refine lv_iconst (v := 0) hx hb dX5_forgetReads_10 (by decide) (ti_c 0 (by decide) fun z21 hz21 => ?_)
        refine lv_istore_n (lv' := [(2, .int z21), (1, .int v2), (0, .ref (B + 15))]) hx hb dX5_forgetReads_11 rfl hl (by decide) rfl (fun ls hl => ?_)
        have L12 : ∀ (n : Nat) (ls : Array Slot) (H : Heap) (locs : List Loc) (kd23 : sK) (ig24 : sI) (rg25 : sR) (lg26 : sG) (v22 : Int32), lv_has ls 3 [(2, .int v22), (1, .int v2), (0, .ref (B + 15))] → WD B D cA s.heap kd23 ig24 rg25 lg26 H locs → IC τ B kd23 ig24 rg25 → Nx 1014 B none kd ig rg lg kd23 ig24 rg25 lg26 → (0 ≤ v22.toInt) → (v22.toInt ≤ 5) → (v2.toInt < 288) → (FZ B ig v2.toInt.toNat lg26) → (FWz B (fL B ig v2.toInt.toNat) v22.toInt.toNat lg26) → ((ig24 (B + 15) 2).toInt = (ig (B + 15) 2).toInt) → (Fo B [15, 17, 18] ig lg ig24 lg26) → ((ig24 (B + 15) 9).toInt = (ig (B + 15) 9).toInt) → ((ig24 (B + 15) 11).toInt = (ig (B + 15) 11).toInt) → 5 - v22.toInt < (n : Int) → W p l e (rL 0 0 0) s m args below meth c H locs 0 0 (MQ below (QcW B D cA (PI 1014 τ B none kd ig rg lg (fun r kd' ig' rg' lg' => (r = none ∧ ((FRz B lg' ∧ FSz B 5 lg' ∧ (ig' (B + 15) 2).toInt = 0) ∧ Fo B [15, 17, 18] ig lg ig' lg' ∧ (ig' (B + 15) 9).toInt = (ig (B + 15) 9).toInt ∧ (ig' (B + 15) 11).toInt = (ig (B + 15) 11).toInt))))) args s 0 0 (fun q => B ≤ q)) (F0 m 12 ls []) := by
          intro n12
          induction n12 with
          | zero => intro ls H locs kd23 ig24 rg25 lg26 v22 hl hw hI hN g12_0 g12_1 g12_2 g12_3 g12_4 g12_5 g12_6 g12_7 g12_8 hmu; exact absurd hmu (by omega)
          | succ n12 ih12 =>
            intro ls H locs kd23 ig24 rg25 lg26 v22 hl hw hI hN g12_0 g12_1 g12_2 g12_3 g12_4 g12_5 g12_6 g12_7 g12_8 hmu
            have hsh := hI.sh
            have hrs := hI.rs
            have hO := g12_6
            refine lv_iload_n hx hb dX5_forgetReads_12 rfl (lv_at hl 0 rfl) ?_
            refine lv_iconst (v := 5) hx hb dX5_forgetReads_13 (by decide) (ti_c 5 (by decide) fun z27 hz27 => ?_)
            refine b_ge (tgt := 39) hx hb dX5_forgetReads_14 (by decide) (fun c14 => ?_) (fun c14 => ?_)
            · refine tc_inc hx hb dX5_forgetReads_39 hl (k := 1) rfl (by decide) (by decide) (fun z28 hz28 ls hl => ?_)
              first | replace hz28 := hz28 (by omega) | clear hz28
              have hl : lv_has ls 3 [(1, .int z28), (2, .int v22), (0, .ref (B + 15))] := hl
              refine lv_goto (tgt := 2) hx hb dX5_forgetReads_42 (by decide) ?_
              exact ih2 ls H locs kd23 ig24 rg25 lg26 z28 (lv_sub hl [0, 2] rfl) hw hI hN (by omega) (by omega) (by rw [show z28.toInt.toNat = v2.toInt.toNat + 1 by omega]; exact FZ.next g12_3 (by have q9 := g12_4; rw [show v22.toInt.toNat = 5 by omega] at q9; exact q9)) (by omega) (hO) (by omega) (by omega) (by omega)
            · refine lv_aload_n hx hb dX5_forgetReads_17 rfl (lv_at hl 2 rfl) ?_
              refine r_get C hw (hsh 15 _ rfl) fl_X5_23 (oV_r rfl (hrs (15, 4, 18) (by decide))) dX5_forgetReads_18 ?_
              refine lv_aload_n hx hb dX5_forgetReads_21 rfl (lv_at hl 2 rfl) ?_
              refine r_get C hw (hsh 15 _ rfl) fl_X5_15 (oV_r rfl (hrs (15, 1, 16) (by decide))) dX5_forgetReads_22 ?_
              refine lv_iload_n hx hb dX5_forgetReads_25 rfl (lv_at hl 1 rfl) ?_
              refine r_iald C hw (hsh 16 _ rfl) (by omega) (by omega) dX5_forgetReads_26 (ti_c (ig24 (B + 16) v2.toInt.toNat).toInt rfl fun z29 hz29 => ?_)
              have k30 : 0 ≤ (ig24 (B + 16) (v2.toInt.toNat)).toInt ∧ (ig24 (B + 16) (v2.toInt.toNat)).toInt ≤ 287 := hI.i 16 (v2.toInt.toNat) (by decide)
              have hf : (fL B ig v2.toInt.toNat : Int) = z29.toInt := by unfold fL; rw [← hO.i 16 _, ← hz29]; omega
              refine lv_iconst (v := 5) hx hb dX5_forgetReads_27 (by decide) (ti_c 5 (by decide) fun z31 hz31 => ?_)
              refine lv_imul hx hb dX5_forgetReads_28 (tc_mulR 5 hz31 fun z32 hz32 => ?_)
              first | replace hz32 := hz32 (by omega) | clear hz32
              refine lv_iload_n hx hb dX5_forgetReads_29 rfl (lv_at hl 0 rfl) ?_
              refine lv_iadd hx hb dX5_forgetReads_30 (tc_add fun z33 hz33 => ?_)
              first | replace hz33 := hz33 (by omega) | clear hz33
              refine lv_lconst (v := 0) hx hb dX5_forgetReads_31 (by decide) (lv_topl fun x34 hx34 => ?_)
              refine r_last C hw (hsh 18 _ rfl) (by omega) (by omega) dX5_forgetReads_32 (fun H locs hH hw => ?_)
              have hO0 := hO
              obtain ⟨lg35, elg35⟩ : ∃ f, f = up2 lg26 (B + 18) z33.toInt.toNat x34 := ⟨_, rfl⟩
              rw [← elg35] at hw
              have hN : Nx 1014 B none kd ig rg lg kd23 ig24 rg25 lg35 := by rw [elg35]; exact hN.pl (by omega)
              have hO : Fo B [15, 17, 18] ig lg ig24 lg35 := by rw [elg35]; exact hO0.pl (by decide)
              clear hO0
              have fz : FZ B ig v2.toInt.toNat lg35 := by rw [elg35]; exact g12_3.put hx34
              have fw : FWz B (fL B ig v2.toInt.toNat) (v22.toInt.toNat + 1) lg35 := by rw [elg35]; exact g12_4.put hx34 (by omega)
              refine tc_inc hx hb dX5_forgetReads_33 hl (k := 0) rfl (by decide) (by decide) (fun z36 hz36 ls hl => ?_)
              first | replace hz36 := hz36 (by omega) | clear hz36
              have hl : lv_has ls 3 [(2, .int z36), (1, .int v2), (0, .ref (B + 15))] := hl
              refine lv_goto (tgt := 12) hx hb dX5_forgetReads_36 (by decide) ?_
              exact ih12 ls H locs kd23 ig24 rg25 lg35 z36 (lv_sub hl [0, 1, 2] rfl) hw hI hN (by omega) (by omega) (by omega) (fz) (by rw [show z36.toInt.toNat = v22.toInt.toNat + 1 by omega]; exact fw) (by omega) (hO) (by omega) (by omega) (by omega)
        exact L12 ((5 - z21.toInt) + 1).toNat ls H locs kd3 ig4 rg5 lg6 z21 (lv_sub hl [0, 1, 2] rfl) hw hI hN (by omega) (by omega) (by omega) (g2_2) (by rw [show z21.toInt.toNat = 0 by omega]; exact FWz.zero) (by omega) (hO) (by omega) (by omega) (by omega)
  exact L2 ((288 - z1.toInt) + 1).toNat ls s.heap [] kd ig rg lg z1 (lv_sub hl [0, 1] rfl) hw hI hN (by omega) (by omega) (by rw [show z1.toInt.toNat = 0 by omega]; exact FZ.zero hLA) (by omega) (hO) (by omega) (by omega) (by omega)

set_option maxHeartbeats 4000000 in
set_option maxRecDepth 100000 in
theorem t_X5_gatherReadsOfE {τ : Tp} (l : Launch) (B : Nat) (D : va_G) (cA : Nat → ClassId) (kd : sK) (ig : sI) (rg : sR) (lg : sG) (sz : Nat) (x : Int32) (g : Nat) (M : Fm) (hM : FnL B kd ig rg g M) (hx0 : 0 ≤ x.toInt ∧ x.toInt < 288) (hft : fitL x.toInt M) (hwf : WfL M) (hI : IC τ B kd ig rg) : MC l B D cA yX5_gatherReadsOf cX5_gatherReadsOf 6 none (rL 3 0 0) [.ref (B + 15), .int x, .ref g] kd ig rg lg sz (PI 1014 τ B none kd ig rg lg (fun r kd' ig' rg' lg' => (r = none ∧ (GRo B x.toInt.toNat (rdT x.toInt M) lg lg' ∧ Fo B [18, 23] ig lg ig' lg')))) := by
  refine MC.of (own := RX5) (by decide +kernel) rfl (Nat.le_of_ble_eq_true rfl) ?_
  intro p e s m args below meth c ls C hr hlk hnm hw hsz hl
  have hx := C.1.1
  have hb := C.1.2.1
  have hown := C.1.2.2.2.1
  have hts := C.1.2.2.2.2
  have hl : lv_has ls 6 [(0, .ref (B + 15)), (1, .int x), (2, .ref g)] := hl
  have hN : Nx 1014 B none kd ig rg lg kd ig rg lg := Nx.rf
  have hsh := hI.sh
  have hrs := hI.rs
  have hO : Fo B [18, 23] ig lg ig lg := Fo.rf
  have lng := hM.le
  refine lv_iconst (v := 0) hx hb dX5_gatherReadsOf_0 (by decide) (ti_c 0 (by decide) fun z1 hz1 => ?_)
  refine lv_istore_n (lv' := [(3, .int z1), (0, .ref (B + 15)), (1, .int x), (2, .ref g)]) hx hb dX5_gatherReadsOf_1 rfl hl (by decide) rfl (fun ls hl => ?_)
  have L2 : ∀ (n : Nat) (ls : Array Slot) (H : Heap) (locs : List Loc) (kd3 : sK) (ig4 : sI) (rg5 : sR) (lg6 : sG) (v2 : Int32), lv_has ls 6 [(3, .int v2), (0, .ref (B + 15)), (1, .int x), (2, .ref g)] → WD B D cA s.heap kd3 ig4 rg5 lg6 H locs → IC τ B kd3 ig4 rg5 → Nx 1014 B none kd ig rg lg kd3 ig4 rg5 lg6 → (0 ≤ v2.toInt) → (v2.toInt ≤ (M.length : Int)) → (GRo B x.toInt.toNat (rdT x.toInt (M.take v2.toInt.toNat)) lg lg6) → (Fo B [18, 23] ig lg ig4 lg6) → (M.length : Int) - v2.toInt < (n : Int) → W p l e (rL 3 0 0) s m args below meth c H locs 0 0 (MQ below (QcW B D cA (PI 1014 τ B none kd ig rg lg (fun r kd' ig' rg' lg' => (r = none ∧ (GRo B x.toInt.toNat (rdT x.toInt M) lg lg' ∧ Fo B [18, 23] ig lg ig' lg'))))) args s 0 0 (fun q => B ≤ q)) (F0 m 2 ls []) := by
    intro n2
    induction n2 with
    | zero => intro ls H locs kd3 ig4 rg5 lg6 v2 hl hw hI hN g2_0 g2_1 g2_2 g2_3 hmu; exact absurd hmu (by omega)
    | succ n2 ih2 =>
      intro ls H locs kd3 ig4 rg5 lg6 v2 hl hw hI hN g2_0 g2_1 g2_2 g2_3 hmu
      have hsh := hI.sh
      have hrs := hI.rs
      have hO := g2_3
      refine lv_iload_n hx hb dX5_gatherReadsOf_2 rfl (lv_at hl 0 rfl) ?_
      refine lv_aload_n hx hb dX5_gatherReadsOf_3 rfl (lv_at hl 3 rfl) ?_
      refine r_callV (As := []) (rest := [.int v2]) C hw (t_X4_size l B D cA kd3 ig4 rg5 lg6 _ g M.length (FnL.F (hM.nx hN))  hI) sv_X5_101 (isFn.k (FnL.F (hM.nx hN))) rfl hl.1 rfl (Nat.le_of_ble_eq_true rfl) ⟨Nat.le_of_ble_eq_true rfl, Nat.le_of_ble_eq_true rfl⟩ ⟨Nat.le_of_ble_eq_true rfl, Nat.le_of_ble_eq_true rfl⟩ dX5_gatherReadsOf_4 (fun r11 kd7 ig8 rg9 lg10 H locs hw hH hp12 => ?_)
      obtain ⟨rfl, rfl, rfl, rfl, hzhp12, hrhp12⟩ := hp12
      obtain ⟨z13, rfl, hz13⟩ := hrhp12
      refine b_ge (tgt := 79) hx hb dX5_gatherReadsOf_7 (by decide) (fun c7 => ?_) (fun c7 => ?_)
      · exact r_vret C hw hr hlk (Nat.le_of_ble_eq_true rfl) (Nat.le_of_ble_eq_true rfl) dX5_gatherReadsOf_79 ⟨hI, hN, ⟨rfl, ⟨(by have q9 := g2_2; rw [show v2.toInt.toNat = M.length by omega, List.take_length] at q9; exact q9), hO⟩⟩⟩
      · refine lv_aload_n hx hb dX5_gatherReadsOf_10 rfl (lv_at hl 3 rfl) ?_
        refine lv_iload_n hx hb dX5_gatherReadsOf_11 rfl (lv_at hl 0 rfl) ?_
        refine r_callV (As := [.int v2]) (rest := []) C hw (t_X4_readsAtE l B D cA kd3 ig4 rg5 lg6 _ g M (hM.nx hN) v2  hI) sv_X5_107 (isFn.k (FnL.F (hM.nx hN))) rfl hl.1 rfl (Nat.le_of_ble_eq_true rfl) ⟨Nat.le_of_ble_eq_true rfl, Nat.le_of_ble_eq_true rfl⟩ ⟨Nat.le_of_ble_eq_true rfl, Nat.le_of_ble_eq_true rfl⟩ dX5_gatherReadsOf_12 (fun r18 kd14 ig15 rg16 lg17 H locs hw hH hp19 => ?_)
        obtain ⟨rfl, rfl, rfl, rfl, hzhp19, hrhp19⟩ := hp19
        obtain ⟨z20, rfl, hz20⟩ := hrhp19
        have rdh := hz20
        have J32 : ∀ (ls : Array Slot) (H : Heap) (locs : List Loc) (kd22 : sK) (ig23 : sI) (rg24 : sR) (lg25 : sG) (u21 : Int32), lv_has ls 6 [(3, .int v2), (0, .ref (B + 15)), (1, .int x), (2, .ref g)] → WD B D cA s.heap kd22 ig23 rg24 lg25 H locs → IC τ B kd22 ig23 rg24 → Nx 1014 B none kd ig rg lg kd22 ig23 rg24 lg25 → (∃ lq : List Int, RdL M x.toInt v2.toInt lq ∧ SpL B 23 lq ig23 u21.toInt) → (GRo B x.toInt.toNat (rdT x.toInt (M.take v2.toInt.toNat)) lg lg25) → (Fo B [18, 23] ig lg ig23 lg25) → W p l e (rL 3 0 0) s m args below meth c H locs 0 0 (MQ below (QcW B D cA (PI 1014 τ B none kd ig rg lg (fun r kd' ig' rg' lg' => (r = none ∧ (GRo B x.toInt.toNat (rdT x.toInt M) lg lg' ∧ Fo B [18, 23] ig lg ig' lg'))))) args s 0 0 (fun q => B ≤ q)) (F0 m 32 ls [.int u21]) := by
          intro ls H locs kd22 ig23 rg24 lg25 u21 hl hw hI hN g32_0 g32_1 g32_2
          have hsh := hI.sh
          have hrs := hI.rs
          have hO := g32_2
          obtain ⟨lq, hlr, hsl⟩ := g32_0
          have hl288 := hlr.2.2
          have hsn := hsl.1
          refine lv_istore (lv' := [(4, .int u21), (3, .int v2), (0, .ref (B + 15)), (1, .int x), (2, .ref g)]) hx hb dX5_gatherReadsOf_32 hl (by decide) rfl (fun ls hl => ?_)
          refine lv_iconst (v := 0) hx hb dX5_gatherReadsOf_34 (by decide) (ti_c 0 (by decide) fun z26 hz26 => ?_)
          refine lv_istore (lv' := [(5, .int z26), (4, .int u21), (3, .int v2), (0, .ref (B + 15)), (1, .int x), (2, .ref g)]) hx hb dX5_gatherReadsOf_35 hl (by decide) rfl (fun ls hl => ?_)
          have L37 : ∀ (n : Nat) (ls : Array Slot) (H : Heap) (locs : List Loc) (kd28 : sK) (ig29 : sI) (rg30 : sR) (lg31 : sG) (v27 : Int32), lv_has ls 6 [(5, .int v27), (4, .int u21), (3, .int v2), (0, .ref (B + 15)), (1, .int x), (2, .ref g)] → WD B D cA s.heap kd28 ig29 rg30 lg31 H locs → IC τ B kd28 ig29 rg30 → Nx 1014 B none kd ig rg lg kd28 ig29 rg30 lg31 → (0 ≤ v27.toInt) → (v27.toInt ≤ u21.toInt) → (SpL B 23 lq ig29 u21.toInt) → (GRo B x.toInt.toNat (fun q => rdT x.toInt (M.take v2.toInt.toNat) q ∨ (q : Int) ∈ lq.take v27.toInt.toNat) lg lg31) → (Fo B [18, 23] ig lg ig29 lg31) → u21.toInt - v27.toInt < (n : Int) → W p l e (rL 3 0 0) s m args below meth c H locs 0 0 (MQ below (QcW B D cA (PI 1014 τ B none kd ig rg lg (fun r kd' ig' rg' lg' => (r = none ∧ (GRo B x.toInt.toNat (rdT x.toInt M) lg lg' ∧ Fo B [18, 23] ig lg ig' lg'))))) args s 0 0 (fun q => B ≤ q)) (F0 m 37 ls []) := by
            intro n37
            induction n37 with
            | zero => intro ls H locs kd28 ig29 rg30 lg31 v27 hl hw hI hN g37_0 g37_1 g37_2 g37_3 g37_4 hmu; exact absurd hmu (by omega)
            | succ n37 ih37 =>
              intro ls H locs kd28 ig29 rg30 lg31 v27 hl hw hI hN g37_0 g37_1 g37_2 g37_3 g37_4 hmu
              have hsh := hI.sh
              have hrs := hI.rs
              have hO := g37_4
              refine lv_iload hx hb dX5_gatherReadsOf_37 (lv_at hl 0 rfl) ?_
              refine lv_iload hx hb dX5_gatherReadsOf_39 (lv_at hl 1 rfl) ?_
              refine b_ge (tgt := 73) hx hb dX5_gatherReadsOf_41 (by decide) (fun c41 => ?_) (fun c41 => ?_)
              · refine tc_inc hx hb dX5_gatherReadsOf_73 hl (k := 2) rfl (by decide) (by decide) (fun z32 hz32 ls hl => ?_)
                first | replace hz32 := hz32 (by omega) | clear hz32
                have hl : lv_has ls 6 [(3, .int z32), (5, .int v27), (4, .int u21), (0, .ref (B + 15)), (1, .int x), (2, .ref g)] := hl
                refine lv_goto (tgt := 2) hx hb dX5_gatherReadsOf_76 (by decide) ?_
                exact ih2 ls H locs kd28 ig29 rg30 lg31 z32 (lv_sub hl [0, 3, 4, 5] rfl) hw hI hN (by omega) (by omega) (by rw [show z32.toInt.toNat = v2.toInt.toNat + 1 by omega]; exact g37_3.eqS (fun q => by rw [show v27.toInt.toNat = lq.length by omega, List.take_length]; exact rdT_s (by omega) (by rw [show ((v2.toInt.toNat : Nat) : Int) = v2.toInt by omega]; exact hlr))) (hO) (by omega)
              · refine lv_iload hx hb dX5_gatherReadsOf_44 (lv_at hl 0 rfl) ?_
                refine lv_sipush (v := 288) hx hb dX5_gatherReadsOf_46 (by decide) (ti_c 288 (by decide) fun z33 hz33 => ?_)
                refine b_ge (tgt := 73) hx hb dX5_gatherReadsOf_49 (by decide) (fun c49 => ?_) (fun c49 => ?_)
                · exact absurd c49 (by omega)
                · refine lv_aload_n hx hb dX5_gatherReadsOf_52 rfl (lv_at hl 3 rfl) ?_
                  refine r_get C hw (hsh 15 _ rfl) fl_X5_23 (oV_r rfl (hrs (15, 4, 18) (by decide))) dX5_gatherReadsOf_53 ?_
                  refine lv_iload_n hx hb dX5_gatherReadsOf_56 rfl (lv_at hl 4 rfl) ?_
                  refine lv_aload_n hx hb dX5_gatherReadsOf_57 rfl (lv_at hl 3 rfl) ?_
                  refine r_get C hw (hsh 15 _ rfl) fl_X5_39 (oV_r rfl (hrs (15, 10, 23) (by decide))) dX5_gatherReadsOf_58 ?_
                  refine lv_iload hx hb dX5_gatherReadsOf_61 (lv_at hl 0 rfl) ?_
                  refine r_iald C hw (hsh 23 _ rfl) (by omega) (by omega) dX5_gatherReadsOf_63 (ti_c (ig29 (B + 23) v27.toInt.toNat).toInt rfl fun z34 hz34 => ?_)
                  obtain ⟨hkl, hsk⟩ := g37_2.at (k := v27.toInt.toNat) (by omega)
                  have hq9 := hlr.2.1 _ (List.getElem_mem hkl)
                  have hzq : z34.toInt = lq[v27.toInt.toNat] := by rw [hz34]; exact hsk
                  refine r_callN (As := [.ref (B + 18), .int x, .int z34]) (rest := []) C hw (t_X11_setBitE l B D cA kd28 ig29 rg30 lg31 _ 18 (Or.inl rfl) (nWl.lit (by decide)) x z34 ⟨by omega, by omega⟩ hI) sn_X5_93 rfl hl.1 rfl (Nat.le_of_ble_eq_true rfl) ⟨Nat.le_of_ble_eq_true rfl, Nat.le_of_ble_eq_true rfl⟩ ⟨Nat.le_of_ble_eq_true rfl, Nat.le_of_ble_eq_true rfl⟩ dX5_gatherReadsOf_64 (fun r39 kd35 ig36 rg37 lg38 H locs hw hH hp40 => ?_)
                  obtain ⟨hI, hchp40, hrhp40⟩ := hp40
                  have hN := hN.tr hchp40
                  have hsh := hI.sh
                  have hrs := hI.rs
                  obtain ⟨rfl, hvhp40⟩ := hrhp40
                  obtain ⟨phvhp40, ohvhp40, khvhp40_0⟩ := hvhp40
                  have hO := hO.tr ohvhp40
                  have gr2 := g37_3.nx hkl phvhp40 (by omega)
                  have sp2 := g37_2.ag (fun j => ohvhp40.i 23 j)
                  refine tc_inc hx hb dX5_gatherReadsOf_67 hl (k := 0) rfl (by decide) (by decide) (fun z41 hz41 ls hl => ?_)
                  first | replace hz41 := hz41 (by omega) | clear hz41
                  have hl : lv_has ls 6 [(5, .int z41), (4, .int u21), (3, .int v2), (0, .ref (B + 15)), (1, .int x), (2, .ref g)] := hl
                  refine lv_goto (tgt := 37) hx hb dX5_gatherReadsOf_70 (by decide) ?_
                  exact ih37 ls H locs kd35 ig36 rg37 lg38 z41 (lv_sub hl [0, 1, 2, 3, 4, 5] rfl) hw hI hN (by omega) (by omega) (sp2) (by rw [show z41.toInt.toNat = v27.toInt.toNat + 1 by omega]; exact gr2) (hO) (by omega)
          exact L37 ((u21.toInt - z26.toInt) + 1).toNat ls H locs kd22 ig23 rg24 lg25 z26 (lv_sub hl [0, 1, 2, 3, 4, 5] rfl) hw hI hN (by omega) (by omega) (hsl) (g32_1.eqS (fun q => by rw [show z26.toInt.toNat = 0 by omega]; simp)) (hO) (by omega)
        refine z_eq (tgt := 31) hx hb dX5_gatherReadsOf_15 (by decide) (fun c15 => ?_) (fun c15 => ?_)
        · have nr9 := by0 rdh (by omega)
          refine lv_iconst (v := 0) hx hb dX5_gatherReadsOf_31 (by decide) (ti_c 0 (by decide) fun z42 hz42 => ?_)
          exact J32 ls H locs kd3 ig4 rg5 lg6 z42 (lv_sub hl [0, 1, 2, 3] rfl) hw hI hN (⟨[], RdL.no nr9, SpL.nil (by omega)⟩) (g2_2) (hO)
        · have rd9 := by1 rdh (by omega)
          refine lv_aload_n hx hb dX5_gatherReadsOf_18 rfl (lv_at hl 3 rfl) ?_
          refine lv_iload_n hx hb dX5_gatherReadsOf_19 rfl (lv_at hl 0 rfl) ?_
          refine lv_iload_n hx hb dX5_gatherReadsOf_20 rfl (lv_at hl 2 rfl) ?_
          refine lv_aload_n hx hb dX5_gatherReadsOf_21 rfl (lv_at hl 1 rfl) ?_
          refine r_get C hw (hsh 15 _ rfl) fl_X5_39 (oV_r rfl (hrs (15, 10, 23) (by decide))) dX5_gatherReadsOf_22 ?_
          refine r_callV (As := [.int v2, .int x, .ref (B + 23)]) (rest := []) C hw (t_X4_listPlacesE l B D cA kd3 ig4 rg5 lg6 _ g M (hM.nx hN) v2 x 23 (Or.inl rfl) (by omega) (by omega) (hwf.at (by omega) (by omega) rd9) (hft _ (stp_mem (L := M) (x := v2.toInt) (by omega) (by omega)) rd9) hI) sv_X5_110 (isFn.k (FnL.F (hM.nx hN))) rfl hl.1 rfl (Nat.le_of_ble_eq_true rfl) ⟨Nat.le_of_ble_eq_true rfl, Nat.le_of_ble_eq_true rfl⟩ ⟨Nat.le_of_ble_eq_true rfl, Nat.le_of_ble_eq_true rfl⟩ dX5_gatherReadsOf_25 (fun r47 kd43 ig44 rg45 lg46 H locs hw hH hp48 => ?_)
          obtain ⟨hI, hchp48, hrhp48⟩ := hp48
          have hN := hN.tr hchp48
          have hsh := hI.sh
          have hrs := hI.rs
          obtain ⟨z49, rfl, hz49⟩ := hrhp48
          obtain ⟨phz49, ohz49, khz49_0⟩ := hz49
          have hO := hO.tr ohz49
          refine lv_goto (tgt := 32) hx hb dX5_gatherReadsOf_28 (by decide) ?_
          exact J32 ls H locs kd43 ig44 rg45 lg46 z49 (lv_sub hl [0, 1, 2, 3] rfl) hw hI hN (⟨_, RdL.yes rd9 (hft _ (stp_mem (L := M) (x := v2.toInt) (by omega) (by omega)) rd9), phz49⟩) (g2_2.ag (fun j => ohz49.l 18 j)) (hO)
  exact L2 (((M.length : Int) - z1.toInt) + 1).toNat ls s.heap [] kd ig rg lg z1 (lv_sub hl [0, 1, 2, 3] rfl) hw hI hN (by omega) (by omega) (by rw [show z1.toInt.toNat = 0 by omega, List.take_zero]; exact GRo.zero (fun q => rdT_nil)) (hO) (by omega)

set_option maxHeartbeats 4000000 in
set_option maxRecDepth 100000 in
theorem t_X5_gatherReadsE {τ : Tp} (l : Launch) (B : Nat) (D : va_G) (cA : Nat → ClassId) (kd : sK) (ig : sI) (rg : sR) (lg : sG) (sz : Nat) (σ : Sg) (π : Ps) (ν : Nat) (hS : SCh B σ π ν kd ig rg) (hW : WS σ π) (hzr : FRz B lg) (hzs : FSz B 5 lg) (hzc : (ig (B + 15) 2).toInt = 0) (hI : IC τ B kd ig rg) : MC l B D cA yX5_gatherReads cX5_gatherReads 3 none (rL 4 0 0) [.ref (B + 15)] kd ig rg lg sz (PI 1014 τ B none kd ig rg lg (fun r kd' ig' rg' lg' => (r = none ∧ (GR B σ 288 ig' lg' ∧ Fo B [15, 16, 17, 18, 20, 21, 23] ig lg ig' lg' ∧ (ig' (B + 15) 9).toInt = (ig (B + 15) 9).toInt ∧ (ig' (B + 15) 11).toInt = (ig (B + 15) 11).toInt)))) := by
  refine MC.of (own := RX5) (by decide +kernel) rfl (Nat.le_of_ble_eq_true rfl) ?_
  intro p e s m args below meth c ls C hr hlk hnm hw hsz hl
  have hx := C.1.1
  have hb := C.1.2.1
  have hown := C.1.2.2.2.1
  have hts := C.1.2.2.2.2
  have hl : lv_has ls 3 [(0, .ref (B + 15))] := hl
  have hN : Nx 1014 B none kd ig rg lg kd ig rg lg := Nx.rf
  have hsh := hI.sh
  have hrs := hI.rs
  have hO : Fo B [15, 16, 17, 18, 20, 21, 23] ig lg ig lg := Fo.rf
  refine lv_iconst (v := 0) hx hb dX5_gatherReads_0 (by decide) (ti_c 0 (by decide) fun z1 hz1 => ?_)
  refine lv_istore_n (lv' := [(1, .int z1), (0, .ref (B + 15))]) hx hb dX5_gatherReads_1 rfl hl (by decide) rfl (fun ls hl => ?_)
  have L2 : ∀ (n : Nat) (ls : Array Slot) (H : Heap) (locs : List Loc) (kd3 : sK) (ig4 : sI) (rg5 : sR) (lg6 : sG) (v2 : Int32), lv_has ls 3 [(1, .int v2), (0, .ref (B + 15))] → WD B D cA s.heap kd3 ig4 rg5 lg6 H locs → IC τ B kd3 ig4 rg5 → Nx 1014 B none kd ig rg lg kd3 ig4 rg5 lg6 → (0 ≤ v2.toInt) → (v2.toInt ≤ 288) → (GR B σ v2.toInt.toNat ig4 lg6) → (Fo B [15, 16, 17, 18, 20, 21, 23] ig lg ig4 lg6) → ((ig4 (B + 15) 9).toInt = (ig (B + 15) 9).toInt) → ((ig4 (B + 15) 11).toInt = (ig (B + 15) 11).toInt) → 288 - v2.toInt < (n : Int) → W p l e (rL 4 0 0) s m args below meth c H locs 0 0 (MQ below (QcW B D cA (PI 1014 τ B none kd ig rg lg (fun r kd' ig' rg' lg' => (r = none ∧ (GR B σ 288 ig' lg' ∧ Fo B [15, 16, 17, 18, 20, 21, 23] ig lg ig' lg' ∧ (ig' (B + 15) 9).toInt = (ig (B + 15) 9).toInt ∧ (ig' (B + 15) 11).toInt = (ig (B + 15) 11).toInt))))) args s 0 0 (fun q => B ≤ q)) (F0 m 2 ls []) := by
    intro n2
    induction n2 with
    | zero => intro ls H locs kd3 ig4 rg5 lg6 v2 hl hw hI hN g2_0 g2_1 g2_2 g2_3 g2_4 g2_5 hmu; exact absurd hmu (by omega)
    | succ n2 ih2 =>
      intro ls H locs kd3 ig4 rg5 lg6 v2 hl hw hI hN g2_0 g2_1 g2_2 g2_3 g2_4 g2_5 hmu
      have hsh := hI.sh
      have hrs := hI.rs
      have hO := g2_3
      refine lv_iload_n hx hb dX5_gatherReads_2 rfl (lv_at hl 0 rfl) ?_
      refine lv_sipush (v := 288) hx hb dX5_gatherReads_3 (by decide) (ti_c 288 (by decide) fun z7 hz7 => ?_)
      refine b_ge (tgt := 87) hx hb dX5_gatherReads_6 (by decide) (fun c6 => ?_) (fun c6 => ?_)
      · exact r_vret C hw hr hlk (Nat.le_of_ble_eq_true rfl) (Nat.le_of_ble_eq_true rfl) dX5_gatherReads_87 ⟨hI, hN, ⟨rfl, ⟨(by have q9 := g2_2; rw [show v2.toInt.toNat = 288 by omega] at q9; exact q9), hO, by omega, by omega⟩⟩⟩
      · refine lv_aload_n hx hb dX5_gatherReads_9 rfl (lv_at hl 1 rfl) ?_
        refine r_get C hw (hsh 15 _ rfl) fl_X5_29 (oV_r rfl (hrs (15, 6, 20) (by decide))) dX5_gatherReads_10 ?_
        refine lv_iload_n hx hb dX5_gatherReads_13 rfl (lv_at hl 0 rfl) ?_
        refine lv_iconst (v := 0) hx hb dX5_gatherReads_14 (by decide) (ti_c 0 (by decide) fun z8 hz8 => ?_)
        refine r_zast C hw (hsh 20 _ rfl) (by omega) (by omega) (nar_b (by omega)) dX5_gatherReads_15 (fun H locs hH hw => ?_)
        have hO0 := hO
        obtain ⟨ig9, eig9⟩ : ∃ f, f = up2 ig4 (B + 20) v2.toInt.toNat z8 := ⟨_, rfl⟩
        rw [← eig9] at hw
        have hN : Nx 1014 B none kd ig rg lg kd3 ig9 rg5 lg6 := by rw [eig9]; exact hN.pi (by omega)
        have hI : IC τ B kd3 ig9 rg5 := by rw [eig9]; exact hI.pi (show okR none _ from trivial)
        have wig9_15_2 : (ig9 (B + 15) 2).toInt = (ig4 (B + 15) 2).toInt := by rw [eig9, up2_a (by omega)]
        have wig9_15_9 : (ig9 (B + 15) 9).toInt = (ig4 (B + 15) 9).toInt := by rw [eig9, up2_a (by omega)]
        have wig9_15_11 : (ig9 (B + 15) 11).toInt = (ig4 (B + 15) 11).toInt := by rw [eig9, up2_a (by omega)]
        have hO : Fo B [15, 16, 17, 18, 20, 21, 23] ig lg ig9 lg6 := by rw [eig9]; exact hO0.pi (by decide)
        clear hO0
        have gr : GR B σ v2.toInt.toNat ig9 lg6 := by rw [eig9]; exact g2_2.ag (up2_a (by omega)) (fun i => up2_a (by omega)) (fun p hp => up2_j (by omega)) (fun p hp => up2_a (by omega))
        have z20 : (ig9 (B + 20) v2.toInt.toNat).toInt = 0 := by rw [eig9, up2_eq]; omega
        refine lv_aload_n hx hb dX5_gatherReads_16 rfl (lv_at hl 1 rfl) ?_
        refine r_get C hw (hsh 15 _ rfl) fl_X5_33 (oV_r rfl (hrs (15, 7, 21) (by decide))) dX5_gatherReads_17 ?_
        refine lv_iload_n hx hb dX5_gatherReads_20 rfl (lv_at hl 0 rfl) ?_
        refine lv_iconst (v := 0) hx hb dX5_gatherReads_21 (by decide) (ti_c 0 (by decide) fun z10 hz10 => ?_)
        refine r_iast C hw (hsh 21 _ rfl) (by omega) (by omega) dX5_gatherReads_22 (fun H locs hH hw => ?_)
        have hO0 := hO
        obtain ⟨ig11, eig11⟩ : ∃ f, f = up2 ig9 (B + 21) v2.toInt.toNat z10 := ⟨_, rfl⟩
        rw [← eig11] at hw
        have hN : Nx 1014 B none kd ig rg lg kd3 ig11 rg5 lg6 := by rw [eig11]; exact hN.pi (by omega)
        have hI : IC τ B kd3 ig11 rg5 := by rw [eig11]; exact hI.pi (show okR none _ from trivial)
        have wig11_15_2 : (ig11 (B + 15) 2).toInt = (ig9 (B + 15) 2).toInt := by rw [eig11, up2_a (by omega)]
        have wig11_15_9 : (ig11 (B + 15) 9).toInt = (ig9 (B + 15) 9).toInt := by rw [eig11, up2_a (by omega)]
        have wig11_15_11 : (ig11 (B + 15) 11).toInt = (ig9 (B + 15) 11).toInt := by rw [eig11, up2_a (by omega)]
        have hO : Fo B [15, 16, 17, 18, 20, 21, 23] ig lg ig11 lg6 := by rw [eig11]; exact hO0.pi (by decide)
        clear hO0
        have gr : GR B σ v2.toInt.toNat ig11 lg6 := by rw [eig11]; exact gr.ag (up2_a (by omega)) (fun i => up2_a (by omega)) (fun p hp => up2_a (by omega)) (fun p hp => up2_j (by omega))
        have z20 : (ig11 (B + 20) v2.toInt.toNat).toInt = 0 := by rw [eig11, up2_a (by omega)]; exact z20
        have z21 : (ig11 (B + 21) v2.toInt.toNat).toInt = 0 := by rw [eig11, up2_eq]; omega
        refine lv_aload_n hx hb dX5_gatherReads_23 rfl (lv_at hl 1 rfl) ?_
        refine r_get C hw (hsh 15 _ rfl) fl_X5_9 (oV_r rfl (hrs (15, 0, 9) (by decide))) dX5_gatherReads_24 ?_
        refine lv_iload_n hx hb dX5_gatherReads_27 rfl (lv_at hl 0 rfl) ?_
        refine r_callV (As := [.int v2]) (rest := []) C hw (t_X6_formulaAtE l B D cA kd3 ig11 rg5 lg6 _ v2 σ π ν (hS.nx hN) hI) sv_X5_89 (hsh 9 _ rfl) rfl hl.1 rfl (Nat.le_of_ble_eq_true rfl) ⟨Nat.le_of_ble_eq_true rfl, Nat.le_of_ble_eq_true rfl⟩ ⟨Nat.le_of_ble_eq_true rfl, Nat.le_of_ble_eq_true rfl⟩ dX5_gatherReads_28 (fun r16 kd12 ig13 rg14 lg15 H locs hw hH hp17 => ?_)
        obtain ⟨rfl, rfl, rfl, rfl, hzhp17, hrhp17⟩ := hp17
        rcases hrhp17 with ⟨rfl, nkf18⟩ | ⟨f18, rfl, nkf18, hLf18⟩
        · refine lv_astore_nN (lv' := [(2, .null), (1, .int v2), (0, .ref (B + 15))]) hx hb dX5_gatherReads_31 rfl hl (by decide) rfl (fun ls hl => ?_)
          refine lv_aload_nN hx hb dX5_gatherReads_32 rfl (lv_at hl 0 rfl) ?_
          have J81 : ∀ (ls : Array Slot) (H : Heap) (locs : List Loc) (kd19 : sK) (ig20 : sI) (rg21 : sR) (lg22 : sG) , lv_has ls 3 [(1, .int v2), (0, .ref (B + 15))] → WD B D cA s.heap kd19 ig20 rg21 lg22 H locs → IC τ B kd19 ig20 rg21 → Nx 1014 B none kd ig rg lg kd19 ig20 rg21 lg22 → (GR B σ (v2.toInt.toNat + 1) ig20 lg22) → (Fo B [15, 16, 17, 18, 20, 21, 23] ig lg ig20 lg22) → ((ig20 (B + 15) 9).toInt = (ig (B + 15) 9).toInt) → ((ig20 (B + 15) 11).toInt = (ig (B + 15) 11).toInt) → W p l e (rL 4 0 0) s m args below meth c H locs 0 0 (MQ below (QcW B D cA (PI 1014 τ B none kd ig rg lg (fun r kd' ig' rg' lg' => (r = none ∧ (GR B σ 288 ig' lg' ∧ Fo B [15, 16, 17, 18, 20, 21, 23] ig lg ig' lg' ∧ (ig' (B + 15) 9).toInt = (ig (B + 15) 9).toInt ∧ (ig' (B + 15) 11).toInt = (ig (B + 15) 11).toInt))))) args s 0 0 (fun q => B ≤ q)) (F0 m 81 ls []) := by
            intro ls H locs kd19 ig20 rg21 lg22 hl hw hI hN g81_0 g81_1 g81_2 g81_3
            have hsh := hI.sh
            have hrs := hI.rs
            have hO := g81_1
            refine tc_inc hx hb dX5_gatherReads_81 hl (k := 0) rfl (by decide) (by decide) (fun z23 hz23 ls hl => ?_)
            first | replace hz23 := hz23 (by omega) | clear hz23
            have hl : lv_has ls 3 [(1, .int z23), (0, .ref (B + 15))] := hl
            refine lv_goto (tgt := 2) hx hb dX5_gatherReads_84 (by decide) ?_
            exact ih2 ls H locs kd19 ig20 rg21 lg22 z23 (lv_sub hl [0, 1] rfl) hw hI hN (by omega) (by omega) (by rw [show z23.toInt.toNat = v2.toInt.toNat + 1 by omega]; exact g81_0) (hO) (by omega) (by omega) (by omega)
          refine lv_ifnullN (tgt := 81) hx hb dX5_gatherReads_33 (by decide) ?_
          exact J81 ls H locs kd3 ig11 rg5 lg6 (lv_sub hl [1, 2] rfl) hw hI hN (gr.no (fun w => nkf18 (by rw [atC_on (by omega)]; exact w.2)) z20 z21) (hO) (by omega) (by omega)
        · have lf18 := hLf18.le
          refine lv_astore_n (lv' := [(2, .ref f18), (1, .int v2), (0, .ref (B + 15))]) hx hb dX5_gatherReads_31 rfl hl (by decide) rfl (fun ls hl => ?_)
          refine lv_aload_n hx hb dX5_gatherReads_32 rfl (lv_at hl 0 rfl) ?_
          have J81 : ∀ (ls : Array Slot) (H : Heap) (locs : List Loc) (kd24 : sK) (ig25 : sI) (rg26 : sR) (lg27 : sG) , lv_has ls 3 [(1, .int v2), (0, .ref (B + 15))] → WD B D cA s.heap kd24 ig25 rg26 lg27 H locs → IC τ B kd24 ig25 rg26 → Nx 1014 B none kd ig rg lg kd24 ig25 rg26 lg27 → (GR B σ (v2.toInt.toNat + 1) ig25 lg27) → (Fo B [15, 16, 17, 18, 20, 21, 23] ig lg ig25 lg27) → ((ig25 (B + 15) 9).toInt = (ig (B + 15) 9).toInt) → ((ig25 (B + 15) 11).toInt = (ig (B + 15) 11).toInt) → W p l e (rL 4 0 0) s m args below meth c H locs 0 0 (MQ below (QcW B D cA (PI 1014 τ B none kd ig rg lg (fun r kd' ig' rg' lg' => (r = none ∧ (GR B σ 288 ig' lg' ∧ Fo B [15, 16, 17, 18, 20, 21, 23] ig lg ig' lg' ∧ (ig' (B + 15) 9).toInt = (ig (B + 15) 9).toInt ∧ (ig' (B + 15) 11).toInt = (ig (B + 15) 11).toInt))))) args s 0 0 (fun q => B ≤ q)) (F0 m 81 ls []) := by
            intro ls H locs kd24 ig25 rg26 lg27 hl hw hI hN g81_0 g81_1 g81_2 g81_3
            have hsh := hI.sh
            have hrs := hI.rs
            have hO := g81_1
            refine tc_inc hx hb dX5_gatherReads_81 hl (k := 0) rfl (by decide) (by decide) (fun z28 hz28 ls hl => ?_)
            first | replace hz28 := hz28 (by omega) | clear hz28
            have hl : lv_has ls 3 [(1, .int z28), (0, .ref (B + 15))] := hl
            refine lv_goto (tgt := 2) hx hb dX5_gatherReads_84 (by decide) ?_
            exact ih2 ls H locs kd24 ig25 rg26 lg27 z28 (lv_sub hl [0, 1] rfl) hw hI hN (by omega) (by omega) (by rw [show z28.toInt.toNat = v2.toInt.toNat + 1 by omega]; exact g81_0) (hO) (by omega) (by omega) (by omega)
          refine lv_ifnull hx hb dX5_gatherReads_33 ?_
          have hfo : fo σ v2.toInt.toNat := ⟨by omega, by rw [← atC_on (σ := σ) (x := v2.toInt) (by omega)]; exact nkf18⟩
          have wf9 := hW.wf nkf18
          have hle := gr.fn
          unfold fN at hle
          refine lv_aload_n hx hb dX5_gatherReads_36 rfl (lv_at hl 2 rfl) ?_
          refine r_get C hw (hsh 15 _ rfl) fl_X5_58 (oV_i rfl) dX5_gatherReads_37 (ti_c (ig11 (B + 15) 2).toInt rfl fun z29 hz29 => ?_)
          have k30 : 0 ≤ (ig11 (B + 15) 2).toInt ∧ (ig11 (B + 15) 2).toInt ≤ 288 := hI.i 15 2 (by decide)
          refine lv_sipush (v := 288) hx hb dX5_gatherReads_40 (by decide) (ti_c 288 (by decide) fun z31 hz31 => ?_)
          refine b_ge (tgt := 81) hx hb dX5_gatherReads_43 (by decide) (fun c43 => ?_) (fun c43 => ?_)
          · exact absurd c43 (by omega)
          · refine lv_aload_n hx hb dX5_gatherReads_46 rfl (lv_at hl 2 rfl) ?_
            refine r_get C hw (hsh 15 _ rfl) fl_X5_15 (oV_r rfl (hrs (15, 1, 16) (by decide))) dX5_gatherReads_47 ?_
            refine lv_aload_n hx hb dX5_gatherReads_50 rfl (lv_at hl 2 rfl) ?_
            refine r_get C hw (hsh 15 _ rfl) fl_X5_58 (oV_i rfl) dX5_gatherReads_51 (ti_c (ig11 (B + 15) 2).toInt rfl fun z32 hz32 => ?_)
            have k33 : 0 ≤ (ig11 (B + 15) 2).toInt ∧ (ig11 (B + 15) 2).toInt ≤ 288 := hI.i 15 2 (by decide)
            refine lv_iload_n hx hb dX5_gatherReads_54 rfl (lv_at hl 1 rfl) ?_
            refine r_iast C hw (hsh 16 _ rfl) (by omega) (by omega) dX5_gatherReads_55 (fun H locs hH hw => ?_)
            have hO0 := hO
            obtain ⟨ig34, eig34⟩ : ∃ f, f = up2 ig11 (B + 16) z32.toInt.toNat v2 := ⟨_, rfl⟩
            rw [← eig34] at hw
            have hN : Nx 1014 B none kd ig rg lg kd3 ig34 rg5 lg6 := by rw [eig34]; exact hN.pi (by omega)
            have hI : IC τ B kd3 ig34 rg5 := by rw [eig34]; exact hI.pi (show okR (some (0, 287)) _ from ⟨by show (0 : Int) ≤ _; omega, by show _ ≤ (287 : Int); omega⟩)
            have wig34_15_2 : (ig34 (B + 15) 2).toInt = (ig11 (B + 15) 2).toInt := by rw [eig34, up2_a (by omega)]
            have wig34_15_9 : (ig34 (B + 15) 9).toInt = (ig11 (B + 15) 9).toInt := by rw [eig34, up2_a (by omega)]
            have wig34_15_11 : (ig34 (B + 15) 11).toInt = (ig11 (B + 15) 11).toInt := by rw [eig34, up2_a (by omega)]
            have hO : Fo B [15, 16, 17, 18, 20, 21, 23] ig lg ig34 lg6 := by rw [eig34]; exact hO0.pi (by decide)
            clear hO0
            have hLf18 : FnL B kd3 ig34 rg5 f18 (fmO (atC σ v2.toInt)) := by rw [eig34]; exact FnL.ag hLf18 (fun a j ha => up2_a (by omega)) (fun _ _ _ => rfl)
            refine lv_aload_n hx hb dX5_gatherReads_56 rfl (lv_at hl 2 rfl) ?_
            refine lv_dup hx hb dX5_gatherReads_57 rfl ?_
            refine r_get C hw (hsh 15 _ rfl) fl_X5_58 (oV_i rfl) dX5_gatherReads_58 (ti_c (ig34 (B + 15) 2).toInt rfl fun z35 hz35 => ?_)
            have k36 : 0 ≤ (ig34 (B + 15) 2).toInt ∧ (ig34 (B + 15) 2).toInt ≤ 288 := hI.i 15 2 (by decide)
            refine lv_iconst (v := 1) hx hb dX5_gatherReads_61 (by decide) (ti_c 1 (by decide) fun z37 hz37 => ?_)
            refine lv_iadd hx hb dX5_gatherReads_62 (tc_add fun z38 hz38 => ?_)
            first | replace hz38 := hz38 (by omega) | clear hz38
            refine r_puti C hw (hsh 15 _ rfl) fl_X5_58 rfl rfl rfl dX5_gatherReads_63 (fun H locs hH hw => ?_)
            have hO0 := hO
            obtain ⟨ig39, eig39⟩ : ∃ f, f = up2 ig34 (B + 15) 2 z38 := ⟨_, rfl⟩
            rw [← eig39] at hw
            have hN : Nx 1014 B none kd ig rg lg kd3 ig39 rg5 lg6 := by rw [eig39]; exact hN.pi (by omega)
            have hI : IC τ B kd3 ig39 rg5 := by rw [eig39]; exact hI.pi (show okR (some (0, 288)) _ from ⟨by show (0 : Int) ≤ _; omega, by show _ ≤ (288 : Int); omega⟩)
            have wig39 : (ig39 (B + 15) 2).toInt = z38.toInt := by rw [eig39, up2_eq]
            have wig39_15_9 : (ig39 (B + 15) 9).toInt = (ig34 (B + 15) 9).toInt := by rw [eig39, up2_j (by decide)]
            have wig39_15_11 : (ig39 (B + 15) 11).toInt = (ig34 (B + 15) 11).toInt := by rw [eig39, up2_j (by decide)]
            have hO : Fo B [15, 16, 17, 18, 20, 21, 23] ig lg ig39 lg6 := by rw [eig39]; exact hO0.pi (by decide)
            clear hO0
            have hLf18 : FnL B kd3 ig39 rg5 f18 (fmO (atC σ v2.toInt)) := by rw [eig39]; exact FnL.ag hLf18 (fun a j ha => up2_a (by omega)) (fun _ _ _ => rfl)
            refine lv_aload_n hx hb dX5_gatherReads_66 rfl (lv_at hl 2 rfl) ?_
            refine r_get C hw (hsh 15 _ rfl) fl_X5_19 (oV_r rfl (hrs (15, 3, 17) (by decide))) dX5_gatherReads_67 ?_
            refine lv_iconst (v := 0) hx hb dX5_gatherReads_70 (by decide) (ti_c 0 (by decide) fun z40 hz40 => ?_)
            refine lv_iload_n hx hb dX5_gatherReads_71 rfl (lv_at hl 1 rfl) ?_
            refine r_callN (As := [.ref (B + 17), .int z40, .int v2]) (rest := []) C hw (t_X11_setBit5E l B D cA kd3 ig39 rg5 lg6 _ z40 v2 (by omega) (by omega) hI) sn_X5_93 rfl hl.1 rfl (Nat.le_of_ble_eq_true rfl) ⟨Nat.le_of_ble_eq_true rfl, Nat.le_of_ble_eq_true rfl⟩ ⟨Nat.le_of_ble_eq_true rfl, Nat.le_of_ble_eq_true rfl⟩ dX5_gatherReads_72 (fun r45 kd41 ig42 rg43 lg44 H locs hw hH hp46 => ?_)
            obtain ⟨hI, hchp46, hrhp46⟩ := hp46
            have hLf18 := FnL.nx hLf18 hchp46
            have hN := hN.tr hchp46
            have hsh := hI.sh
            have hrs := hI.rs
            obtain ⟨rfl, hvhp46⟩ := hrhp46
            obtain ⟨phvhp46, ohvhp46⟩ := hvhp46
            have hO := hO.tr ohvhp46
            have kwhvhp46_15_2 : (ig42 (B + 15) 2).toInt = (ig39 (B + 15) 2).toInt := by rw [ohvhp46.i 15 2]
            have kwhvhp46_15_9 : (ig42 (B + 15) 9).toInt = (ig39 (B + 15) 9).toInt := by rw [ohvhp46.i 15 9]
            have kwhvhp46_15_11 : (ig42 (B + 15) 11).toInt = (ig39 (B + 15) 11).toInt := by rw [ohvhp46.i 15 11]
            refine lv_aload_n hx hb dX5_gatherReads_75 rfl (lv_at hl 2 rfl) ?_
            refine lv_iload_n hx hb dX5_gatherReads_76 rfl (lv_at hl 1 rfl) ?_
            refine lv_aload_n hx hb dX5_gatherReads_77 rfl (lv_at hl 0 rfl) ?_
            refine r_callV (As := [.int v2, .ref f18]) (rest := []) C hw (t_X5_gatherReadsOfE l B D cA kd41 ig42 rg43 lg44 _ v2 f18 (fmO (atC σ v2.toInt)) hLf18 (by omega) wf9.1 wf9.2 hI) sv_X5_97 (hsh 15 _ rfl) rfl hl.1 rfl (Nat.le_of_ble_eq_true rfl) ⟨Nat.le_of_ble_eq_true rfl, Nat.le_of_ble_eq_true rfl⟩ ⟨Nat.le_of_ble_eq_true rfl, Nat.le_of_ble_eq_true rfl⟩ dX5_gatherReads_78 (fun r51 kd47 ig48 rg49 lg50 H locs hw hH hp52 => ?_)
            obtain ⟨hI, hchp52, hrhp52⟩ := hp52
            have hN := hN.tr hchp52
            have hsh := hI.sh
            have hrs := hI.rs
            obtain ⟨rfl, hvhp52⟩ := hrhp52
            obtain ⟨phvhp52, ohvhp52⟩ := hvhp52
            have hO := hO.tr ohvhp52
            have kwhvhp52_15_2 : (ig48 (B + 15) 2).toInt = (ig42 (B + 15) 2).toInt := by rw [ohvhp52.i 15 2]
            have kwhvhp52_15_9 : (ig48 (B + 15) 9).toInt = (ig42 (B + 15) 9).toInt := by rw [ohvhp52.i 15 9]
            have kwhvhp52_15_11 : (ig48 (B + 15) 11).toInt = (ig42 (B + 15) 11).toInt := by rw [ohvhp52.i 15 11]
            have e16 : ∀ i, ig48 (B + 16) i = up2 ig11 (B + 16) z32.toInt.toNat v2 (B + 16) i := fun i => by rw [ohvhp52.i 16 _, ohvhp46.i 16 _, eig39, up2_a (by omega), eig34]
            have e15 : (ig48 (B + 15) 2).toInt = (ig11 (B + 15) 2).toInt + 1 := by rw [ohvhp52.i 15 _, ohvhp46.i 15 _]; omega
            have e20 : ∀ p, ig48 (B + 20) p = ig11 (B + 20) p := fun p => by rw [ohvhp52.i 20 _, ohvhp46.i 20 _, eig39, up2_a (by omega), eig34, up2_a (by omega)]
            have e21 : ∀ p, ig48 (B + 21) p = ig11 (B + 21) p := fun p => by rw [ohvhp52.i 21 _, ohvhp46.i 21 _, eig39, up2_a (by omega), eig34, up2_a (by omega)]
            have s17 : SBt (lg6 (B + 17)) (lg50 (B + 17)) 0 v2.toInt.toNat := by rw [show lg50 (B + 17) = lg44 (B + 17) from funext fun j => ohvhp52.l 17 j]; exact phvhp46
            have s18 : GRo B v2.toInt.toNat (rdT ((v2.toInt.toNat : Nat) : Int) (fmO (σ v2.toInt.toNat))) lg6 lg50 := by have q9 := GRo.base phvhp52 (fun j => ohvhp46.l 18 j); rw [atC_on (by omega)] at q9; rw [show ((v2.toInt.toNat : Nat) : Int) = v2.toInt by omega]; exact q9
            have fna : fN B ig11 = z32.toInt.toNat := by unfold fN; omega
            have grY : GR B σ (v2.toInt.toNat + 1) ig48 lg50 := gr.yes hfo z20 z21 (by unfold fN; omega) (by rw [fna]; unfold fL; rw [e16, up2_eq]) (fun i hi => by rw [fna] at hi; unfold fL; rw [e16, up2_j (by omega)]) e20 e21 s17 s18
            exact J81 ls H locs kd47 ig48 rg49 lg50 (lv_sub hl [1, 2] rfl) hw hI hN (grY) (hO) (by omega) (by omega)
  exact L2 ((288 - z1.toInt) + 1).toNat ls s.heap [] kd ig rg lg z1 (lv_sub hl [0, 1] rfl) hw hI hN (by omega) (by omega) (by rw [show z1.toInt.toNat = 0 by omega]; exact GR.zero hzr hzs hzc) (hO) (by omega) (by omega) (by omega)

set_option maxHeartbeats 4000000 in
set_option maxRecDepth 100000 in
theorem t_X5_formulasReadByE {τ : Tp} (l : Launch) (B : Nat) (D : va_G) (cA : Nat → ClassId) (kd : sK) (ig : sI) (rg : sR) (lg : sG) (sz : Nat) (x : Int32) (hx0 : 0 ≤ x.toInt ∧ x.toInt < 288) (hI : IC τ B kd ig rg) : MC l B D cA yX5_formulasReadBy cX5_formulasReadBy 4 (some .int) (rL 1 0 0) [.ref (B + 15), .int x] kd ig rg lg sz (Pu kd ig rg lg sz (fun r => ∃ z : Int32, r = some (.int z) ∧ z.toInt = (cnt (fRB B lg x.toInt.toNat) 320 : Int))) := by
  refine MC.of (own := RX5) (by decide +kernel) rfl (Nat.le_of_ble_eq_true rfl) ?_
  intro p e s m args below meth c ls C hr hlk hnm hw hsz hl
  have hx := C.1.1
  have hb := C.1.2.1
  have hown := C.1.2.2.2.1
  have hts := C.1.2.2.2.2
  have hl : lv_has ls 4 [(0, .ref (B + 15)), (1, .int x)] := hl
  have hsh := hI.sh
  have hrs := hI.rs
  refine lv_iconst (v := 0) hx hb dX5_formulasReadBy_0 (by decide) (ti_c 0 (by decide) fun z1 hz1 => ?_)
  refine lv_istore_n (lv' := [(2, .int z1), (0, .ref (B + 15)), (1, .int x)]) hx hb dX5_formulasReadBy_1 rfl hl (by decide) rfl (fun ls hl => ?_)
  refine lv_iconst (v := 0) hx hb dX5_formulasReadBy_2 (by decide) (ti_c 0 (by decide) fun z2 hz2 => ?_)
  refine lv_istore_n (lv' := [(3, .int z2), (2, .int z1), (0, .ref (B + 15)), (1, .int x)]) hx hb dX5_formulasReadBy_3 rfl hl (by decide) rfl (fun ls hl => ?_)
  have L4 : ∀ (n : Nat) (ls : Array Slot) (H : Heap) (locs : List Loc) (v3 : Int32) (v4 : Int32), lv_has ls 4 [(3, .int v3), (2, .int v4), (0, .ref (B + 15)), (1, .int x)] → WD B D cA s.heap kd ig rg lg H locs → H.size = sz → (0 ≤ v3.toInt) → (v3.toInt ≤ 5) → (v4.toInt = (cnt (fRB B lg x.toInt.toNat) (64 * v3.toInt.toNat) : Int)) → (0 ≤ v4.toInt) → (v4.toInt ≤ 64 * v3.toInt) → 5 - v3.toInt < (n : Int) → W p l e (rL 1 0 0) s m args below meth c H locs 0 0 (MQ below (QcW B D cA (Pu kd ig rg lg sz (fun r => ∃ z : Int32, r = some (.int z) ∧ z.toInt = (cnt (fRB B lg x.toInt.toNat) 320 : Int)))) args s 0 0 (fun q => B ≤ q)) (F0 m 4 ls []) := by
    intro n4
    induction n4 with
    | zero => intro ls H locs v3 v4 hl hw hsz g4_0 g4_1 g4_2 g4_3 g4_4 hmu; exact absurd hmu (by omega)
    | succ n4 ih4 =>
      intro ls H locs v3 v4 hl hw hsz g4_0 g4_1 g4_2 g4_3 g4_4 hmu
      refine lv_iload_n hx hb dX5_formulasReadBy_4 rfl (lv_at hl 0 rfl) ?_
      refine lv_iconst (v := 5) hx hb dX5_formulasReadBy_5 (by decide) (ti_c 5 (by decide) fun z5 hz5 => ?_)
      refine b_ge (tgt := 38) hx hb dX5_formulasReadBy_6 (by decide) (fun c6 => ?_) (fun c6 => ?_)
      · refine lv_iload_n hx hb dX5_formulasReadBy_38 rfl (lv_at hl 1 rfl) ?_
        exact r_iret C hw hr hlk rfl (Nat.le_of_ble_eq_true rfl) (Nat.le_of_ble_eq_true rfl) dX5_formulasReadBy_39 ⟨rfl, rfl, rfl, rfl, hsz, ⟨_, rfl, (by have q9 := g4_2; rw [show v3.toInt.toNat = 5 by omega] at q9; exact q9)⟩⟩
      · refine lv_iload_n hx hb dX5_formulasReadBy_9 rfl (lv_at hl 1 rfl) ?_
        refine lv_aload_n hx hb dX5_formulasReadBy_10 rfl (lv_at hl 2 rfl) ?_
        refine r_get C hw (hsh 15 _ rfl) fl_X5_23 (oV_r rfl (hrs (15, 4, 18) (by decide))) dX5_formulasReadBy_11 ?_
        refine lv_iload_n hx hb dX5_formulasReadBy_14 rfl (lv_at hl 3 rfl) ?_
        refine lv_iconst (v := 5) hx hb dX5_formulasReadBy_15 (by decide) (ti_c 5 (by decide) fun z6 hz6 => ?_)
        refine lv_imul hx hb dX5_formulasReadBy_16 (tc_mulR 5 hz6 fun z7 hz7 => ?_)
        first | replace hz7 := hz7 (by omega) | clear hz7
        refine lv_iload_n hx hb dX5_formulasReadBy_17 rfl (lv_at hl 0 rfl) ?_
        refine lv_iadd hx hb dX5_formulasReadBy_18 (tc_add fun z8 hz8 => ?_)
        first | replace hz8 := hz8 (by omega) | clear hz8
        refine r_lald C hw (hsh 18 _ rfl) (by omega) (by omega) dX5_formulasReadBy_19 (lv_topl fun x9 hx9 => ?_)
        refine lv_aload_n hx hb dX5_formulasReadBy_20 rfl (lv_at hl 2 rfl) ?_
        refine r_get C hw (hsh 15 _ rfl) fl_X5_19 (oV_r rfl (hrs (15, 3, 17) (by decide))) dX5_formulasReadBy_21 ?_
        refine lv_iload_n hx hb dX5_formulasReadBy_24 rfl (lv_at hl 0 rfl) ?_
        refine r_lald C hw (hsh 17 _ rfl) (by omega) (by omega) dX5_formulasReadBy_25 (lv_topl fun x10 hx10 => ?_)
        refine lv_land hx hb dX5_formulasReadBy_26 (lv_topl fun x11 hx11 => ?_)
        refine r_callS (As := [.long x11]) (rest := [.int v4]) C hw (t_J13_bitCount_95d88E l B D cA kd ig rg lg _ x11  hI) ss_X5_79 rfl hl.1 rfl (Nat.le_of_ble_eq_true rfl) ⟨Nat.le_of_ble_eq_true rfl, Nat.le_of_ble_eq_true rfl⟩ ⟨Nat.le_of_ble_eq_true rfl, Nat.le_of_ble_eq_true rfl⟩ dX5_formulasReadBy_27 (fun r16 kd12 ig13 rg14 lg15 H locs hw hH hp17 => ?_)
        obtain ⟨rfl, rfl, rfl, rfl, hzhp17, hrhp17⟩ := hp17
        have hsz := hzhp17.trans hsz
        obtain ⟨z18, rfl, hz18⟩ := hrhp17
        have hcw := fRB.w (B := B) (lg := lg) (p := x.toInt.toNat) (w := v3.toInt.toNat) (by omega)
        have hz9 : (cnt (Bt (lg (B + 18) (5 * x.toInt.toNat + v3.toInt.toNat) &&& lg (B + 17) v3.toInt.toNat)) 64 : Int) = z18.toInt := by rw [hz18, hx11, hx9, hx10, show z8.toInt.toNat = 5 * x.toInt.toNat + v3.toInt.toNat by omega]
        have hc64 := cnt.le (Bt (lg (B + 18) (5 * x.toInt.toNat + v3.toInt.toNat) &&& lg (B + 17) v3.toInt.toNat)) 64
        refine lv_iadd hx hb dX5_formulasReadBy_30 (tc_add fun z19 hz19 => ?_)
        first | replace hz19 := hz19 (by omega) | clear hz19
        refine lv_istore_n (lv' := [(2, .int z19), (3, .int v3), (0, .ref (B + 15)), (1, .int x)]) hx hb dX5_formulasReadBy_31 rfl hl (by decide) rfl (fun ls hl => ?_)
        refine tc_inc hx hb dX5_formulasReadBy_32 hl (k := 1) rfl (by decide) (by decide) (fun z20 hz20 ls hl => ?_)
        first | replace hz20 := hz20 (by omega) | clear hz20
        have hl : lv_has ls 4 [(3, .int z20), (2, .int z19), (0, .ref (B + 15)), (1, .int x)] := hl
        refine lv_goto (tgt := 4) hx hb dX5_formulasReadBy_35 (by decide) ?_
        exact ih4 ls H locs z20 z19 (lv_sub hl [0, 1, 2, 3] rfl) hw hsz (by omega) (by omega) (by rw [show z20.toInt.toNat = v3.toInt.toNat + 1 by omega, hcw]; omega) (by omega) (by omega) (by omega)
  exact L4 ((5 - z2.toInt) + 1).toNat ls s.heap [] z2 z1 (lv_sub hl [0, 1, 2, 3] rfl) hw hsz (by omega) (by omega) (by rw [show z2.toInt.toNat = 0 by omega]; show _ = ((0 : Nat) : Int); omega) (by omega) (by omega) (by omega)

set_option maxHeartbeats 4000000 in
set_option maxRecDepth 100000 in
theorem t_X5_appendToOrderE {τ : Tp} (l : Launch) (B : Nat) (D : va_G) (cA : Nat → ClassId) (kd : sK) (ig : sI) (rg : sR) (lg : sG) (sz : Nat) (x : Int32) (hn : (ig (B + 15) 9).toInt < 288) (hI : IC τ B kd ig rg) : MC l B D cA yX5_appendToOrder cX5_appendToOrder 2 none (rL 0 0 0) [.ref (B + 15), .int x] kd ig rg lg sz (PI 1014 τ B none kd ig rg lg (fun r kd' ig' rg' lg' => (r = none ∧ (ApO B x.toInt ig ig' ∧ Fo B [15, 22] ig lg ig' lg' ∧ (ig' (B + 15) 2).toInt = (ig (B + 15) 2).toInt ∧ (ig' (B + 15) 11).toInt = (ig (B + 15) 11).toInt)))) := by
  refine MC.of (own := RX5) (by decide +kernel) rfl (Nat.le_of_ble_eq_true rfl) ?_
  intro p e s m args below meth c ls C hr hlk hnm hw hsz hl
  have hx := C.1.1
  have hb := C.1.2.1
  have hown := C.1.2.2.2.1
  have hts := C.1.2.2.2.2
  have hl : lv_has ls 2 [(0, .ref (B + 15)), (1, .int x)] := hl
  have hN : Nx 1014 B none kd ig rg lg kd ig rg lg := Nx.rf
  have hsh := hI.sh
  have hrs := hI.rs
  have hO : Fo B [15, 22] ig lg ig lg := Fo.rf
  refine lv_aload_n hx hb dX5_appendToOrder_0 rfl (lv_at hl 0 rfl) ?_
  refine r_get C hw (hsh 15 _ rfl) fl_X5_55 (oV_i rfl) dX5_appendToOrder_1 (ti_c (ig (B + 15) 9).toInt rfl fun z1 hz1 => ?_)
  have k2 : 0 ≤ (ig (B + 15) 9).toInt ∧ (ig (B + 15) 9).toInt ≤ 288 := hI.i 15 9 (by decide)
  refine lv_sipush (v := 288) hx hb dX5_appendToOrder_4 (by decide) (ti_c 288 (by decide) fun z3 hz3 => ?_)
  refine b_ge (tgt := 30) hx hb dX5_appendToOrder_7 (by decide) (fun c7 => ?_) (fun c7 => ?_)
  · exact absurd c7 (by omega)
  · refine lv_aload_n hx hb dX5_appendToOrder_10 rfl (lv_at hl 0 rfl) ?_
    refine r_get C hw (hsh 15 _ rfl) fl_X5_36 (oV_r rfl (hrs (15, 8, 22) (by decide))) dX5_appendToOrder_11 ?_
    refine lv_aload_n hx hb dX5_appendToOrder_14 rfl (lv_at hl 0 rfl) ?_
    refine r_get C hw (hsh 15 _ rfl) fl_X5_55 (oV_i rfl) dX5_appendToOrder_15 (ti_c (ig (B + 15) 9).toInt rfl fun z4 hz4 => ?_)
    have k5 : 0 ≤ (ig (B + 15) 9).toInt ∧ (ig (B + 15) 9).toInt ≤ 288 := hI.i 15 9 (by decide)
    refine lv_iload_n hx hb dX5_appendToOrder_18 rfl (lv_at hl 1 rfl) ?_
    refine r_iast C hw (hsh 22 _ rfl) (by omega) (by omega) dX5_appendToOrder_19 (fun H locs hH hw => ?_)
    have hO0 := hO
    obtain ⟨ig6, eig6⟩ : ∃ f, f = up2 ig (B + 22) z4.toInt.toNat x := ⟨_, rfl⟩
    rw [← eig6] at hw
    have hN : Nx 1014 B none kd ig rg lg kd ig6 rg lg := by rw [eig6]; exact hN.pi (by omega)
    have hI : IC τ B kd ig6 rg := by rw [eig6]; exact hI.pi (show okR none _ from trivial)
    have wig6_15_9 : (ig6 (B + 15) 9).toInt = (ig (B + 15) 9).toInt := by rw [eig6, up2_a (by omega)]
    have wig6_15_2 : (ig6 (B + 15) 2).toInt = (ig (B + 15) 2).toInt := by rw [eig6, up2_a (by omega)]
    have wig6_15_11 : (ig6 (B + 15) 11).toInt = (ig (B + 15) 11).toInt := by rw [eig6, up2_a (by omega)]
    have hO : Fo B [15, 22] ig lg ig6 lg := by rw [eig6]; exact hO0.pi (by decide)
    clear hO0
    refine lv_aload_n hx hb dX5_appendToOrder_20 rfl (lv_at hl 0 rfl) ?_
    refine lv_dup hx hb dX5_appendToOrder_21 rfl ?_
    refine r_get C hw (hsh 15 _ rfl) fl_X5_55 (oV_i rfl) dX5_appendToOrder_22 (ti_c (ig6 (B + 15) 9).toInt rfl fun z7 hz7 => ?_)
    have k8 : 0 ≤ (ig6 (B + 15) 9).toInt ∧ (ig6 (B + 15) 9).toInt ≤ 288 := hI.i 15 9 (by decide)
    refine lv_iconst (v := 1) hx hb dX5_appendToOrder_25 (by decide) (ti_c 1 (by decide) fun z9 hz9 => ?_)
    refine lv_iadd hx hb dX5_appendToOrder_26 (tc_add fun z10 hz10 => ?_)
    first | replace hz10 := hz10 (by omega) | clear hz10
    refine r_puti C hw (hsh 15 _ rfl) fl_X5_55 rfl rfl rfl dX5_appendToOrder_27 (fun H locs hH hw => ?_)
    have hO0 := hO
    obtain ⟨ig11, eig11⟩ : ∃ f, f = up2 ig6 (B + 15) 9 z10 := ⟨_, rfl⟩
    rw [← eig11] at hw
    have hN : Nx 1014 B none kd ig rg lg kd ig11 rg lg := by rw [eig11]; exact hN.pi (by omega)
    have hI : IC τ B kd ig11 rg := by rw [eig11]; exact hI.pi (show okR (some (0, 288)) _ from ⟨by show (0 : Int) ≤ _; omega, by show _ ≤ (288 : Int); omega⟩)
    have wig11 : (ig11 (B + 15) 9).toInt = z10.toInt := by rw [eig11, up2_eq]
    have wig11_15_2 : (ig11 (B + 15) 2).toInt = (ig6 (B + 15) 2).toInt := by rw [eig11, up2_j (by decide)]
    have wig11_15_11 : (ig11 (B + 15) 11).toInt = (ig6 (B + 15) 11).toInt := by rw [eig11, up2_j (by decide)]
    have hO : Fo B [15, 22] ig lg ig11 lg := by rw [eig11]; exact hO0.pi (by decide)
    clear hO0
    exact r_vret C hw hr hlk (Nat.le_of_ble_eq_true rfl) (Nat.le_of_ble_eq_true rfl) dX5_appendToOrder_30 ⟨hI, hN, ⟨rfl, ⟨⟨by omega, (by rw [eig11, up2_a (by omega), eig6, show oN B ig = z4.toInt.toNat by unfold oN; omega, up2_eq]), fun j hj => (by unfold oN at hj; rw [eig11, up2_a (by omega), eig6, up2_j (by omega)])⟩, hO, by omega, by omega⟩⟩⟩
