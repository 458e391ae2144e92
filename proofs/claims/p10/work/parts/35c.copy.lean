set_option maxHeartbeats 4000000 in
set_option maxRecDepth 100000 in
theorem t_X12_copyRowE {υ : Option Int} {τ : Tp} {φ : Option Int} (l : Launch) (B : Nat) (D : va_G) (cA : Nat → ClassId) (kd : sK) (ig : sI) (rg : sR) (lg : sG) (sz : Nat) (x : Int32) (y : Int32) (hx0 : 0 ≤ x.toInt ∧ x.toInt < 309) (hy0 : 0 ≤ y.toInt ∧ y.toInt < 309) (hxy : x ≠ y) (hwf : WP B ig x.toInt.toNat) (hI : IM τ φ υ B kd ig rg) : MC l B D cA yX12_copyRow cX12_copyRow 4 none (rL 0 0 0) [.ref (B + 49), .int x, .int y] kd ig rg lg sz (PM τ φ υ B [54, 55, 56, 57, 58, 59, 60, 61] kd ig rg lg (fun r ig' lg' => (r = none ∧ CRx B x.toInt.toNat y.toInt.toNat ig ig'))) := by
  refine MC.of (own := RX12) (by decide +kernel) rfl (Nat.le_of_ble_eq_true rfl) ?_
  intro p e s m args below meth c ls C hr hlk hnm hw hsz hl
  have hx := C.1.1
  have hb := C.1.2.1
  have hown := C.1.2.2.2.1
  have hts := C.1.2.2.2.2
  have hl : lv_has ls 4 [(0, .ref (B + 49)), (1, .int x), (2, .int y)] := hl
  have hF : Ft B [54, 55, 56, 57, 58, 59, 60, 61] ig lg ig lg := Ft.rf
  have hsh := hI.sh
  have hrm := hI.rm
  have kx := hI.its (j := x.toInt.toNat) (by omega)
  have hxN : x.toInt.toNat < 309 := by omega
  refine lv_aload_n hx hb dX12_copyRow_0 rfl (lv_at hl 0 rfl) ?_
  refine r_get C hw (hsh 49 _ rfl) fl_X12_80 (oV_r rfl (hrm (49, 15, 59) (by decide))) dX12_copyRow_1 ?_
  refine lv_iload_n hx hb dX12_copyRow_4 rfl (lv_at hl 2 rfl) ?_
  refine lv_aload_n hx hb dX12_copyRow_5 rfl (lv_at hl 0 rfl) ?_
  refine r_get C hw (hsh 49 _ rfl) fl_X12_80 (oV_r rfl (hrm (49, 15, 59) (by decide))) dX12_copyRow_6 ?_
  refine lv_iload_n hx hb dX12_copyRow_9 rfl (lv_at hl 1 rfl) ?_
  refine r_iald C hw (hsh 59 _ rfl) (by omega) (by omega) dX12_copyRow_10 (ti_c (ig (B + 59) x.toInt.toNat).toInt rfl fun z1 hz1 => ?_)
  refine r_iast C hw (hsh 59 _ rfl) (by omega) (by omega) dX12_copyRow_11 (fun H locs hH hw => ?_)
  obtain ⟨ig2, eig2⟩ : ∃ f, f = up2 ig (B + 59) y.toInt.toNat z1 := ⟨_, rfl⟩
  rw [← eig2] at hw
  have hF : Ft B [54, 55, 56, 57, 58, 59, 60, 61] ig lg ig2 lg := by rw [eig2]; exact hF.pi (by decide)
  refine lv_aload_n hx hb dX12_copyRow_12 rfl (lv_at hl 0 rfl) ?_
  refine r_get C hw (hsh 49 _ rfl) fl_X12_83 (oV_r rfl (hrm (49, 16, 60) (by decide))) dX12_copyRow_13 ?_
  refine lv_iload_n hx hb dX12_copyRow_16 rfl (lv_at hl 2 rfl) ?_
  refine lv_aload_n hx hb dX12_copyRow_17 rfl (lv_at hl 0 rfl) ?_
  refine r_get C hw (hsh 49 _ rfl) fl_X12_83 (oV_r rfl (hrm (49, 16, 60) (by decide))) dX12_copyRow_18 ?_
  refine lv_iload_n hx hb dX12_copyRow_21 rfl (lv_at hl 1 rfl) ?_
  refine r_iald C hw (hsh 60 _ rfl) (by omega) (by omega) dX12_copyRow_22 (ti_c (ig2 (B + 60) x.toInt.toNat).toInt rfl fun z3 hz3 => ?_)
  refine r_iast C hw (hsh 60 _ rfl) (by omega) (by omega) dX12_copyRow_23 (fun H locs hH hw => ?_)
  obtain ⟨ig4, eig4⟩ : ∃ f, f = up2 ig2 (B + 60) y.toInt.toNat z3 := ⟨_, rfl⟩
  rw [← eig4] at hw
  have hF : Ft B [54, 55, 56, 57, 58, 59, 60, 61] ig lg ig4 lg := by rw [eig4]; exact hF.pi (by decide)
  refine lv_aload_n hx hb dX12_copyRow_24 rfl (lv_at hl 0 rfl) ?_
  refine r_get C hw (hsh 49 _ rfl) fl_X12_77 (oV_r rfl (hrm (49, 13, 58) (by decide))) dX12_copyRow_25 ?_
  refine lv_iload_n hx hb dX12_copyRow_28 rfl (lv_at hl 2 rfl) ?_
  refine lv_aload_n hx hb dX12_copyRow_29 rfl (lv_at hl 0 rfl) ?_
  refine r_get C hw (hsh 49 _ rfl) fl_X12_77 (oV_r rfl (hrm (49, 13, 58) (by decide))) dX12_copyRow_30 ?_
  refine lv_iload_n hx hb dX12_copyRow_33 rfl (lv_at hl 1 rfl) ?_
  refine r_iald C hw (hsh 58 _ rfl) (by omega) (by omega) dX12_copyRow_34 (ti_c (ig4 (B + 58) x.toInt.toNat).toInt rfl fun z5 hz5 => ?_)
  refine r_iast C hw (hsh 58 _ rfl) (by omega) (by omega) dX12_copyRow_35 (fun H locs hH hw => ?_)
  obtain ⟨ig6, eig6⟩ : ∃ f, f = up2 ig4 (B + 58) y.toInt.toNat z5 := ⟨_, rfl⟩
  rw [← eig6] at hw
  have hF : Ft B [54, 55, 56, 57, 58, 59, 60, 61] ig lg ig6 lg := by rw [eig6]; exact hF.pi (by decide)
  have hca : CA B x.toInt.toNat y.toInt.toNat ig ig6 := by rw [eig6, eig4, eig2]; exact CA.of (i32_inj hz1) (i32_inj (by rw [hz5, eig4, up2_c (by decide), eig2, up2_c (by decide)]))
  have hcn : CN B x.toInt.toNat y.toInt.toNat 0 ig ig6 := by rw [eig6, eig4, eig2]; exact CN.of rfl (i32_inj (by rw [hz3, eig2, up2_c (by decide)]))
  refine lv_iconst (v := 0) hx hb dX12_copyRow_36 (by decide) (ti_c 0 (by decide) fun z7 hz7 => ?_)
  refine lv_istore_n (lv' := [(3, .int z7), (0, .ref (B + 49)), (1, .int x), (2, .int y)]) hx hb dX12_copyRow_37 rfl hl (by decide) rfl (fun ls hl => ?_)
  have L38 : ∀ (n : Nat) (ls : Array Slot) (H : Heap) (locs : List Loc) (ig9 : sI) (lg10 : sG) (v8 : Int32), lv_has ls 4 [(3, .int v8), (0, .ref (B + 49)), (1, .int x), (2, .int y)] → WD B D cA s.heap kd ig9 rg lg10 H locs → Ft B [54, 55, 56, 57, 58, 59, 60, 61] ig lg ig9 lg10 → (0 ≤ v8.toInt) → (v8.toInt ≤ 3) → (CA B x.toInt.toNat y.toInt.toNat ig ig9) → (CN B x.toInt.toNat y.toInt.toNat v8.toInt.toNat ig ig9) → 3 - v8.toInt < (n : Int) → W p l e (rL 0 0 0) s m args below meth c H locs 0 0 (MQ below (QcW B D cA (PM τ φ υ B [54, 55, 56, 57, 58, 59, 60, 61] kd ig rg lg (fun r ig' lg' => (r = none ∧ CRx B x.toInt.toNat y.toInt.toNat ig ig')))) args s 0 0 (fun q => B ≤ q)) (F0 m 38 ls []) := by
    intro n38
    induction n38 with
    | zero => intro ls H locs ig9 lg10 v8 hl hw hF g38_0 g38_1 g38_2 g38_3 hmu; exact absurd hmu (by omega)
    | succ n38 ih38 =>
      intro ls H locs ig9 lg10 v8 hl hw hF g38_0 g38_1 g38_2 g38_3 hmu
      refine lv_iload_n hx hb dX12_copyRow_38 rfl (lv_at hl 0 rfl) ?_
      refine lv_iconst (v := 3) hx hb dX12_copyRow_39 (by decide) (ti_c 3 (by decide) fun z11 hz11 => ?_)
      refine b_ge (tgt := 69) hx hb dX12_copyRow_40 (by decide) (fun c40 => ?_) (fun c40 => ?_)
      · refine lv_iconst (v := 0) hx hb dX12_copyRow_69 (by decide) (ti_c 0 (by decide) fun z12 hz12 => ?_)
        refine lv_istore_n (lv' := [(3, .int z12), (0, .ref (B + 49)), (1, .int x), (2, .int y)]) hx hb dX12_copyRow_70 rfl hl (by decide) rfl (fun ls hl => ?_)
        have L71 : ∀ (n : Nat) (ls : Array Slot) (H : Heap) (locs : List Loc) (ig14 : sI) (lg15 : sG) (v13 : Int32), lv_has ls 4 [(3, .int v13), (0, .ref (B + 49)), (1, .int x), (2, .int y)] → WD B D cA s.heap kd ig14 rg lg15 H locs → Ft B [54, 55, 56, 57, 58, 59, 60, 61] ig lg ig14 lg15 → (0 ≤ v13.toInt) → (v13.toInt ≤ 120) → (CB B x.toInt.toNat y.toInt.toNat v13.toInt.toNat ig ig14) → (CN B x.toInt.toNat y.toInt.toNat 3 ig ig14) → 120 - v13.toInt < (n : Int) → W p l e (rL 0 0 0) s m args below meth c H locs 0 0 (MQ below (QcW B D cA (PM τ φ υ B [54, 55, 56, 57, 58, 59, 60, 61] kd ig rg lg (fun r ig' lg' => (r = none ∧ CRx B x.toInt.toNat y.toInt.toNat ig ig')))) args s 0 0 (fun q => B ≤ q)) (F0 m 71 ls []) := by
          intro n71
          induction n71 with
          | zero => intro ls H locs ig14 lg15 v13 hl hw hF g71_0 g71_1 g71_2 g71_3 hmu; exact absurd hmu (by omega)
          | succ n71 ih71 =>
            intro ls H locs ig14 lg15 v13 hl hw hF g71_0 g71_1 g71_2 g71_3 hmu
            refine lv_iload_n hx hb dX12_copyRow_71 rfl (lv_at hl 0 rfl) ?_
            have k71 := g71_0
            refine lv_aload_n hx hb dX12_copyRow_72 rfl (lv_at hl 1 rfl) ?_
            refine r_get C hw (hsh 49 _ rfl) fl_X12_77 (oV_r rfl (hrm (49, 13, 58) (by decide))) dX12_copyRow_73 ?_
            refine lv_iload_n hx hb dX12_copyRow_76 rfl (lv_at hl 2 rfl) ?_
            refine r_iald C hw (hsh 58 _ rfl) (by omega) (by omega) dX12_copyRow_77 (ti_c (ig14 (B + 58) x.toInt.toNat).toInt rfl fun z16 hz16 => ?_)
            rw [CB.it g71_2 (nat_ne hxy hx0 hy0)] at hz16
            refine b_ge (tgt := 175) hx hb dX12_copyRow_78 (by decide) (fun c78 => ?_) (fun c78 => ?_)
            · have hcr : CRw B x.toInt.toNat y.toInt.toNat ig ig14 := CB.fin g71_2 (by omega)
              have hcx : CRx B x.toInt.toNat y.toInt.toNat ig ig14 := ⟨hcr, g71_3.1, g71_3.2.1, g71_3.2.2⟩
              have hIf : IM τ φ υ B kd ig14 rg := ⟨IM0.cr hI.1 hxN hcr hwf (fun c j h1 h2 h3 => hF.i c j (fun q hq e => h3 (nT q hq e))), hI.2.ag (fun c i hc => hF.i c i (fun q hq e => by have := nT q hq e; omega))⟩
              exact r_vret C hw hr hlk (Nat.le_of_ble_eq_true rfl) (Nat.le_of_ble_eq_true rfl) dX12_copyRow_175 ⟨rfl, rfl, hIf, hF, ⟨rfl, hcx⟩⟩
            · have k120 : nLt v13.toInt.toNat 120 := by show _ < _; omega
              refine lv_aload_n hx hb dX12_copyRow_81 rfl (lv_at hl 1 rfl) ?_
              refine r_get C hw (hsh 49 _ rfl) fl_X12_65 (oV_r rfl (hrm (49, 9, 54) (by decide))) dX12_copyRow_82 ?_
              refine lv_bipush (v := 120) hx hb dX12_copyRow_85 (by decide) (ti_c 120 (by decide) fun z17 hz17 => ?_)
              refine lv_iload_n hx hb dX12_copyRow_87 rfl (lv_at hl 3 rfl) ?_
              refine lv_imul hx hb dX12_copyRow_88 (tc_mulL 120 hz17 fun z18 hz18 => ?_)
              first | replace hz18 := hz18 (by omega) | clear hz18
              refine lv_iload_n hx hb dX12_copyRow_89 rfl (lv_at hl 0 rfl) ?_
              refine lv_iadd hx hb dX12_copyRow_90 (tc_add fun z19 hz19 => ?_)
              first | replace hz19 := hz19 (by omega) | clear hz19
              have nz19 := ix_e hy0 (by omega) hz18 hz19
              refine lv_aload_n hx hb dX12_copyRow_91 rfl (lv_at hl 1 rfl) ?_
              refine r_get C hw (hsh 49 _ rfl) fl_X12_65 (oV_r rfl (hrm (49, 9, 54) (by decide))) dX12_copyRow_92 ?_
              refine lv_bipush (v := 120) hx hb dX12_copyRow_95 (by decide) (ti_c 120 (by decide) fun z20 hz20 => ?_)
              refine lv_iload_n hx hb dX12_copyRow_97 rfl (lv_at hl 2 rfl) ?_
              refine lv_imul hx hb dX12_copyRow_98 (tc_mulL 120 hz20 fun z21 hz21 => ?_)
              first | replace hz21 := hz21 (by omega) | clear hz21
              refine lv_iload_n hx hb dX12_copyRow_99 rfl (lv_at hl 0 rfl) ?_
              refine lv_iadd hx hb dX12_copyRow_100 (tc_add fun z22 hz22 => ?_)
              first | replace hz22 := hz22 (by omega) | clear hz22
              have nz22 := ix_e hx0 (by omega) hz21 hz22
              refine r_iald C hw (hsh 54 _ rfl) (by omega) (by omega) dX12_copyRow_101 (ti_c (ig14 (B + 54) z22.toInt.toNat).toInt rfl fun z23 hz23 => ?_)
              have q54 : z23 = ig (B + 54) (120 * x.toInt.toNat + v13.toInt.toNat) := i32_inj (by rw [hz23, CB.r g71_2 (nat_ne hxy hx0 hy0) k120 (by decide) (by decide) nz22])
              clear hz23
              refine r_iast C hw (hsh 54 _ rfl) (by omega) (by omega) dX12_copyRow_102 (fun H locs hH hw => ?_)
              obtain ⟨ig24, eig24⟩ : ∃ f, f = up2 ig14 (B + 54) z19.toInt.toNat z23 := ⟨_, rfl⟩
              rw [← eig24] at hw
              have hF : Ft B [54, 55, 56, 57, 58, 59, 60, 61] ig lg ig24 lg15 := by rw [eig24]; exact hF.pi (by decide)
              clear hz21 hz18 hz22 hz19
              refine lv_aload_n hx hb dX12_copyRow_103 rfl (lv_at hl 1 rfl) ?_
              refine r_get C hw (hsh 49 _ rfl) fl_X12_68 (oV_r rfl (hrm (49, 10, 55) (by decide))) dX12_copyRow_104 ?_
              refine lv_bipush (v := 120) hx hb dX12_copyRow_107 (by decide) (ti_c 120 (by decide) fun z25 hz25 => ?_)
              refine lv_iload_n hx hb dX12_copyRow_109 rfl (lv_at hl 3 rfl) ?_
              refine lv_imul hx hb dX12_copyRow_110 (tc_mulL 120 hz25 fun z26 hz26 => ?_)
              first | replace hz26 := hz26 (by omega) | clear hz26
              refine lv_iload_n hx hb dX12_copyRow_111 rfl (lv_at hl 0 rfl) ?_
              refine lv_iadd hx hb dX12_copyRow_112 (tc_add fun z27 hz27 => ?_)
              first | replace hz27 := hz27 (by omega) | clear hz27
              have nz27 := ix_e hy0 (by omega) hz26 hz27
              refine lv_aload_n hx hb dX12_copyRow_113 rfl (lv_at hl 1 rfl) ?_
              refine r_get C hw (hsh 49 _ rfl) fl_X12_68 (oV_r rfl (hrm (49, 10, 55) (by decide))) dX12_copyRow_114 ?_
              refine lv_bipush (v := 120) hx hb dX12_copyRow_117 (by decide) (ti_c 120 (by decide) fun z28 hz28 => ?_)
              refine lv_iload_n hx hb dX12_copyRow_119 rfl (lv_at hl 2 rfl) ?_
              refine lv_imul hx hb dX12_copyRow_120 (tc_mulL 120 hz28 fun z29 hz29 => ?_)
              first | replace hz29 := hz29 (by omega) | clear hz29
              refine lv_iload_n hx hb dX12_copyRow_121 rfl (lv_at hl 0 rfl) ?_
              refine lv_iadd hx hb dX12_copyRow_122 (tc_add fun z30 hz30 => ?_)
              first | replace hz30 := hz30 (by omega) | clear hz30
              have nz30 := ix_e hx0 (by omega) hz29 hz30
              refine r_iald C hw (hsh 55 _ rfl) (by omega) (by omega) dX12_copyRow_123 (ti_c (ig24 (B + 55) z30.toInt.toNat).toInt rfl fun z31 hz31 => ?_)
              have q55 : z31 = ig (B + 55) (120 * x.toInt.toNat + v13.toInt.toNat) := i32_inj (by rw [hz31, eig24, up2_c (by decide), CB.r g71_2 (nat_ne hxy hx0 hy0) k120 (by decide) (by decide) nz30])
              clear hz31
              refine r_iast C hw (hsh 55 _ rfl) (by omega) (by omega) dX12_copyRow_124 (fun H locs hH hw => ?_)
              obtain ⟨ig32, eig32⟩ : ∃ f, f = up2 ig24 (B + 55) z27.toInt.toNat z31 := ⟨_, rfl⟩
              rw [← eig32] at hw
              have hF : Ft B [54, 55, 56, 57, 58, 59, 60, 61] ig lg ig32 lg15 := by rw [eig32]; exact hF.pi (by decide)
              clear hz29 hz26 hz30 hz27
              refine lv_aload_n hx hb dX12_copyRow_125 rfl (lv_at hl 1 rfl) ?_
              refine r_get C hw (hsh 49 _ rfl) fl_X12_71 (oV_r rfl (hrm (49, 11, 56) (by decide))) dX12_copyRow_126 ?_
              refine lv_bipush (v := 120) hx hb dX12_copyRow_129 (by decide) (ti_c 120 (by decide) fun z33 hz33 => ?_)
              refine lv_iload_n hx hb dX12_copyRow_131 rfl (lv_at hl 3 rfl) ?_
              refine lv_imul hx hb dX12_copyRow_132 (tc_mulL 120 hz33 fun z34 hz34 => ?_)
              first | replace hz34 := hz34 (by omega) | clear hz34
              refine lv_iload_n hx hb dX12_copyRow_133 rfl (lv_at hl 0 rfl) ?_
              refine lv_iadd hx hb dX12_copyRow_134 (tc_add fun z35 hz35 => ?_)
              first | replace hz35 := hz35 (by omega) | clear hz35
              have nz35 := ix_e hy0 (by omega) hz34 hz35
              refine lv_aload_n hx hb dX12_copyRow_135 rfl (lv_at hl 1 rfl) ?_
              refine r_get C hw (hsh 49 _ rfl) fl_X12_71 (oV_r rfl (hrm (49, 11, 56) (by decide))) dX12_copyRow_136 ?_
              refine lv_bipush (v := 120) hx hb dX12_copyRow_139 (by decide) (ti_c 120 (by decide) fun z36 hz36 => ?_)
              refine lv_iload_n hx hb dX12_copyRow_141 rfl (lv_at hl 2 rfl) ?_
              refine lv_imul hx hb dX12_copyRow_142 (tc_mulL 120 hz36 fun z37 hz37 => ?_)
              first | replace hz37 := hz37 (by omega) | clear hz37
              refine lv_iload_n hx hb dX12_copyRow_143 rfl (lv_at hl 0 rfl) ?_
              refine lv_iadd hx hb dX12_copyRow_144 (tc_add fun z38 hz38 => ?_)
              first | replace hz38 := hz38 (by omega) | clear hz38
              have nz38 := ix_e hx0 (by omega) hz37 hz38
              refine r_iald C hw (hsh 56 _ rfl) (by omega) (by omega) dX12_copyRow_145 (ti_c (ig32 (B + 56) z38.toInt.toNat).toInt rfl fun z39 hz39 => ?_)
              have q56 : z39 = ig (B + 56) (120 * x.toInt.toNat + v13.toInt.toNat) := i32_inj (by rw [hz39, eig32, up2_c (by decide), eig24, up2_c (by decide), CB.r g71_2 (nat_ne hxy hx0 hy0) k120 (by decide) (by decide) nz38])
              clear hz39
              refine r_iast C hw (hsh 56 _ rfl) (by omega) (by omega) dX12_copyRow_146 (fun H locs hH hw => ?_)
              obtain ⟨ig40, eig40⟩ : ∃ f, f = up2 ig32 (B + 56) z35.toInt.toNat z39 := ⟨_, rfl⟩
              rw [← eig40] at hw
              have hF : Ft B [54, 55, 56, 57, 58, 59, 60, 61] ig lg ig40 lg15 := by rw [eig40]; exact hF.pi (by decide)
              clear hz37 hz34 hz38 hz35
              refine lv_aload_n hx hb dX12_copyRow_147 rfl (lv_at hl 1 rfl) ?_
              refine r_get C hw (hsh 49 _ rfl) fl_X12_74 (oV_r rfl (hrm (49, 12, 57) (by decide))) dX12_copyRow_148 ?_
              refine lv_bipush (v := 120) hx hb dX12_copyRow_151 (by decide) (ti_c 120 (by decide) fun z41 hz41 => ?_)
              refine lv_iload_n hx hb dX12_copyRow_153 rfl (lv_at hl 3 rfl) ?_
              refine lv_imul hx hb dX12_copyRow_154 (tc_mulL 120 hz41 fun z42 hz42 => ?_)
              first | replace hz42 := hz42 (by omega) | clear hz42
              refine lv_iload_n hx hb dX12_copyRow_155 rfl (lv_at hl 0 rfl) ?_
              refine lv_iadd hx hb dX12_copyRow_156 (tc_add fun z43 hz43 => ?_)
              first | replace hz43 := hz43 (by omega) | clear hz43
              have nz43 := ix_e hy0 (by omega) hz42 hz43
              refine lv_aload_n hx hb dX12_copyRow_157 rfl (lv_at hl 1 rfl) ?_
              refine r_get C hw (hsh 49 _ rfl) fl_X12_74 (oV_r rfl (hrm (49, 12, 57) (by decide))) dX12_copyRow_158 ?_
              refine lv_bipush (v := 120) hx hb dX12_copyRow_161 (by decide) (ti_c 120 (by decide) fun z44 hz44 => ?_)
              refine lv_iload_n hx hb dX12_copyRow_163 rfl (lv_at hl 2 rfl) ?_
              refine lv_imul hx hb dX12_copyRow_164 (tc_mulL 120 hz44 fun z45 hz45 => ?_)
              first | replace hz45 := hz45 (by omega) | clear hz45
              refine lv_iload_n hx hb dX12_copyRow_165 rfl (lv_at hl 0 rfl) ?_
              refine lv_iadd hx hb dX12_copyRow_166 (tc_add fun z46 hz46 => ?_)
              first | replace hz46 := hz46 (by omega) | clear hz46
              have nz46 := ix_e hx0 (by omega) hz45 hz46
              refine r_iald C hw (hsh 57 _ rfl) (by omega) (by omega) dX12_copyRow_167 (ti_c (ig40 (B + 57) z46.toInt.toNat).toInt rfl fun z47 hz47 => ?_)
              have q57 : z47 = ig (B + 57) (120 * x.toInt.toNat + v13.toInt.toNat) := i32_inj (by rw [hz47, eig40, up2_c (by decide), eig32, up2_c (by decide), eig24, up2_c (by decide), CB.r g71_2 (nat_ne hxy hx0 hy0) k120 (by decide) (by decide) nz46])
              clear hz47
              refine r_iast C hw (hsh 57 _ rfl) (by omega) (by omega) dX12_copyRow_168 (fun H locs hH hw => ?_)
              obtain ⟨ig48, eig48⟩ : ∃ f, f = up2 ig40 (B + 57) z43.toInt.toNat z47 := ⟨_, rfl⟩
              rw [← eig48] at hw
              have hF : Ft B [54, 55, 56, 57, 58, 59, 60, 61] ig lg ig48 lg15 := by rw [eig48]; exact hF.pi (by decide)
              clear hz45 hz42 hz46 hz43
              have st : ∀ k, k = v13.toInt.toNat + 1 → CB B x.toInt.toNat y.toInt.toNat k ig ig48 := fun k hk => by
                rw [eig48, eig40, eig32, eig24]
                exact CB.step g71_2 k120 nz19 nz27 nz35 nz43 q54 q55 q56 q57 hk
              refine tc_inc hx hb dX12_copyRow_169 hl (k := 0) rfl (by decide) (by decide) (fun z49 hz49 ls hl => ?_)
              first | replace hz49 := hz49 (by omega) | clear hz49
              have hl : lv_has ls 4 [(3, .int z49), (0, .ref (B + 49)), (1, .int x), (2, .int y)] := hl
              refine lv_goto (tgt := 71) hx hb dX12_copyRow_172 (by decide) ?_
              exact ih71 ls H locs ig48 lg15 z49 (lv_sub hl [0, 1, 2, 3] rfl) hw hF (by omega) (by omega) (st _ (by omega)) ((by rw [eig48, eig40, eig32, eig24]; exact CN.u (CN.u (CN.u (CN.u g71_3 (by decide)) (by decide)) (by decide)) (by decide))) (by omega)
        exact L71 ((120 - z12.toInt) + 1).toNat ls H locs ig9 lg10 z12 (lv_sub hl [0, 1, 2, 3] rfl) hw hF (by omega) (by omega) (CA.cb g38_2 (by omega)) (g38_3.k (by omega)) (by omega)
      · refine lv_aload_n hx hb dX12_copyRow_43 rfl (lv_at hl 1 rfl) ?_
        refine r_get C hw (hsh 49 _ rfl) fl_X12_86 (oV_r rfl (hrm (49, 17, 61) (by decide))) dX12_copyRow_44 ?_
        refine lv_iconst (v := 3) hx hb dX12_copyRow_47 (by decide) (ti_c 3 (by decide) fun z50 hz50 => ?_)
        refine lv_iload_n hx hb dX12_copyRow_48 rfl (lv_at hl 3 rfl) ?_
        refine lv_imul hx hb dX12_copyRow_49 (tc_mulL 3 hz50 fun z51 hz51 => ?_)
        first | replace hz51 := hz51 (by omega) | clear hz51
        refine lv_iload_n hx hb dX12_copyRow_50 rfl (lv_at hl 0 rfl) ?_
        refine lv_iadd hx hb dX12_copyRow_51 (tc_add fun z52 hz52 => ?_)
        first | replace hz52 := hz52 (by omega) | clear hz52
        have nz52 := ix_3 hy0 (by omega) hz51 hz52
        refine lv_aload_n hx hb dX12_copyRow_52 rfl (lv_at hl 1 rfl) ?_
        refine r_get C hw (hsh 49 _ rfl) fl_X12_86 (oV_r rfl (hrm (49, 17, 61) (by decide))) dX12_copyRow_53 ?_
        refine lv_iconst (v := 3) hx hb dX12_copyRow_56 (by decide) (ti_c 3 (by decide) fun z53 hz53 => ?_)
        refine lv_iload_n hx hb dX12_copyRow_57 rfl (lv_at hl 2 rfl) ?_
        refine lv_imul hx hb dX12_copyRow_58 (tc_mulL 3 hz53 fun z54 hz54 => ?_)
        first | replace hz54 := hz54 (by omega) | clear hz54
        refine lv_iload_n hx hb dX12_copyRow_59 rfl (lv_at hl 0 rfl) ?_
        refine lv_iadd hx hb dX12_copyRow_60 (tc_add fun z55 hz55 => ?_)
        first | replace hz55 := hz55 (by omega) | clear hz55
        have nz55 := ix_3 hx0 (by omega) hz54 hz55
        refine r_iald C hw (hsh 61 _ rfl) (by omega) (by omega) dX12_copyRow_61 (ti_c (ig9 (B + 61) z55.toInt.toNat).toInt rfl fun z56 hz56 => ?_)
        have k3 : nLt v8.toInt.toNat 3 := by show _ < _; omega
        refine r_iast C hw (hsh 61 _ rfl) (by omega) (by omega) dX12_copyRow_62 (fun H locs hH hw => ?_)
        obtain ⟨ig57, eig57⟩ : ∃ f, f = up2 ig9 (B + 61) z52.toInt.toNat z56 := ⟨_, rfl⟩
        rw [← eig57] at hw
        have hF : Ft B [54, 55, 56, 57, 58, 59, 60, 61] ig lg ig57 lg10 := by rw [eig57]; exact hF.pi (by decide)
        refine tc_inc hx hb dX12_copyRow_63 hl (k := 0) rfl (by decide) (by decide) (fun z58 hz58 ls hl => ?_)
        first | replace hz58 := hz58 (by omega) | clear hz58
        have hl : lv_has ls 4 [(3, .int z58), (0, .ref (B + 49)), (1, .int x), (2, .int y)] := hl
        refine lv_goto (tgt := 38) hx hb dX12_copyRow_66 (by decide) ?_
        exact ih38 ls H locs ig57 lg10 z58 (lv_sub hl [0, 1, 2, 3] rfl) hw hF (by omega) (by omega) (by rw [eig57]; exact CA.u g38_2) (by rw [eig57]; exact CN.st g38_3 (nat_ne hxy hx0 hy0) k3 (by omega) nz52 nz55 (i32_inj hz56)) (by omega)
  exact L38 ((3 - z7.toInt) + 1).toNat ls H locs ig6 lg z7 (lv_sub hl [0, 1, 2, 3] rfl) hw hF (by omega) (by omega) (hca) (hcn.k (by omega)) (by omega)

set_option maxHeartbeats 4000000 in
set_option maxRecDepth 100000 in
theorem t_X12_clearDraftE {υ : Option Int} {τ : Tp} {φ : Option Int} (l : Launch) (B : Nat) (D : va_G) (cA : Nat → ClassId) (kd : sK) (ig : sI) (rg : sR) (lg : sG) (sz : Nat) (x : Int32) (y : Int32) (hI : IM τ φ υ B kd ig rg) : MC l B D cA yX12_clearDraft cX12_clearDraft 4 none (rL 0 0 0) [.ref (B + 49), .int x, .int y] kd ig rg lg sz (PM τ φ υ B [58, 59, 60, 61] kd ig rg lg (fun r ig' lg' => (r = none ∧ ((((ig' (B + 59) 288).toInt = x.toInt ∧ (ig' (B + 60) 288).toInt = y.toInt) ∧ (ig' (B + 58) 288).toInt = 0) ∧ RowU B ig' 288 (0, 0, 0) ∧ ∀ c j, (54 ≤ c ∧ c ≤ 61) → ¬ ((58 ≤ c ∧ c ≤ 60 ∧ j = 288) ∨ (c = 61 ∧ 864 ≤ j ∧ j < 867)) → ig' (B + c) j = ig (B + c) j)))) := by
  refine MC.of (own := RX12) (by decide +kernel) rfl (Nat.le_of_ble_eq_true rfl) ?_
  intro p e s m args below meth c ls C hr hlk hnm hw hsz hl
  have hx := C.1.1
  have hb := C.1.2.1
  have hown := C.1.2.2.2.1
  have hts := C.1.2.2.2.2
  have hl : lv_has ls 4 [(0, .ref (B + 49)), (1, .int x), (2, .int y)] := hl
  have hF : Ft B [58, 59, 60, 61] ig lg ig lg := Ft.rf
  have hsh := hI.sh
  have hrm := hI.rm
  refine lv_aload_n hx hb dX12_clearDraft_0 rfl (lv_at hl 0 rfl) ?_
  refine r_get C hw (hsh 49 _ rfl) fl_X12_80 (oV_r rfl (hrm (49, 15, 59) (by decide))) dX12_clearDraft_1 ?_
  refine lv_sipush (v := 288) hx hb dX12_clearDraft_4 (by decide) (ti_c 288 (by decide) fun z1 hz1 => ?_)
  refine lv_iload_n hx hb dX12_clearDraft_7 rfl (lv_at hl 1 rfl) ?_
  refine r_iast C hw (hsh 59 _ rfl) (by omega) (by omega) dX12_clearDraft_8 (fun H locs hH hw => ?_)
  obtain ⟨ig2, eig2⟩ : ∃ f, f = up2 ig (B + 59) z1.toInt.toNat x := ⟨_, rfl⟩
  rw [← eig2] at hw
  have hF : Ft B [58, 59, 60, 61] ig lg ig2 lg := by rw [eig2]; exact hF.pi (by decide)
  have hI : IM τ φ υ B kd ig2 rg := by rw [eig2]; exact hI.pdk2 (by omega)
  have d59 : (ig2 (B + 59) 288).toInt = x.toInt := by rw [eig2, show (288 : Nat) = z1.toInt.toNat by omega, up2_eq]
  have dk : ∀ c j, ¬ (58 ≤ c ∧ c ≤ 60 ∧ j = 288) → ig2 (B + c) j = ig (B + c) j := fun c j hj => by rw [eig2, up2_n (by omega)]
  refine lv_aload_n hx hb dX12_clearDraft_9 rfl (lv_at hl 0 rfl) ?_
  refine r_get C hw (hsh 49 _ rfl) fl_X12_83 (oV_r rfl (hrm (49, 16, 60) (by decide))) dX12_clearDraft_10 ?_
  refine lv_sipush (v := 288) hx hb dX12_clearDraft_13 (by decide) (ti_c 288 (by decide) fun z3 hz3 => ?_)
  refine lv_iload_n hx hb dX12_clearDraft_16 rfl (lv_at hl 2 rfl) ?_
  refine r_iast C hw (hsh 60 _ rfl) (by omega) (by omega) dX12_clearDraft_17 (fun H locs hH hw => ?_)
  obtain ⟨ig4, eig4⟩ : ∃ f, f = up2 ig2 (B + 60) z3.toInt.toNat y := ⟨_, rfl⟩
  rw [← eig4] at hw
  have hF : Ft B [58, 59, 60, 61] ig lg ig4 lg := by rw [eig4]; exact hF.pi (by decide)
  have hI : IM τ φ υ B kd ig4 rg := by rw [eig4]; exact hI.pi (by decide) (show okR none _ from trivial)
  have d59 : (ig4 (B + 59) 288).toInt = x.toInt := by rw [eig4, up2_c (by decide)]; exact d59
  have d60 : (ig4 (B + 60) 288).toInt = y.toInt := by rw [eig4, show (288 : Nat) = z3.toInt.toNat by omega, up2_eq]
  have dk : ∀ c j, ¬ (58 ≤ c ∧ c ≤ 60 ∧ j = 288) → ig4 (B + c) j = ig (B + c) j := fun c j hj => by rw [eig4, up2_n (by omega)]; exact dk c j hj
  refine lv_aload_n hx hb dX12_clearDraft_18 rfl (lv_at hl 0 rfl) ?_
  refine r_get C hw (hsh 49 _ rfl) fl_X12_77 (oV_r rfl (hrm (49, 13, 58) (by decide))) dX12_clearDraft_19 ?_
  refine lv_sipush (v := 288) hx hb dX12_clearDraft_22 (by decide) (ti_c 288 (by decide) fun z5 hz5 => ?_)
  refine lv_iconst (v := 0) hx hb dX12_clearDraft_25 (by decide) (ti_c 0 (by decide) fun z6 hz6 => ?_)
  refine r_iast C hw (hsh 58 _ rfl) (by omega) (by omega) dX12_clearDraft_26 (fun H locs hH hw => ?_)
  obtain ⟨ig7, eig7⟩ : ∃ f, f = up2 ig4 (B + 58) z5.toInt.toNat z6 := ⟨_, rfl⟩
  rw [← eig7] at hw
  have hF : Ft B [58, 59, 60, 61] ig lg ig7 lg := by rw [eig7]; exact hF.pi (by decide)
  have hI : IM τ φ υ B kd ig7 rg := by rw [eig7]; exact hI.pdi2 (by omega) ⟨by omega, by omega⟩
  have d59 : (ig7 (B + 59) 288).toInt = x.toInt := by rw [eig7, up2_c (by decide)]; exact d59
  have d60 : (ig7 (B + 60) 288).toInt = y.toInt := by rw [eig7, up2_c (by decide)]; exact d60
  have d58 : (ig7 (B + 58) 288).toInt = 0 := by rw [eig7, show (288 : Nat) = z5.toInt.toNat by omega, up2_eq]; omega
  have dk : ∀ c j, ¬ (58 ≤ c ∧ c ≤ 60 ∧ j = 288) → ig7 (B + c) j = ig (B + c) j := fun c j hj => by rw [eig7, up2_n (by omega)]; exact dk c j hj
  refine lv_iconst (v := 0) hx hb dX12_clearDraft_27 (by decide) (ti_c 0 (by decide) fun z8 hz8 => ?_)
  refine lv_istore_n (lv' := [(3, .int z8), (0, .ref (B + 49)), (1, .int x), (2, .int y)]) hx hb dX12_clearDraft_28 rfl hl (by decide) rfl (fun ls hl => ?_)
  have L29 : ∀ (n : Nat) (ls : Array Slot) (H : Heap) (locs : List Loc) (ig10 : sI) (lg11 : sG) (v9 : Int32), lv_has ls 4 [(3, .int v9), (0, .ref (B + 49))] → WD B D cA s.heap kd ig10 rg lg11 H locs → IM τ φ υ B kd ig10 rg → Ft B [58, 59, 60, 61] ig lg ig10 lg11 → (0 ≤ v9.toInt) → (v9.toInt ≤ 3) → ((((ig10 (B + 59) 288).toInt = x.toInt ∧ (ig10 (B + 60) 288).toInt = y.toInt) ∧ (ig10 (B + 58) 288).toInt = 0)) → (∀ u : Nat, (u : Int) < v9.toInt → (ig10 (B + 61) (864 + u)).toInt = 0) → (∀ c j, ¬ ((58 ≤ c ∧ c ≤ 60 ∧ j = 288) ∨ (c = 61 ∧ 864 ≤ j ∧ j < 867)) → ig10 (B + c) j = ig (B + c) j) → 3 - v9.toInt < (n : Int) → W p l e (rL 0 0 0) s m args below meth c H locs 0 0 (MQ below (QcW B D cA (PM τ φ υ B [58, 59, 60, 61] kd ig rg lg (fun r ig' lg' => (r = none ∧ ((((ig' (B + 59) 288).toInt = x.toInt ∧ (ig' (B + 60) 288).toInt = y.toInt) ∧ (ig' (B + 58) 288).toInt = 0) ∧ RowU B ig' 288 (0, 0, 0) ∧ ∀ c j, (54 ≤ c ∧ c ≤ 61) → ¬ ((58 ≤ c ∧ c ≤ 60 ∧ j = 288) ∨ (c = 61 ∧ 864 ≤ j ∧ j < 867)) → ig' (B + c) j = ig (B + c) j))))) args s 0 0 (fun q => B ≤ q)) (F0 m 29 ls []) := by
    intro n29
    induction n29 with
    | zero => intro ls H locs ig10 lg11 v9 hl hw hI hF g29_0 g29_1 g29_2 g29_3 g29_4 hmu; exact absurd hmu (by omega)
    | succ n29 ih29 =>
      intro ls H locs ig10 lg11 v9 hl hw hI hF g29_0 g29_1 g29_2 g29_3 g29_4 hmu
      refine lv_iload_n hx hb dX12_clearDraft_29 rfl (lv_at hl 0 rfl) ?_
      refine lv_iconst (v := 3) hx hb dX12_clearDraft_30 (by decide) (ti_c 3 (by decide) fun z12 hz12 => ?_)
      refine b_ge (tgt := 51) hx hb dX12_clearDraft_31 (by decide) (fun c31 => ?_) (fun c31 => ?_)
      · exact r_vret C hw hr hlk (Nat.le_of_ble_eq_true rfl) (Nat.le_of_ble_eq_true rfl) dX12_clearDraft_51 ⟨rfl, rfl, hI, hF, ⟨rfl, ⟨g29_2, ⟨g29_3 0 (by omega), g29_3 1 (by omega), g29_3 2 (by omega)⟩, fun c j _ hj => g29_4 c j hj⟩⟩⟩
      · refine lv_aload_n hx hb dX12_clearDraft_34 rfl (lv_at hl 1 rfl) ?_
        refine r_get C hw (hsh 49 _ rfl) fl_X12_86 (oV_r rfl (hrm (49, 17, 61) (by decide))) dX12_clearDraft_35 ?_
        refine lv_sipush (v := 864) hx hb dX12_clearDraft_38 (by decide) (ti_c 864 (by decide) fun z13 hz13 => ?_)
        refine lv_iload_n hx hb dX12_clearDraft_41 rfl (lv_at hl 0 rfl) ?_
        refine lv_iadd hx hb dX12_clearDraft_42 (tc_add fun z14 hz14 => ?_)
        first | replace hz14 := hz14 (by omega) | clear hz14
        refine lv_iconst (v := 0) hx hb dX12_clearDraft_43 (by decide) (ti_c 0 (by decide) fun z15 hz15 => ?_)
        refine r_iast C hw (hsh 61 _ rfl) (by omega) (by omega) dX12_clearDraft_44 (fun H locs hH hw => ?_)
        obtain ⟨ig16, eig16⟩ : ∃ f, f = up2 ig10 (B + 61) z14.toInt.toNat z15 := ⟨_, rfl⟩
        rw [← eig16] at hw
        have hF : Ft B [58, 59, 60, 61] ig lg ig16 lg11 := by rw [eig16]; exact hF.pi (by decide)
        have hI : IM τ φ υ B kd ig16 rg := by rw [eig16]; exact hI.pi (by decide) (show okR none _ from trivial)
        refine tc_inc hx hb dX12_clearDraft_45 hl (k := 0) rfl (by decide) (by decide) (fun z17 hz17 ls hl => ?_)
        first | replace hz17 := hz17 (by omega) | clear hz17
        have hl : lv_has ls 4 [(3, .int z17), (0, .ref (B + 49))] := hl
        refine lv_goto (tgt := 29) hx hb dX12_clearDraft_48 (by decide) ?_
        exact ih29 ls H locs ig16 lg11 z17 (lv_sub hl [0, 1] rfl) hw hI hF (by omega) (by omega) (by rw [eig16, up2_c (by decide), up2_c (by decide), up2_c (by decide)]; exact g29_2) (fun u hu => by rw [eig16]; by_cases e9 : (u : Int) = v9.toInt; (rw [show 864 + u = z14.toInt.toNat by omega, up2_eq]; exact hz15); (rw [up2_j (by omega)]; exact g29_3 u (by omega))) (fun c j hj => by rw [eig16, up2_n (by omega)]; exact g29_4 c j hj) (by omega)
  exact L29 ((3 - z8.toInt) + 1).toNat ls H locs ig7 lg z8 (lv_sub hl [0, 1] rfl) hw hI hF (by omega) (by omega) (⟨⟨d59, d60⟩, d58⟩) (fun u hu => by omega) (fun c j hj => dk c j (by omega)) (by omega)
