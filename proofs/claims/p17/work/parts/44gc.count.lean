set_option maxHeartbeats 4000000 in
set_option maxRecDepth 100000 in
theorem t_X12_countE {υ : Option Int} {τ : Tp} {φ : Option Int} (l : Launch) (B : Nat) (D : va_G) (cA : Nat → ClassId) (kd : sK) (ig : sI) (rg : sR) (lg : sG) (sz : Nat) (x : Int32) (σ : Sg) (π : Ps) (hM : SM B σ π ig) (hU : FVm B σ ig) (hW : WS σ π) (hI : IM τ φ υ B kd ig rg) : MC l B D cA yX12_count cX12_count 7 (some .int) (rL 0 0 0) [.ref (B + 49), .int x] kd ig rg lg sz (PM τ φ υ B [49] kd ig rg lg (fun r ig' lg' => ∃ z : Int32, r = some (.int z) ∧ (CnR τ σ π x.toInt z.toInt ∧ (ig' (B + 49) 19).toInt = (ig (B + 49) 19).toInt))) := by
  refine MC.of (own := RX12) (by decide +kernel) rfl (Nat.le_of_ble_eq_true rfl) ?_
  intro p e s m args below meth c ls C hr hlk hnm hw hsz hl
  have hx := C.1.1
  have hb := C.1.2.1
  have hown := C.1.2.2.2.1
  have hts := C.1.2.2.2.2
  have hl : lv_has ls 7 [(0, .ref (B + 49)), (1, .int x)] := hl
  have hF : Ft B [49] ig lg ig lg := Ft.rf
  have hsh := hI.sh
  have hrm := hI.rm
  have nn9 := VOk.nn hW.s.1 hU.2
  refine lv_aload_n hx hb dX12_count_0 rfl (lv_at hl 0 rfl) ?_
  refine lv_iconst (v := 0) hx hb dX12_count_1 (by decide) (ti_c 0 (by decide) fun z1 hz1 => ?_)
  refine r_puti C hw (hsh 49 _ rfl) fl_X12_1 rfl rfl rfl dX12_count_2 (fun H locs hH hw => ?_)
  obtain ⟨ig2, eig2⟩ : ∃ f, f = up2 ig (B + 49) 0 z1 := ⟨_, rfl⟩
  rw [← eig2] at hw
  have hF : Ft B [49] ig lg ig2 lg := by rw [eig2]; exact hF.pi (by decide)
  have hI : IM τ φ υ B kd ig2 rg := by rw [eig2]; exact hI.pi (by decide) (show okR none _ from trivial)
  have wig2_49_2 : (ig2 (B + 49) 2).toInt = (ig (B + 49) 2).toInt := by rw [eig2, up2_j (by decide)]
  have wig2_49_19 : (ig2 (B + 49) 19).toInt = (ig (B + 49) 19).toInt := by rw [eig2, up2_j (by decide)]
  refine lv_iconst (v := 0) hx hb dX12_count_5 (by decide) (ti_c 0 (by decide) fun z3 hz3 => ?_)
  refine lv_istore_n (lv' := [(2, .int z3), (0, .ref (B + 49)), (1, .int x)]) hx hb dX12_count_6 rfl hl (by decide) rfl (fun ls hl => ?_)
  refine lv_iconst (v := 0) hx hb dX12_count_7 (by decide) (ti_c 0 (by decide) fun z4 hz4 => ?_)
  refine lv_istore_n (lv' := [(3, .int z4), (2, .int z3), (0, .ref (B + 49)), (1, .int x)]) hx hb dX12_count_8 rfl hl (by decide) rfl (fun ls hl => ?_)
  refine lv_iconst (v := 0) hx hb dX12_count_9 (by decide) (ti_c 0 (by decide) fun z5 hz5 => ?_)
  refine lv_istore (lv' := [(4, .int z5), (3, .int z4), (2, .int z3), (0, .ref (B + 49)), (1, .int x)]) hx hb dX12_count_10 hl (by decide) rfl (fun ls hl => ?_)
  refine lv_iconst (v := 0) hx hb dX12_count_12 (by decide) (ti_c 0 (by decide) fun z6 hz6 => ?_)
  refine lv_istore (lv' := [(5, .int z6), (4, .int z5), (3, .int z4), (2, .int z3), (0, .ref (B + 49)), (1, .int x)]) hx hb dX12_count_13 hl (by decide) rfl (fun ls hl => ?_)
  refine lv_iconst (v := 0) hx hb dX12_count_15 (by decide) (ti_c 0 (by decide) fun z7 hz7 => ?_)
  refine lv_istore (lv' := [(6, .int z7), (5, .int z6), (4, .int z5), (3, .int z4), (2, .int z3), (0, .ref (B + 49)), (1, .int x)]) hx hb dX12_count_16 hl (by decide) rfl (fun ls hl => ?_)
  have L18 : ∀ (n : Nat) (ls : Array Slot) (H : Heap) (locs : List Loc) (ig13 : sI) (lg14 : sG) (v8 : Int32) (v9 : Int32) (v10 : Int32) (v11 : Int32) (v12 : Int32), lv_has ls 7 [(6, .int v8), (5, .int v9), (4, .int v10), (3, .int v11), (2, .int v12), (0, .ref (B + 49)), (1, .int x)] → WD B D cA s.heap kd ig13 rg lg14 H locs → IM τ φ υ B kd ig13 rg → Ft B [49] ig lg ig13 lg14 → (0 ≤ v8.toInt) → (v8.toInt ≤ 288) → ((0 ≤ v12.toInt ∧ v12.toInt ≤ v8.toInt) ∧ (0 ≤ v11.toInt ∧ v11.toInt ≤ v8.toInt) ∧ (0 ≤ v10.toInt ∧ v10.toInt ≤ v8.toInt) ∧ (0 ≤ v9.toInt ∧ v9.toInt ≤ v8.toInt)) → (CQ (fun p => kdO (σ p) = 1) v8.toInt.toNat v12.toInt) → (CQ (fun p => kdO (σ p) = 2) v8.toInt.toNat v11.toInt) → (CQ (isEl σ) v8.toInt.toNat v10.toInt) → (CQ (fun p => (ig (B + 67) p).toInt ≠ 0) v8.toInt.toNat v9.toInt) → ((ig13 (B + 49) 19).toInt = (ig (B + 49) 19).toInt) → 288 - v8.toInt < (n : Int) → W p l e (rL 0 0 0) s m args below meth c H locs 0 0 (MQ below (QcW B D cA (PM τ φ υ B [49] kd ig rg lg (fun r ig' lg' => ∃ z : Int32, r = some (.int z) ∧ (CnR τ σ π x.toInt z.toInt ∧ (ig' (B + 49) 19).toInt = (ig (B + 49) 19).toInt)))) args s 0 0 (fun q => B ≤ q)) (F0 m 18 ls []) := by
    intro n18
    induction n18 with
    | zero => intro ls H locs ig13 lg14 v8 v9 v10 v11 v12 hl hw hI hF g18_0 g18_1 g18_2 g18_3 g18_4 g18_5 g18_6 g18_7 hmu; exact absurd hmu (by omega)
    | succ n18 ih18 =>
      intro ls H locs ig13 lg14 v8 v9 v10 v11 v12 hl hw hI hF g18_0 g18_1 g18_2 g18_3 g18_4 g18_5 g18_6 g18_7 hmu
      refine lv_iload hx hb dX12_count_18 (lv_at hl 0 rfl) ?_
      refine lv_sipush (v := 288) hx hb dX12_count_20 (by decide) (ti_c 288 (by decide) fun z15 hz15 => ?_)
      refine b_ge (tgt := 123) hx hb dX12_count_23 (by decide) (fun c23 => ?_) (fun c23 => ?_)
      · refine lv_iload_n hx hb dX12_count_123 rfl (lv_at hl 6 rfl) ?_
        refine z_ne (tgt := 131) hx hb dX12_count_124 (by decide) (fun c124 => ?_) (fun c124 => ?_)
        · refine lv_iload_n hx hb dX12_count_131 rfl (lv_at hl 6 rfl) ?_
          refine lv_iconst (v := 1) hx hb dX12_count_132 (by decide) (ti_c 1 (by decide) fun z16 hz16 => ?_)
          refine b_ne (tgt := 140) hx hb dX12_count_133 (by decide) (fun c133 => ?_) (fun c133 => ?_)
          · refine lv_iload_n hx hb dX12_count_140 rfl (lv_at hl 6 rfl) ?_
            refine lv_iconst (v := 2) hx hb dX12_count_141 (by decide) (ti_c 2 (by decide) fun z17 hz17 => ?_)
            refine b_ne (tgt := 150) hx hb dX12_count_142 (by decide) (fun c142 => ?_) (fun c142 => ?_)
            · refine lv_iload_n hx hb dX12_count_150 rfl (lv_at hl 6 rfl) ?_
              refine lv_iconst (v := 3) hx hb dX12_count_151 (by decide) (ti_c 3 (by decide) fun z18 hz18 => ?_)
              refine b_ne (tgt := 160) hx hb dX12_count_152 (by decide) (fun c152 => ?_) (fun c152 => ?_)
              · refine lv_iload_n hx hb dX12_count_160 rfl (lv_at hl 6 rfl) ?_
                refine lv_iconst (v := 4) hx hb dX12_count_161 (by decide) (ti_c 4 (by decide) fun z19 hz19 => ?_)
                refine b_ne (tgt := 172) hx hb dX12_count_162 (by decide) (fun c162 => ?_) (fun c162 => ?_)
                · refine lv_iload_n hx hb dX12_count_172 rfl (lv_at hl 6 rfl) ?_
                  refine lv_iconst (v := 5) hx hb dX12_count_173 (by decide) (ti_c 5 (by decide) fun z20 hz20 => ?_)
                  refine b_ne (tgt := 184) hx hb dX12_count_174 (by decide) (fun c174 => ?_) (fun c174 => ?_)
                  · refine lv_iconst (v := (-1)) hx hb dX12_count_184 (by decide) (ti_c (-1) (by decide) fun z21 hz21 => ?_)
                    exact r_iret C hw hr hlk rfl (Nat.le_of_ble_eq_true rfl) (Nat.le_of_ble_eq_true rfl) dX12_count_185 ⟨rfl, rfl, hI, hF, ⟨_, rfl, ⟨CnR.cd (by omega) (by omega), by omega⟩⟩⟩
                  · refine lv_aload_n hx hb dX12_count_177 rfl (lv_at hl 5 rfl) ?_
                    refine r_get C hw (hsh 49 _ rfl) fl_X12_188 (oV_i rfl) dX12_count_178 (ti_c (ig13 (B + 49) 19).toInt rfl fun z22 hz22 => ?_)
                    have k23 : 0 ≤ (ig13 (B + 49) 19).toInt ∧ (ig13 (B + 49) 19).toInt ≤ 20 := hI.i 49 19 (by decide) (by decide)
                    refine lv_goto (tgt := 185) hx hb dX12_count_181 (by decide) ?_
                    exact r_iret C hw hr hlk rfl (Nat.le_of_ble_eq_true rfl) (Nat.le_of_ble_eq_true rfl) dX12_count_185 ⟨rfl, rfl, hI, hF, ⟨_, rfl, ⟨CnR.c5 (by omega) (by have q9 := hM.len; omega), by omega⟩⟩⟩
                · refine lv_aload_n hx hb dX12_count_165 rfl (lv_at hl 5 rfl) ?_
                  refine r_get C hw (hsh 49 _ rfl) fl_X12_11 (oV_i rfl) dX12_count_166 (ti_c (ig13 (B + 49) 2).toInt rfl fun z24 hz24 => ?_)
                  have k25 : 0 ≤ (ig13 (B + 49) 2).toInt ∧ (ig13 (B + 49) 2).toInt ≤ 120 := hI.i 49 2 (by decide) (by decide)
                  refine lv_goto (tgt := 185) hx hb dX12_count_169 (by decide) ?_
                  exact r_iret C hw hr hlk rfl (Nat.le_of_ble_eq_true rfl) (Nat.le_of_ble_eq_true rfl) dX12_count_185 ⟨rfl, rfl, hI, hF, ⟨_, rfl, ⟨CnR.c4 (by omega) (by rw [hz24]; exact hI.len.1), by omega⟩⟩⟩
              · refine lv_iload hx hb dX12_count_155 (lv_at hl 1 rfl) ?_
                refine lv_goto (tgt := 185) hx hb dX12_count_157 (by decide) ?_
                exact r_iret C hw hr hlk rfl (Nat.le_of_ble_eq_true rfl) (Nat.le_of_ble_eq_true rfl) dX12_count_185 ⟨rfl, rfl, hI, hF, ⟨_, rfl, ⟨CnR.c3 (by omega) ⟨_, _, hU.2, CQ.at g18_6 (by omega)⟩, by omega⟩⟩⟩
            · refine lv_iload hx hb dX12_count_145 (lv_at hl 2 rfl) ?_
              refine lv_goto (tgt := 185) hx hb dX12_count_147 (by decide) ?_
              exact r_iret C hw hr hlk rfl (Nat.le_of_ble_eq_true rfl) (Nat.le_of_ble_eq_true rfl) dX12_count_185 ⟨rfl, rfl, hI, hF, ⟨_, rfl, ⟨CnR.c2 (by omega) (CQ.at g18_5 (by omega)), by omega⟩⟩⟩
          · refine lv_iload_n hx hb dX12_count_136 rfl (lv_at hl 3 rfl) ?_
            refine lv_goto (tgt := 185) hx hb dX12_count_137 (by decide) ?_
            exact r_iret C hw hr hlk rfl (Nat.le_of_ble_eq_true rfl) (Nat.le_of_ble_eq_true rfl) dX12_count_185 ⟨rfl, rfl, hI, hF, ⟨_, rfl, ⟨CnR.c1 (by omega) (CQ.at g18_4 (by omega)), by omega⟩⟩⟩
        · refine lv_iload_n hx hb dX12_count_127 rfl (lv_at hl 4 rfl) ?_
          refine lv_goto (tgt := 185) hx hb dX12_count_128 (by decide) ?_
          exact r_iret C hw hr hlk rfl (Nat.le_of_ble_eq_true rfl) (Nat.le_of_ble_eq_true rfl) dX12_count_185 ⟨rfl, rfl, hI, hF, ⟨_, rfl, ⟨CnR.c0 (by omega) (CQ.at g18_3 (by omega)), by omega⟩⟩⟩
      · refine lv_iload_n hx hb dX12_count_26 rfl (lv_at hl 4 rfl) ?_
        refine lv_aload_n hx hb dX12_count_27 rfl (lv_at hl 5 rfl) ?_
        refine r_get C hw (hsh 49 _ rfl) fl_X12_80 (oV_r rfl (hrm (49, 15, 59) (by decide))) dX12_count_28 ?_
        refine lv_iload hx hb dX12_count_31 (lv_at hl 0 rfl) ?_
        refine r_iald C hw (hsh 59 _ rfl) (by omega) (by omega) dX12_count_33 (ti_c (ig13 (B + 59) v8.toInt.toNat).toInt rfl fun z26 hz26 => ?_)
        rw [Ft.i hF 59 _ (by decide)] at hz26
        have kd1 : z26.toInt = kdO (σ v8.toInt.toNat) := by rw [hz26]; exact (hM.1 _ (by omega)).1.1
        refine lv_iconst (v := 1) hx hb dX12_count_34 (by decide) (ti_c 1 (by decide) fun z28 hz28 => ?_)
        have J43 : ∀ (ls : Array Slot) (H : Heap) (locs : List Loc) (ig30 : sI) (lg31 : sG) (u29 : Int32), lv_has ls 7 [(6, .int v8), (5, .int v9), (4, .int v10), (3, .int v11), (0, .ref (B + 49)), (1, .int x)] → WD B D cA s.heap kd ig30 rg lg31 H locs → IM τ φ υ B kd ig30 rg → Ft B [49] ig lg ig30 lg31 → ((u29.toInt = 1 ∧ kdO (σ v8.toInt.toNat) = 1) ∨ (u29.toInt = 0 ∧ ¬ (kdO (σ v8.toInt.toNat) = 1))) → ((ig30 (B + 49) 19).toInt = (ig (B + 49) 19).toInt) → W p l e (rL 0 0 0) s m args below meth c H locs 0 0 (MQ below (QcW B D cA (PM τ φ υ B [49] kd ig rg lg (fun r ig' lg' => ∃ z : Int32, r = some (.int z) ∧ (CnR τ σ π x.toInt z.toInt ∧ (ig' (B + 49) 19).toInt = (ig (B + 49) 19).toInt)))) args s 0 0 (fun q => B ≤ q)) (F0 m 43 ls [.int u29, .int v12]) := by
          intro ls H locs ig30 lg31 u29 hl hw hI hF g43_0 g43_1
          refine lv_iadd hx hb dX12_count_43 (tc_add fun z32 hz32 => ?_)
          first | replace hz32 := hz32 (by omega) | clear hz32
          refine lv_istore_n (lv' := [(2, .int z32), (6, .int v8), (5, .int v9), (4, .int v10), (3, .int v11), (0, .ref (B + 49)), (1, .int x)]) hx hb dX12_count_44 rfl hl (by decide) rfl (fun ls hl => ?_)
          refine lv_iload_n hx hb dX12_count_45 rfl (lv_at hl 4 rfl) ?_
          refine lv_aload_n hx hb dX12_count_46 rfl (lv_at hl 5 rfl) ?_
          refine r_get C hw (hsh 49 _ rfl) fl_X12_80 (oV_r rfl (hrm (49, 15, 59) (by decide))) dX12_count_47 ?_
          refine lv_iload hx hb dX12_count_50 (lv_at hl 1 rfl) ?_
          refine r_iald C hw (hsh 59 _ rfl) (by omega) (by omega) dX12_count_52 (ti_c (ig30 (B + 59) v8.toInt.toNat).toInt rfl fun z33 hz33 => ?_)
          rw [Ft.i hF 59 _ (by decide)] at hz33
          have kd2 : z33.toInt = kdO (σ v8.toInt.toNat) := by rw [hz33]; exact (hM.1 _ (by omega)).1.1
          refine lv_iconst (v := 2) hx hb dX12_count_53 (by decide) (ti_c 2 (by decide) fun z35 hz35 => ?_)
          have J62 : ∀ (ls : Array Slot) (H : Heap) (locs : List Loc) (ig37 : sI) (lg38 : sG) (u36 : Int32), lv_has ls 7 [(2, .int z32), (6, .int v8), (5, .int v9), (4, .int v10), (0, .ref (B + 49)), (1, .int x)] → WD B D cA s.heap kd ig37 rg lg38 H locs → IM τ φ υ B kd ig37 rg → Ft B [49] ig lg ig37 lg38 → ((u36.toInt = 1 ∧ kdO (σ v8.toInt.toNat) = 2) ∨ (u36.toInt = 0 ∧ ¬ (kdO (σ v8.toInt.toNat) = 2))) → ((ig37 (B + 49) 19).toInt = (ig (B + 49) 19).toInt) → W p l e (rL 0 0 0) s m args below meth c H locs 0 0 (MQ below (QcW B D cA (PM τ φ υ B [49] kd ig rg lg (fun r ig' lg' => ∃ z : Int32, r = some (.int z) ∧ (CnR τ σ π x.toInt z.toInt ∧ (ig' (B + 49) 19).toInt = (ig (B + 49) 19).toInt)))) args s 0 0 (fun q => B ≤ q)) (F0 m 62 ls [.int u36, .int v11]) := by
            intro ls H locs ig37 lg38 u36 hl hw hI hF g62_0 g62_1
            refine lv_iadd hx hb dX12_count_62 (tc_add fun z39 hz39 => ?_)
            first | replace hz39 := hz39 (by omega) | clear hz39
            refine lv_istore_n (lv' := [(3, .int z39), (2, .int z32), (6, .int v8), (5, .int v9), (4, .int v10), (0, .ref (B + 49)), (1, .int x)]) hx hb dX12_count_63 rfl hl (by decide) rfl (fun ls hl => ?_)
            refine lv_iload hx hb dX12_count_64 (lv_at hl 4 rfl) ?_
            refine lv_aload_n hx hb dX12_count_66 rfl (lv_at hl 5 rfl) ?_
            refine r_get C hw (hsh 49 _ rfl) fl_X12_80 (oV_r rfl (hrm (49, 15, 59) (by decide))) dX12_count_67 ?_
            refine lv_iload hx hb dX12_count_70 (lv_at hl 2 rfl) ?_
            refine r_iald C hw (hsh 59 _ rfl) (by omega) (by omega) dX12_count_72 (ti_c (ig37 (B + 59) v8.toInt.toNat).toInt rfl fun z40 hz40 => ?_)
            rw [Ft.i hF 59 _ (by decide)] at hz40
            have kd3 : z40.toInt = kdO (σ v8.toInt.toNat) := by rw [hz40]; exact (hM.1 _ (by omega)).1.1
            refine lv_iconst (v := 2) hx hb dX12_count_73 (by decide) (ti_c 2 (by decide) fun z42 hz42 => ?_)
            have J94 : ∀ (ls : Array Slot) (H : Heap) (locs : List Loc) (ig44 : sI) (lg45 : sG) (u43 : Int32), lv_has ls 7 [(3, .int z39), (2, .int z32), (6, .int v8), (5, .int v9), (0, .ref (B + 49)), (1, .int x)] → WD B D cA s.heap kd ig44 rg lg45 H locs → IM τ φ υ B kd ig44 rg → Ft B [49] ig lg ig44 lg45 → ((u43.toInt = 1 ∧ isEl σ v8.toInt.toNat) ∨ (u43.toInt = 0 ∧ ¬ (isEl σ v8.toInt.toNat))) → ((ig44 (B + 49) 19).toInt = (ig (B + 49) 19).toInt) → W p l e (rL 0 0 0) s m args below meth c H locs 0 0 (MQ below (QcW B D cA (PM τ φ υ B [49] kd ig rg lg (fun r ig' lg' => ∃ z : Int32, r = some (.int z) ∧ (CnR τ σ π x.toInt z.toInt ∧ (ig' (B + 49) 19).toInt = (ig (B + 49) 19).toInt)))) args s 0 0 (fun q => B ≤ q)) (F0 m 94 ls [.int u43, .int v10]) := by
              intro ls H locs ig44 lg45 u43 hl hw hI hF g94_0 g94_1
              refine lv_iadd hx hb dX12_count_94 (tc_add fun z46 hz46 => ?_)
              first | replace hz46 := hz46 (by omega) | clear hz46
              refine lv_istore (lv' := [(4, .int z46), (3, .int z39), (2, .int z32), (6, .int v8), (5, .int v9), (0, .ref (B + 49)), (1, .int x)]) hx hb dX12_count_95 hl (by decide) rfl (fun ls hl => ?_)
              refine lv_iload hx hb dX12_count_97 (lv_at hl 4 rfl) ?_
              refine lv_aload_n hx hb dX12_count_99 rfl (lv_at hl 5 rfl) ?_
              refine r_get C hw (hsh 49 _ rfl) fl_X12_105 (oV_r rfl (hrm (49, 24, 67) (by decide))) dX12_count_100 ?_
              refine lv_iload hx hb dX12_count_103 (lv_at hl 3 rfl) ?_
              refine r_iald C hw (hsh 67 _ rfl) (by omega) (by omega) dX12_count_105 (ti_c (ig44 (B + 67) v8.toInt.toNat).toInt rfl fun z47 hz47 => ?_)
              rw [Ft.i hF 67 _ (by decide)] at hz47
              have er1 : z47.toInt = (ig (B + 67) v8.toInt.toNat).toInt := hz47
              have er2 := nn9 v8.toInt.toNat (by omega)
              have J114 : ∀ (ls : Array Slot) (H : Heap) (locs : List Loc) (ig50 : sI) (lg51 : sG) (u49 : Int32), lv_has ls 7 [(4, .int z46), (3, .int z39), (2, .int z32), (6, .int v8), (0, .ref (B + 49)), (1, .int x)] → WD B D cA s.heap kd ig50 rg lg51 H locs → IM τ φ υ B kd ig50 rg → Ft B [49] ig lg ig50 lg51 → ((u49.toInt = 1 ∧ (ig (B + 67) v8.toInt.toNat).toInt ≠ 0) ∨ (u49.toInt = 0 ∧ ¬ ((ig (B + 67) v8.toInt.toNat).toInt ≠ 0))) → ((ig50 (B + 49) 19).toInt = (ig (B + 49) 19).toInt) → W p l e (rL 0 0 0) s m args below meth c H locs 0 0 (MQ below (QcW B D cA (PM τ φ υ B [49] kd ig rg lg (fun r ig' lg' => ∃ z : Int32, r = some (.int z) ∧ (CnR τ σ π x.toInt z.toInt ∧ (ig' (B + 49) 19).toInt = (ig (B + 49) 19).toInt)))) args s 0 0 (fun q => B ≤ q)) (F0 m 114 ls [.int u49, .int v9]) := by
                intro ls H locs ig50 lg51 u49 hl hw hI hF g114_0 g114_1
                refine lv_iadd hx hb dX12_count_114 (tc_add fun z52 hz52 => ?_)
                first | replace hz52 := hz52 (by omega) | clear hz52
                refine lv_istore (lv' := [(5, .int z52), (4, .int z46), (3, .int z39), (2, .int z32), (6, .int v8), (0, .ref (B + 49)), (1, .int x)]) hx hb dX12_count_115 hl (by decide) rfl (fun ls hl => ?_)
                refine tc_inc hx hb dX12_count_117 hl (k := 4) rfl (by decide) (by decide) (fun z53 hz53 ls hl => ?_)
                first | replace hz53 := hz53 (by omega) | clear hz53
                have hl : lv_has ls 7 [(6, .int z53), (5, .int z52), (4, .int z46), (3, .int z39), (2, .int z32), (0, .ref (B + 49)), (1, .int x)] := hl
                refine lv_goto (tgt := 18) hx hb dX12_count_120 (by decide) ?_
                exact ih18 ls H locs ig50 lg51 z53 z52 z46 z39 z32 (lv_sub hl [0, 1, 2, 3, 4, 5, 6] rfl) hw hI hF (by omega) (by omega) (by omega) (by rw [show z53.toInt.toNat = v8.toInt.toNat + 1 by omega]; exact CQ.st g18_3 g43_0 (by omega)) (by rw [show z53.toInt.toNat = v8.toInt.toNat + 1 by omega]; exact CQ.st g18_4 g62_0 (by omega)) (by rw [show z53.toInt.toNat = v8.toInt.toNat + 1 by omega]; exact CQ.st g18_5 g94_0 (by omega)) (by rw [show z53.toInt.toNat = v8.toInt.toNat + 1 by omega]; exact CQ.st g18_6 g114_0 (by omega)) (by omega) (by omega)
              refine z_le (tgt := 113) hx hb dX12_count_106 (by decide) (fun c106 => ?_) (fun c106 => ?_)
              · refine lv_iconst (v := 0) hx hb dX12_count_113 (by decide) (ti_c 0 (by decide) fun z54 hz54 => ?_)
                exact J114 ls H locs ig44 lg45 z54 (lv_sub hl [0, 1, 2, 3, 5, 6] rfl) hw hI hF (Or.inr ⟨by omega, by omega⟩) (by omega)
              · refine lv_iconst (v := 1) hx hb dX12_count_109 (by decide) (ti_c 1 (by decide) fun z55 hz55 => ?_)
                refine lv_goto (tgt := 114) hx hb dX12_count_110 (by decide) ?_
                exact J114 ls H locs ig44 lg45 z55 (lv_sub hl [0, 1, 2, 3, 5, 6] rfl) hw hI hF (Or.inl ⟨by omega, by omega⟩) (by omega)
            refine b_ne (tgt := 93) hx hb dX12_count_74 (by decide) (fun c74 => ?_) (fun c74 => ?_)
            · refine lv_iconst (v := 0) hx hb dX12_count_93 (by decide) (ti_c 0 (by decide) fun z56 hz56 => ?_)
              exact J94 ls H locs ig37 lg38 z56 (lv_sub hl [0, 1, 2, 3, 5, 6] rfl) hw hI hF (Or.inr ⟨by omega, fun w => by have w1 := Iff.mpr (hU.1 v8.toInt.toNat (by omega)).el w; omega⟩) (by omega)
            · refine lv_aload_n hx hb dX12_count_77 rfl (lv_at hl 5 rfl) ?_
              refine r_get C hw (hsh 49 _ rfl) fl_X12_117 (oV_r rfl (hrm (49, 28, 71) (by decide))) dX12_count_78 ?_
              refine lv_iload hx hb dX12_count_81 (lv_at hl 2 rfl) ?_
              refine r_iald C hw (hsh 71 _ rfl) (by omega) (by omega) dX12_count_83 (ti_c (ig37 (B + 71) v8.toInt.toNat).toInt rfl fun z57 hz57 => ?_)
              rw [Ft.i hF 71 _ (by decide)] at hz57
              have fm1 : z57.toInt = (ig (B + 71) v8.toInt.toNat).toInt := hz57
              refine lv_iload hx hb dX12_count_84 (lv_at hl 2 rfl) ?_
              refine b_ne (tgt := 93) hx hb dX12_count_86 (by decide) (fun c86 => ?_) (fun c86 => ?_)
              · refine lv_iconst (v := 0) hx hb dX12_count_93 (by decide) (ti_c 0 (by decide) fun z59 hz59 => ?_)
                exact J94 ls H locs ig37 lg38 z59 (lv_sub hl [0, 1, 2, 3, 5, 6] rfl) hw hI hF (Or.inr ⟨by omega, fun w => by have w1 := Iff.mpr (hU.1 v8.toInt.toNat (by omega)).el w; omega⟩) (by omega)
              · refine lv_iconst (v := 1) hx hb dX12_count_89 (by decide) (ti_c 1 (by decide) fun z60 hz60 => ?_)
                refine lv_goto (tgt := 94) hx hb dX12_count_90 (by decide) ?_
                exact J94 ls H locs ig37 lg38 z60 (lv_sub hl [0, 1, 2, 3, 5, 6] rfl) hw hI hF (Or.inl ⟨by omega, Iff.mp (hU.1 v8.toInt.toNat (by omega)).el ⟨by omega, by omega⟩⟩) (by omega)
          refine b_ne (tgt := 61) hx hb dX12_count_54 (by decide) (fun c54 => ?_) (fun c54 => ?_)
          · refine lv_iconst (v := 0) hx hb dX12_count_61 (by decide) (ti_c 0 (by decide) fun z61 hz61 => ?_)
            exact J62 ls H locs ig30 lg31 z61 (lv_sub hl [0, 1, 2, 3, 5, 6] rfl) hw hI hF (Or.inr ⟨by omega, by omega⟩) (by omega)
          · refine lv_iconst (v := 1) hx hb dX12_count_57 (by decide) (ti_c 1 (by decide) fun z62 hz62 => ?_)
            refine lv_goto (tgt := 62) hx hb dX12_count_58 (by decide) ?_
            exact J62 ls H locs ig30 lg31 z62 (lv_sub hl [0, 1, 2, 3, 5, 6] rfl) hw hI hF (Or.inl ⟨by omega, by omega⟩) (by omega)
        refine b_ne (tgt := 42) hx hb dX12_count_35 (by decide) (fun c35 => ?_) (fun c35 => ?_)
        · refine lv_iconst (v := 0) hx hb dX12_count_42 (by decide) (ti_c 0 (by decide) fun z63 hz63 => ?_)
          exact J43 ls H locs ig13 lg14 z63 (lv_sub hl [0, 1, 2, 3, 5, 6] rfl) hw hI hF (Or.inr ⟨by omega, by omega⟩) (by omega)
        · refine lv_iconst (v := 1) hx hb dX12_count_38 (by decide) (ti_c 1 (by decide) fun z64 hz64 => ?_)
          refine lv_goto (tgt := 43) hx hb dX12_count_39 (by decide) ?_
          exact J43 ls H locs ig13 lg14 z64 (lv_sub hl [0, 1, 2, 3, 5, 6] rfl) hw hI hF (Or.inl ⟨by omega, by omega⟩) (by omega)
  exact L18 ((288 - z7.toInt) + 1).toNat ls H locs ig2 lg z7 z6 z5 z4 z3 (lv_sub hl [0, 1, 2, 3, 4, 5, 6] rfl) hw hI hF (by omega) (by omega) (by omega) (by rw [show z7.toInt.toNat = 0 by omega]; exact CQ.zero (by omega)) (by rw [show z7.toInt.toNat = 0 by omega]; exact CQ.zero (by omega)) (by rw [show z7.toInt.toNat = 0 by omega]; exact CQ.zero (by omega)) (by rw [show z7.toInt.toNat = 0 by omega]; exact CQ.zero (by omega)) (by omega) (by omega)
