set_option maxHeartbeats 4000000 in
set_option maxRecDepth 100000 in
theorem t_X12_findReads {υ : Option Int} {τ : Tp} {φ : Option Int} (l : Launch) (B : Nat) (D : va_G) (cA : Nat → ClassId) (kd : sK) (ig : sI) (rg : sR) (lg : sG) (sz : Nat)  (hI : IM τ φ υ B kd ig rg) : MC l B D cA yX12_findReads cX12_findReads 7 none (rL 1 0 0) [.ref (B + 49)] kd ig rg lg sz (PM τ φ υ B [64, 65] kd ig rg lg (fun r ig' lg' => r = none)) := by
  refine MC.of (own := RX12) (by decide +kernel) rfl (Nat.le_of_ble_eq_true rfl) ?_
  intro p e s m args below meth c ls C hr hlk hnm hw hsz hl
  have hx := C.1.1
  have hb := C.1.2.1
  have hown := C.1.2.2.2.1
  have hts := C.1.2.2.2.2
  have hl : lv_has ls 7 [(0, .ref (B + 49))] := hl
  have hF : Ft B [64, 65] ig lg ig lg := Ft.rf
  have hsh := hI.sh
  have hrm := hI.rm
  have hI0 := hI
  refine lv_iconst (v := 0) hx hb dX12_findReads_0 (by decide) (ti_c 0 (by decide) fun z1 hz1 => ?_)
  refine lv_istore_n (lv' := [(1, .int z1), (0, .ref (B + 49))]) hx hb dX12_findReads_1 rfl hl (by decide) rfl (fun ls hl => ?_)
  have L2 : ∀ (n : Nat) (ls : Array Slot) (H : Heap) (locs : List Loc) (ig3 : sI) (lg4 : sG) (v2 : Int32), lv_has ls 7 [(1, .int v2), (0, .ref (B + 49))] → WD B D cA s.heap kd ig3 rg lg4 H locs → IM τ φ υ B kd ig3 rg → Ft B [64, 65] ig lg ig3 lg4 → (0 ≤ v2.toInt) → (v2.toInt ≤ 1440) → 1440 - v2.toInt < (n : Int) → W p l e (rL 1 0 0) s m args below meth c H locs 0 0 (MQ below (QcW B D cA (PM τ φ υ B [64, 65] kd ig rg lg (fun r ig' lg' => r = none))) args s 0 0 (fun q => B ≤ q)) (F0 m 2 ls []) := by
    intro n2
    induction n2 with
    | zero => intro ls H locs ig3 lg4 v2 hl hw hI hF g2_0 g2_1 hmu; exact absurd hmu (by omega)
    | succ n2 ih2 =>
      intro ls H locs ig3 lg4 v2 hl hw hI hF g2_0 g2_1 hmu
      refine lv_iload_n hx hb dX12_findReads_2 rfl (lv_at hl 0 rfl) ?_
      refine lv_sipush (v := 1440) hx hb dX12_findReads_3 (by decide) (ti_c 1440 (by decide) fun z5 hz5 => ?_)
      refine b_ge (tgt := 22) hx hb dX12_findReads_6 (by decide) (fun c6 => ?_) (fun c6 => ?_)
      · refine lv_iconst (v := 0) hx hb dX12_findReads_22 (by decide) (ti_c 0 (by decide) fun z6 hz6 => ?_)
        refine lv_istore_n (lv' := [(1, .int z6), (0, .ref (B + 49))]) hx hb dX12_findReads_23 rfl hl (by decide) rfl (fun ls hl => ?_)
        have L24 : ∀ (n : Nat) (ls : Array Slot) (H : Heap) (locs : List Loc) (ig8 : sI) (lg9 : sG) (v7 : Int32), lv_has ls 7 [(1, .int v7), (0, .ref (B + 49))] → WD B D cA s.heap kd ig8 rg lg9 H locs → IM τ φ υ B kd ig8 rg → Ft B [64, 65] ig lg ig8 lg9 → (0 ≤ v7.toInt) → (v7.toInt ≤ 288) → 288 - v7.toInt < (n : Int) → W p l e (rL 1 0 0) s m args below meth c H locs 0 0 (MQ below (QcW B D cA (PM τ φ υ B [64, 65] kd ig rg lg (fun r ig' lg' => r = none))) args s 0 0 (fun q => B ≤ q)) (F0 m 24 ls []) := by
          intro n24
          induction n24 with
          | zero => intro ls H locs ig8 lg9 v7 hl hw hI hF g24_0 g24_1 hmu; exact absurd hmu (by omega)
          | succ n24 ih24 =>
            intro ls H locs ig8 lg9 v7 hl hw hI hF g24_0 g24_1 hmu
            refine lv_iload_n hx hb dX12_findReads_24 rfl (lv_at hl 0 rfl) ?_
            refine lv_sipush (v := 288) hx hb dX12_findReads_25 (by decide) (ti_c 288 (by decide) fun z10 hz10 => ?_)
            refine b_ge (tgt := 158) hx hb dX12_findReads_28 (by decide) (fun c28 => ?_) (fun c28 => ?_)
            · refine lv_iconst (v := 0) hx hb dX12_findReads_158 (by decide) (ti_c 0 (by decide) fun z11 hz11 => ?_)
              refine lv_istore_n (lv' := [(1, .int z11), (0, .ref (B + 49))]) hx hb dX12_findReads_159 rfl hl (by decide) rfl (fun ls hl => ?_)
              have L160 : ∀ (n : Nat) (ls : Array Slot) (H : Heap) (locs : List Loc) (ig13 : sI) (lg14 : sG) (v12 : Int32), lv_has ls 7 [(1, .int v12), (0, .ref (B + 49))] → WD B D cA s.heap kd ig13 rg lg14 H locs → IM τ φ υ B kd ig13 rg → Ft B [64, 65] ig lg ig13 lg14 → (0 ≤ v12.toInt) → (v12.toInt ≤ 1440) → 1440 - v12.toInt < (n : Int) → W p l e (rL 1 0 0) s m args below meth c H locs 0 0 (MQ below (QcW B D cA (PM τ φ υ B [64, 65] kd ig rg lg (fun r ig' lg' => r = none))) args s 0 0 (fun q => B ≤ q)) (F0 m 160 ls []) := by
                intro n160
                induction n160 with
                | zero => intro ls H locs ig13 lg14 v12 hl hw hI hF g160_0 g160_1 hmu; exact absurd hmu (by omega)
                | succ n160 ih160 =>
                  intro ls H locs ig13 lg14 v12 hl hw hI hF g160_0 g160_1 hmu
                  refine lv_iload_n hx hb dX12_findReads_160 rfl (lv_at hl 0 rfl) ?_
                  refine lv_sipush (v := 1440) hx hb dX12_findReads_161 (by decide) (ti_c 1440 (by decide) fun z15 hz15 => ?_)
                  refine b_ge (tgt := 185) hx hb dX12_findReads_164 (by decide) (fun c164 => ?_) (fun c164 => ?_)
                  · refine lv_iconst (v := 0) hx hb dX12_findReads_185 (by decide) (ti_c 0 (by decide) fun z16 hz16 => ?_)
                    refine lv_istore_n (lv' := [(1, .int z16), (0, .ref (B + 49))]) hx hb dX12_findReads_186 rfl hl (by decide) rfl (fun ls hl => ?_)
                    have L187 : ∀ (n : Nat) (ls : Array Slot) (H : Heap) (locs : List Loc) (ig18 : sI) (lg19 : sG) (v17 : Int32), lv_has ls 7 [(1, .int v17), (0, .ref (B + 49))] → WD B D cA s.heap kd ig18 rg lg19 H locs → IM τ φ υ B kd ig18 rg → Ft B [64, 65] ig lg ig18 lg19 → (0 ≤ v17.toInt) → (v17.toInt ≤ 288) → 288 - v17.toInt < (n : Int) → W p l e (rL 1 0 0) s m args below meth c H locs 0 0 (MQ below (QcW B D cA (PM τ φ υ B [64, 65] kd ig rg lg (fun r ig' lg' => r = none))) args s 0 0 (fun q => B ≤ q)) (F0 m 187 ls []) := by
                      intro n187
                      induction n187 with
                      | zero => intro ls H locs ig18 lg19 v17 hl hw hI hF g187_0 g187_1 hmu; exact absurd hmu (by omega)
                      | succ n187 ih187 =>
                        intro ls H locs ig18 lg19 v17 hl hw hI hF g187_0 g187_1 hmu
                        refine lv_iload_n hx hb dX12_findReads_187 rfl (lv_at hl 0 rfl) ?_
                        refine lv_sipush (v := 288) hx hb dX12_findReads_188 (by decide) (ti_c 288 (by decide) fun z20 hz20 => ?_)
                        refine b_ge (tgt := 273) hx hb dX12_findReads_191 (by decide) (fun c191 => ?_) (fun c191 => ?_)
                        · exact r_vret C hw hr hlk (Nat.le_of_ble_eq_true rfl) (Nat.le_of_ble_eq_true rfl) dX12_findReads_273 ⟨rfl, rfl, hI, hF, rfl⟩
                        · refine lv_iconst (v := 0) hx hb dX12_findReads_194 (by decide) (ti_c 0 (by decide) fun z21 hz21 => ?_)
                          refine lv_istore_n (lv' := [(2, .int z21), (1, .int v17), (0, .ref (B + 49))]) hx hb dX12_findReads_195 rfl hl (by decide) rfl (fun ls hl => ?_)
                          have L196 : ∀ (n : Nat) (ls : Array Slot) (H : Heap) (locs : List Loc) (ig23 : sI) (lg24 : sG) (v22 : Int32), lv_has ls 7 [(2, .int v22), (1, .int v17), (0, .ref (B + 49))] → WD B D cA s.heap kd ig23 rg lg24 H locs → IM τ φ υ B kd ig23 rg → Ft B [64, 65] ig lg ig23 lg24 → (0 ≤ v22.toInt) → (v22.toInt ≤ 288) → 288 - v22.toInt < (n : Int) → W p l e (rL 1 0 0) s m args below meth c H locs 0 0 (MQ below (QcW B D cA (PM τ φ υ B [64, 65] kd ig rg lg (fun r ig' lg' => r = none))) args s 0 0 (fun q => B ≤ q)) (F0 m 196 ls []) := by
                            intro n196
                            induction n196 with
                            | zero => intro ls H locs ig23 lg24 v22 hl hw hI hF g196_0 g196_1 hmu; exact absurd hmu (by omega)
                            | succ n196 ih196 =>
                              intro ls H locs ig23 lg24 v22 hl hw hI hF g196_0 g196_1 hmu
                              refine lv_iload_n hx hb dX12_findReads_196 rfl (lv_at hl 0 rfl) ?_
                              refine lv_sipush (v := 288) hx hb dX12_findReads_197 (by decide) (ti_c 288 (by decide) fun z25 hz25 => ?_)
                              refine b_ge (tgt := 267) hx hb dX12_findReads_200 (by decide) (fun c200 => ?_) (fun c200 => ?_)
                              · refine tc_inc hx hb dX12_findReads_267 hl (k := 1) rfl (by decide) (by decide) (fun z26 hz26 ls hl => ?_)
                                first | replace hz26 := hz26 (by omega) | clear hz26
                                have hl : lv_has ls 7 [(1, .int z26), (2, .int v22), (0, .ref (B + 49))] := hl
                                refine lv_goto (tgt := 187) hx hb dX12_findReads_270 (by decide) ?_
                                exact ih187 ls H locs ig23 lg24 z26 (lv_sub hl [0, 2] rfl) hw hI hF (by omega) (by omega) (by omega)
                              · refine lv_aload_n hx hb dX12_findReads_203 rfl (lv_at hl 2 rfl) ?_
                                refine r_get C hw (hsh 49 _ rfl) fl_X12_80 (oV_r rfl (hrm (49, 15, 59) (by decide))) dX12_findReads_204 ?_
                                refine lv_iload_n hx hb dX12_findReads_207 rfl (lv_at hl 1 rfl) ?_
                                refine r_iald C hw (hsh 59 _ rfl) (by omega) (by omega) dX12_findReads_208 (ti_c (ig23 (B + 59) v17.toInt.toNat).toInt rfl fun z27 hz27 => ?_)
                                rw [Ft.i hF 59 _ (by decide)] at hz27
                                refine lv_iconst (v := 2) hx hb dX12_findReads_209 (by decide) (ti_c 2 (by decide) fun z29 hz29 => ?_)
                                refine b_ne (tgt := 267) hx hb dX12_findReads_210 (by decide) (fun c210 => ?_) (fun c210 => ?_)
                                · refine tc_inc hx hb dX12_findReads_267 hl (k := 1) rfl (by decide) (by decide) (fun z30 hz30 ls hl => ?_)
                                  first | replace hz30 := hz30 (by omega) | clear hz30
                                  have hl : lv_has ls 7 [(1, .int z30), (2, .int v22), (0, .ref (B + 49))] := hl
                                  refine lv_goto (tgt := 187) hx hb dX12_findReads_270 (by decide) ?_
                                  exact ih187 ls H locs ig23 lg24 z30 (lv_sub hl [0, 2] rfl) hw hI hF (by omega) (by omega) (by omega)
                                · refine lv_aload_n hx hb dX12_findReads_213 rfl (lv_at hl 2 rfl) ?_
                                  refine r_get C hw (hsh 49 _ rfl) fl_X12_99 (oV_r rfl (hrm (49, 22, 65) (by decide))) dX12_findReads_214 ?_
                                  refine lv_iload_n hx hb dX12_findReads_217 rfl (lv_at hl 0 rfl) ?_
                                  refine lv_iload_n hx hb dX12_findReads_218 rfl (lv_at hl 1 rfl) ?_
                                  refine r_callS (As := [.ref (B + 65), .int v22, .int v17]) (rest := []) C hw (t_X12_has l B D cA kd ig23 rg lg24 _ 65 (Or.inr rfl) v22 v17 (by omega) (by omega) hI) ss_X12_222 rfl hl.1 rfl (Nat.le_of_ble_eq_true rfl) ⟨Nat.le_of_ble_eq_true rfl, Nat.le_of_ble_eq_true rfl⟩ ⟨Nat.le_of_ble_eq_true rfl, Nat.le_of_ble_eq_true rfl⟩ dX12_findReads_219 (fun r35 kd31 ig32 rg33 lg34 H locs hw hH hp36 => ?_)
                                  obtain ⟨rfl, rfl, rfl, rfl, hzhp36, hrhp36⟩ := hp36
                                  obtain ⟨z37, rfl, hz37⟩ := hrhp36
                                  refine z_eq (tgt := 261) hx hb dX12_findReads_222 (by decide) (fun c222 => ?_) (fun c222 => ?_)
                                  · refine tc_inc hx hb dX12_findReads_261 hl (k := 0) rfl (by decide) (by decide) (fun z38 hz38 ls hl => ?_)
                                    first | replace hz38 := hz38 (by omega) | clear hz38
                                    have hl : lv_has ls 7 [(2, .int z38), (1, .int v17), (0, .ref (B + 49))] := hl
                                    refine lv_goto (tgt := 196) hx hb dX12_findReads_264 (by decide) ?_
                                    exact ih196 ls H locs ig23 lg24 z38 (lv_sub hl [0, 1, 2] rfl) hw hI hF (by omega) (by omega) (by omega)
                                  · refine lv_iconst (v := 0) hx hb dX12_findReads_225 (by decide) (ti_c 0 (by decide) fun z39 hz39 => ?_)
                                    refine lv_istore_n (lv' := [(3, .int z39), (2, .int v22), (1, .int v17), (0, .ref (B + 49))]) hx hb dX12_findReads_226 rfl hl (by decide) rfl (fun ls hl => ?_)
                                    have L227 : ∀ (n : Nat) (ls : Array Slot) (H : Heap) (locs : List Loc) (ig41 : sI) (lg42 : sG) (v40 : Int32), lv_has ls 7 [(3, .int v40), (2, .int v22), (1, .int v17), (0, .ref (B + 49))] → WD B D cA s.heap kd ig41 rg lg42 H locs → IM τ φ υ B kd ig41 rg → Ft B [64, 65] ig lg ig41 lg42 → (0 ≤ v40.toInt) → (v40.toInt ≤ 5) → 5 - v40.toInt < (n : Int) → W p l e (rL 1 0 0) s m args below meth c H locs 0 0 (MQ below (QcW B D cA (PM τ φ υ B [64, 65] kd ig rg lg (fun r ig' lg' => r = none))) args s 0 0 (fun q => B ≤ q)) (F0 m 227 ls []) := by
                                      intro n227
                                      induction n227 with
                                      | zero => intro ls H locs ig41 lg42 v40 hl hw hI hF g227_0 g227_1 hmu; exact absurd hmu (by omega)
                                      | succ n227 ih227 =>
                                        intro ls H locs ig41 lg42 v40 hl hw hI hF g227_0 g227_1 hmu
                                        refine lv_iload_n hx hb dX12_findReads_227 rfl (lv_at hl 0 rfl) ?_
                                        refine lv_iconst (v := 5) hx hb dX12_findReads_228 (by decide) (ti_c 5 (by decide) fun z43 hz43 => ?_)
                                        refine b_ge (tgt := 261) hx hb dX12_findReads_229 (by decide) (fun c229 => ?_) (fun c229 => ?_)
                                        · refine tc_inc hx hb dX12_findReads_261 hl (k := 1) rfl (by decide) (by decide) (fun z44 hz44 ls hl => ?_)
                                          first | replace hz44 := hz44 (by omega) | clear hz44
                                          have hl : lv_has ls 7 [(2, .int z44), (3, .int v40), (1, .int v17), (0, .ref (B + 49))] := hl
                                          refine lv_goto (tgt := 196) hx hb dX12_findReads_264 (by decide) ?_
                                          exact ih196 ls H locs ig41 lg42 z44 (lv_sub hl [0, 2, 3] rfl) hw hI hF (by omega) (by omega) (by omega)
                                        · refine lv_aload_n hx hb dX12_findReads_232 rfl (lv_at hl 3 rfl) ?_
                                          refine r_get C hw (hsh 49 _ rfl) fl_X12_99 (oV_r rfl (hrm (49, 22, 65) (by decide))) dX12_findReads_233 ?_
                                          refine lv_iconst (v := 5) hx hb dX12_findReads_236 (by decide) (ti_c 5 (by decide) fun z45 hz45 => ?_)
                                          refine lv_iload_n hx hb dX12_findReads_237 rfl (lv_at hl 1 rfl) ?_
                                          refine lv_imul hx hb dX12_findReads_238 (tc_mulL 5 hz45 fun z46 hz46 => ?_)
                                          first | replace hz46 := hz46 (by omega) | clear hz46
                                          refine lv_iload_n hx hb dX12_findReads_239 rfl (lv_at hl 0 rfl) ?_
                                          refine lv_iadd hx hb dX12_findReads_240 (tc_add fun z47 hz47 => ?_)
                                          first | replace hz47 := hz47 (by omega) | clear hz47
                                          refine lv_dup2_11 hx hb dX12_findReads_241 rfl rfl ?_
                                          refine r_lald C hw (hsh 65 _ rfl) (by omega) (by omega) dX12_findReads_242 (lv_topl fun x48 hx48 => ?_)
                                          refine lv_aload_n hx hb dX12_findReads_243 rfl (lv_at hl 3 rfl) ?_
                                          refine r_get C hw (hsh 49 _ rfl) fl_X12_99 (oV_r rfl (hrm (49, 22, 65) (by decide))) dX12_findReads_244 ?_
                                          refine lv_iconst (v := 5) hx hb dX12_findReads_247 (by decide) (ti_c 5 (by decide) fun z49 hz49 => ?_)
                                          refine lv_iload_n hx hb dX12_findReads_248 rfl (lv_at hl 2 rfl) ?_
                                          refine lv_imul hx hb dX12_findReads_249 (tc_mulL 5 hz49 fun z50 hz50 => ?_)
                                          first | replace hz50 := hz50 (by omega) | clear hz50
                                          refine lv_iload_n hx hb dX12_findReads_250 rfl (lv_at hl 0 rfl) ?_
                                          refine lv_iadd hx hb dX12_findReads_251 (tc_add fun z51 hz51 => ?_)
                                          first | replace hz51 := hz51 (by omega) | clear hz51
                                          refine r_lald C hw (hsh 65 _ rfl) (by omega) (by omega) dX12_findReads_252 (lv_topl fun x52 hx52 => ?_)
                                          refine lv_lor hx hb dX12_findReads_253 (lv_topl fun x53 hx53 => ?_)
                                          refine r_last C hw (hsh 65 _ rfl) (by omega) (by omega) dX12_findReads_254 (fun H locs hH hw => ?_)
                                          obtain ⟨lg54, elg54⟩ : ∃ f, f = up2 lg42 (B + 65) z47.toInt.toNat x53 := ⟨_, rfl⟩
                                          rw [← elg54] at hw
                                          have hF : Ft B [64, 65] ig lg ig41 lg54 := by rw [elg54]; exact hF.pl (by decide)
                                          refine tc_inc hx hb dX12_findReads_255 hl (k := 0) rfl (by decide) (by decide) (fun z55 hz55 ls hl => ?_)
                                          first | replace hz55 := hz55 (by omega) | clear hz55
                                          have hl : lv_has ls 7 [(3, .int z55), (2, .int v22), (1, .int v17), (0, .ref (B + 49))] := hl
                                          refine lv_goto (tgt := 227) hx hb dX12_findReads_258 (by decide) ?_
                                          exact ih227 ls H locs ig41 lg54 z55 (lv_sub hl [0, 1, 2, 3] rfl) hw hI hF (by omega) (by omega) (by omega)
                                    exact L227 ((5 - z39.toInt) + 1).toNat ls H locs ig23 lg24 z39 (lv_sub hl [0, 1, 2, 3] rfl) hw hI hF (by omega) (by omega) (by omega)
                          exact L196 ((288 - z21.toInt) + 1).toNat ls H locs ig18 lg19 z21 (lv_sub hl [0, 1, 2] rfl) hw hI hF (by omega) (by omega) (by omega)
                    exact L187 ((288 - z16.toInt) + 1).toNat ls H locs ig13 lg14 z16 (lv_sub hl [0, 1] rfl) hw hI hF (by omega) (by omega) (by omega)
                  · refine lv_aload_n hx hb dX12_findReads_167 rfl (lv_at hl 1 rfl) ?_
                    refine r_get C hw (hsh 49 _ rfl) fl_X12_99 (oV_r rfl (hrm (49, 22, 65) (by decide))) dX12_findReads_168 ?_
                    refine lv_iload_n hx hb dX12_findReads_171 rfl (lv_at hl 0 rfl) ?_
                    refine lv_aload_n hx hb dX12_findReads_172 rfl (lv_at hl 1 rfl) ?_
                    refine r_get C hw (hsh 49 _ rfl) fl_X12_96 (oV_r rfl (hrm (49, 21, 64) (by decide))) dX12_findReads_173 ?_
                    refine lv_iload_n hx hb dX12_findReads_176 rfl (lv_at hl 0 rfl) ?_
                    refine r_lald C hw (hsh 64 _ rfl) (by omega) (by omega) dX12_findReads_177 (lv_topl fun x56 hx56 => ?_)
                    refine r_last C hw (hsh 65 _ rfl) (by omega) (by omega) dX12_findReads_178 (fun H locs hH hw => ?_)
                    obtain ⟨lg57, elg57⟩ : ∃ f, f = up2 lg14 (B + 65) v12.toInt.toNat x56 := ⟨_, rfl⟩
                    rw [← elg57] at hw
                    have hF : Ft B [64, 65] ig lg ig13 lg57 := by rw [elg57]; exact hF.pl (by decide)
                    refine tc_inc hx hb dX12_findReads_179 hl (k := 0) rfl (by decide) (by decide) (fun z58 hz58 ls hl => ?_)
                    first | replace hz58 := hz58 (by omega) | clear hz58
                    have hl : lv_has ls 7 [(1, .int z58), (0, .ref (B + 49))] := hl
                    refine lv_goto (tgt := 160) hx hb dX12_findReads_182 (by decide) ?_
                    exact ih160 ls H locs ig13 lg57 z58 (lv_sub hl [0, 1] rfl) hw hI hF (by omega) (by omega) (by omega)
              exact L160 ((1440 - z11.toInt) + 1).toNat ls H locs ig8 lg9 z11 (lv_sub hl [0, 1] rfl) hw hI hF (by omega) (by omega) (by omega)
            · refine lv_iconst (v := 0) hx hb dX12_findReads_31 (by decide) (ti_c 0 (by decide) fun z59 hz59 => ?_)
              refine lv_istore_n (lv' := [(2, .int z59), (1, .int v7), (0, .ref (B + 49))]) hx hb dX12_findReads_32 rfl hl (by decide) rfl (fun ls hl => ?_)
              have L33 : ∀ (n : Nat) (ls : Array Slot) (H : Heap) (locs : List Loc) (ig61 : sI) (lg62 : sG) (v60 : Int32), lv_has ls 7 [(2, .int v60), (1, .int v7), (0, .ref (B + 49))] → WD B D cA s.heap kd ig61 rg lg62 H locs → IM τ φ υ B kd ig61 rg → Ft B [64, 65] ig lg ig61 lg62 → (0 ≤ v60.toInt) → (v60.toInt ≤ 120) → 120 - v60.toInt < (n : Int) → W p l e (rL 1 0 0) s m args below meth c H locs 0 0 (MQ below (QcW B D cA (PM τ φ υ B [64, 65] kd ig rg lg (fun r ig' lg' => r = none))) args s 0 0 (fun q => B ≤ q)) (F0 m 33 ls []) := by
                intro n33
                induction n33 with
                | zero => intro ls H locs ig61 lg62 v60 hl hw hI hF g33_0 g33_1 hmu; exact absurd hmu (by omega)
                | succ n33 ih33 =>
                  intro ls H locs ig61 lg62 v60 hl hw hI hF g33_0 g33_1 hmu
                  refine lv_iload_n hx hb dX12_findReads_33 rfl (lv_at hl 0 rfl) ?_
                  refine lv_aload_n hx hb dX12_findReads_34 rfl (lv_at hl 2 rfl) ?_
                  refine r_get C hw (hsh 49 _ rfl) fl_X12_77 (oV_r rfl (hrm (49, 13, 58) (by decide))) dX12_findReads_35 ?_
                  refine lv_iload_n hx hb dX12_findReads_38 rfl (lv_at hl 1 rfl) ?_
                  refine r_iald C hw (hsh 58 _ rfl) (by omega) (by omega) dX12_findReads_39 (ti_c (ig61 (B + 58) v7.toInt.toNat).toInt rfl fun z63 hz63 => ?_)
                  have k64 := hI.its (j := (v7.toInt.toNat)) (by omega)
                  rw [Ft.i hF 58 _ (by decide)] at hz63 k64
                  refine b_ge (tgt := 152) hx hb dX12_findReads_40 (by decide) (fun c40 => ?_) (fun c40 => ?_)
                  · refine tc_inc hx hb dX12_findReads_152 hl (k := 1) rfl (by decide) (by decide) (fun z65 hz65 ls hl => ?_)
                    first | replace hz65 := hz65 (by omega) | clear hz65
                    have hl : lv_has ls 7 [(1, .int z65), (2, .int v60), (0, .ref (B + 49))] := hl
                    refine lv_goto (tgt := 24) hx hb dX12_findReads_155 (by decide) ?_
                    exact ih24 ls H locs ig61 lg62 z65 (lv_sub hl [0, 2] rfl) hw hI hF (by omega) (by omega) (by omega)
                  · refine lv_aload_n hx hb dX12_findReads_43 rfl (lv_at hl 2 rfl) ?_
                    refine r_get C hw (hsh 49 _ rfl) fl_X12_80 (oV_r rfl (hrm (49, 15, 59) (by decide))) dX12_findReads_44 ?_
                    refine lv_iload_n hx hb dX12_findReads_47 rfl (lv_at hl 1 rfl) ?_
                    refine r_iald C hw (hsh 59 _ rfl) (by omega) (by omega) dX12_findReads_48 (ti_c (ig61 (B + 59) v7.toInt.toNat).toInt rfl fun z66 hz66 => ?_)
                    rw [Ft.i hF 59 _ (by decide)] at hz66
                    refine lv_iconst (v := 2) hx hb dX12_findReads_49 (by decide) (ti_c 2 (by decide) fun z68 hz68 => ?_)
                    refine b_ne (tgt := 152) hx hb dX12_findReads_50 (by decide) (fun c50 => ?_) (fun c50 => ?_)
                    · refine tc_inc hx hb dX12_findReads_152 hl (k := 1) rfl (by decide) (by decide) (fun z69 hz69 ls hl => ?_)
                      first | replace hz69 := hz69 (by omega) | clear hz69
                      have hl : lv_has ls 7 [(1, .int z69), (2, .int v60), (0, .ref (B + 49))] := hl
                      refine lv_goto (tgt := 24) hx hb dX12_findReads_155 (by decide) ?_
                      exact ih24 ls H locs ig61 lg62 z69 (lv_sub hl [0, 2] rfl) hw hI hF (by omega) (by omega) (by omega)
                    · refine lv_bipush (v := 120) hx hb dX12_findReads_53 (by decide) (ti_c 120 (by decide) fun z70 hz70 => ?_)
                      refine lv_iload_n hx hb dX12_findReads_55 rfl (lv_at hl 1 rfl) ?_
                      refine lv_imul hx hb dX12_findReads_56 (tc_mulL 120 hz70 fun z71 hz71 => ?_)
                      first | replace hz71 := hz71 (by omega) | clear hz71
                      refine lv_iload_n hx hb dX12_findReads_57 rfl (lv_at hl 0 rfl) ?_
                      refine lv_iadd hx hb dX12_findReads_58 (tc_add fun z72 hz72 => ?_)
                      first | replace hz72 := hz72 (by omega) | clear hz72
                      refine lv_istore_n (lv' := [(3, .int z72), (2, .int v60), (1, .int v7), (0, .ref (B + 49))]) hx hb dX12_findReads_59 rfl hl (by decide) rfl (fun ls hl => ?_)
                      refine lv_aload_n hx hb dX12_findReads_60 rfl (lv_at hl 3 rfl) ?_
                      refine r_get C hw (hsh 49 _ rfl) fl_X12_65 (oV_r rfl (hrm (49, 9, 54) (by decide))) dX12_findReads_61 ?_
                      refine lv_iload_n hx hb dX12_findReads_64 rfl (lv_at hl 0 rfl) ?_
                      refine r_iald C hw (hsh 54 _ rfl) (by omega) (by omega) dX12_findReads_65 (ti_c (ig61 (B + 54) z72.toInt.toNat).toInt rfl fun z73 hz73 => ?_)
                      rw [Ft.i hF 54 _ (by decide)] at hz73
                      refine lv_iconst (v := 3) hx hb dX12_findReads_66 (by decide) (ti_c 3 (by decide) fun z75 hz75 => ?_)
                      refine b_ne (tgt := 146) hx hb dX12_findReads_67 (by decide) (fun c67 => ?_) (fun c67 => ?_)
                      · refine tc_inc hx hb dX12_findReads_146 hl (k := 1) rfl (by decide) (by decide) (fun z76 hz76 ls hl => ?_)
                        first | replace hz76 := hz76 (by omega) | clear hz76
                        have hl : lv_has ls 7 [(2, .int z76), (3, .int z72), (1, .int v7), (0, .ref (B + 49))] := hl
                        refine lv_goto (tgt := 33) hx hb dX12_findReads_149 (by decide) ?_
                        exact ih33 ls H locs ig61 lg62 z76 (lv_sub hl [0, 2, 3] rfl) hw hI hF (by omega) (by omega) (by omega)
                      · refine lv_aload_n hx hb dX12_findReads_70 rfl (lv_at hl 3 rfl) ?_
                        refine lv_iload_n hx hb dX12_findReads_71 rfl (lv_at hl 2 rfl) ?_
                        refine lv_iload_n hx hb dX12_findReads_72 rfl (lv_at hl 1 rfl) ?_
                        refine r_callV (As := [.int v7, .int v60]) (rest := []) C hw (t_X12_spanLast l B D cA kd ig61 rg lg62 _ v7 v60 (by omega) (by rw [Ft.i hF 58 _ (by decide)]; omega) (by rw [Ft.i hF 59 _ (by decide)]; omega) (by rw [show (120 * v7.toInt + v60.toInt).toNat = z72.toInt.toNat by omega, Ft.i hF 54 _ (by decide)]; omega) hI) sv_X12_214 (hsh 49 _ rfl) rfl hl.1 rfl (Nat.le_of_ble_eq_true rfl) ⟨Nat.le_of_ble_eq_true rfl, Nat.le_of_ble_eq_true rfl⟩ ⟨Nat.le_of_ble_eq_true rfl, Nat.le_of_ble_eq_true rfl⟩ dX12_findReads_73 (fun r81 kd77 ig78 rg79 lg80 H locs hw hH hp82 => ?_)
                        obtain ⟨rfl, rfl, rfl, rfl, hzhp82, hrhp82⟩ := hp82
                        obtain ⟨z83, rfl, hz83⟩ := hrhp82
                        rw [Ft.i hF 55 _ (by decide), Ft.i hF 56 _ (by decide)] at hz83
                        refine lv_istore (lv' := [(4, .int z83), (3, .int z72), (2, .int v60), (1, .int v7), (0, .ref (B + 49))]) hx hb dX12_findReads_76 hl (by decide) rfl (fun ls hl => ?_)
                        have rfi := IM.ref hI0 (p := v7) (k := v60) (i := z72) (by omega) (by omega) (by omega) (by omega) (by omega)
                        refine lv_aload_n hx hb dX12_findReads_78 rfl (lv_at hl 4 rfl) ?_
                        refine r_get C hw (hsh 49 _ rfl) fl_X12_71 (oV_r rfl (hrm (49, 11, 56) (by decide))) dX12_findReads_79 ?_
                        refine lv_iload_n hx hb dX12_findReads_82 rfl (lv_at hl 1 rfl) ?_
                        refine r_iald C hw (hsh 56 _ rfl) (by omega) (by omega) dX12_findReads_83 (ti_c (ig61 (B + 56) z72.toInt.toNat).toInt rfl fun z84 hz84 => ?_)
                        rw [Ft.i hF 56 _ (by decide)] at hz84
                        refine lv_istore (lv' := [(5, .int z84), (4, .int z83), (3, .int z72), (2, .int v60), (1, .int v7), (0, .ref (B + 49))]) hx hb dX12_findReads_84 hl (by decide) rfl (fun ls hl => ?_)
                        have L86 : ∀ (n : Nat) (ls : Array Slot) (H : Heap) (locs : List Loc) (ig87 : sI) (lg88 : sG) (v86 : Int32), lv_has ls 7 [(5, .int v86), (4, .int z83), (3, .int z72), (2, .int v60), (1, .int v7), (0, .ref (B + 49))] → WD B D cA s.heap kd ig87 rg lg88 H locs → IM τ φ υ B kd ig87 rg → Ft B [64, 65] ig lg ig87 lg88 → (0 ≤ v86.toInt) → (v86.toInt ≤ 24) → 24 - v86.toInt < (n : Int) → W p l e (rL 1 0 0) s m args below meth c H locs 0 0 (MQ below (QcW B D cA (PM τ φ υ B [64, 65] kd ig rg lg (fun r ig' lg' => r = none))) args s 0 0 (fun q => B ≤ q)) (F0 m 86 ls []) := by
                          intro n86
                          induction n86 with
                          | zero => intro ls H locs ig87 lg88 v86 hl hw hI hF g86_0 g86_1 hmu; exact absurd hmu (by omega)
                          | succ n86 ih86 =>
                            intro ls H locs ig87 lg88 v86 hl hw hI hF g86_0 g86_1 hmu
                            refine lv_iload hx hb dX12_findReads_86 (lv_at hl 0 rfl) ?_
                            refine lv_aload_n hx hb dX12_findReads_88 rfl (lv_at hl 5 rfl) ?_
                            refine r_get C hw (hsh 49 _ rfl) fl_X12_71 (oV_r rfl (hrm (49, 11, 56) (by decide))) dX12_findReads_89 ?_
                            refine lv_iload hx hb dX12_findReads_92 (lv_at hl 1 rfl) ?_
                            refine r_iald C hw (hsh 56 _ rfl) (by omega) (by omega) dX12_findReads_94 (ti_c (ig87 (B + 56) z83.toInt.toNat).toInt rfl fun z89 hz89 => ?_)
                            rw [Ft.i hF 56 _ (by decide)] at hz89
                            refine b_gt (tgt := 146) hx hb dX12_findReads_95 (by decide) (fun c95 => ?_) (fun c95 => ?_)
                            · refine tc_inc hx hb dX12_findReads_146 hl (k := 3) rfl (by decide) (by decide) (fun z91 hz91 ls hl => ?_)
                              first | replace hz91 := hz91 (by omega) | clear hz91
                              have hl : lv_has ls 7 [(2, .int z91), (5, .int v86), (4, .int z83), (3, .int z72), (1, .int v7), (0, .ref (B + 49))] := hl
                              refine lv_goto (tgt := 33) hx hb dX12_findReads_149 (by decide) ?_
                              exact ih33 ls H locs ig87 lg88 z91 (lv_sub hl [0, 4, 5] rfl) hw hI hF (by omega) (by omega) (by omega)
                            · refine lv_aload_n hx hb dX12_findReads_98 rfl (lv_at hl 5 rfl) ?_
                              refine r_get C hw (hsh 49 _ rfl) fl_X12_68 (oV_r rfl (hrm (49, 10, 55) (by decide))) dX12_findReads_99 ?_
                              refine lv_iload_n hx hb dX12_findReads_102 rfl (lv_at hl 2 rfl) ?_
                              refine r_iald C hw (hsh 55 _ rfl) (by omega) (by omega) dX12_findReads_103 (ti_c (ig87 (B + 55) z72.toInt.toNat).toInt rfl fun z92 hz92 => ?_)
                              rw [Ft.i hF 55 _ (by decide)] at hz92
                              refine lv_istore (lv' := [(6, .int z92), (5, .int v86), (4, .int z83), (3, .int z72), (2, .int v60), (1, .int v7), (0, .ref (B + 49))]) hx hb dX12_findReads_104 hl (by decide) rfl (fun ls hl => ?_)
                              have L106 : ∀ (n : Nat) (ls : Array Slot) (H : Heap) (locs : List Loc) (ig95 : sI) (lg96 : sG) (v94 : Int32), lv_has ls 7 [(6, .int v94), (5, .int v86), (4, .int z83), (3, .int z72), (2, .int v60), (1, .int v7), (0, .ref (B + 49))] → WD B D cA s.heap kd ig95 rg lg96 H locs → IM τ φ υ B kd ig95 rg → Ft B [64, 65] ig lg ig95 lg96 → (0 ≤ v94.toInt) → (v94.toInt ≤ 12) → 12 - v94.toInt < (n : Int) → W p l e (rL 1 0 0) s m args below meth c H locs 0 0 (MQ below (QcW B D cA (PM τ φ υ B [64, 65] kd ig rg lg (fun r ig' lg' => r = none))) args s 0 0 (fun q => B ≤ q)) (F0 m 106 ls []) := by
                                intro n106
                                induction n106 with
                                | zero => intro ls H locs ig95 lg96 v94 hl hw hI hF g106_0 g106_1 hmu; exact absurd hmu (by omega)
                                | succ n106 ih106 =>
                                  intro ls H locs ig95 lg96 v94 hl hw hI hF g106_0 g106_1 hmu
                                  refine lv_iload hx hb dX12_findReads_106 (lv_at hl 0 rfl) ?_
                                  refine lv_aload_n hx hb dX12_findReads_108 rfl (lv_at hl 6 rfl) ?_
                                  refine r_get C hw (hsh 49 _ rfl) fl_X12_68 (oV_r rfl (hrm (49, 10, 55) (by decide))) dX12_findReads_109 ?_
                                  refine lv_iload hx hb dX12_findReads_112 (lv_at hl 2 rfl) ?_
                                  refine r_iald C hw (hsh 55 _ rfl) (by omega) (by omega) dX12_findReads_114 (ti_c (ig95 (B + 55) z83.toInt.toNat).toInt rfl fun z97 hz97 => ?_)
                                  rw [Ft.i hF 55 _ (by decide)] at hz97
                                  refine b_gt (tgt := 140) hx hb dX12_findReads_115 (by decide) (fun c115 => ?_) (fun c115 => ?_)
                                  · refine tc_inc hx hb dX12_findReads_140 hl (k := 1) rfl (by decide) (by decide) (fun z99 hz99 ls hl => ?_)
                                    first | replace hz99 := hz99 (by omega) | clear hz99
                                    have hl : lv_has ls 7 [(5, .int z99), (6, .int v94), (4, .int z83), (3, .int z72), (2, .int v60), (1, .int v7), (0, .ref (B + 49))] := hl
                                    refine lv_goto (tgt := 86) hx hb dX12_findReads_143 (by decide) ?_
                                    exact ih86 ls H locs ig95 lg96 z99 (lv_sub hl [0, 2, 3, 4, 5, 6] rfl) hw hI hF (by omega) (by omega) (by omega)
                                  · refine lv_aload_n hx hb dX12_findReads_118 rfl (lv_at hl 6 rfl) ?_
                                    refine r_get C hw (hsh 49 _ rfl) fl_X12_96 (oV_r rfl (hrm (49, 21, 64) (by decide))) dX12_findReads_119 ?_
                                    refine lv_iload_n hx hb dX12_findReads_122 rfl (lv_at hl 5 rfl) ?_
                                    refine lv_bipush (v := 12) hx hb dX12_findReads_123 (by decide) (ti_c 12 (by decide) fun z100 hz100 => ?_)
                                    refine lv_iload hx hb dX12_findReads_125 (lv_at hl 1 rfl) ?_
                                    refine lv_imul hx hb dX12_findReads_127 (tc_mulL 12 hz100 fun z101 hz101 => ?_)
                                    first | replace hz101 := hz101 (by omega) | clear hz101
                                    refine lv_iload hx hb dX12_findReads_128 (lv_at hl 0 rfl) ?_
                                    refine lv_iadd hx hb dX12_findReads_130 (tc_add fun z102 hz102 => ?_)
                                    first | replace hz102 := hz102 (by omega) | clear hz102
                                    refine r_callS (As := [.ref (B + 64), .int v7, .int z102]) (rest := []) C hw (t_X12_sets l B D cA kd ig95 rg lg96 _ 64 (Or.inl rfl) v7 z102 (by omega) (by omega) hI) ss_X12_218 rfl hl.1 rfl (Nat.le_of_ble_eq_true rfl) ⟨Nat.le_of_ble_eq_true rfl, Nat.le_of_ble_eq_true rfl⟩ ⟨Nat.le_of_ble_eq_true rfl, Nat.le_of_ble_eq_true rfl⟩ dX12_findReads_131 (fun r107 kd103 ig104 rg105 lg106 H locs hw hH hp108 => ?_)
                                    obtain ⟨rfl, rfl, hI, hchp108, hrhp108⟩ := hp108
                                    have hF : Ft B [64, 65] ig lg ig104 lg106 := Ft.tr hF hchp108 (by decide) (by decide)
                                    obtain rfl := hrhp108
                                    refine tc_inc hx hb dX12_findReads_134 hl (k := 0) rfl (by decide) (by decide) (fun z109 hz109 ls hl => ?_)
                                    first | replace hz109 := hz109 (by omega) | clear hz109
                                    have hl : lv_has ls 7 [(6, .int z109), (5, .int v86), (4, .int z83), (3, .int z72), (2, .int v60), (1, .int v7), (0, .ref (B + 49))] := hl
                                    refine lv_goto (tgt := 106) hx hb dX12_findReads_137 (by decide) ?_
                                    exact ih106 ls H locs ig104 lg106 z109 (lv_sub hl [0, 1, 2, 3, 4, 5, 6] rfl) hw hI hF (by omega) (by omega) (by omega)
                              exact L106 ((12 - z92.toInt) + 1).toNat ls H locs ig87 lg88 z92 (lv_sub hl [0, 1, 2, 3, 4, 5, 6] rfl) hw hI hF (by omega) (by omega) (by omega)
                        exact L86 ((24 - z84.toInt) + 1).toNat ls H locs ig61 lg62 z84 (lv_sub hl [0, 1, 2, 3, 4, 5] rfl) hw hI hF (by omega) (by omega) (by omega)
              exact L33 ((120 - z59.toInt) + 1).toNat ls H locs ig8 lg9 z59 (lv_sub hl [0, 1, 2] rfl) hw hI hF (by omega) (by omega) (by omega)
        exact L24 ((288 - z6.toInt) + 1).toNat ls H locs ig3 lg4 z6 (lv_sub hl [0, 1] rfl) hw hI hF (by omega) (by omega) (by omega)
      · refine lv_aload_n hx hb dX12_findReads_9 rfl (lv_at hl 1 rfl) ?_
        refine r_get C hw (hsh 49 _ rfl) fl_X12_96 (oV_r rfl (hrm (49, 21, 64) (by decide))) dX12_findReads_10 ?_
        refine lv_iload_n hx hb dX12_findReads_13 rfl (lv_at hl 0 rfl) ?_
        refine lv_lconst (v := 0) hx hb dX12_findReads_14 (by decide) (lv_topl fun x110 hx110 => ?_)
        refine r_last C hw (hsh 64 _ rfl) (by omega) (by omega) dX12_findReads_15 (fun H locs hH hw => ?_)
        obtain ⟨lg111, elg111⟩ : ∃ f, f = up2 lg4 (B + 64) v2.toInt.toNat x110 := ⟨_, rfl⟩
        rw [← elg111] at hw
        have hF : Ft B [64, 65] ig lg ig3 lg111 := by rw [elg111]; exact hF.pl (by decide)
        refine tc_inc hx hb dX12_findReads_16 hl (k := 0) rfl (by decide) (by decide) (fun z112 hz112 ls hl => ?_)
        first | replace hz112 := hz112 (by omega) | clear hz112
        have hl : lv_has ls 7 [(1, .int z112), (0, .ref (B + 49))] := hl
        refine lv_goto (tgt := 2) hx hb dX12_findReads_19 (by decide) ?_
        exact ih2 ls H locs ig3 lg111 z112 (lv_sub hl [0, 1] rfl) hw hI hF (by omega) (by omega) (by omega)
  exact L2 ((1440 - z1.toInt) + 1).toNat ls s.heap [] ig lg z1 (lv_sub hl [0, 1] rfl) hw hI hF (by omega) (by omega) (by omega)

set_option maxHeartbeats 4000000 in
set_option maxRecDepth 100000 in
theorem t_X12_sumOf {υ : Option Int} {τ : Tp} {φ : Option Int} (l : Launch) (B : Nat) (D : va_G) (cA : Nat → ClassId) (kd : sK) (ig : sI) (rg : sR) (lg : sG) (sz : Nat) (x : Int32) (y : Int32) (hx0 : 0 ≤ x.toInt ∧ x.toInt < 37080) (hy0 : 0 ≤ y.toInt ∧ y.toInt < 37080) (hrx : ((0 ≤ (ig (B + 55) x.toInt.toNat).toInt ∧ (ig (B + 55) x.toInt.toNat).toInt < 12) ∧ 0 ≤ (ig (B + 56) x.toInt.toNat).toInt ∧ (ig (B + 56) x.toInt.toNat).toInt < 24)) (hry : ((0 ≤ (ig (B + 55) y.toInt.toNat).toInt ∧ (ig (B + 55) y.toInt.toNat).toInt < 12) ∧ 0 ≤ (ig (B + 56) y.toInt.toNat).toInt ∧ (ig (B + 56) y.toInt.toNat).toInt < 24)) (hI : IM τ φ υ B kd ig rg) : MC l B D cA yX12_sumOf cX12_sumOf 6 (some .int) (rL 1 0 0) [.ref (B + 49), .int x, .int y] kd ig rg lg sz (PM τ φ υ B [49] kd ig rg lg (fun r ig' lg' => ∃ z : Int32, r = some (.int z) ∧ ((ig' (B + 49) 31).toInt = (ig (B + 49) 31).toInt ∧ (ig' (B + 49) 32).toInt = (ig (B + 49) 32).toInt))) := by
  refine MC.of (own := RX12) (by decide +kernel) rfl (Nat.le_of_ble_eq_true rfl) ?_
  intro p e s m args below meth c ls C hr hlk hnm hw hsz hl
  have hx := C.1.1
  have hb := C.1.2.1
  have hown := C.1.2.2.2.1
  have hts := C.1.2.2.2.2
  have hl : lv_has ls 6 [(0, .ref (B + 49)), (1, .int x), (2, .int y)] := hl
  have hF : Ft B [49] ig lg ig lg := Ft.rf
  have hsh := hI.sh
  have hrm := hI.rm
  refine lv_iconst (v := 0) hx hb dX12_sumOf_0 (by decide) (ti_c 0 (by decide) fun z1 hz1 => ?_)
  refine lv_istore_n (lv' := [(3, .int z1), (0, .ref (B + 49)), (1, .int x), (2, .int y)]) hx hb dX12_sumOf_1 rfl hl (by decide) rfl (fun ls hl => ?_)
  refine lv_aload_n hx hb dX12_sumOf_2 rfl (lv_at hl 1 rfl) ?_
  refine r_get C hw (hsh 49 _ rfl) fl_X12_71 (oV_r rfl (hrm (49, 11, 56) (by decide))) dX12_sumOf_3 ?_
  refine lv_iload_n hx hb dX12_sumOf_6 rfl (lv_at hl 2 rfl) ?_
  refine r_iald C hw (hsh 56 _ rfl) (by omega) (by omega) dX12_sumOf_7 (ti_c (ig (B + 56) x.toInt.toNat).toInt rfl fun z2 hz2 => ?_)
  refine lv_istore (lv' := [(4, .int z2), (3, .int z1), (0, .ref (B + 49)), (1, .int x), (2, .int y)]) hx hb dX12_sumOf_8 hl (by decide) rfl (fun ls hl => ?_)
  have L10 : ∀ (n : Nat) (ls : Array Slot) (H : Heap) (locs : List Loc) (ig6 : sI) (lg7 : sG) (v4 : Int32) (v5 : Int32), lv_has ls 6 [(4, .int v4), (3, .int v5), (0, .ref (B + 49)), (1, .int x), (2, .int y)] → WD B D cA s.heap kd ig6 rg lg7 H locs → IM τ φ υ B kd ig6 rg → Ft B [49] ig lg ig6 lg7 → (0 ≤ v4.toInt) → (v4.toInt ≤ 24) → ((ig6 (B + 49) 31).toInt = (ig (B + 49) 31).toInt) → ((ig6 (B + 49) 32).toInt = (ig (B + 49) 32).toInt) → 24 - v4.toInt < (n : Int) → W p l e (rL 1 0 0) s m args below meth c H locs 0 0 (MQ below (QcW B D cA (PM τ φ υ B [49] kd ig rg lg (fun r ig' lg' => ∃ z : Int32, r = some (.int z) ∧ ((ig' (B + 49) 31).toInt = (ig (B + 49) 31).toInt ∧ (ig' (B + 49) 32).toInt = (ig (B + 49) 32).toInt)))) args s 0 0 (fun q => B ≤ q)) (F0 m 10 ls []) := by
    intro n10
    induction n10 with
    | zero => intro ls H locs ig6 lg7 v4 v5 hl hw hI hF g10_0 g10_1 g10_2 g10_3 hmu; exact absurd hmu (by omega)
    | succ n10 ih10 =>
      intro ls H locs ig6 lg7 v4 v5 hl hw hI hF g10_0 g10_1 g10_2 g10_3 hmu
      refine lv_iload hx hb dX12_sumOf_10 (lv_at hl 0 rfl) ?_
      refine lv_aload_n hx hb dX12_sumOf_12 rfl (lv_at hl 2 rfl) ?_
      refine r_get C hw (hsh 49 _ rfl) fl_X12_71 (oV_r rfl (hrm (49, 11, 56) (by decide))) dX12_sumOf_13 ?_
      refine lv_iload_n hx hb dX12_sumOf_16 rfl (lv_at hl 4 rfl) ?_
      refine r_iald C hw (hsh 56 _ rfl) (by omega) (by omega) dX12_sumOf_17 (ti_c (ig6 (B + 56) y.toInt.toNat).toInt rfl fun z8 hz8 => ?_)
      rw [Ft.i hF 56 _ (by decide)] at hz8
      refine b_gt (tgt := 67) hx hb dX12_sumOf_18 (by decide) (fun c18 => ?_) (fun c18 => ?_)
      · refine lv_iload_n hx hb dX12_sumOf_67 rfl (lv_at hl 1 rfl) ?_
        exact r_iret C hw hr hlk rfl (Nat.le_of_ble_eq_true rfl) (Nat.le_of_ble_eq_true rfl) dX12_sumOf_68 ⟨rfl, rfl, hI, hF, ⟨_, rfl, by omega⟩⟩
      · refine lv_aload_n hx hb dX12_sumOf_21 rfl (lv_at hl 2 rfl) ?_
        refine r_get C hw (hsh 49 _ rfl) fl_X12_68 (oV_r rfl (hrm (49, 10, 55) (by decide))) dX12_sumOf_22 ?_
        refine lv_iload_n hx hb dX12_sumOf_25 rfl (lv_at hl 3 rfl) ?_
        refine r_iald C hw (hsh 55 _ rfl) (by omega) (by omega) dX12_sumOf_26 (ti_c (ig6 (B + 55) x.toInt.toNat).toInt rfl fun z10 hz10 => ?_)
        rw [Ft.i hF 55 _ (by decide)] at hz10
        refine lv_istore (lv' := [(5, .int z10), (4, .int v4), (3, .int v5), (0, .ref (B + 49)), (1, .int x), (2, .int y)]) hx hb dX12_sumOf_27 hl (by decide) rfl (fun ls hl => ?_)
        have L29 : ∀ (n : Nat) (ls : Array Slot) (H : Heap) (locs : List Loc) (ig14 : sI) (lg15 : sG) (v12 : Int32) (v13 : Int32), lv_has ls 6 [(5, .int v12), (4, .int v4), (3, .int v13), (0, .ref (B + 49)), (1, .int x), (2, .int y)] → WD B D cA s.heap kd ig14 rg lg15 H locs → IM τ φ υ B kd ig14 rg → Ft B [49] ig lg ig14 lg15 → (0 ≤ v12.toInt) → (v12.toInt ≤ 12) → ((ig14 (B + 49) 31).toInt = (ig (B + 49) 31).toInt) → ((ig14 (B + 49) 32).toInt = (ig (B + 49) 32).toInt) → 12 - v12.toInt < (n : Int) → W p l e (rL 1 0 0) s m args below meth c H locs 0 0 (MQ below (QcW B D cA (PM τ φ υ B [49] kd ig rg lg (fun r ig' lg' => ∃ z : Int32, r = some (.int z) ∧ ((ig' (B + 49) 31).toInt = (ig (B + 49) 31).toInt ∧ (ig' (B + 49) 32).toInt = (ig (B + 49) 32).toInt)))) args s 0 0 (fun q => B ≤ q)) (F0 m 29 ls []) := by
          intro n29
          induction n29 with
          | zero => intro ls H locs ig14 lg15 v12 v13 hl hw hI hF g29_0 g29_1 g29_2 g29_3 hmu; exact absurd hmu (by omega)
          | succ n29 ih29 =>
            intro ls H locs ig14 lg15 v12 v13 hl hw hI hF g29_0 g29_1 g29_2 g29_3 hmu
            refine lv_iload hx hb dX12_sumOf_29 (lv_at hl 0 rfl) ?_
            refine lv_aload_n hx hb dX12_sumOf_31 rfl (lv_at hl 3 rfl) ?_
            refine r_get C hw (hsh 49 _ rfl) fl_X12_68 (oV_r rfl (hrm (49, 10, 55) (by decide))) dX12_sumOf_32 ?_
            refine lv_iload_n hx hb dX12_sumOf_35 rfl (lv_at hl 5 rfl) ?_
            refine r_iald C hw (hsh 55 _ rfl) (by omega) (by omega) dX12_sumOf_36 (ti_c (ig14 (B + 55) y.toInt.toNat).toInt rfl fun z16 hz16 => ?_)
            rw [Ft.i hF 55 _ (by decide)] at hz16
            refine b_gt (tgt := 61) hx hb dX12_sumOf_37 (by decide) (fun c37 => ?_) (fun c37 => ?_)
            · refine tc_inc hx hb dX12_sumOf_61 hl (k := 1) rfl (by decide) (by decide) (fun z18 hz18 ls hl => ?_)
              first | replace hz18 := hz18 (by omega) | clear hz18
              have hl : lv_has ls 6 [(4, .int z18), (5, .int v12), (3, .int v13), (0, .ref (B + 49)), (1, .int x), (2, .int y)] := hl
              refine lv_goto (tgt := 10) hx hb dX12_sumOf_64 (by decide) ?_
              exact ih10 ls H locs ig14 lg15 z18 v13 (lv_sub hl [0, 2, 3, 4, 5] rfl) hw hI hF (by omega) (by omega) (by omega) (by omega) (by omega)
            · refine lv_iload_n hx hb dX12_sumOf_40 rfl (lv_at hl 2 rfl) ?_
              refine lv_aload_n hx hb dX12_sumOf_41 rfl (lv_at hl 3 rfl) ?_
              refine lv_bipush (v := 12) hx hb dX12_sumOf_42 (by decide) (ti_c 12 (by decide) fun z19 hz19 => ?_)
              refine lv_iload hx hb dX12_sumOf_44 (lv_at hl 1 rfl) ?_
              refine lv_imul hx hb dX12_sumOf_46 (tc_mulL 12 hz19 fun z20 hz20 => ?_)
              first | replace hz20 := hz20 (by omega) | clear hz20
              refine lv_iload hx hb dX12_sumOf_47 (lv_at hl 0 rfl) ?_
              refine lv_iadd hx hb dX12_sumOf_49 (tc_add fun z21 hz21 => ?_)
              first | replace hz21 := hz21 (by omega) | clear hz21
              refine r_callV (As := [.int z21]) (rest := [.int v13]) C hw (t_X12_meets l B D cA kd ig14 rg lg15 _ z21 (by omega) hI) sv_X12_279 (hsh 49 _ rfl) rfl hl.1 rfl (Nat.le_of_ble_eq_true rfl) ⟨Nat.le_of_ble_eq_true rfl, Nat.le_of_ble_eq_true rfl⟩ ⟨Nat.le_of_ble_eq_true rfl, Nat.le_of_ble_eq_true rfl⟩ dX12_sumOf_50 (fun r26 kd22 ig23 rg24 lg25 H locs hw hH hp27 => ?_)
              obtain ⟨rfl, rfl, hI, hchp27, hrhp27⟩ := hp27
              have hF : Ft B [49] ig lg ig23 lg25 := Ft.tr hF hchp27 (by decide) (by decide)
              obtain ⟨z28, rfl, hz28⟩ := hrhp27
              refine lv_iadd hx hb dX12_sumOf_53 (tc_add fun z29 hz29 => ?_)
              first | replace hz29 := hz29 (by omega) | clear hz29
              refine lv_istore_n (lv' := [(3, .int z29), (5, .int v12), (4, .int v4), (0, .ref (B + 49)), (1, .int x), (2, .int y)]) hx hb dX12_sumOf_54 rfl hl (by decide) rfl (fun ls hl => ?_)
              refine tc_inc hx hb dX12_sumOf_55 hl (k := 1) rfl (by decide) (by decide) (fun z30 hz30 ls hl => ?_)
              first | replace hz30 := hz30 (by omega) | clear hz30
              have hl : lv_has ls 6 [(5, .int z30), (3, .int z29), (4, .int v4), (0, .ref (B + 49)), (1, .int x), (2, .int y)] := hl
              refine lv_goto (tgt := 29) hx hb dX12_sumOf_58 (by decide) ?_
              exact ih29 ls H locs ig23 lg25 z30 z29 (lv_sub hl [0, 2, 1, 3, 4, 5] rfl) hw hI hF (by omega) (by omega) (by omega) (by omega) (by omega)
        exact L29 ((12 - z10.toInt) + 1).toNat ls H locs ig6 lg7 z10 v5 (lv_sub hl [0, 1, 2, 3, 4, 5] rfl) hw hI hF (by omega) (by omega) (by omega) (by omega) (by omega)
  exact L10 ((24 - z2.toInt) + 1).toNat ls s.heap [] ig lg z2 z1 (lv_sub hl [0, 1, 2, 3, 4] rfl) hw hI hF (by omega) (by omega) (by omega) (by omega) (by omega)

set_option maxHeartbeats 4000000 in
set_option maxRecDepth 100000 in
theorem t_X12_pushUnit {υ : Option Int} {τ : Tp} {φ : Option Int} (l : Launch) (B : Nat) (D : va_G) (cA : Nat → ClassId) (kd : sK) (ig : sI) (rg : sR) (lg : sG) (sz : Nat) (x : Int32) (y : Int32) (u : Int32) (ht : 0 ≤ (ig (B + 49) 35).toInt ∧ (ig (B + 49) 35).toInt ≤ 87) (hI : IM τ φ υ B kd ig rg) : MC l B D cA yX12_pushUnit cX12_pushUnit 4 none (rL 0 0 0) [.ref (B + 49), .int x, .int y, .int u] kd ig rg lg sz (PM τ φ υ B [49, 74] kd ig rg lg (fun r ig' lg' => (r = none ∧ ((ig' (B + 49) 35).toInt = (ig (B + 49) 35).toInt + 3 ∧ (ig' (B + 49) 31).toInt = (ig (B + 49) 31).toInt ∧ (ig' (B + 49) 32).toInt = (ig (B + 49) 32).toInt)))) := by
  refine MC.of (own := RX12) (by decide +kernel) rfl (Nat.le_of_ble_eq_true rfl) ?_
  intro p e s m args below meth c ls C hr hlk hnm hw hsz hl
  have hx := C.1.1
  have hb := C.1.2.1
  have hown := C.1.2.2.2.1
  have hts := C.1.2.2.2.2
  have hl : lv_has ls 4 [(0, .ref (B + 49)), (1, .int x), (2, .int y), (3, .int u)] := hl
  have hF : Ft B [49, 74] ig lg ig lg := Ft.rf
  have hsh := hI.sh
  have hrm := hI.rm
  refine lv_aload_n hx hb dX12_pushUnit_0 rfl (lv_at hl 0 rfl) ?_
  refine r_get C hw (hsh 49 _ rfl) fl_X12_127 (oV_r rfl (hrm (49, 36, 74) (by decide))) dX12_pushUnit_1 ?_
  refine lv_aload_n hx hb dX12_pushUnit_4 rfl (lv_at hl 0 rfl) ?_
  refine r_get C hw (hsh 49 _ rfl) fl_X12_258 (oV_i rfl) dX12_pushUnit_5 (ti_c (ig (B + 49) 35).toInt rfl fun z1 hz1 => ?_)
  refine lv_iload_n hx hb dX12_pushUnit_8 rfl (lv_at hl 1 rfl) ?_
  refine r_iast C hw (hsh 74 _ rfl) (by omega) (by omega) dX12_pushUnit_9 (fun H locs hH hw => ?_)
  obtain ⟨ig2, eig2⟩ : ∃ f, f = up2 ig (B + 74) z1.toInt.toNat x := ⟨_, rfl⟩
  rw [← eig2] at hw
  have hF : Ft B [49, 74] ig lg ig2 lg := by rw [eig2]; exact hF.pi (by decide)
  have hI : IM τ φ υ B kd ig2 rg := by rw [eig2]; exact hI.pi (by decide) (show okR none _ from trivial)
  have wig2_49_35 : (ig2 (B + 49) 35).toInt = (ig (B + 49) 35).toInt := by rw [eig2, up2_a (by omega)]
  have wig2_49_31 : (ig2 (B + 49) 31).toInt = (ig (B + 49) 31).toInt := by rw [eig2, up2_a (by omega)]
  have wig2_49_32 : (ig2 (B + 49) 32).toInt = (ig (B + 49) 32).toInt := by rw [eig2, up2_a (by omega)]
  refine lv_aload_n hx hb dX12_pushUnit_10 rfl (lv_at hl 0 rfl) ?_
  refine r_get C hw (hsh 49 _ rfl) fl_X12_127 (oV_r rfl (hrm (49, 36, 74) (by decide))) dX12_pushUnit_11 ?_
  refine lv_aload_n hx hb dX12_pushUnit_14 rfl (lv_at hl 0 rfl) ?_
  refine r_get C hw (hsh 49 _ rfl) fl_X12_258 (oV_i rfl) dX12_pushUnit_15 (ti_c (ig2 (B + 49) 35).toInt rfl fun z3 hz3 => ?_)
  refine lv_iconst (v := 1) hx hb dX12_pushUnit_18 (by decide) (ti_c 1 (by decide) fun z4 hz4 => ?_)
  refine lv_iadd hx hb dX12_pushUnit_19 (tc_add fun z5 hz5 => ?_)
  first | replace hz5 := hz5 (by omega) | clear hz5
  refine lv_iload_n hx hb dX12_pushUnit_20 rfl (lv_at hl 2 rfl) ?_
  refine r_iast C hw (hsh 74 _ rfl) (by omega) (by omega) dX12_pushUnit_21 (fun H locs hH hw => ?_)
  obtain ⟨ig6, eig6⟩ : ∃ f, f = up2 ig2 (B + 74) z5.toInt.toNat y := ⟨_, rfl⟩
  rw [← eig6] at hw
  have hF : Ft B [49, 74] ig lg ig6 lg := by rw [eig6]; exact hF.pi (by decide)
  have hI : IM τ φ υ B kd ig6 rg := by rw [eig6]; exact hI.pi (by decide) (show okR none _ from trivial)
  have wig6_49_35 : (ig6 (B + 49) 35).toInt = (ig2 (B + 49) 35).toInt := by rw [eig6, up2_a (by omega)]
  have wig6_49_31 : (ig6 (B + 49) 31).toInt = (ig2 (B + 49) 31).toInt := by rw [eig6, up2_a (by omega)]
  have wig6_49_32 : (ig6 (B + 49) 32).toInt = (ig2 (B + 49) 32).toInt := by rw [eig6, up2_a (by omega)]
  refine lv_aload_n hx hb dX12_pushUnit_22 rfl (lv_at hl 0 rfl) ?_
  refine r_get C hw (hsh 49 _ rfl) fl_X12_127 (oV_r rfl (hrm (49, 36, 74) (by decide))) dX12_pushUnit_23 ?_
  refine lv_aload_n hx hb dX12_pushUnit_26 rfl (lv_at hl 0 rfl) ?_
  refine r_get C hw (hsh 49 _ rfl) fl_X12_258 (oV_i rfl) dX12_pushUnit_27 (ti_c (ig6 (B + 49) 35).toInt rfl fun z7 hz7 => ?_)
  refine lv_iconst (v := 2) hx hb dX12_pushUnit_30 (by decide) (ti_c 2 (by decide) fun z8 hz8 => ?_)
  refine lv_iadd hx hb dX12_pushUnit_31 (tc_add fun z9 hz9 => ?_)
  first | replace hz9 := hz9 (by omega) | clear hz9
  refine lv_iload_n hx hb dX12_pushUnit_32 rfl (lv_at hl 3 rfl) ?_
  refine r_iast C hw (hsh 74 _ rfl) (by omega) (by omega) dX12_pushUnit_33 (fun H locs hH hw => ?_)
  obtain ⟨ig10, eig10⟩ : ∃ f, f = up2 ig6 (B + 74) z9.toInt.toNat u := ⟨_, rfl⟩
  rw [← eig10] at hw
  have hF : Ft B [49, 74] ig lg ig10 lg := by rw [eig10]; exact hF.pi (by decide)
  have hI : IM τ φ υ B kd ig10 rg := by rw [eig10]; exact hI.pi (by decide) (show okR none _ from trivial)
  have wig10_49_35 : (ig10 (B + 49) 35).toInt = (ig6 (B + 49) 35).toInt := by rw [eig10, up2_a (by omega)]
  have wig10_49_31 : (ig10 (B + 49) 31).toInt = (ig6 (B + 49) 31).toInt := by rw [eig10, up2_a (by omega)]
  have wig10_49_32 : (ig10 (B + 49) 32).toInt = (ig6 (B + 49) 32).toInt := by rw [eig10, up2_a (by omega)]
  refine lv_aload_n hx hb dX12_pushUnit_34 rfl (lv_at hl 0 rfl) ?_
  refine lv_dup hx hb dX12_pushUnit_35 rfl ?_
  refine r_get C hw (hsh 49 _ rfl) fl_X12_258 (oV_i rfl) dX12_pushUnit_36 (ti_c (ig10 (B + 49) 35).toInt rfl fun z11 hz11 => ?_)
  refine lv_iconst (v := 3) hx hb dX12_pushUnit_39 (by decide) (ti_c 3 (by decide) fun z12 hz12 => ?_)
  refine lv_iadd hx hb dX12_pushUnit_40 (tc_add fun z13 hz13 => ?_)
  first | replace hz13 := hz13 (by omega) | clear hz13
  refine r_puti C hw (hsh 49 _ rfl) fl_X12_258 rfl rfl rfl dX12_pushUnit_41 (fun H locs hH hw => ?_)
  obtain ⟨ig14, eig14⟩ : ∃ f, f = up2 ig10 (B + 49) 35 z13 := ⟨_, rfl⟩
  rw [← eig14] at hw
  have hF : Ft B [49, 74] ig lg ig14 lg := by rw [eig14]; exact hF.pi (by decide)
  have hI : IM τ φ υ B kd ig14 rg := by rw [eig14]; exact hI.pi (by decide) (show okR none _ from trivial)
  have wig14 : (ig14 (B + 49) 35).toInt = z13.toInt := by rw [eig14, up2_eq]
  have wig14_49_31 : (ig14 (B + 49) 31).toInt = (ig10 (B + 49) 31).toInt := by rw [eig14, up2_j (by decide)]
  have wig14_49_32 : (ig14 (B + 49) 32).toInt = (ig10 (B + 49) 32).toInt := by rw [eig14, up2_j (by decide)]
  exact r_vret C hw hr hlk (Nat.le_of_ble_eq_true rfl) (Nat.le_of_ble_eq_true rfl) dX12_pushUnit_44 ⟨rfl, rfl, hI, hF, ⟨rfl, by omega⟩⟩

set_option maxHeartbeats 4000000 in
set_option maxRecDepth 100000 in
theorem t_X12_pushUnitOf {υ : Option Int} {τ : Tp} {φ : Option Int} (l : Launch) (B : Nat) (D : va_G) (cA : Nat → ClassId) (kd : sK) (ig : sI) (rg : sR) (lg : sG) (sz : Nat) (x : Int32) (hx0 : 0 ≤ x.toInt ∧ x.toInt < 288) (ht : 0 ≤ (ig (B + 49) 35).toInt ∧ (ig (B + 49) 35).toInt ≤ 87) (hI : IM τ φ υ B kd ig rg) : MC l B D cA yX12_pushUnitOf cX12_pushUnitOf 2 none (rL 1 0 0) [.ref (B + 49), .int x] kd ig rg lg sz (PM τ φ υ B [49, 74] kd ig rg lg (fun r ig' lg' => (r = none ∧ ((ig' (B + 49) 35).toInt = (ig (B + 49) 35).toInt + 3 ∧ (ig' (B + 49) 31).toInt = (ig (B + 49) 31).toInt ∧ (ig' (B + 49) 32).toInt = (ig (B + 49) 32).toInt)))) := by
  refine MC.of (own := RX12) (by decide +kernel) rfl (Nat.le_of_ble_eq_true rfl) ?_
  intro p e s m args below meth c ls C hr hlk hnm hw hsz hl
  have hx := C.1.1
  have hb := C.1.2.1
  have hown := C.1.2.2.2.1
  have hts := C.1.2.2.2.2
  have hl : lv_has ls 2 [(0, .ref (B + 49)), (1, .int x)] := hl
  have hF : Ft B [49, 74] ig lg ig lg := Ft.rf
  have hsh := hI.sh
  have hrm := hI.rm
  refine lv_aload_n hx hb dX12_pushUnitOf_0 rfl (lv_at hl 0 rfl) ?_
  refine lv_aload_n hx hb dX12_pushUnitOf_1 rfl (lv_at hl 0 rfl) ?_
  refine r_get C hw (hsh 49 _ rfl) fl_X12_108 (oV_r rfl (hrm (49, 25, 68) (by decide))) dX12_pushUnitOf_2 ?_
  refine lv_iconst (v := 3) hx hb dX12_pushUnitOf_5 (by decide) (ti_c 3 (by decide) fun z1 hz1 => ?_)
  refine lv_iload_n hx hb dX12_pushUnitOf_6 rfl (lv_at hl 1 rfl) ?_
  refine lv_imul hx hb dX12_pushUnitOf_7 (tc_mulL 3 hz1 fun z2 hz2 => ?_)
  first | replace hz2 := hz2 (by omega) | clear hz2
  refine r_iald C hw (hsh 68 _ rfl) (by omega) (by omega) dX12_pushUnitOf_8 (ti_c (ig (B + 68) z2.toInt.toNat).toInt rfl fun z3 hz3 => ?_)
  refine lv_aload_n hx hb dX12_pushUnitOf_9 rfl (lv_at hl 0 rfl) ?_
  refine r_get C hw (hsh 49 _ rfl) fl_X12_108 (oV_r rfl (hrm (49, 25, 68) (by decide))) dX12_pushUnitOf_10 ?_
  refine lv_iconst (v := 3) hx hb dX12_pushUnitOf_13 (by decide) (ti_c 3 (by decide) fun z5 hz5 => ?_)
  refine lv_iload_n hx hb dX12_pushUnitOf_14 rfl (lv_at hl 1 rfl) ?_
  refine lv_imul hx hb dX12_pushUnitOf_15 (tc_mulL 3 hz5 fun z6 hz6 => ?_)
  first | replace hz6 := hz6 (by omega) | clear hz6
  refine lv_iconst (v := 1) hx hb dX12_pushUnitOf_16 (by decide) (ti_c 1 (by decide) fun z7 hz7 => ?_)
  refine lv_iadd hx hb dX12_pushUnitOf_17 (tc_add fun z8 hz8 => ?_)
  first | replace hz8 := hz8 (by omega) | clear hz8
  refine r_iald C hw (hsh 68 _ rfl) (by omega) (by omega) dX12_pushUnitOf_18 (ti_c (ig (B + 68) z8.toInt.toNat).toInt rfl fun z9 hz9 => ?_)
  refine lv_aload_n hx hb dX12_pushUnitOf_19 rfl (lv_at hl 0 rfl) ?_
  refine r_get C hw (hsh 49 _ rfl) fl_X12_108 (oV_r rfl (hrm (49, 25, 68) (by decide))) dX12_pushUnitOf_20 ?_
  refine lv_iconst (v := 3) hx hb dX12_pushUnitOf_23 (by decide) (ti_c 3 (by decide) fun z11 hz11 => ?_)
  refine lv_iload_n hx hb dX12_pushUnitOf_24 rfl (lv_at hl 1 rfl) ?_
  refine lv_imul hx hb dX12_pushUnitOf_25 (tc_mulL 3 hz11 fun z12 hz12 => ?_)
  first | replace hz12 := hz12 (by omega) | clear hz12
  refine lv_iconst (v := 2) hx hb dX12_pushUnitOf_26 (by decide) (ti_c 2 (by decide) fun z13 hz13 => ?_)
  refine lv_iadd hx hb dX12_pushUnitOf_27 (tc_add fun z14 hz14 => ?_)
  first | replace hz14 := hz14 (by omega) | clear hz14
  refine r_iald C hw (hsh 68 _ rfl) (by omega) (by omega) dX12_pushUnitOf_28 (ti_c (ig (B + 68) z14.toInt.toNat).toInt rfl fun z15 hz15 => ?_)
  refine r_callV (As := [.int z3, .int z9, .int z15]) (rest := []) C hw (t_X12_pushUnit l B D cA kd ig rg lg _ z3 z9 z15 (by omega) hI) sv_X12_286 (hsh 49 _ rfl) rfl hl.1 rfl (Nat.le_of_ble_eq_true rfl) ⟨Nat.le_of_ble_eq_true rfl, Nat.le_of_ble_eq_true rfl⟩ ⟨Nat.le_of_ble_eq_true rfl, Nat.le_of_ble_eq_true rfl⟩ dX12_pushUnitOf_29 (fun r21 kd17 ig18 rg19 lg20 H locs hw hH hp22 => ?_)
  obtain ⟨rfl, rfl, hI, hchp22, hrhp22⟩ := hp22
  have hF : Ft B [49, 74] ig lg ig18 lg20 := Ft.tr hF hchp22 (by decide) (by decide)
  obtain ⟨rfl, hvhp22⟩ := hrhp22
  exact r_vret C hw hr hlk (Nat.le_of_ble_eq_true rfl) (Nat.le_of_ble_eq_true rfl) dX12_pushUnitOf_32 ⟨rfl, rfl, hI, hF, ⟨rfl, by omega⟩⟩

set_option maxHeartbeats 4000000 in
set_option maxRecDepth 100000 in
theorem t_X12_unitSum {υ : Option Int} {τ : Tp} {φ : Option Int} (l : Launch) (B : Nat) (D : va_G) (cA : Nat → ClassId) (kd : sK) (ig : sI) (rg : sR) (lg : sG) (sz : Nat) (x : Int32) (y : Int32) (hx0 : 0 ≤ x.toInt ∧ x.toInt < 37080) (hy0 : 0 ≤ y.toInt ∧ y.toInt < 37080) (hrx : ((0 ≤ (ig (B + 55) x.toInt.toNat).toInt ∧ (ig (B + 55) x.toInt.toNat).toInt < 12) ∧ 0 ≤ (ig (B + 56) x.toInt.toNat).toInt ∧ (ig (B + 56) x.toInt.toNat).toInt < 24)) (hry : ((0 ≤ (ig (B + 55) y.toInt.toNat).toInt ∧ (ig (B + 55) y.toInt.toNat).toInt < 12) ∧ 0 ≤ (ig (B + 56) y.toInt.toNat).toInt ∧ (ig (B + 56) y.toInt.toNat).toInt < 24)) (ht : 0 ≤ (ig (B + 49) 35).toInt ∧ (ig (B + 49) 35).toInt ≤ 87) (hI : IM τ φ υ B kd ig rg) : MC l B D cA yX12_unitSum cX12_unitSum 7 none (rL 2 0 0) [.ref (B + 49), .int x, .int y] kd ig rg lg sz (PM τ φ υ B [49, 74] kd ig rg lg (fun r ig' lg' => (r = none ∧ ((ig' (B + 49) 35).toInt = (ig (B + 49) 35).toInt + 3 ∧ (ig' (B + 49) 31).toInt = (ig (B + 49) 31).toInt ∧ (ig' (B + 49) 32).toInt = (ig (B + 49) 32).toInt)))) := by
  refine MC.of (own := RX12) (by decide +kernel) rfl (Nat.le_of_ble_eq_true rfl) ?_
  intro p e s m args below meth c ls C hr hlk hnm hw hsz hl
  have hx := C.1.1
  have hb := C.1.2.1
  have hown := C.1.2.2.2.1
  have hts := C.1.2.2.2.2
  have hl : lv_has ls 7 [(0, .ref (B + 49)), (1, .int x), (2, .int y)] := hl
  have hF : Ft B [49, 74] ig lg ig lg := Ft.rf
  have hsh := hI.sh
  have hrm := hI.rm
  refine lv_iconst (v := (-1)) hx hb dX12_unitSum_0 (by decide) (ti_c (-1) (by decide) fun z1 hz1 => ?_)
  refine lv_istore_n (lv' := [(3, .int z1), (0, .ref (B + 49)), (1, .int x), (2, .int y)]) hx hb dX12_unitSum_1 rfl hl (by decide) rfl (fun ls hl => ?_)
  refine lv_aload_n hx hb dX12_unitSum_2 rfl (lv_at hl 1 rfl) ?_
  refine r_get C hw (hsh 49 _ rfl) fl_X12_71 (oV_r rfl (hrm (49, 11, 56) (by decide))) dX12_unitSum_3 ?_
  refine lv_iload_n hx hb dX12_unitSum_6 rfl (lv_at hl 2 rfl) ?_
  refine r_iald C hw (hsh 56 _ rfl) (by omega) (by omega) dX12_unitSum_7 (ti_c (ig (B + 56) x.toInt.toNat).toInt rfl fun z2 hz2 => ?_)
  refine lv_istore (lv' := [(4, .int z2), (3, .int z1), (0, .ref (B + 49)), (1, .int x), (2, .int y)]) hx hb dX12_unitSum_8 hl (by decide) rfl (fun ls hl => ?_)
  have L10 : ∀ (n : Nat) (ls : Array Slot) (H : Heap) (locs : List Loc) (ig6 : sI) (lg7 : sG) (v4 : Int32) (v5 : Int32), lv_has ls 7 [(4, .int v4), (3, .int v5), (0, .ref (B + 49)), (1, .int x), (2, .int y)] → WD B D cA s.heap kd ig6 rg lg7 H locs → IM τ φ υ B kd ig6 rg → Ft B [49, 74] ig lg ig6 lg7 → (0 ≤ v4.toInt) → (v4.toInt ≤ 24) → (-1 ≤ v5.toInt) → (v5.toInt < 288) → ((ig6 (B + 49) 35).toInt = (ig (B + 49) 35).toInt) → ((ig6 (B + 49) 31).toInt = (ig (B + 49) 31).toInt) → ((ig6 (B + 49) 32).toInt = (ig (B + 49) 32).toInt) → 24 - v4.toInt < (n : Int) → W p l e (rL 2 0 0) s m args below meth c H locs 0 0 (MQ below (QcW B D cA (PM τ φ υ B [49, 74] kd ig rg lg (fun r ig' lg' => (r = none ∧ ((ig' (B + 49) 35).toInt = (ig (B + 49) 35).toInt + 3 ∧ (ig' (B + 49) 31).toInt = (ig (B + 49) 31).toInt ∧ (ig' (B + 49) 32).toInt = (ig (B + 49) 32).toInt))))) args s 0 0 (fun q => B ≤ q)) (F0 m 10 ls []) := by
    intro n10
    induction n10 with
    | zero => intro ls H locs ig6 lg7 v4 v5 hl hw hI hF g10_0 g10_1 g10_2 g10_3 g10_4 g10_5 g10_6 hmu; exact absurd hmu (by omega)
    | succ n10 ih10 =>
      intro ls H locs ig6 lg7 v4 v5 hl hw hI hF g10_0 g10_1 g10_2 g10_3 g10_4 g10_5 g10_6 hmu
      refine lv_iload hx hb dX12_unitSum_10 (lv_at hl 0 rfl) ?_
      refine lv_aload_n hx hb dX12_unitSum_12 rfl (lv_at hl 2 rfl) ?_
      refine r_get C hw (hsh 49 _ rfl) fl_X12_71 (oV_r rfl (hrm (49, 11, 56) (by decide))) dX12_unitSum_13 ?_
      refine lv_iload_n hx hb dX12_unitSum_16 rfl (lv_at hl 4 rfl) ?_
      refine r_iald C hw (hsh 56 _ rfl) (by omega) (by omega) dX12_unitSum_17 (ti_c (ig6 (B + 56) y.toInt.toNat).toInt rfl fun z8 hz8 => ?_)
      rw [Ft.i hF 56 _ (by decide)] at hz8
      refine b_gt (tgt := 118) hx hb dX12_unitSum_18 (by decide) (fun c18 => ?_) (fun c18 => ?_)
      · refine lv_iload_n hx hb dX12_unitSum_118 rfl (lv_at hl 1 rfl) ?_
        refine z_ge (tgt := 132) hx hb dX12_unitSum_119 (by decide) (fun c119 => ?_) (fun c119 => ?_)
        · refine lv_aload_n hx hb dX12_unitSum_132 rfl (lv_at hl 2 rfl) ?_
          refine lv_iload_n hx hb dX12_unitSum_133 rfl (lv_at hl 1 rfl) ?_
          refine r_callV (As := [.int v5]) (rest := []) C hw (t_X12_pushUnitOf l B D cA kd ig6 rg lg7 _ v5 (by omega) (by omega) hI) sv_X12_296 (hsh 49 _ rfl) rfl hl.1 rfl (Nat.le_of_ble_eq_true rfl) ⟨Nat.le_of_ble_eq_true rfl, Nat.le_of_ble_eq_true rfl⟩ ⟨Nat.le_of_ble_eq_true rfl, Nat.le_of_ble_eq_true rfl⟩ dX12_unitSum_134 (fun r14 kd10 ig11 rg12 lg13 H locs hw hH hp15 => ?_)
          obtain ⟨rfl, rfl, hI, hchp15, hrhp15⟩ := hp15
          have hF : Ft B [49, 74] ig lg ig11 lg13 := Ft.tr hF hchp15 (by decide) (by decide)
          obtain ⟨rfl, hvhp15⟩ := hrhp15
          exact r_vret C hw hr hlk (Nat.le_of_ble_eq_true rfl) (Nat.le_of_ble_eq_true rfl) dX12_unitSum_137 ⟨rfl, rfl, hI, hF, ⟨rfl, by omega⟩⟩
        · refine lv_aload_n hx hb dX12_unitSum_122 rfl (lv_at hl 2 rfl) ?_
          refine lv_iconst (v := 0) hx hb dX12_unitSum_123 (by decide) (ti_c 0 (by decide) fun z16 hz16 => ?_)
          refine lv_iconst (v := 0) hx hb dX12_unitSum_124 (by decide) (ti_c 0 (by decide) fun z17 hz17 => ?_)
          refine lv_iconst (v := 0) hx hb dX12_unitSum_125 (by decide) (ti_c 0 (by decide) fun z18 hz18 => ?_)
          refine r_callV (As := [.int z16, .int z17, .int z18]) (rest := []) C hw (t_X12_pushUnit l B D cA kd ig6 rg lg7 _ z16 z17 z18 (by omega) hI) sv_X12_286 (hsh 49 _ rfl) rfl hl.1 rfl (Nat.le_of_ble_eq_true rfl) ⟨Nat.le_of_ble_eq_true rfl, Nat.le_of_ble_eq_true rfl⟩ ⟨Nat.le_of_ble_eq_true rfl, Nat.le_of_ble_eq_true rfl⟩ dX12_unitSum_126 (fun r23 kd19 ig20 rg21 lg22 H locs hw hH hp24 => ?_)
          obtain ⟨rfl, rfl, hI, hchp24, hrhp24⟩ := hp24
          have hF : Ft B [49, 74] ig lg ig20 lg22 := Ft.tr hF hchp24 (by decide) (by decide)
          obtain ⟨rfl, hvhp24⟩ := hrhp24
          refine lv_goto (tgt := 137) hx hb dX12_unitSum_129 (by decide) ?_
          exact r_vret C hw hr hlk (Nat.le_of_ble_eq_true rfl) (Nat.le_of_ble_eq_true rfl) dX12_unitSum_137 ⟨rfl, rfl, hI, hF, ⟨rfl, by omega⟩⟩
      · refine lv_aload_n hx hb dX12_unitSum_21 rfl (lv_at hl 2 rfl) ?_
        refine r_get C hw (hsh 49 _ rfl) fl_X12_68 (oV_r rfl (hrm (49, 10, 55) (by decide))) dX12_unitSum_22 ?_
        refine lv_iload_n hx hb dX12_unitSum_25 rfl (lv_at hl 3 rfl) ?_
        refine r_iald C hw (hsh 55 _ rfl) (by omega) (by omega) dX12_unitSum_26 (ti_c (ig6 (B + 55) x.toInt.toNat).toInt rfl fun z25 hz25 => ?_)
        rw [Ft.i hF 55 _ (by decide)] at hz25
        refine lv_istore (lv' := [(5, .int z25), (4, .int v4), (3, .int v5), (0, .ref (B + 49)), (1, .int x), (2, .int y)]) hx hb dX12_unitSum_27 hl (by decide) rfl (fun ls hl => ?_)
        have L29 : ∀ (n : Nat) (ls : Array Slot) (H : Heap) (locs : List Loc) (ig29 : sI) (lg30 : sG) (v27 : Int32) (v28 : Int32), lv_has ls 7 [(5, .int v27), (4, .int v4), (3, .int v28), (0, .ref (B + 49)), (1, .int x), (2, .int y)] → WD B D cA s.heap kd ig29 rg lg30 H locs → IM τ φ υ B kd ig29 rg → Ft B [49, 74] ig lg ig29 lg30 → (0 ≤ v27.toInt) → (v27.toInt ≤ 12) → (-1 ≤ v28.toInt) → (v28.toInt < 288) → ((ig29 (B + 49) 35).toInt = (ig (B + 49) 35).toInt) → ((ig29 (B + 49) 31).toInt = (ig (B + 49) 31).toInt) → ((ig29 (B + 49) 32).toInt = (ig (B + 49) 32).toInt) → 12 - v27.toInt < (n : Int) → W p l e (rL 2 0 0) s m args below meth c H locs 0 0 (MQ below (QcW B D cA (PM τ φ υ B [49, 74] kd ig rg lg (fun r ig' lg' => (r = none ∧ ((ig' (B + 49) 35).toInt = (ig (B + 49) 35).toInt + 3 ∧ (ig' (B + 49) 31).toInt = (ig (B + 49) 31).toInt ∧ (ig' (B + 49) 32).toInt = (ig (B + 49) 32).toInt))))) args s 0 0 (fun q => B ≤ q)) (F0 m 29 ls []) := by
          intro n29
          induction n29 with
          | zero => intro ls H locs ig29 lg30 v27 v28 hl hw hI hF g29_0 g29_1 g29_2 g29_3 g29_4 g29_5 g29_6 hmu; exact absurd hmu (by omega)
          | succ n29 ih29 =>
            intro ls H locs ig29 lg30 v27 v28 hl hw hI hF g29_0 g29_1 g29_2 g29_3 g29_4 g29_5 g29_6 hmu
            refine lv_iload hx hb dX12_unitSum_29 (lv_at hl 0 rfl) ?_
            refine lv_aload_n hx hb dX12_unitSum_31 rfl (lv_at hl 3 rfl) ?_
            refine r_get C hw (hsh 49 _ rfl) fl_X12_68 (oV_r rfl (hrm (49, 10, 55) (by decide))) dX12_unitSum_32 ?_
            refine lv_iload_n hx hb dX12_unitSum_35 rfl (lv_at hl 5 rfl) ?_
            refine r_iald C hw (hsh 55 _ rfl) (by omega) (by omega) dX12_unitSum_36 (ti_c (ig29 (B + 55) y.toInt.toNat).toInt rfl fun z31 hz31 => ?_)
            rw [Ft.i hF 55 _ (by decide)] at hz31
            refine b_gt (tgt := 112) hx hb dX12_unitSum_37 (by decide) (fun c37 => ?_) (fun c37 => ?_)
            · refine tc_inc hx hb dX12_unitSum_112 hl (k := 1) rfl (by decide) (by decide) (fun z33 hz33 ls hl => ?_)
              first | replace hz33 := hz33 (by omega) | clear hz33
              have hl : lv_has ls 7 [(4, .int z33), (5, .int v27), (3, .int v28), (0, .ref (B + 49)), (1, .int x), (2, .int y)] := hl
              refine lv_goto (tgt := 10) hx hb dX12_unitSum_115 (by decide) ?_
              exact ih10 ls H locs ig29 lg30 z33 v28 (lv_sub hl [0, 2, 3, 4, 5] rfl) hw hI hF (by omega) (by omega) (by omega) (by omega) (by omega) (by omega) (by omega) (by omega)
            · refine lv_bipush (v := 12) hx hb dX12_unitSum_40 (by decide) (ti_c 12 (by decide) fun z34 hz34 => ?_)
              refine lv_iload hx hb dX12_unitSum_42 (lv_at hl 1 rfl) ?_
              refine lv_imul hx hb dX12_unitSum_44 (tc_mulL 12 hz34 fun z35 hz35 => ?_)
              first | replace hz35 := hz35 (by omega) | clear hz35
              refine lv_iload hx hb dX12_unitSum_45 (lv_at hl 0 rfl) ?_
              refine lv_iadd hx hb dX12_unitSum_47 (tc_add fun z36 hz36 => ?_)
              first | replace hz36 := hz36 (by omega) | clear hz36
              refine lv_istore (lv' := [(6, .int z36), (5, .int v27), (4, .int v4), (3, .int v28), (0, .ref (B + 49)), (1, .int x), (2, .int y)]) hx hb dX12_unitSum_48 hl (by decide) rfl (fun ls hl => ?_)
              refine lv_aload_n hx hb dX12_unitSum_50 rfl (lv_at hl 4 rfl) ?_
              refine r_get C hw (hsh 49 _ rfl) fl_X12_80 (oV_r rfl (hrm (49, 15, 59) (by decide))) dX12_unitSum_51 ?_
              refine lv_iload hx hb dX12_unitSum_54 (lv_at hl 0 rfl) ?_
              refine r_iald C hw (hsh 59 _ rfl) (by omega) (by omega) dX12_unitSum_56 (ti_c (ig29 (B + 59) z36.toInt.toNat).toInt rfl fun z37 hz37 => ?_)
              rw [Ft.i hF 59 _ (by decide)] at hz37
              refine z_eq (tgt := 70) hx hb dX12_unitSum_57 (by decide) (fun c57 => ?_) (fun c57 => ?_)
              · refine lv_aload_n hx hb dX12_unitSum_70 rfl (lv_at hl 4 rfl) ?_
                refine r_get C hw (hsh 49 _ rfl) fl_X12_80 (oV_r rfl (hrm (49, 15, 59) (by decide))) dX12_unitSum_71 ?_
                refine lv_iload hx hb dX12_unitSum_74 (lv_at hl 0 rfl) ?_
                refine r_iald C hw (hsh 59 _ rfl) (by omega) (by omega) dX12_unitSum_76 (ti_c (ig29 (B + 59) z36.toInt.toNat).toInt rfl fun z39 hz39 => ?_)
                rw [Ft.i hF 59 _ (by decide)] at hz39
                refine z_eq (tgt := 106) hx hb dX12_unitSum_77 (by decide) (fun c77 => ?_) (fun c77 => ?_)
                · refine tc_inc hx hb dX12_unitSum_106 hl (k := 1) rfl (by decide) (by decide) (fun z41 hz41 ls hl => ?_)
                  first | replace hz41 := hz41 (by omega) | clear hz41
                  have hl : lv_has ls 7 [(5, .int z41), (6, .int z36), (4, .int v4), (3, .int v28), (0, .ref (B + 49)), (1, .int x), (2, .int y)] := hl
                  refine lv_goto (tgt := 29) hx hb dX12_unitSum_109 (by decide) ?_
                  exact ih29 ls H locs ig29 lg30 z41 v28 (lv_sub hl [0, 2, 3, 4, 5, 6] rfl) hw hI hF (by omega) (by omega) (by omega) (by omega) (by omega) (by omega) (by omega) (by omega)
                · refine lv_aload_n hx hb dX12_unitSum_80 rfl (lv_at hl 4 rfl) ?_
                  refine lv_aload_n hx hb dX12_unitSum_81 rfl (lv_at hl 4 rfl) ?_
                  refine r_get C hw (hsh 49 _ rfl) fl_X12_254 (oV_i rfl) dX12_unitSum_82 (ti_c (ig29 (B + 49) 34).toInt rfl fun z42 hz42 => ?_)
                  have k43 : 0 ≤ (ig29 (B + 49) 34).toInt ∧ (ig29 (B + 49) 34).toInt ≤ 1 := hI.i 49 34 (by decide) (by decide)
                  have J103 : ∀ (ls : Array Slot) (H : Heap) (locs : List Loc) (ig45 : sI) (lg46 : sG) (u44 : Int32), lv_has ls 7 [(5, .int v27), (4, .int v4), (3, .int v28), (0, .ref (B + 49)), (1, .int x), (2, .int y)] → WD B D cA s.heap kd ig45 rg lg46 H locs → IM τ φ υ B kd ig45 rg → Ft B [49, 74] ig lg ig45 lg46 → (u44.toInt = 0 ∨ u44.toInt = 1) → ((ig45 (B + 49) 35).toInt = (ig (B + 49) 35).toInt) → ((ig45 (B + 49) 31).toInt = (ig (B + 49) 31).toInt) → ((ig45 (B + 49) 32).toInt = (ig (B + 49) 32).toInt) → W p l e (rL 2 0 0) s m args below meth c H locs 0 0 (MQ below (QcW B D cA (PM τ φ υ B [49, 74] kd ig rg lg (fun r ig' lg' => (r = none ∧ ((ig' (B + 49) 35).toInt = (ig (B + 49) 35).toInt + 3 ∧ (ig' (B + 49) 31).toInt = (ig (B + 49) 31).toInt ∧ (ig' (B + 49) 32).toInt = (ig (B + 49) 32).toInt))))) args s 0 0 (fun q => B ≤ q)) (F0 m 103 ls [.int u44, .ref (B + 49)]) := by
                    intro ls H locs ig45 lg46 u44 hl hw hI hF g103_0 g103_1 g103_2 g103_3
                    refine r_puti C hw (hsh 49 _ rfl) fl_X12_254 rfl (nar_b (by omega)) (fit_b (by omega)) dX12_unitSum_103 (fun H locs hH hw => ?_)
                    obtain ⟨ig47, eig47⟩ : ∃ f, f = up2 ig45 (B + 49) 34 u44 := ⟨_, rfl⟩
                    rw [← eig47] at hw
                    have hF : Ft B [49, 74] ig lg ig47 lg46 := by rw [eig47]; exact hF.pi (by decide)
                    have hI : IM τ φ υ B kd ig47 rg := by rw [eig47]; exact hI.pi (by decide) (show okR (some (0, 1)) _ from ⟨by show (0 : Int) ≤ _; omega, by show _ ≤ (1 : Int); omega⟩)
                    have wig47_49_35 : (ig47 (B + 49) 35).toInt = (ig45 (B + 49) 35).toInt := by rw [eig47, up2_j (by decide)]
                    have wig47 : (ig47 (B + 49) 34).toInt = u44.toInt := by rw [eig47, up2_eq]
                    have wig47_49_31 : (ig47 (B + 49) 31).toInt = (ig45 (B + 49) 31).toInt := by rw [eig47, up2_j (by decide)]
                    have wig47_49_32 : (ig47 (B + 49) 32).toInt = (ig45 (B + 49) 32).toInt := by rw [eig47, up2_j (by decide)]
                    refine tc_inc hx hb dX12_unitSum_106 hl (k := 0) rfl (by decide) (by decide) (fun z48 hz48 ls hl => ?_)
                    first | replace hz48 := hz48 (by omega) | clear hz48
                    have hl : lv_has ls 7 [(5, .int z48), (4, .int v4), (3, .int v28), (0, .ref (B + 49)), (1, .int x), (2, .int y)] := hl
                    refine lv_goto (tgt := 29) hx hb dX12_unitSum_109 (by decide) ?_
                    exact ih29 ls H locs ig47 lg46 z48 v28 (lv_sub hl [0, 1, 2, 3, 4, 5] rfl) hw hI hF (by omega) (by omega) (by omega) (by omega) (by omega) (by omega) (by omega) (by omega)
                  refine z_ne (tgt := 98) hx hb dX12_unitSum_85 (by decide) (fun c85 => ?_) (fun c85 => ?_)
                  · refine lv_iconst (v := 1) hx hb dX12_unitSum_98 (by decide) (ti_c 1 (by decide) fun z49 hz49 => ?_)
                    refine lv_goto (tgt := 103) hx hb dX12_unitSum_99 (by decide) ?_
                    exact J103 ls H locs ig29 lg30 z49 (lv_sub hl [1, 2, 3, 4, 5, 6] rfl) hw hI hF (by omega) (by omega) (by omega) (by omega)
                  · refine lv_aload_n hx hb dX12_unitSum_88 rfl (lv_at hl 4 rfl) ?_
                    refine lv_iload_n hx hb dX12_unitSum_89 rfl (lv_at hl 3 rfl) ?_
                    refine lv_iload hx hb dX12_unitSum_90 (lv_at hl 0 rfl) ?_
                    refine r_callV (As := [.int v28, .int z36]) (rest := [.ref (B + 49)]) C hw (t_X12_isUnitSame l B D cA kd ig29 rg lg30 _ v28 z36 (by omega) (by omega) hI) sv_X12_302 (hsh 49 _ rfl) rfl hl.1 rfl (Nat.le_of_ble_eq_true rfl) ⟨Nat.le_of_ble_eq_true rfl, Nat.le_of_ble_eq_true rfl⟩ ⟨Nat.le_of_ble_eq_true rfl, Nat.le_of_ble_eq_true rfl⟩ dX12_unitSum_92 (fun r54 kd50 ig51 rg52 lg53 H locs hw hH hp55 => ?_)
                    obtain ⟨rfl, rfl, rfl, rfl, hzhp55, hrhp55⟩ := hp55
                    obtain ⟨z56, rfl, hz56⟩ := hrhp55
                    refine z_ne (tgt := 102) hx hb dX12_unitSum_95 (by decide) (fun c95 => ?_) (fun c95 => ?_)
                    · refine lv_iconst (v := 0) hx hb dX12_unitSum_102 (by decide) (ti_c 0 (by decide) fun z57 hz57 => ?_)
                      exact J103 ls H locs ig29 lg30 z57 (lv_sub hl [1, 2, 3, 4, 5, 6] rfl) hw hI hF (by omega) (by omega) (by omega) (by omega)
                    · refine lv_iconst (v := 1) hx hb dX12_unitSum_98 (by decide) (ti_c 1 (by decide) fun z58 hz58 => ?_)
                      refine lv_goto (tgt := 103) hx hb dX12_unitSum_99 (by decide) ?_
                      exact J103 ls H locs ig29 lg30 z58 (lv_sub hl [1, 2, 3, 4, 5, 6] rfl) hw hI hF (by omega) (by omega) (by omega) (by omega)
              · refine lv_iload_n hx hb dX12_unitSum_60 rfl (lv_at hl 3 rfl) ?_
                refine z_ge (tgt := 70) hx hb dX12_unitSum_61 (by decide) (fun c61 => ?_) (fun c61 => ?_)
                · refine lv_aload_n hx hb dX12_unitSum_70 rfl (lv_at hl 4 rfl) ?_
                  refine r_get C hw (hsh 49 _ rfl) fl_X12_80 (oV_r rfl (hrm (49, 15, 59) (by decide))) dX12_unitSum_71 ?_
                  refine lv_iload hx hb dX12_unitSum_74 (lv_at hl 0 rfl) ?_
                  refine r_iald C hw (hsh 59 _ rfl) (by omega) (by omega) dX12_unitSum_76 (ti_c (ig29 (B + 59) z36.toInt.toNat).toInt rfl fun z59 hz59 => ?_)
                  rw [Ft.i hF 59 _ (by decide)] at hz59
                  refine z_eq (tgt := 106) hx hb dX12_unitSum_77 (by decide) (fun c77 => ?_) (fun c77 => ?_)
                  · refine tc_inc hx hb dX12_unitSum_106 hl (k := 1) rfl (by decide) (by decide) (fun z61 hz61 ls hl => ?_)
                    first | replace hz61 := hz61 (by omega) | clear hz61
                    have hl : lv_has ls 7 [(5, .int z61), (6, .int z36), (4, .int v4), (3, .int v28), (0, .ref (B + 49)), (1, .int x), (2, .int y)] := hl
                    refine lv_goto (tgt := 29) hx hb dX12_unitSum_109 (by decide) ?_
                    exact ih29 ls H locs ig29 lg30 z61 v28 (lv_sub hl [0, 2, 3, 4, 5, 6] rfl) hw hI hF (by omega) (by omega) (by omega) (by omega) (by omega) (by omega) (by omega) (by omega)
                  · refine lv_aload_n hx hb dX12_unitSum_80 rfl (lv_at hl 4 rfl) ?_
                    refine lv_aload_n hx hb dX12_unitSum_81 rfl (lv_at hl 4 rfl) ?_
                    refine r_get C hw (hsh 49 _ rfl) fl_X12_254 (oV_i rfl) dX12_unitSum_82 (ti_c (ig29 (B + 49) 34).toInt rfl fun z62 hz62 => ?_)
                    have k63 : 0 ≤ (ig29 (B + 49) 34).toInt ∧ (ig29 (B + 49) 34).toInt ≤ 1 := hI.i 49 34 (by decide) (by decide)
                    have J103 : ∀ (ls : Array Slot) (H : Heap) (locs : List Loc) (ig65 : sI) (lg66 : sG) (u64 : Int32), lv_has ls 7 [(5, .int v27), (4, .int v4), (3, .int v28), (0, .ref (B + 49)), (1, .int x), (2, .int y)] → WD B D cA s.heap kd ig65 rg lg66 H locs → IM τ φ υ B kd ig65 rg → Ft B [49, 74] ig lg ig65 lg66 → (u64.toInt = 0 ∨ u64.toInt = 1) → ((ig65 (B + 49) 35).toInt = (ig (B + 49) 35).toInt) → ((ig65 (B + 49) 31).toInt = (ig (B + 49) 31).toInt) → ((ig65 (B + 49) 32).toInt = (ig (B + 49) 32).toInt) → W p l e (rL 2 0 0) s m args below meth c H locs 0 0 (MQ below (QcW B D cA (PM τ φ υ B [49, 74] kd ig rg lg (fun r ig' lg' => (r = none ∧ ((ig' (B + 49) 35).toInt = (ig (B + 49) 35).toInt + 3 ∧ (ig' (B + 49) 31).toInt = (ig (B + 49) 31).toInt ∧ (ig' (B + 49) 32).toInt = (ig (B + 49) 32).toInt))))) args s 0 0 (fun q => B ≤ q)) (F0 m 103 ls [.int u64, .ref (B + 49)]) := by
                      intro ls H locs ig65 lg66 u64 hl hw hI hF g103_0 g103_1 g103_2 g103_3
                      refine r_puti C hw (hsh 49 _ rfl) fl_X12_254 rfl (nar_b (by omega)) (fit_b (by omega)) dX12_unitSum_103 (fun H locs hH hw => ?_)
                      obtain ⟨ig67, eig67⟩ : ∃ f, f = up2 ig65 (B + 49) 34 u64 := ⟨_, rfl⟩
                      rw [← eig67] at hw
                      have hF : Ft B [49, 74] ig lg ig67 lg66 := by rw [eig67]; exact hF.pi (by decide)
                      have hI : IM τ φ υ B kd ig67 rg := by rw [eig67]; exact hI.pi (by decide) (show okR (some (0, 1)) _ from ⟨by show (0 : Int) ≤ _; omega, by show _ ≤ (1 : Int); omega⟩)
                      have wig67_49_35 : (ig67 (B + 49) 35).toInt = (ig65 (B + 49) 35).toInt := by rw [eig67, up2_j (by decide)]
                      have wig67 : (ig67 (B + 49) 34).toInt = u64.toInt := by rw [eig67, up2_eq]
                      have wig67_49_31 : (ig67 (B + 49) 31).toInt = (ig65 (B + 49) 31).toInt := by rw [eig67, up2_j (by decide)]
                      have wig67_49_32 : (ig67 (B + 49) 32).toInt = (ig65 (B + 49) 32).toInt := by rw [eig67, up2_j (by decide)]
                      refine tc_inc hx hb dX12_unitSum_106 hl (k := 0) rfl (by decide) (by decide) (fun z68 hz68 ls hl => ?_)
                      first | replace hz68 := hz68 (by omega) | clear hz68
                      have hl : lv_has ls 7 [(5, .int z68), (4, .int v4), (3, .int v28), (0, .ref (B + 49)), (1, .int x), (2, .int y)] := hl
                      refine lv_goto (tgt := 29) hx hb dX12_unitSum_109 (by decide) ?_
                      exact ih29 ls H locs ig67 lg66 z68 v28 (lv_sub hl [0, 1, 2, 3, 4, 5] rfl) hw hI hF (by omega) (by omega) (by omega) (by omega) (by omega) (by omega) (by omega) (by omega)
                    refine z_ne (tgt := 98) hx hb dX12_unitSum_85 (by decide) (fun c85 => ?_) (fun c85 => ?_)
                    · refine lv_iconst (v := 1) hx hb dX12_unitSum_98 (by decide) (ti_c 1 (by decide) fun z69 hz69 => ?_)
                      refine lv_goto (tgt := 103) hx hb dX12_unitSum_99 (by decide) ?_
                      exact J103 ls H locs ig29 lg30 z69 (lv_sub hl [1, 2, 3, 4, 5, 6] rfl) hw hI hF (by omega) (by omega) (by omega) (by omega)
                    · refine lv_aload_n hx hb dX12_unitSum_88 rfl (lv_at hl 4 rfl) ?_
                      refine lv_iload_n hx hb dX12_unitSum_89 rfl (lv_at hl 3 rfl) ?_
                      refine lv_iload hx hb dX12_unitSum_90 (lv_at hl 0 rfl) ?_
                      refine r_callV (As := [.int v28, .int z36]) (rest := [.ref (B + 49)]) C hw (t_X12_isUnitSame l B D cA kd ig29 rg lg30 _ v28 z36 (by omega) (by omega) hI) sv_X12_302 (hsh 49 _ rfl) rfl hl.1 rfl (Nat.le_of_ble_eq_true rfl) ⟨Nat.le_of_ble_eq_true rfl, Nat.le_of_ble_eq_true rfl⟩ ⟨Nat.le_of_ble_eq_true rfl, Nat.le_of_ble_eq_true rfl⟩ dX12_unitSum_92 (fun r74 kd70 ig71 rg72 lg73 H locs hw hH hp75 => ?_)
                      obtain ⟨rfl, rfl, rfl, rfl, hzhp75, hrhp75⟩ := hp75
                      obtain ⟨z76, rfl, hz76⟩ := hrhp75
                      refine z_ne (tgt := 102) hx hb dX12_unitSum_95 (by decide) (fun c95 => ?_) (fun c95 => ?_)
                      · refine lv_iconst (v := 0) hx hb dX12_unitSum_102 (by decide) (ti_c 0 (by decide) fun z77 hz77 => ?_)
                        exact J103 ls H locs ig29 lg30 z77 (lv_sub hl [1, 2, 3, 4, 5, 6] rfl) hw hI hF (by omega) (by omega) (by omega) (by omega)
                      · refine lv_iconst (v := 1) hx hb dX12_unitSum_98 (by decide) (ti_c 1 (by decide) fun z78 hz78 => ?_)
                        refine lv_goto (tgt := 103) hx hb dX12_unitSum_99 (by decide) ?_
                        exact J103 ls H locs ig29 lg30 z78 (lv_sub hl [1, 2, 3, 4, 5, 6] rfl) hw hI hF (by omega) (by omega) (by omega) (by omega)
                · refine lv_iload hx hb dX12_unitSum_64 (lv_at hl 0 rfl) ?_
                  refine lv_istore_n (lv' := [(3, .int z36), (6, .int z36), (5, .int v27), (4, .int v4), (0, .ref (B + 49)), (1, .int x), (2, .int y)]) hx hb dX12_unitSum_66 rfl hl (by decide) rfl (fun ls hl => ?_)
                  refine lv_goto (tgt := 106) hx hb dX12_unitSum_67 (by decide) ?_
                  refine tc_inc hx hb dX12_unitSum_106 hl (k := 2) rfl (by decide) (by decide) (fun z79 hz79 ls hl => ?_)
                  first | replace hz79 := hz79 (by omega) | clear hz79
                  have hl : lv_has ls 7 [(5, .int z79), (3, .int z36), (6, .int z36), (4, .int v4), (0, .ref (B + 49)), (1, .int x), (2, .int y)] := hl
                  refine lv_goto (tgt := 29) hx hb dX12_unitSum_109 (by decide) ?_
                  exact ih29 ls H locs ig29 lg30 z79 z36 (lv_sub hl [0, 3, 1, 4, 5, 6] rfl) hw hI hF (by omega) (by omega) (by omega) (by omega) (by omega) (by omega) (by omega) (by omega)
        exact L29 ((12 - z25.toInt) + 1).toNat ls H locs ig6 lg7 z25 v5 (lv_sub hl [0, 1, 2, 3, 4, 5] rfl) hw hI hF (by omega) (by omega) (by omega) (by omega) (by omega) (by omega) (by omega) (by omega)
  exact L10 ((24 - z2.toInt) + 1).toNat ls s.heap [] ig lg z2 z1 (lv_sub hl [0, 1, 2, 3, 4] rfl) hw hI hF (by omega) (by omega) (by omega) (by omega) (by omega) (by omega) (by omega) (by omega)

set_option maxHeartbeats 4000000 in
set_option maxRecDepth 100000 in
theorem t_X12_looksTotal {υ : Option Int} {τ : Tp} {φ : Option Int} (l : Launch) (B : Nat) (D : va_G) (cA : Nat → ClassId) (kd : sK) (ig : sI) (rg : sR) (lg : sG) (sz : Nat) (x : Int32) (hx0 : 0 ≤ x.toInt ∧ x.toInt < 288) (hkd : (ig (B + 59) x.toInt.toNat).toInt = 2) (hI : IM τ φ υ B kd ig rg) : MC l B D cA yX12_looksTotal cX12_looksTotal 5 (some .boolean) (rL 0 0 0) [.ref (B + 49), .int x] kd ig rg lg sz (Pu kd ig rg lg sz (fun r => ∃ z : Int32, r = some (.int z) ∧ (z.toInt = 0 ∨ z.toInt = 1))) := by
  refine MC.of (own := RX12) (by decide +kernel) rfl (Nat.le_of_ble_eq_true rfl) ?_
  intro p e s m args below meth c ls C hr hlk hnm hw hsz hl
  have hx := C.1.1
  have hb := C.1.2.1
  have hown := C.1.2.2.2.1
  have hts := C.1.2.2.2.2
  have hl : lv_has ls 5 [(0, .ref (B + 49)), (1, .int x)] := hl
  have hsh := hI.sh
  have hrm := hI.rm
  have kit := hI.its (j := x.toInt.toNat) (by omega)
  have hne : 0 < (ig (B + 58) x.toInt.toNat).toInt := by obtain ⟨n, q1, q2, q3, q4⟩ := hI.row (p := x.toInt.toNat) (by omega) (by omega) hkd; have := q3.lt; omega
  refine lv_bipush (v := 120) hx hb dX12_looksTotal_0 (by decide) (ti_c 120 (by decide) fun z1 hz1 => ?_)
  refine lv_iload_n hx hb dX12_looksTotal_2 rfl (lv_at hl 1 rfl) ?_
  refine lv_imul hx hb dX12_looksTotal_3 (tc_mulL 120 hz1 fun z2 hz2 => ?_)
  first | replace hz2 := hz2 (by omega) | clear hz2
  refine lv_istore_n (lv' := [(2, .int z2), (0, .ref (B + 49)), (1, .int x)]) hx hb dX12_looksTotal_4 rfl hl (by decide) rfl (fun ls hl => ?_)
  refine lv_iload_n hx hb dX12_looksTotal_5 rfl (lv_at hl 0 rfl) ?_
  refine lv_aload_n hx hb dX12_looksTotal_6 rfl (lv_at hl 1 rfl) ?_
  refine r_get C hw (hsh 49 _ rfl) fl_X12_77 (oV_r rfl (hrm (49, 13, 58) (by decide))) dX12_looksTotal_7 ?_
  refine lv_iload_n hx hb dX12_looksTotal_10 rfl (lv_at hl 2 rfl) ?_
  refine r_iald C hw (hsh 58 _ rfl) (by omega) (by omega) dX12_looksTotal_11 (ti_c (ig (B + 58) x.toInt.toNat).toInt rfl fun z3 hz3 => ?_)
  have k4 := hI.its (j := (x.toInt.toNat)) (by omega)
  refine lv_iadd hx hb dX12_looksTotal_12 (tc_add fun z5 hz5 => ?_)
  first | replace hz5 := hz5 (by omega) | clear hz5
  refine lv_istore_n (lv' := [(3, .int z5), (2, .int z2), (0, .ref (B + 49)), (1, .int x)]) hx hb dX12_looksTotal_13 rfl hl (by decide) rfl (fun ls hl => ?_)
  refine lv_iconst (v := 1) hx hb dX12_looksTotal_14 (by decide) (ti_c 1 (by decide) fun z6 hz6 => ?_)
  refine lv_istore (lv' := [(4, .int z6), (3, .int z5), (2, .int z2), (0, .ref (B + 49)), (1, .int x)]) hx hb dX12_looksTotal_15 hl (by decide) rfl (fun ls hl => ?_)
  have L17 : ∀ (n : Nat) (ls : Array Slot) (H : Heap) (locs : List Loc) (v7 : Int32) (v8 : Int32), lv_has ls 5 [(4, .int v7), (3, .int z5), (2, .int v8), (0, .ref (B + 49))] → WD B D cA s.heap kd ig rg lg H locs → H.size = sz → (120 * x.toInt ≤ v8.toInt) → (v8.toInt ≤ 120 * x.toInt + (ig (B + 58) x.toInt.toNat).toInt) → (v7.toInt = 0 ∨ (v7.toInt = 1 ∧ v8.toInt < 120 * x.toInt + (ig (B + 58) x.toInt.toNat).toInt)) → 120 * x.toInt + (ig (B + 58) x.toInt.toNat).toInt - v8.toInt < (n : Int) → W p l e (rL 0 0 0) s m args below meth c H locs 0 0 (MQ below (QcW B D cA (Pu kd ig rg lg sz (fun r => ∃ z : Int32, r = some (.int z) ∧ (z.toInt = 0 ∨ z.toInt = 1)))) args s 0 0 (fun q => B ≤ q)) (F0 m 17 ls []) := by
    intro n17
    induction n17 with
    | zero => intro ls H locs v7 v8 hl hw hsz g17_0 g17_1 g17_2 hmu; exact absurd hmu (by omega)
    | succ n17 ih17 =>
      intro ls H locs v7 v8 hl hw hsz g17_0 g17_1 g17_2 hmu
      refine lv_iload hx hb dX12_looksTotal_17 (lv_at hl 0 rfl) ?_
      refine z_eq (tgt := 115) hx hb dX12_looksTotal_19 (by decide) (fun c19 => ?_) (fun c19 => ?_)
      · refine lv_iconst (v := 0) hx hb dX12_looksTotal_115 (by decide) (ti_c 0 (by decide) fun z9 hz9 => ?_)
        exact r_iret C hw hr hlk (nar_b (by omega)) (Nat.le_of_ble_eq_true rfl) (Nat.le_of_ble_eq_true rfl) dX12_looksTotal_116 ⟨rfl, rfl, rfl, rfl, hsz, ⟨_, rfl, by omega⟩⟩
      · have ek : 120 * x.toInt.toNat + (v8.toInt - 120 * x.toInt).toNat = v8.toInt.toNat := by omega
        have go1 := (hI.at (p := x.toInt.toNat) (k := (v8.toInt - 120 * x.toInt).toNat) (by omega) (by omega) hkd (by omega)).1
        rw [ek] at go1
        have s1 : (ig (B + 54) v8.toInt.toNat).toInt = 2 → v8.toInt + 5 < 120 * x.toInt + (ig (B + 58) x.toInt.toNat).toInt := fun q => by have := (go1.1 q).1; omega
        refine lv_aload_n hx hb dX12_looksTotal_22 rfl (lv_at hl 3 rfl) ?_
        refine r_get C hw (hsh 49 _ rfl) fl_X12_65 (oV_r rfl (hrm (49, 9, 54) (by decide))) dX12_looksTotal_23 ?_
        refine lv_iload_n hx hb dX12_looksTotal_26 rfl (lv_at hl 2 rfl) ?_
        refine r_iald C hw (hsh 54 _ rfl) (by omega) (by omega) dX12_looksTotal_27 (ti_c (ig (B + 54) v8.toInt.toNat).toInt rfl fun z10 hz10 => ?_)
        refine lv_iconst (v := 3) hx hb dX12_looksTotal_28 (by decide) (ti_c 3 (by decide) fun z12 hz12 => ?_)
        refine b_eq (tgt := 42) hx hb dX12_looksTotal_29 (by decide) (fun c29 => ?_) (fun c29 => ?_)
        · refine lv_iconst (v := 1) hx hb dX12_looksTotal_42 (by decide) (ti_c 1 (by decide) fun z13 hz13 => ?_)
          refine lv_goto (tgt := 47) hx hb dX12_looksTotal_43 (by decide) ?_
          refine lv_istore (lv' := [(4, .int z13), (3, .int z5), (2, .int v8), (0, .ref (B + 49))]) hx hb dX12_looksTotal_47 hl (by decide) rfl (fun ls hl => ?_)
          refine lv_iload_n hx hb dX12_looksTotal_49 rfl (lv_at hl 2 rfl) ?_
          refine lv_aload_n hx hb dX12_looksTotal_50 rfl (lv_at hl 3 rfl) ?_
          refine r_get C hw (hsh 49 _ rfl) fl_X12_65 (oV_r rfl (hrm (49, 9, 54) (by decide))) dX12_looksTotal_51 ?_
          refine lv_iload_n hx hb dX12_looksTotal_54 rfl (lv_at hl 2 rfl) ?_
          refine r_iald C hw (hsh 54 _ rfl) (by omega) (by omega) dX12_looksTotal_55 (ti_c (ig (B + 54) v8.toInt.toNat).toInt rfl fun z14 hz14 => ?_)
          refine lv_iconst (v := 2) hx hb dX12_looksTotal_56 (by decide) (ti_c 2 (by decide) fun z16 hz16 => ?_)
          refine b_ne (tgt := 65) hx hb dX12_looksTotal_57 (by decide) (fun c57 => ?_) (fun c57 => ?_)
          · refine lv_iconst (v := 1) hx hb dX12_looksTotal_65 (by decide) (ti_c 1 (by decide) fun z17 hz17 => ?_)
            refine lv_iadd hx hb dX12_looksTotal_66 (tc_add fun z18 hz18 => ?_)
            first | replace hz18 := hz18 (by omega) | clear hz18
            refine lv_istore_n (lv' := [(2, .int z18), (4, .int z13), (3, .int z5), (0, .ref (B + 49))]) hx hb dX12_looksTotal_67 rfl hl (by decide) rfl (fun ls hl => ?_)
            refine lv_iload hx hb dX12_looksTotal_68 (lv_at hl 1 rfl) ?_
            refine z_eq (tgt := 78) hx hb dX12_looksTotal_70 (by decide) (fun c70 => ?_) (fun c70 => ?_)
            · refine lv_iload hx hb dX12_looksTotal_78 (lv_at hl 1 rfl) ?_
              exact r_iret C hw hr hlk (nar_b (by omega)) (Nat.le_of_ble_eq_true rfl) (Nat.le_of_ble_eq_true rfl) dX12_looksTotal_80 ⟨rfl, rfl, rfl, rfl, hsz, ⟨_, rfl, by omega⟩⟩
            · refine lv_iload_n hx hb dX12_looksTotal_73 rfl (lv_at hl 0 rfl) ?_
              refine lv_iload_n hx hb dX12_looksTotal_74 rfl (lv_at hl 2 rfl) ?_
              refine b_ne (tgt := 81) hx hb dX12_looksTotal_75 (by decide) (fun c75 => ?_) (fun c75 => ?_)
              · have ek : 120 * x.toInt.toNat + (z18.toInt - 120 * x.toInt).toNat = z18.toInt.toNat := by omega
                have go1 := (hI.at (p := x.toInt.toNat) (k := (z18.toInt - 120 * x.toInt).toNat) (by omega) (by omega) hkd (by omega)).1
                rw [ek] at go1
                have s2 : (ig (B + 54) z18.toInt.toNat).toInt = 1 ∧ (ig (B + 55) z18.toInt.toNat).toInt = 43 → z18.toInt + 1 < 120 * x.toInt + (ig (B + 58) x.toInt.toNat).toInt := fun q => by have := go1.2 q; omega
                refine lv_aload_n hx hb dX12_looksTotal_81 rfl (lv_at hl 3 rfl) ?_
                refine r_get C hw (hsh 49 _ rfl) fl_X12_65 (oV_r rfl (hrm (49, 9, 54) (by decide))) dX12_looksTotal_82 ?_
                refine lv_iload_n hx hb dX12_looksTotal_85 rfl (lv_at hl 0 rfl) ?_
                refine r_iald C hw (hsh 54 _ rfl) (by omega) (by omega) dX12_looksTotal_86 (ti_c (ig (B + 54) z18.toInt.toNat).toInt rfl fun z19 hz19 => ?_)
                refine lv_iconst (v := 1) hx hb dX12_looksTotal_87 (by decide) (ti_c 1 (by decide) fun z21 hz21 => ?_)
                refine b_ne (tgt := 106) hx hb dX12_looksTotal_88 (by decide) (fun c88 => ?_) (fun c88 => ?_)
                · refine lv_iconst (v := 0) hx hb dX12_looksTotal_106 (by decide) (ti_c 0 (by decide) fun z22 hz22 => ?_)
                  refine lv_istore (lv' := [(4, .int z22), (2, .int z18), (3, .int z5), (0, .ref (B + 49))]) hx hb dX12_looksTotal_107 hl (by decide) rfl (fun ls hl => ?_)
                  refine tc_inc hx hb dX12_looksTotal_109 hl (k := 1) rfl (by decide) (by decide) (fun z23 hz23 ls hl => ?_)
                  first | replace hz23 := hz23 (by omega) | clear hz23
                  have hl : lv_has ls 5 [(2, .int z23), (4, .int z22), (3, .int z5), (0, .ref (B + 49))] := hl
                  refine lv_goto (tgt := 17) hx hb dX12_looksTotal_112 (by decide) ?_
                  exact ih17 ls H locs z22 z23 (lv_sub hl [1, 2, 0, 3] rfl) hw hsz (by omega) (by omega) (by omega) (by omega)
                · refine lv_aload_n hx hb dX12_looksTotal_91 rfl (lv_at hl 3 rfl) ?_
                  refine r_get C hw (hsh 49 _ rfl) fl_X12_68 (oV_r rfl (hrm (49, 10, 55) (by decide))) dX12_looksTotal_92 ?_
                  refine lv_iload_n hx hb dX12_looksTotal_95 rfl (lv_at hl 0 rfl) ?_
                  refine r_iald C hw (hsh 55 _ rfl) (by omega) (by omega) dX12_looksTotal_96 (ti_c (ig (B + 55) z18.toInt.toNat).toInt rfl fun z24 hz24 => ?_)
                  refine lv_bipush (v := 43) hx hb dX12_looksTotal_97 (by decide) (ti_c 43 (by decide) fun z26 hz26 => ?_)
                  refine b_ne (tgt := 106) hx hb dX12_looksTotal_99 (by decide) (fun c99 => ?_) (fun c99 => ?_)
                  · refine lv_iconst (v := 0) hx hb dX12_looksTotal_106 (by decide) (ti_c 0 (by decide) fun z27 hz27 => ?_)
                    refine lv_istore (lv' := [(4, .int z27), (2, .int z18), (3, .int z5), (0, .ref (B + 49))]) hx hb dX12_looksTotal_107 hl (by decide) rfl (fun ls hl => ?_)
                    refine tc_inc hx hb dX12_looksTotal_109 hl (k := 1) rfl (by decide) (by decide) (fun z28 hz28 ls hl => ?_)
                    first | replace hz28 := hz28 (by omega) | clear hz28
                    have hl : lv_has ls 5 [(2, .int z28), (4, .int z27), (3, .int z5), (0, .ref (B + 49))] := hl
                    refine lv_goto (tgt := 17) hx hb dX12_looksTotal_112 (by decide) ?_
                    exact ih17 ls H locs z27 z28 (lv_sub hl [1, 2, 0, 3] rfl) hw hsz (by omega) (by omega) (by omega) (by omega)
                  · refine lv_iconst (v := 1) hx hb dX12_looksTotal_102 (by decide) (ti_c 1 (by decide) fun z29 hz29 => ?_)
                    refine lv_goto (tgt := 107) hx hb dX12_looksTotal_103 (by decide) ?_
                    refine lv_istore (lv' := [(4, .int z29), (2, .int z18), (3, .int z5), (0, .ref (B + 49))]) hx hb dX12_looksTotal_107 hl (by decide) rfl (fun ls hl => ?_)
                    refine tc_inc hx hb dX12_looksTotal_109 hl (k := 1) rfl (by decide) (by decide) (fun z30 hz30 ls hl => ?_)
                    first | replace hz30 := hz30 (by omega) | clear hz30
                    have hl : lv_has ls 5 [(2, .int z30), (4, .int z29), (3, .int z5), (0, .ref (B + 49))] := hl
                    refine lv_goto (tgt := 17) hx hb dX12_looksTotal_112 (by decide) ?_
                    exact ih17 ls H locs z29 z30 (lv_sub hl [1, 2, 0, 3] rfl) hw hsz (by omega) (by omega) (by omega) (by omega)
              · refine lv_iload hx hb dX12_looksTotal_78 (lv_at hl 1 rfl) ?_
                exact r_iret C hw hr hlk (nar_b (by omega)) (Nat.le_of_ble_eq_true rfl) (Nat.le_of_ble_eq_true rfl) dX12_looksTotal_80 ⟨rfl, rfl, rfl, rfl, hsz, ⟨_, rfl, by omega⟩⟩
          · refine lv_bipush (v := 6) hx hb dX12_looksTotal_60 (by decide) (ti_c 6 (by decide) fun z31 hz31 => ?_)
            refine lv_goto (tgt := 66) hx hb dX12_looksTotal_62 (by decide) ?_
            refine lv_iadd hx hb dX12_looksTotal_66 (tc_add fun z32 hz32 => ?_)
            first | replace hz32 := hz32 (by omega) | clear hz32
            refine lv_istore_n (lv' := [(2, .int z32), (4, .int z13), (3, .int z5), (0, .ref (B + 49))]) hx hb dX12_looksTotal_67 rfl hl (by decide) rfl (fun ls hl => ?_)
            refine lv_iload hx hb dX12_looksTotal_68 (lv_at hl 1 rfl) ?_
            refine z_eq (tgt := 78) hx hb dX12_looksTotal_70 (by decide) (fun c70 => ?_) (fun c70 => ?_)
            · refine lv_iload hx hb dX12_looksTotal_78 (lv_at hl 1 rfl) ?_
              exact r_iret C hw hr hlk (nar_b (by omega)) (Nat.le_of_ble_eq_true rfl) (Nat.le_of_ble_eq_true rfl) dX12_looksTotal_80 ⟨rfl, rfl, rfl, rfl, hsz, ⟨_, rfl, by omega⟩⟩
            · refine lv_iload_n hx hb dX12_looksTotal_73 rfl (lv_at hl 0 rfl) ?_
              refine lv_iload_n hx hb dX12_looksTotal_74 rfl (lv_at hl 2 rfl) ?_
              refine b_ne (tgt := 81) hx hb dX12_looksTotal_75 (by decide) (fun c75 => ?_) (fun c75 => ?_)
              · have ek : 120 * x.toInt.toNat + (z32.toInt - 120 * x.toInt).toNat = z32.toInt.toNat := by omega
                have go1 := (hI.at (p := x.toInt.toNat) (k := (z32.toInt - 120 * x.toInt).toNat) (by omega) (by omega) hkd (by omega)).1
                rw [ek] at go1
                have s2 : (ig (B + 54) z32.toInt.toNat).toInt = 1 ∧ (ig (B + 55) z32.toInt.toNat).toInt = 43 → z32.toInt + 1 < 120 * x.toInt + (ig (B + 58) x.toInt.toNat).toInt := fun q => by have := go1.2 q; omega
                refine lv_aload_n hx hb dX12_looksTotal_81 rfl (lv_at hl 3 rfl) ?_
                refine r_get C hw (hsh 49 _ rfl) fl_X12_65 (oV_r rfl (hrm (49, 9, 54) (by decide))) dX12_looksTotal_82 ?_
                refine lv_iload_n hx hb dX12_looksTotal_85 rfl (lv_at hl 0 rfl) ?_
                refine r_iald C hw (hsh 54 _ rfl) (by omega) (by omega) dX12_looksTotal_86 (ti_c (ig (B + 54) z32.toInt.toNat).toInt rfl fun z33 hz33 => ?_)
                refine lv_iconst (v := 1) hx hb dX12_looksTotal_87 (by decide) (ti_c 1 (by decide) fun z35 hz35 => ?_)
                refine b_ne (tgt := 106) hx hb dX12_looksTotal_88 (by decide) (fun c88 => ?_) (fun c88 => ?_)
                · refine lv_iconst (v := 0) hx hb dX12_looksTotal_106 (by decide) (ti_c 0 (by decide) fun z36 hz36 => ?_)
                  refine lv_istore (lv' := [(4, .int z36), (2, .int z32), (3, .int z5), (0, .ref (B + 49))]) hx hb dX12_looksTotal_107 hl (by decide) rfl (fun ls hl => ?_)
                  refine tc_inc hx hb dX12_looksTotal_109 hl (k := 1) rfl (by decide) (by decide) (fun z37 hz37 ls hl => ?_)
                  first | replace hz37 := hz37 (by omega) | clear hz37
                  have hl : lv_has ls 5 [(2, .int z37), (4, .int z36), (3, .int z5), (0, .ref (B + 49))] := hl
                  refine lv_goto (tgt := 17) hx hb dX12_looksTotal_112 (by decide) ?_
                  exact ih17 ls H locs z36 z37 (lv_sub hl [1, 2, 0, 3] rfl) hw hsz (by omega) (by omega) (by omega) (by omega)
                · refine lv_aload_n hx hb dX12_looksTotal_91 rfl (lv_at hl 3 rfl) ?_
                  refine r_get C hw (hsh 49 _ rfl) fl_X12_68 (oV_r rfl (hrm (49, 10, 55) (by decide))) dX12_looksTotal_92 ?_
                  refine lv_iload_n hx hb dX12_looksTotal_95 rfl (lv_at hl 0 rfl) ?_
                  refine r_iald C hw (hsh 55 _ rfl) (by omega) (by omega) dX12_looksTotal_96 (ti_c (ig (B + 55) z32.toInt.toNat).toInt rfl fun z38 hz38 => ?_)
                  refine lv_bipush (v := 43) hx hb dX12_looksTotal_97 (by decide) (ti_c 43 (by decide) fun z40 hz40 => ?_)
                  refine b_ne (tgt := 106) hx hb dX12_looksTotal_99 (by decide) (fun c99 => ?_) (fun c99 => ?_)
                  · refine lv_iconst (v := 0) hx hb dX12_looksTotal_106 (by decide) (ti_c 0 (by decide) fun z41 hz41 => ?_)
                    refine lv_istore (lv' := [(4, .int z41), (2, .int z32), (3, .int z5), (0, .ref (B + 49))]) hx hb dX12_looksTotal_107 hl (by decide) rfl (fun ls hl => ?_)
                    refine tc_inc hx hb dX12_looksTotal_109 hl (k := 1) rfl (by decide) (by decide) (fun z42 hz42 ls hl => ?_)
                    first | replace hz42 := hz42 (by omega) | clear hz42
                    have hl : lv_has ls 5 [(2, .int z42), (4, .int z41), (3, .int z5), (0, .ref (B + 49))] := hl
                    refine lv_goto (tgt := 17) hx hb dX12_looksTotal_112 (by decide) ?_
                    exact ih17 ls H locs z41 z42 (lv_sub hl [1, 2, 0, 3] rfl) hw hsz (by omega) (by omega) (by omega) (by omega)
                  · refine lv_iconst (v := 1) hx hb dX12_looksTotal_102 (by decide) (ti_c 1 (by decide) fun z43 hz43 => ?_)
                    refine lv_goto (tgt := 107) hx hb dX12_looksTotal_103 (by decide) ?_
                    refine lv_istore (lv' := [(4, .int z43), (2, .int z32), (3, .int z5), (0, .ref (B + 49))]) hx hb dX12_looksTotal_107 hl (by decide) rfl (fun ls hl => ?_)
                    refine tc_inc hx hb dX12_looksTotal_109 hl (k := 1) rfl (by decide) (by decide) (fun z44 hz44 ls hl => ?_)
                    first | replace hz44 := hz44 (by omega) | clear hz44
                    have hl : lv_has ls 5 [(2, .int z44), (4, .int z43), (3, .int z5), (0, .ref (B + 49))] := hl
                    refine lv_goto (tgt := 17) hx hb dX12_looksTotal_112 (by decide) ?_
                    exact ih17 ls H locs z43 z44 (lv_sub hl [1, 2, 0, 3] rfl) hw hsz (by omega) (by omega) (by omega) (by omega)
              · refine lv_iload hx hb dX12_looksTotal_78 (lv_at hl 1 rfl) ?_
                exact r_iret C hw hr hlk (nar_b (by omega)) (Nat.le_of_ble_eq_true rfl) (Nat.le_of_ble_eq_true rfl) dX12_looksTotal_80 ⟨rfl, rfl, rfl, rfl, hsz, ⟨_, rfl, by omega⟩⟩
        · refine lv_aload_n hx hb dX12_looksTotal_32 rfl (lv_at hl 3 rfl) ?_
          refine r_get C hw (hsh 49 _ rfl) fl_X12_65 (oV_r rfl (hrm (49, 9, 54) (by decide))) dX12_looksTotal_33 ?_
          refine lv_iload_n hx hb dX12_looksTotal_36 rfl (lv_at hl 2 rfl) ?_
          refine r_iald C hw (hsh 54 _ rfl) (by omega) (by omega) dX12_looksTotal_37 (ti_c (ig (B + 54) v8.toInt.toNat).toInt rfl fun z45 hz45 => ?_)
          refine lv_iconst (v := 2) hx hb dX12_looksTotal_38 (by decide) (ti_c 2 (by decide) fun z47 hz47 => ?_)
          refine b_ne (tgt := 46) hx hb dX12_looksTotal_39 (by decide) (fun c39 => ?_) (fun c39 => ?_)
          · refine lv_iconst (v := 0) hx hb dX12_looksTotal_46 (by decide) (ti_c 0 (by decide) fun z48 hz48 => ?_)
            refine lv_istore (lv' := [(4, .int z48), (3, .int z5), (2, .int v8), (0, .ref (B + 49))]) hx hb dX12_looksTotal_47 hl (by decide) rfl (fun ls hl => ?_)
            refine lv_iload_n hx hb dX12_looksTotal_49 rfl (lv_at hl 2 rfl) ?_
            refine lv_aload_n hx hb dX12_looksTotal_50 rfl (lv_at hl 3 rfl) ?_
            refine r_get C hw (hsh 49 _ rfl) fl_X12_65 (oV_r rfl (hrm (49, 9, 54) (by decide))) dX12_looksTotal_51 ?_
            refine lv_iload_n hx hb dX12_looksTotal_54 rfl (lv_at hl 2 rfl) ?_
            refine r_iald C hw (hsh 54 _ rfl) (by omega) (by omega) dX12_looksTotal_55 (ti_c (ig (B + 54) v8.toInt.toNat).toInt rfl fun z49 hz49 => ?_)
            refine lv_iconst (v := 2) hx hb dX12_looksTotal_56 (by decide) (ti_c 2 (by decide) fun z51 hz51 => ?_)
            refine b_ne (tgt := 65) hx hb dX12_looksTotal_57 (by decide) (fun c57 => ?_) (fun c57 => ?_)
            · refine lv_iconst (v := 1) hx hb dX12_looksTotal_65 (by decide) (ti_c 1 (by decide) fun z52 hz52 => ?_)
              refine lv_iadd hx hb dX12_looksTotal_66 (tc_add fun z53 hz53 => ?_)
              first | replace hz53 := hz53 (by omega) | clear hz53
              refine lv_istore_n (lv' := [(2, .int z53), (4, .int z48), (3, .int z5), (0, .ref (B + 49))]) hx hb dX12_looksTotal_67 rfl hl (by decide) rfl (fun ls hl => ?_)
              refine lv_iload hx hb dX12_looksTotal_68 (lv_at hl 1 rfl) ?_
              refine z_eq (tgt := 78) hx hb dX12_looksTotal_70 (by decide) (fun c70 => ?_) (fun c70 => ?_)
              · refine lv_iload hx hb dX12_looksTotal_78 (lv_at hl 1 rfl) ?_
                exact r_iret C hw hr hlk (nar_b (by omega)) (Nat.le_of_ble_eq_true rfl) (Nat.le_of_ble_eq_true rfl) dX12_looksTotal_80 ⟨rfl, rfl, rfl, rfl, hsz, ⟨_, rfl, by omega⟩⟩
              · refine lv_iload_n hx hb dX12_looksTotal_73 rfl (lv_at hl 0 rfl) ?_
                refine lv_iload_n hx hb dX12_looksTotal_74 rfl (lv_at hl 2 rfl) ?_
                refine b_ne (tgt := 81) hx hb dX12_looksTotal_75 (by decide) (fun c75 => ?_) (fun c75 => ?_)
                · have ek : 120 * x.toInt.toNat + (z53.toInt - 120 * x.toInt).toNat = z53.toInt.toNat := by omega
                  have go1 := (hI.at (p := x.toInt.toNat) (k := (z53.toInt - 120 * x.toInt).toNat) (by omega) (by omega) hkd (by omega)).1
                  rw [ek] at go1
                  have s2 : (ig (B + 54) z53.toInt.toNat).toInt = 1 ∧ (ig (B + 55) z53.toInt.toNat).toInt = 43 → z53.toInt + 1 < 120 * x.toInt + (ig (B + 58) x.toInt.toNat).toInt := fun q => by have := go1.2 q; omega
                  refine lv_aload_n hx hb dX12_looksTotal_81 rfl (lv_at hl 3 rfl) ?_
                  refine r_get C hw (hsh 49 _ rfl) fl_X12_65 (oV_r rfl (hrm (49, 9, 54) (by decide))) dX12_looksTotal_82 ?_
                  refine lv_iload_n hx hb dX12_looksTotal_85 rfl (lv_at hl 0 rfl) ?_
                  refine r_iald C hw (hsh 54 _ rfl) (by omega) (by omega) dX12_looksTotal_86 (ti_c (ig (B + 54) z53.toInt.toNat).toInt rfl fun z54 hz54 => ?_)
                  refine lv_iconst (v := 1) hx hb dX12_looksTotal_87 (by decide) (ti_c 1 (by decide) fun z56 hz56 => ?_)
                  refine b_ne (tgt := 106) hx hb dX12_looksTotal_88 (by decide) (fun c88 => ?_) (fun c88 => ?_)
                  · refine lv_iconst (v := 0) hx hb dX12_looksTotal_106 (by decide) (ti_c 0 (by decide) fun z57 hz57 => ?_)
                    refine lv_istore (lv' := [(4, .int z57), (2, .int z53), (3, .int z5), (0, .ref (B + 49))]) hx hb dX12_looksTotal_107 hl (by decide) rfl (fun ls hl => ?_)
                    refine tc_inc hx hb dX12_looksTotal_109 hl (k := 1) rfl (by decide) (by decide) (fun z58 hz58 ls hl => ?_)
                    first | replace hz58 := hz58 (by omega) | clear hz58
                    have hl : lv_has ls 5 [(2, .int z58), (4, .int z57), (3, .int z5), (0, .ref (B + 49))] := hl
                    refine lv_goto (tgt := 17) hx hb dX12_looksTotal_112 (by decide) ?_
                    exact ih17 ls H locs z57 z58 (lv_sub hl [1, 2, 0, 3] rfl) hw hsz (by omega) (by omega) (by omega) (by omega)
                  · refine lv_aload_n hx hb dX12_looksTotal_91 rfl (lv_at hl 3 rfl) ?_
                    refine r_get C hw (hsh 49 _ rfl) fl_X12_68 (oV_r rfl (hrm (49, 10, 55) (by decide))) dX12_looksTotal_92 ?_
                    refine lv_iload_n hx hb dX12_looksTotal_95 rfl (lv_at hl 0 rfl) ?_
                    refine r_iald C hw (hsh 55 _ rfl) (by omega) (by omega) dX12_looksTotal_96 (ti_c (ig (B + 55) z53.toInt.toNat).toInt rfl fun z59 hz59 => ?_)
                    refine lv_bipush (v := 43) hx hb dX12_looksTotal_97 (by decide) (ti_c 43 (by decide) fun z61 hz61 => ?_)
                    refine b_ne (tgt := 106) hx hb dX12_looksTotal_99 (by decide) (fun c99 => ?_) (fun c99 => ?_)
                    · refine lv_iconst (v := 0) hx hb dX12_looksTotal_106 (by decide) (ti_c 0 (by decide) fun z62 hz62 => ?_)
                      refine lv_istore (lv' := [(4, .int z62), (2, .int z53), (3, .int z5), (0, .ref (B + 49))]) hx hb dX12_looksTotal_107 hl (by decide) rfl (fun ls hl => ?_)
                      refine tc_inc hx hb dX12_looksTotal_109 hl (k := 1) rfl (by decide) (by decide) (fun z63 hz63 ls hl => ?_)
                      first | replace hz63 := hz63 (by omega) | clear hz63
                      have hl : lv_has ls 5 [(2, .int z63), (4, .int z62), (3, .int z5), (0, .ref (B + 49))] := hl
                      refine lv_goto (tgt := 17) hx hb dX12_looksTotal_112 (by decide) ?_
                      exact ih17 ls H locs z62 z63 (lv_sub hl [1, 2, 0, 3] rfl) hw hsz (by omega) (by omega) (by omega) (by omega)
                    · refine lv_iconst (v := 1) hx hb dX12_looksTotal_102 (by decide) (ti_c 1 (by decide) fun z64 hz64 => ?_)
                      refine lv_goto (tgt := 107) hx hb dX12_looksTotal_103 (by decide) ?_
                      refine lv_istore (lv' := [(4, .int z64), (2, .int z53), (3, .int z5), (0, .ref (B + 49))]) hx hb dX12_looksTotal_107 hl (by decide) rfl (fun ls hl => ?_)
                      refine tc_inc hx hb dX12_looksTotal_109 hl (k := 1) rfl (by decide) (by decide) (fun z65 hz65 ls hl => ?_)
                      first | replace hz65 := hz65 (by omega) | clear hz65
                      have hl : lv_has ls 5 [(2, .int z65), (4, .int z64), (3, .int z5), (0, .ref (B + 49))] := hl
                      refine lv_goto (tgt := 17) hx hb dX12_looksTotal_112 (by decide) ?_
                      exact ih17 ls H locs z64 z65 (lv_sub hl [1, 2, 0, 3] rfl) hw hsz (by omega) (by omega) (by omega) (by omega)
                · refine lv_iload hx hb dX12_looksTotal_78 (lv_at hl 1 rfl) ?_
                  exact r_iret C hw hr hlk (nar_b (by omega)) (Nat.le_of_ble_eq_true rfl) (Nat.le_of_ble_eq_true rfl) dX12_looksTotal_80 ⟨rfl, rfl, rfl, rfl, hsz, ⟨_, rfl, by omega⟩⟩
            · refine lv_bipush (v := 6) hx hb dX12_looksTotal_60 (by decide) (ti_c 6 (by decide) fun z66 hz66 => ?_)
              refine lv_goto (tgt := 66) hx hb dX12_looksTotal_62 (by decide) ?_
              refine lv_iadd hx hb dX12_looksTotal_66 (tc_add fun z67 hz67 => ?_)
              first | replace hz67 := hz67 (by omega) | clear hz67
              refine lv_istore_n (lv' := [(2, .int z67), (4, .int z48), (3, .int z5), (0, .ref (B + 49))]) hx hb dX12_looksTotal_67 rfl hl (by decide) rfl (fun ls hl => ?_)
              refine lv_iload hx hb dX12_looksTotal_68 (lv_at hl 1 rfl) ?_
              refine z_eq (tgt := 78) hx hb dX12_looksTotal_70 (by decide) (fun c70 => ?_) (fun c70 => ?_)
              · refine lv_iload hx hb dX12_looksTotal_78 (lv_at hl 1 rfl) ?_
                exact r_iret C hw hr hlk (nar_b (by omega)) (Nat.le_of_ble_eq_true rfl) (Nat.le_of_ble_eq_true rfl) dX12_looksTotal_80 ⟨rfl, rfl, rfl, rfl, hsz, ⟨_, rfl, by omega⟩⟩
              · refine lv_iload_n hx hb dX12_looksTotal_73 rfl (lv_at hl 0 rfl) ?_
                refine lv_iload_n hx hb dX12_looksTotal_74 rfl (lv_at hl 2 rfl) ?_
                refine b_ne (tgt := 81) hx hb dX12_looksTotal_75 (by decide) (fun c75 => ?_) (fun c75 => ?_)
                · have ek : 120 * x.toInt.toNat + (z67.toInt - 120 * x.toInt).toNat = z67.toInt.toNat := by omega
                  have go1 := (hI.at (p := x.toInt.toNat) (k := (z67.toInt - 120 * x.toInt).toNat) (by omega) (by omega) hkd (by omega)).1
                  rw [ek] at go1
                  have s2 : (ig (B + 54) z67.toInt.toNat).toInt = 1 ∧ (ig (B + 55) z67.toInt.toNat).toInt = 43 → z67.toInt + 1 < 120 * x.toInt + (ig (B + 58) x.toInt.toNat).toInt := fun q => by have := go1.2 q; omega
                  refine lv_aload_n hx hb dX12_looksTotal_81 rfl (lv_at hl 3 rfl) ?_
                  refine r_get C hw (hsh 49 _ rfl) fl_X12_65 (oV_r rfl (hrm (49, 9, 54) (by decide))) dX12_looksTotal_82 ?_
                  refine lv_iload_n hx hb dX12_looksTotal_85 rfl (lv_at hl 0 rfl) ?_
                  refine r_iald C hw (hsh 54 _ rfl) (by omega) (by omega) dX12_looksTotal_86 (ti_c (ig (B + 54) z67.toInt.toNat).toInt rfl fun z68 hz68 => ?_)
                  refine lv_iconst (v := 1) hx hb dX12_looksTotal_87 (by decide) (ti_c 1 (by decide) fun z70 hz70 => ?_)
                  refine b_ne (tgt := 106) hx hb dX12_looksTotal_88 (by decide) (fun c88 => ?_) (fun c88 => ?_)
                  · refine lv_iconst (v := 0) hx hb dX12_looksTotal_106 (by decide) (ti_c 0 (by decide) fun z71 hz71 => ?_)
                    refine lv_istore (lv' := [(4, .int z71), (2, .int z67), (3, .int z5), (0, .ref (B + 49))]) hx hb dX12_looksTotal_107 hl (by decide) rfl (fun ls hl => ?_)
                    refine tc_inc hx hb dX12_looksTotal_109 hl (k := 1) rfl (by decide) (by decide) (fun z72 hz72 ls hl => ?_)
                    first | replace hz72 := hz72 (by omega) | clear hz72
                    have hl : lv_has ls 5 [(2, .int z72), (4, .int z71), (3, .int z5), (0, .ref (B + 49))] := hl
                    refine lv_goto (tgt := 17) hx hb dX12_looksTotal_112 (by decide) ?_
                    exact ih17 ls H locs z71 z72 (lv_sub hl [1, 2, 0, 3] rfl) hw hsz (by omega) (by omega) (by omega) (by omega)
                  · refine lv_aload_n hx hb dX12_looksTotal_91 rfl (lv_at hl 3 rfl) ?_
                    refine r_get C hw (hsh 49 _ rfl) fl_X12_68 (oV_r rfl (hrm (49, 10, 55) (by decide))) dX12_looksTotal_92 ?_
                    refine lv_iload_n hx hb dX12_looksTotal_95 rfl (lv_at hl 0 rfl) ?_
                    refine r_iald C hw (hsh 55 _ rfl) (by omega) (by omega) dX12_looksTotal_96 (ti_c (ig (B + 55) z67.toInt.toNat).toInt rfl fun z73 hz73 => ?_)
                    refine lv_bipush (v := 43) hx hb dX12_looksTotal_97 (by decide) (ti_c 43 (by decide) fun z75 hz75 => ?_)
                    refine b_ne (tgt := 106) hx hb dX12_looksTotal_99 (by decide) (fun c99 => ?_) (fun c99 => ?_)
                    · refine lv_iconst (v := 0) hx hb dX12_looksTotal_106 (by decide) (ti_c 0 (by decide) fun z76 hz76 => ?_)
                      refine lv_istore (lv' := [(4, .int z76), (2, .int z67), (3, .int z5), (0, .ref (B + 49))]) hx hb dX12_looksTotal_107 hl (by decide) rfl (fun ls hl => ?_)
                      refine tc_inc hx hb dX12_looksTotal_109 hl (k := 1) rfl (by decide) (by decide) (fun z77 hz77 ls hl => ?_)
                      first | replace hz77 := hz77 (by omega) | clear hz77
                      have hl : lv_has ls 5 [(2, .int z77), (4, .int z76), (3, .int z5), (0, .ref (B + 49))] := hl
                      refine lv_goto (tgt := 17) hx hb dX12_looksTotal_112 (by decide) ?_
                      exact ih17 ls H locs z76 z77 (lv_sub hl [1, 2, 0, 3] rfl) hw hsz (by omega) (by omega) (by omega) (by omega)
                    · refine lv_iconst (v := 1) hx hb dX12_looksTotal_102 (by decide) (ti_c 1 (by decide) fun z78 hz78 => ?_)
                      refine lv_goto (tgt := 107) hx hb dX12_looksTotal_103 (by decide) ?_
                      refine lv_istore (lv' := [(4, .int z78), (2, .int z67), (3, .int z5), (0, .ref (B + 49))]) hx hb dX12_looksTotal_107 hl (by decide) rfl (fun ls hl => ?_)
                      refine tc_inc hx hb dX12_looksTotal_109 hl (k := 1) rfl (by decide) (by decide) (fun z79 hz79 ls hl => ?_)
                      first | replace hz79 := hz79 (by omega) | clear hz79
                      have hl : lv_has ls 5 [(2, .int z79), (4, .int z78), (3, .int z5), (0, .ref (B + 49))] := hl
                      refine lv_goto (tgt := 17) hx hb dX12_looksTotal_112 (by decide) ?_
                      exact ih17 ls H locs z78 z79 (lv_sub hl [1, 2, 0, 3] rfl) hw hsz (by omega) (by omega) (by omega) (by omega)
                · refine lv_iload hx hb dX12_looksTotal_78 (lv_at hl 1 rfl) ?_
                  exact r_iret C hw hr hlk (nar_b (by omega)) (Nat.le_of_ble_eq_true rfl) (Nat.le_of_ble_eq_true rfl) dX12_looksTotal_80 ⟨rfl, rfl, rfl, rfl, hsz, ⟨_, rfl, by omega⟩⟩
          · refine lv_iconst (v := 1) hx hb dX12_looksTotal_42 (by decide) (ti_c 1 (by decide) fun z80 hz80 => ?_)
            refine lv_goto (tgt := 47) hx hb dX12_looksTotal_43 (by decide) ?_
            refine lv_istore (lv' := [(4, .int z80), (3, .int z5), (2, .int v8), (0, .ref (B + 49))]) hx hb dX12_looksTotal_47 hl (by decide) rfl (fun ls hl => ?_)
            refine lv_iload_n hx hb dX12_looksTotal_49 rfl (lv_at hl 2 rfl) ?_
            refine lv_aload_n hx hb dX12_looksTotal_50 rfl (lv_at hl 3 rfl) ?_
            refine r_get C hw (hsh 49 _ rfl) fl_X12_65 (oV_r rfl (hrm (49, 9, 54) (by decide))) dX12_looksTotal_51 ?_
            refine lv_iload_n hx hb dX12_looksTotal_54 rfl (lv_at hl 2 rfl) ?_
            refine r_iald C hw (hsh 54 _ rfl) (by omega) (by omega) dX12_looksTotal_55 (ti_c (ig (B + 54) v8.toInt.toNat).toInt rfl fun z81 hz81 => ?_)
            refine lv_iconst (v := 2) hx hb dX12_looksTotal_56 (by decide) (ti_c 2 (by decide) fun z83 hz83 => ?_)
            refine b_ne (tgt := 65) hx hb dX12_looksTotal_57 (by decide) (fun c57 => ?_) (fun c57 => ?_)
            · refine lv_iconst (v := 1) hx hb dX12_looksTotal_65 (by decide) (ti_c 1 (by decide) fun z84 hz84 => ?_)
              refine lv_iadd hx hb dX12_looksTotal_66 (tc_add fun z85 hz85 => ?_)
              first | replace hz85 := hz85 (by omega) | clear hz85
              refine lv_istore_n (lv' := [(2, .int z85), (4, .int z80), (3, .int z5), (0, .ref (B + 49))]) hx hb dX12_looksTotal_67 rfl hl (by decide) rfl (fun ls hl => ?_)
              refine lv_iload hx hb dX12_looksTotal_68 (lv_at hl 1 rfl) ?_
              refine z_eq (tgt := 78) hx hb dX12_looksTotal_70 (by decide) (fun c70 => ?_) (fun c70 => ?_)
              · refine lv_iload hx hb dX12_looksTotal_78 (lv_at hl 1 rfl) ?_
                exact r_iret C hw hr hlk (nar_b (by omega)) (Nat.le_of_ble_eq_true rfl) (Nat.le_of_ble_eq_true rfl) dX12_looksTotal_80 ⟨rfl, rfl, rfl, rfl, hsz, ⟨_, rfl, by omega⟩⟩
              · refine lv_iload_n hx hb dX12_looksTotal_73 rfl (lv_at hl 0 rfl) ?_
                refine lv_iload_n hx hb dX12_looksTotal_74 rfl (lv_at hl 2 rfl) ?_
                refine b_ne (tgt := 81) hx hb dX12_looksTotal_75 (by decide) (fun c75 => ?_) (fun c75 => ?_)
                · have ek : 120 * x.toInt.toNat + (z85.toInt - 120 * x.toInt).toNat = z85.toInt.toNat := by omega
                  have go1 := (hI.at (p := x.toInt.toNat) (k := (z85.toInt - 120 * x.toInt).toNat) (by omega) (by omega) hkd (by omega)).1
                  rw [ek] at go1
                  have s2 : (ig (B + 54) z85.toInt.toNat).toInt = 1 ∧ (ig (B + 55) z85.toInt.toNat).toInt = 43 → z85.toInt + 1 < 120 * x.toInt + (ig (B + 58) x.toInt.toNat).toInt := fun q => by have := go1.2 q; omega
                  refine lv_aload_n hx hb dX12_looksTotal_81 rfl (lv_at hl 3 rfl) ?_
                  refine r_get C hw (hsh 49 _ rfl) fl_X12_65 (oV_r rfl (hrm (49, 9, 54) (by decide))) dX12_looksTotal_82 ?_
                  refine lv_iload_n hx hb dX12_looksTotal_85 rfl (lv_at hl 0 rfl) ?_
                  refine r_iald C hw (hsh 54 _ rfl) (by omega) (by omega) dX12_looksTotal_86 (ti_c (ig (B + 54) z85.toInt.toNat).toInt rfl fun z86 hz86 => ?_)
                  refine lv_iconst (v := 1) hx hb dX12_looksTotal_87 (by decide) (ti_c 1 (by decide) fun z88 hz88 => ?_)
                  refine b_ne (tgt := 106) hx hb dX12_looksTotal_88 (by decide) (fun c88 => ?_) (fun c88 => ?_)
                  · refine lv_iconst (v := 0) hx hb dX12_looksTotal_106 (by decide) (ti_c 0 (by decide) fun z89 hz89 => ?_)
                    refine lv_istore (lv' := [(4, .int z89), (2, .int z85), (3, .int z5), (0, .ref (B + 49))]) hx hb dX12_looksTotal_107 hl (by decide) rfl (fun ls hl => ?_)
                    refine tc_inc hx hb dX12_looksTotal_109 hl (k := 1) rfl (by decide) (by decide) (fun z90 hz90 ls hl => ?_)
                    first | replace hz90 := hz90 (by omega) | clear hz90
                    have hl : lv_has ls 5 [(2, .int z90), (4, .int z89), (3, .int z5), (0, .ref (B + 49))] := hl
                    refine lv_goto (tgt := 17) hx hb dX12_looksTotal_112 (by decide) ?_
                    exact ih17 ls H locs z89 z90 (lv_sub hl [1, 2, 0, 3] rfl) hw hsz (by omega) (by omega) (by omega) (by omega)
                  · refine lv_aload_n hx hb dX12_looksTotal_91 rfl (lv_at hl 3 rfl) ?_
                    refine r_get C hw (hsh 49 _ rfl) fl_X12_68 (oV_r rfl (hrm (49, 10, 55) (by decide))) dX12_looksTotal_92 ?_
                    refine lv_iload_n hx hb dX12_looksTotal_95 rfl (lv_at hl 0 rfl) ?_
                    refine r_iald C hw (hsh 55 _ rfl) (by omega) (by omega) dX12_looksTotal_96 (ti_c (ig (B + 55) z85.toInt.toNat).toInt rfl fun z91 hz91 => ?_)
                    refine lv_bipush (v := 43) hx hb dX12_looksTotal_97 (by decide) (ti_c 43 (by decide) fun z93 hz93 => ?_)
                    refine b_ne (tgt := 106) hx hb dX12_looksTotal_99 (by decide) (fun c99 => ?_) (fun c99 => ?_)
                    · refine lv_iconst (v := 0) hx hb dX12_looksTotal_106 (by decide) (ti_c 0 (by decide) fun z94 hz94 => ?_)
                      refine lv_istore (lv' := [(4, .int z94), (2, .int z85), (3, .int z5), (0, .ref (B + 49))]) hx hb dX12_looksTotal_107 hl (by decide) rfl (fun ls hl => ?_)
                      refine tc_inc hx hb dX12_looksTotal_109 hl (k := 1) rfl (by decide) (by decide) (fun z95 hz95 ls hl => ?_)
                      first | replace hz95 := hz95 (by omega) | clear hz95
                      have hl : lv_has ls 5 [(2, .int z95), (4, .int z94), (3, .int z5), (0, .ref (B + 49))] := hl
                      refine lv_goto (tgt := 17) hx hb dX12_looksTotal_112 (by decide) ?_
                      exact ih17 ls H locs z94 z95 (lv_sub hl [1, 2, 0, 3] rfl) hw hsz (by omega) (by omega) (by omega) (by omega)
                    · refine lv_iconst (v := 1) hx hb dX12_looksTotal_102 (by decide) (ti_c 1 (by decide) fun z96 hz96 => ?_)
                      refine lv_goto (tgt := 107) hx hb dX12_looksTotal_103 (by decide) ?_
                      refine lv_istore (lv' := [(4, .int z96), (2, .int z85), (3, .int z5), (0, .ref (B + 49))]) hx hb dX12_looksTotal_107 hl (by decide) rfl (fun ls hl => ?_)
                      refine tc_inc hx hb dX12_looksTotal_109 hl (k := 1) rfl (by decide) (by decide) (fun z97 hz97 ls hl => ?_)
                      first | replace hz97 := hz97 (by omega) | clear hz97
                      have hl : lv_has ls 5 [(2, .int z97), (4, .int z96), (3, .int z5), (0, .ref (B + 49))] := hl
                      refine lv_goto (tgt := 17) hx hb dX12_looksTotal_112 (by decide) ?_
                      exact ih17 ls H locs z96 z97 (lv_sub hl [1, 2, 0, 3] rfl) hw hsz (by omega) (by omega) (by omega) (by omega)
                · refine lv_iload hx hb dX12_looksTotal_78 (lv_at hl 1 rfl) ?_
                  exact r_iret C hw hr hlk (nar_b (by omega)) (Nat.le_of_ble_eq_true rfl) (Nat.le_of_ble_eq_true rfl) dX12_looksTotal_80 ⟨rfl, rfl, rfl, rfl, hsz, ⟨_, rfl, by omega⟩⟩
            · refine lv_bipush (v := 6) hx hb dX12_looksTotal_60 (by decide) (ti_c 6 (by decide) fun z98 hz98 => ?_)
              refine lv_goto (tgt := 66) hx hb dX12_looksTotal_62 (by decide) ?_
              refine lv_iadd hx hb dX12_looksTotal_66 (tc_add fun z99 hz99 => ?_)
              first | replace hz99 := hz99 (by omega) | clear hz99
              refine lv_istore_n (lv' := [(2, .int z99), (4, .int z80), (3, .int z5), (0, .ref (B + 49))]) hx hb dX12_looksTotal_67 rfl hl (by decide) rfl (fun ls hl => ?_)
              refine lv_iload hx hb dX12_looksTotal_68 (lv_at hl 1 rfl) ?_
              refine z_eq (tgt := 78) hx hb dX12_looksTotal_70 (by decide) (fun c70 => ?_) (fun c70 => ?_)
              · refine lv_iload hx hb dX12_looksTotal_78 (lv_at hl 1 rfl) ?_
                exact r_iret C hw hr hlk (nar_b (by omega)) (Nat.le_of_ble_eq_true rfl) (Nat.le_of_ble_eq_true rfl) dX12_looksTotal_80 ⟨rfl, rfl, rfl, rfl, hsz, ⟨_, rfl, by omega⟩⟩
              · refine lv_iload_n hx hb dX12_looksTotal_73 rfl (lv_at hl 0 rfl) ?_
                refine lv_iload_n hx hb dX12_looksTotal_74 rfl (lv_at hl 2 rfl) ?_
                refine b_ne (tgt := 81) hx hb dX12_looksTotal_75 (by decide) (fun c75 => ?_) (fun c75 => ?_)
                · have ek : 120 * x.toInt.toNat + (z99.toInt - 120 * x.toInt).toNat = z99.toInt.toNat := by omega
                  have go1 := (hI.at (p := x.toInt.toNat) (k := (z99.toInt - 120 * x.toInt).toNat) (by omega) (by omega) hkd (by omega)).1
                  rw [ek] at go1
                  have s2 : (ig (B + 54) z99.toInt.toNat).toInt = 1 ∧ (ig (B + 55) z99.toInt.toNat).toInt = 43 → z99.toInt + 1 < 120 * x.toInt + (ig (B + 58) x.toInt.toNat).toInt := fun q => by have := go1.2 q; omega
                  refine lv_aload_n hx hb dX12_looksTotal_81 rfl (lv_at hl 3 rfl) ?_
                  refine r_get C hw (hsh 49 _ rfl) fl_X12_65 (oV_r rfl (hrm (49, 9, 54) (by decide))) dX12_looksTotal_82 ?_
                  refine lv_iload_n hx hb dX12_looksTotal_85 rfl (lv_at hl 0 rfl) ?_
                  refine r_iald C hw (hsh 54 _ rfl) (by omega) (by omega) dX12_looksTotal_86 (ti_c (ig (B + 54) z99.toInt.toNat).toInt rfl fun z100 hz100 => ?_)
                  refine lv_iconst (v := 1) hx hb dX12_looksTotal_87 (by decide) (ti_c 1 (by decide) fun z102 hz102 => ?_)
                  refine b_ne (tgt := 106) hx hb dX12_looksTotal_88 (by decide) (fun c88 => ?_) (fun c88 => ?_)
                  · refine lv_iconst (v := 0) hx hb dX12_looksTotal_106 (by decide) (ti_c 0 (by decide) fun z103 hz103 => ?_)
                    refine lv_istore (lv' := [(4, .int z103), (2, .int z99), (3, .int z5), (0, .ref (B + 49))]) hx hb dX12_looksTotal_107 hl (by decide) rfl (fun ls hl => ?_)
                    refine tc_inc hx hb dX12_looksTotal_109 hl (k := 1) rfl (by decide) (by decide) (fun z104 hz104 ls hl => ?_)
                    first | replace hz104 := hz104 (by omega) | clear hz104
                    have hl : lv_has ls 5 [(2, .int z104), (4, .int z103), (3, .int z5), (0, .ref (B + 49))] := hl
                    refine lv_goto (tgt := 17) hx hb dX12_looksTotal_112 (by decide) ?_
                    exact ih17 ls H locs z103 z104 (lv_sub hl [1, 2, 0, 3] rfl) hw hsz (by omega) (by omega) (by omega) (by omega)
                  · refine lv_aload_n hx hb dX12_looksTotal_91 rfl (lv_at hl 3 rfl) ?_
                    refine r_get C hw (hsh 49 _ rfl) fl_X12_68 (oV_r rfl (hrm (49, 10, 55) (by decide))) dX12_looksTotal_92 ?_
                    refine lv_iload_n hx hb dX12_looksTotal_95 rfl (lv_at hl 0 rfl) ?_
                    refine r_iald C hw (hsh 55 _ rfl) (by omega) (by omega) dX12_looksTotal_96 (ti_c (ig (B + 55) z99.toInt.toNat).toInt rfl fun z105 hz105 => ?_)
                    refine lv_bipush (v := 43) hx hb dX12_looksTotal_97 (by decide) (ti_c 43 (by decide) fun z107 hz107 => ?_)
                    refine b_ne (tgt := 106) hx hb dX12_looksTotal_99 (by decide) (fun c99 => ?_) (fun c99 => ?_)
                    · refine lv_iconst (v := 0) hx hb dX12_looksTotal_106 (by decide) (ti_c 0 (by decide) fun z108 hz108 => ?_)
                      refine lv_istore (lv' := [(4, .int z108), (2, .int z99), (3, .int z5), (0, .ref (B + 49))]) hx hb dX12_looksTotal_107 hl (by decide) rfl (fun ls hl => ?_)
                      refine tc_inc hx hb dX12_looksTotal_109 hl (k := 1) rfl (by decide) (by decide) (fun z109 hz109 ls hl => ?_)
                      first | replace hz109 := hz109 (by omega) | clear hz109
                      have hl : lv_has ls 5 [(2, .int z109), (4, .int z108), (3, .int z5), (0, .ref (B + 49))] := hl
                      refine lv_goto (tgt := 17) hx hb dX12_looksTotal_112 (by decide) ?_
                      exact ih17 ls H locs z108 z109 (lv_sub hl [1, 2, 0, 3] rfl) hw hsz (by omega) (by omega) (by omega) (by omega)
                    · refine lv_iconst (v := 1) hx hb dX12_looksTotal_102 (by decide) (ti_c 1 (by decide) fun z110 hz110 => ?_)
                      refine lv_goto (tgt := 107) hx hb dX12_looksTotal_103 (by decide) ?_
                      refine lv_istore (lv' := [(4, .int z110), (2, .int z99), (3, .int z5), (0, .ref (B + 49))]) hx hb dX12_looksTotal_107 hl (by decide) rfl (fun ls hl => ?_)
                      refine tc_inc hx hb dX12_looksTotal_109 hl (k := 1) rfl (by decide) (by decide) (fun z111 hz111 ls hl => ?_)
                      first | replace hz111 := hz111 (by omega) | clear hz111
                      have hl : lv_has ls 5 [(2, .int z111), (4, .int z110), (3, .int z5), (0, .ref (B + 49))] := hl
                      refine lv_goto (tgt := 17) hx hb dX12_looksTotal_112 (by decide) ?_
                      exact ih17 ls H locs z110 z111 (lv_sub hl [1, 2, 0, 3] rfl) hw hsz (by omega) (by omega) (by omega) (by omega)
                · refine lv_iload hx hb dX12_looksTotal_78 (lv_at hl 1 rfl) ?_
                  exact r_iret C hw hr hlk (nar_b (by omega)) (Nat.le_of_ble_eq_true rfl) (Nat.le_of_ble_eq_true rfl) dX12_looksTotal_80 ⟨rfl, rfl, rfl, rfl, hsz, ⟨_, rfl, by omega⟩⟩
  exact L17 ((120 * x.toInt + (ig (B + 58) x.toInt.toNat).toInt - z2.toInt) + 1).toNat ls s.heap [] z6 z2 (lv_sub hl [0, 1, 2, 3] rfl) hw hsz (by omega) (by omega) (by omega) (by omega)

set_option maxHeartbeats 4000000 in
set_option maxRecDepth 100000 in
theorem t_X12_countWays {υ : Option Int} {τ : Tp} {φ : Option Int} (l : Launch) (B : Nat) (D : va_G) (cA : Nat → ClassId) (kd : sK) (ig : sI) (rg : sR) (lg : sG) (sz : Nat) (x : Int32) (hx0 : 0 ≤ x.toInt ∧ x.toInt < 288) (hkd : (ig (B + 59) x.toInt.toNat).toInt = 2) (hI : IM τ φ υ B kd ig rg) : MC l B D cA yX12_countWays cX12_countWays 8 none (rL 2 0 0) [.ref (B + 49), .int x] kd ig rg lg sz (PM τ φ υ B [72] kd ig rg lg (fun r ig' lg' => r = none)) := by
  refine MC.of (own := RX12) (by decide +kernel) rfl (Nat.le_of_ble_eq_true rfl) ?_
  intro p e s m args below meth c ls C hr hlk hnm hw hsz hl
  have hx := C.1.1
  have hb := C.1.2.1
  have hown := C.1.2.2.2.1
  have hts := C.1.2.2.2.2
  have hl : lv_has ls 8 [(0, .ref (B + 49)), (1, .int x)] := hl
  have hF : Ft B [72] ig lg ig lg := Ft.rf
  have hsh := hI.sh
  have hrm := hI.rm
  have hI0 := hI
  refine lv_iconst (v := 0) hx hb dX12_countWays_0 (by decide) (ti_c 0 (by decide) fun z1 hz1 => ?_)
  refine lv_istore_n (lv' := [(2, .int z1), (0, .ref (B + 49)), (1, .int x)]) hx hb dX12_countWays_1 rfl hl (by decide) rfl (fun ls hl => ?_)
  have L2 : ∀ (n : Nat) (ls : Array Slot) (H : Heap) (locs : List Loc) (ig3 : sI) (lg4 : sG) (v2 : Int32), lv_has ls 8 [(2, .int v2), (0, .ref (B + 49)), (1, .int x)] → WD B D cA s.heap kd ig3 rg lg4 H locs → IM τ φ υ B kd ig3 rg → Ft B [72] ig lg ig3 lg4 → (0 ≤ v2.toInt) → (v2.toInt ≤ 288) → 288 - v2.toInt < (n : Int) → W p l e (rL 2 0 0) s m args below meth c H locs 0 0 (MQ below (QcW B D cA (PM τ φ υ B [72] kd ig rg lg (fun r ig' lg' => r = none))) args s 0 0 (fun q => B ≤ q)) (F0 m 2 ls []) := by
    intro n2
    induction n2 with
    | zero => intro ls H locs ig3 lg4 v2 hl hw hI hF g2_0 g2_1 hmu; exact absurd hmu (by omega)
    | succ n2 ih2 =>
      intro ls H locs ig3 lg4 v2 hl hw hI hF g2_0 g2_1 hmu
      refine lv_iload_n hx hb dX12_countWays_2 rfl (lv_at hl 0 rfl) ?_
      refine lv_sipush (v := 288) hx hb dX12_countWays_3 (by decide) (ti_c 288 (by decide) fun z5 hz5 => ?_)
      refine b_ge (tgt := 28) hx hb dX12_countWays_6 (by decide) (fun c6 => ?_) (fun c6 => ?_)
      · refine lv_iconst (v := 0) hx hb dX12_countWays_28 (by decide) (ti_c 0 (by decide) fun z6 hz6 => ?_)
        refine lv_istore_n (lv' := [(2, .int z6), (0, .ref (B + 49)), (1, .int x)]) hx hb dX12_countWays_29 rfl hl (by decide) rfl (fun ls hl => ?_)
        have L30 : ∀ (n : Nat) (ls : Array Slot) (H : Heap) (locs : List Loc) (ig8 : sI) (lg9 : sG) (v7 : Int32), lv_has ls 8 [(2, .int v7), (0, .ref (B + 49)), (1, .int x)] → WD B D cA s.heap kd ig8 rg lg9 H locs → IM τ φ υ B kd ig8 rg → Ft B [72] ig lg ig8 lg9 → (0 ≤ v7.toInt) → (v7.toInt ≤ 120) → 120 - v7.toInt < (n : Int) → W p l e (rL 2 0 0) s m args below meth c H locs 0 0 (MQ below (QcW B D cA (PM τ φ υ B [72] kd ig rg lg (fun r ig' lg' => r = none))) args s 0 0 (fun q => B ≤ q)) (F0 m 30 ls []) := by
          intro n30
          induction n30 with
          | zero => intro ls H locs ig8 lg9 v7 hl hw hI hF g30_0 g30_1 hmu; exact absurd hmu (by omega)
          | succ n30 ih30 =>
            intro ls H locs ig8 lg9 v7 hl hw hI hF g30_0 g30_1 hmu
            refine lv_iload_n hx hb dX12_countWays_30 rfl (lv_at hl 0 rfl) ?_
            refine lv_aload_n hx hb dX12_countWays_31 rfl (lv_at hl 1 rfl) ?_
            refine r_get C hw (hsh 49 _ rfl) fl_X12_77 (oV_r rfl (hrm (49, 13, 58) (by decide))) dX12_countWays_32 ?_
            refine lv_iload_n hx hb dX12_countWays_35 rfl (lv_at hl 2 rfl) ?_
            refine r_iald C hw (hsh 58 _ rfl) (by omega) (by omega) dX12_countWays_36 (ti_c (ig8 (B + 58) x.toInt.toNat).toInt rfl fun z10 hz10 => ?_)
            have k11 := hI.its (j := (x.toInt.toNat)) (by omega)
            rw [Ft.i hF 58 _ (by decide)] at hz10 k11
            refine b_ge (tgt := 168) hx hb dX12_countWays_37 (by decide) (fun c37 => ?_) (fun c37 => ?_)
            · exact r_vret C hw hr hlk (Nat.le_of_ble_eq_true rfl) (Nat.le_of_ble_eq_true rfl) dX12_countWays_168 ⟨rfl, rfl, hI, hF, rfl⟩
            · refine lv_bipush (v := 120) hx hb dX12_countWays_40 (by decide) (ti_c 120 (by decide) fun z12 hz12 => ?_)
              refine lv_iload_n hx hb dX12_countWays_42 rfl (lv_at hl 2 rfl) ?_
              refine lv_imul hx hb dX12_countWays_43 (tc_mulL 120 hz12 fun z13 hz13 => ?_)
              first | replace hz13 := hz13 (by omega) | clear hz13
              refine lv_iload_n hx hb dX12_countWays_44 rfl (lv_at hl 0 rfl) ?_
              refine lv_iadd hx hb dX12_countWays_45 (tc_add fun z14 hz14 => ?_)
              first | replace hz14 := hz14 (by omega) | clear hz14
              refine lv_istore_n (lv' := [(3, .int z14), (2, .int v7), (0, .ref (B + 49)), (1, .int x)]) hx hb dX12_countWays_46 rfl hl (by decide) rfl (fun ls hl => ?_)
              refine lv_iload_n hx hb dX12_countWays_47 rfl (lv_at hl 1 rfl) ?_
              refine lv_iconst (v := 3) hx hb dX12_countWays_48 (by decide) (ti_c 3 (by decide) fun z15 hz15 => ?_)
              have J69 : ∀ (ls : Array Slot) (H : Heap) (locs : List Loc) (ig17 : sI) (lg18 : sG) (u16 : Int32), lv_has ls 8 [(3, .int z14), (2, .int v7), (0, .ref (B + 49)), (1, .int x)] → WD B D cA s.heap kd ig17 rg lg18 H locs → IM τ φ υ B kd ig17 rg → Ft B [72] ig lg ig17 lg18 → (u16.toInt = 0 ∨ u16.toInt = 1) → W p l e (rL 2 0 0) s m args below meth c H locs 0 0 (MQ below (QcW B D cA (PM τ φ υ B [72] kd ig rg lg (fun r ig' lg' => r = none))) args s 0 0 (fun q => B ≤ q)) (F0 m 69 ls [.int u16]) := by
                intro ls H locs ig17 lg18 u16 hl hw hI hF g69_0
                refine lv_istore (lv' := [(4, .int u16), (3, .int z14), (2, .int v7), (0, .ref (B + 49)), (1, .int x)]) hx hb dX12_countWays_69 hl (by decide) rfl (fun ls hl => ?_)
                refine lv_aload_n hx hb dX12_countWays_71 rfl (lv_at hl 3 rfl) ?_
                refine r_get C hw (hsh 49 _ rfl) fl_X12_65 (oV_r rfl (hrm (49, 9, 54) (by decide))) dX12_countWays_72 ?_
                refine lv_iload_n hx hb dX12_countWays_75 rfl (lv_at hl 1 rfl) ?_
                refine r_iald C hw (hsh 54 _ rfl) (by omega) (by omega) dX12_countWays_76 (ti_c (ig17 (B + 54) z14.toInt.toNat).toInt rfl fun z19 hz19 => ?_)
                rw [Ft.i hF 54 _ (by decide)] at hz19
                refine lv_iconst (v := 3) hx hb dX12_countWays_77 (by decide) (ti_c 3 (by decide) fun z21 hz21 => ?_)
                refine b_ne (tgt := 162) hx hb dX12_countWays_78 (by decide) (fun c78 => ?_) (fun c78 => ?_)
                · refine tc_inc hx hb dX12_countWays_162 hl (k := 2) rfl (by decide) (by decide) (fun z22 hz22 ls hl => ?_)
                  first | replace hz22 := hz22 (by omega) | clear hz22
                  have hl : lv_has ls 8 [(2, .int z22), (4, .int u16), (3, .int z14), (0, .ref (B + 49)), (1, .int x)] := hl
                  refine lv_goto (tgt := 30) hx hb dX12_countWays_165 (by decide) ?_
                  exact ih30 ls H locs ig17 lg18 z22 (lv_sub hl [0, 3, 4] rfl) hw hI hF (by omega) (by omega) (by omega)
                · refine lv_iload hx hb dX12_countWays_81 (lv_at hl 0 rfl) ?_
                  refine z_eq (tgt := 89) hx hb dX12_countWays_83 (by decide) (fun c83 => ?_) (fun c83 => ?_)
                  · refine lv_aload_n hx hb dX12_countWays_89 rfl (lv_at hl 3 rfl) ?_
                    refine lv_iload_n hx hb dX12_countWays_90 rfl (lv_at hl 4 rfl) ?_
                    refine lv_iload_n hx hb dX12_countWays_91 rfl (lv_at hl 2 rfl) ?_
                    refine r_callV (As := [.int x, .int v7]) (rest := []) C hw (t_X12_spanLast l B D cA kd ig17 rg lg18 _ x v7 (by omega) (by rw [Ft.i hF 58 _ (by decide)]; omega) (by rw [Ft.i hF 59 _ (by decide)]; omega) (by rw [show (120 * x.toInt + v7.toInt).toNat = z14.toInt.toNat by omega, Ft.i hF 54 _ (by decide)]; omega) hI) sv_X12_214 (hsh 49 _ rfl) rfl hl.1 rfl (Nat.le_of_ble_eq_true rfl) ⟨Nat.le_of_ble_eq_true rfl, Nat.le_of_ble_eq_true rfl⟩ ⟨Nat.le_of_ble_eq_true rfl, Nat.le_of_ble_eq_true rfl⟩ dX12_countWays_92 (fun r27 kd23 ig24 rg25 lg26 H locs hw hH hp28 => ?_)
                    obtain ⟨rfl, rfl, rfl, rfl, hzhp28, hrhp28⟩ := hp28
                    obtain ⟨z29, rfl, hz29⟩ := hrhp28
                    rw [Ft.i hF 55 _ (by decide), Ft.i hF 56 _ (by decide)] at hz29
                    refine lv_istore (lv' := [(5, .int z29), (4, .int u16), (3, .int z14), (2, .int v7), (0, .ref (B + 49)), (1, .int x)]) hx hb dX12_countWays_95 hl (by decide) rfl (fun ls hl => ?_)
                    have rfi := IM.ref hI0 (p := x) (k := v7) (i := z14) (by omega) (by omega) (by omega) (by omega) (by omega)
                    refine lv_aload_n hx hb dX12_countWays_97 rfl (lv_at hl 4 rfl) ?_
                    refine r_get C hw (hsh 49 _ rfl) fl_X12_71 (oV_r rfl (hrm (49, 11, 56) (by decide))) dX12_countWays_98 ?_
                    refine lv_iload_n hx hb dX12_countWays_101 rfl (lv_at hl 2 rfl) ?_
                    refine r_iald C hw (hsh 56 _ rfl) (by omega) (by omega) dX12_countWays_102 (ti_c (ig17 (B + 56) z14.toInt.toNat).toInt rfl fun z30 hz30 => ?_)
                    rw [Ft.i hF 56 _ (by decide)] at hz30
                    refine lv_istore (lv' := [(6, .int z30), (5, .int z29), (4, .int u16), (3, .int z14), (2, .int v7), (0, .ref (B + 49)), (1, .int x)]) hx hb dX12_countWays_103 hl (by decide) rfl (fun ls hl => ?_)
                    have L105 : ∀ (n : Nat) (ls : Array Slot) (H : Heap) (locs : List Loc) (ig33 : sI) (lg34 : sG) (v32 : Int32), lv_has ls 8 [(6, .int v32), (5, .int z29), (3, .int z14), (2, .int v7), (0, .ref (B + 49)), (1, .int x)] → WD B D cA s.heap kd ig33 rg lg34 H locs → IM τ φ υ B kd ig33 rg → Ft B [72] ig lg ig33 lg34 → (0 ≤ v32.toInt) → (v32.toInt ≤ 24) → 24 - v32.toInt < (n : Int) → W p l e (rL 2 0 0) s m args below meth c H locs 0 0 (MQ below (QcW B D cA (PM τ φ υ B [72] kd ig rg lg (fun r ig' lg' => r = none))) args s 0 0 (fun q => B ≤ q)) (F0 m 105 ls []) := by
                      intro n105
                      induction n105 with
                      | zero => intro ls H locs ig33 lg34 v32 hl hw hI hF g105_0 g105_1 hmu; exact absurd hmu (by omega)
                      | succ n105 ih105 =>
                        intro ls H locs ig33 lg34 v32 hl hw hI hF g105_0 g105_1 hmu
                        refine lv_iload hx hb dX12_countWays_105 (lv_at hl 0 rfl) ?_
                        refine lv_aload_n hx hb dX12_countWays_107 rfl (lv_at hl 4 rfl) ?_
                        refine r_get C hw (hsh 49 _ rfl) fl_X12_71 (oV_r rfl (hrm (49, 11, 56) (by decide))) dX12_countWays_108 ?_
                        refine lv_iload hx hb dX12_countWays_111 (lv_at hl 1 rfl) ?_
                        refine r_iald C hw (hsh 56 _ rfl) (by omega) (by omega) dX12_countWays_113 (ti_c (ig33 (B + 56) z29.toInt.toNat).toInt rfl fun z35 hz35 => ?_)
                        rw [Ft.i hF 56 _ (by decide)] at hz35
                        refine b_gt (tgt := 162) hx hb dX12_countWays_114 (by decide) (fun c114 => ?_) (fun c114 => ?_)
                        · refine tc_inc hx hb dX12_countWays_162 hl (k := 3) rfl (by decide) (by decide) (fun z37 hz37 ls hl => ?_)
                          first | replace hz37 := hz37 (by omega) | clear hz37
                          have hl : lv_has ls 8 [(2, .int z37), (6, .int v32), (5, .int z29), (3, .int z14), (0, .ref (B + 49)), (1, .int x)] := hl
                          refine lv_goto (tgt := 30) hx hb dX12_countWays_165 (by decide) ?_
                          exact ih30 ls H locs ig33 lg34 z37 (lv_sub hl [0, 4, 5] rfl) hw hI hF (by omega) (by omega) (by omega)
                        · refine lv_aload_n hx hb dX12_countWays_117 rfl (lv_at hl 4 rfl) ?_
                          refine r_get C hw (hsh 49 _ rfl) fl_X12_68 (oV_r rfl (hrm (49, 10, 55) (by decide))) dX12_countWays_118 ?_
                          refine lv_iload_n hx hb dX12_countWays_121 rfl (lv_at hl 2 rfl) ?_
                          refine r_iald C hw (hsh 55 _ rfl) (by omega) (by omega) dX12_countWays_122 (ti_c (ig33 (B + 55) z14.toInt.toNat).toInt rfl fun z38 hz38 => ?_)
                          rw [Ft.i hF 55 _ (by decide)] at hz38
                          refine lv_istore (lv' := [(7, .int z38), (6, .int v32), (5, .int z29), (3, .int z14), (2, .int v7), (0, .ref (B + 49)), (1, .int x)]) hx hb dX12_countWays_123 hl (by decide) rfl (fun ls hl => ?_)
                          have L125 : ∀ (n : Nat) (ls : Array Slot) (H : Heap) (locs : List Loc) (ig41 : sI) (lg42 : sG) (v40 : Int32), lv_has ls 8 [(7, .int v40), (6, .int v32), (5, .int z29), (3, .int z14), (2, .int v7), (0, .ref (B + 49)), (1, .int x)] → WD B D cA s.heap kd ig41 rg lg42 H locs → IM τ φ υ B kd ig41 rg → Ft B [72] ig lg ig41 lg42 → (0 ≤ v40.toInt) → (v40.toInt ≤ 12) → 12 - v40.toInt < (n : Int) → W p l e (rL 2 0 0) s m args below meth c H locs 0 0 (MQ below (QcW B D cA (PM τ φ υ B [72] kd ig rg lg (fun r ig' lg' => r = none))) args s 0 0 (fun q => B ≤ q)) (F0 m 125 ls []) := by
                            intro n125
                            induction n125 with
                            | zero => intro ls H locs ig41 lg42 v40 hl hw hI hF g125_0 g125_1 hmu; exact absurd hmu (by omega)
                            | succ n125 ih125 =>
                              intro ls H locs ig41 lg42 v40 hl hw hI hF g125_0 g125_1 hmu
                              refine lv_iload hx hb dX12_countWays_125 (lv_at hl 0 rfl) ?_
                              refine lv_aload_n hx hb dX12_countWays_127 rfl (lv_at hl 5 rfl) ?_
                              refine r_get C hw (hsh 49 _ rfl) fl_X12_68 (oV_r rfl (hrm (49, 10, 55) (by decide))) dX12_countWays_128 ?_
                              refine lv_iload hx hb dX12_countWays_131 (lv_at hl 2 rfl) ?_
                              refine r_iald C hw (hsh 55 _ rfl) (by omega) (by omega) dX12_countWays_133 (ti_c (ig41 (B + 55) z29.toInt.toNat).toInt rfl fun z43 hz43 => ?_)
                              rw [Ft.i hF 55 _ (by decide)] at hz43
                              refine b_gt (tgt := 156) hx hb dX12_countWays_134 (by decide) (fun c134 => ?_) (fun c134 => ?_)
                              · refine tc_inc hx hb dX12_countWays_156 hl (k := 1) rfl (by decide) (by decide) (fun z45 hz45 ls hl => ?_)
                                first | replace hz45 := hz45 (by omega) | clear hz45
                                have hl : lv_has ls 8 [(6, .int z45), (7, .int v40), (5, .int z29), (3, .int z14), (2, .int v7), (0, .ref (B + 49)), (1, .int x)] := hl
                                refine lv_goto (tgt := 105) hx hb dX12_countWays_159 (by decide) ?_
                                exact ih105 ls H locs ig41 lg42 z45 (lv_sub hl [0, 2, 3, 4, 5, 6] rfl) hw hI hF (by omega) (by omega) (by omega)
                              · refine lv_aload_n hx hb dX12_countWays_137 rfl (lv_at hl 5 rfl) ?_
                                refine lv_iload_n hx hb dX12_countWays_138 rfl (lv_at hl 6 rfl) ?_
                                refine lv_bipush (v := 12) hx hb dX12_countWays_139 (by decide) (ti_c 12 (by decide) fun z46 hz46 => ?_)
                                refine lv_iload hx hb dX12_countWays_141 (lv_at hl 1 rfl) ?_
                                refine lv_imul hx hb dX12_countWays_143 (tc_mulL 12 hz46 fun z47 hz47 => ?_)
                                first | replace hz47 := hz47 (by omega) | clear hz47
                                refine lv_iload hx hb dX12_countWays_144 (lv_at hl 0 rfl) ?_
                                refine lv_iadd hx hb dX12_countWays_146 (tc_add fun z48 hz48 => ?_)
                                first | replace hz48 := hz48 (by omega) | clear hz48
                                refine r_callV (As := [.int x, .int z48]) (rest := []) C hw (t_X12_addWays l B D cA kd ig41 rg lg42 _ x z48 (by omega) (by omega) hI) sv_X12_305 (hsh 49 _ rfl) rfl hl.1 rfl (Nat.le_of_ble_eq_true rfl) ⟨Nat.le_of_ble_eq_true rfl, Nat.le_of_ble_eq_true rfl⟩ ⟨Nat.le_of_ble_eq_true rfl, Nat.le_of_ble_eq_true rfl⟩ dX12_countWays_147 (fun r53 kd49 ig50 rg51 lg52 H locs hw hH hp54 => ?_)
                                obtain ⟨rfl, rfl, hI, hchp54, hrhp54⟩ := hp54
                                have hF : Ft B [72] ig lg ig50 lg52 := Ft.tr hF hchp54 (by decide) (by decide)
                                obtain rfl := hrhp54
                                refine tc_inc hx hb dX12_countWays_150 hl (k := 0) rfl (by decide) (by decide) (fun z55 hz55 ls hl => ?_)
                                first | replace hz55 := hz55 (by omega) | clear hz55
                                have hl : lv_has ls 8 [(7, .int z55), (6, .int v32), (5, .int z29), (3, .int z14), (2, .int v7), (0, .ref (B + 49)), (1, .int x)] := hl
                                refine lv_goto (tgt := 125) hx hb dX12_countWays_153 (by decide) ?_
                                exact ih125 ls H locs ig50 lg52 z55 (lv_sub hl [0, 1, 2, 3, 4, 5, 6] rfl) hw hI hF (by omega) (by omega) (by omega)
                          exact L125 ((12 - z38.toInt) + 1).toNat ls H locs ig33 lg34 z38 (lv_sub hl [0, 1, 2, 3, 4, 5, 6] rfl) hw hI hF (by omega) (by omega) (by omega)
                    exact L105 ((24 - z30.toInt) + 1).toNat ls H locs ig17 lg18 z30 (lv_sub hl [0, 1, 3, 4, 5, 6] rfl) hw hI hF (by omega) (by omega) (by omega)
                  · refine lv_goto (tgt := 162) hx hb dX12_countWays_86 (by decide) ?_
                    refine tc_inc hx hb dX12_countWays_162 hl (k := 2) rfl (by decide) (by decide) (fun z56 hz56 ls hl => ?_)
                    first | replace hz56 := hz56 (by omega) | clear hz56
                    have hl : lv_has ls 8 [(2, .int z56), (4, .int u16), (3, .int z14), (0, .ref (B + 49)), (1, .int x)] := hl
                    refine lv_goto (tgt := 30) hx hb dX12_countWays_165 (by decide) ?_
                    exact ih30 ls H locs ig17 lg18 z56 (lv_sub hl [0, 3, 4] rfl) hw hI hF (by omega) (by omega) (by omega)
              refine b_le (tgt := 68) hx hb dX12_countWays_49 (by decide) (fun c49 => ?_) (fun c49 => ?_)
              · refine lv_iconst (v := 0) hx hb dX12_countWays_68 (by decide) (ti_c 0 (by decide) fun z57 hz57 => ?_)
                exact J69 ls H locs ig8 lg9 z57 (lv_sub hl [0, 1, 2, 3] rfl) hw hI hF (by omega)
              · refine lv_aload_n hx hb dX12_countWays_52 rfl (lv_at hl 2 rfl) ?_
                refine r_get C hw (hsh 49 _ rfl) fl_X12_65 (oV_r rfl (hrm (49, 9, 54) (by decide))) dX12_countWays_53 ?_
                refine lv_iload_n hx hb dX12_countWays_56 rfl (lv_at hl 0 rfl) ?_
                refine lv_iconst (v := 4) hx hb dX12_countWays_57 (by decide) (ti_c 4 (by decide) fun z58 hz58 => ?_)
                refine lv_isub hx hb dX12_countWays_58 (tc_sub fun z59 hz59 => ?_)
                first | replace hz59 := hz59 (by omega) | clear hz59
                refine r_iald C hw (hsh 54 _ rfl) (by omega) (by omega) dX12_countWays_59 (ti_c (ig8 (B + 54) z59.toInt.toNat).toInt rfl fun z60 hz60 => ?_)
                rw [Ft.i hF 54 _ (by decide)] at hz60
                refine lv_iconst (v := 2) hx hb dX12_countWays_60 (by decide) (ti_c 2 (by decide) fun z62 hz62 => ?_)
                refine b_ne (tgt := 68) hx hb dX12_countWays_61 (by decide) (fun c61 => ?_) (fun c61 => ?_)
                · refine lv_iconst (v := 0) hx hb dX12_countWays_68 (by decide) (ti_c 0 (by decide) fun z63 hz63 => ?_)
                  exact J69 ls H locs ig8 lg9 z63 (lv_sub hl [0, 1, 2, 3] rfl) hw hI hF (by omega)
                · refine lv_iconst (v := 1) hx hb dX12_countWays_64 (by decide) (ti_c 1 (by decide) fun z64 hz64 => ?_)
                  refine lv_goto (tgt := 69) hx hb dX12_countWays_65 (by decide) ?_
                  exact J69 ls H locs ig8 lg9 z64 (lv_sub hl [0, 1, 2, 3] rfl) hw hI hF (by omega)
        exact L30 ((120 - z6.toInt) + 1).toNat ls H locs ig3 lg4 z6 (lv_sub hl [0, 1, 2] rfl) hw hI hF (by omega) (by omega) (by omega)
      · refine lv_aload_n hx hb dX12_countWays_9 rfl (lv_at hl 1 rfl) ?_
        refine r_get C hw (hsh 49 _ rfl) fl_X12_121 (oV_r rfl (hrm (49, 29, 72) (by decide))) dX12_countWays_10 ?_
        refine lv_sipush (v := 288) hx hb dX12_countWays_13 (by decide) (ti_c 288 (by decide) fun z65 hz65 => ?_)
        refine lv_iload_n hx hb dX12_countWays_16 rfl (lv_at hl 2 rfl) ?_
        refine lv_imul hx hb dX12_countWays_17 (tc_mulL 288 hz65 fun z66 hz66 => ?_)
        first | replace hz66 := hz66 (by omega) | clear hz66
        refine lv_iload_n hx hb dX12_countWays_18 rfl (lv_at hl 0 rfl) ?_
        refine lv_iadd hx hb dX12_countWays_19 (tc_add fun z67 hz67 => ?_)
        first | replace hz67 := hz67 (by omega) | clear hz67
        refine lv_iconst (v := 0) hx hb dX12_countWays_20 (by decide) (ti_c 0 (by decide) fun z68 hz68 => ?_)
        refine r_iast C hw (hsh 72 _ rfl) (by omega) (by omega) dX12_countWays_21 (fun H locs hH hw => ?_)
        obtain ⟨ig69, eig69⟩ : ∃ f, f = up2 ig3 (B + 72) z67.toInt.toNat z68 := ⟨_, rfl⟩
        rw [← eig69] at hw
        have hF : Ft B [72] ig lg ig69 lg4 := by rw [eig69]; exact hF.pi (by decide)
        have hI : IM τ φ υ B kd ig69 rg := by rw [eig69]; exact hI.pi (by decide) (show okR none _ from trivial)
        refine tc_inc hx hb dX12_countWays_22 hl (k := 0) rfl (by decide) (by decide) (fun z70 hz70 ls hl => ?_)
        first | replace hz70 := hz70 (by omega) | clear hz70
        have hl : lv_has ls 8 [(2, .int z70), (0, .ref (B + 49)), (1, .int x)] := hl
        refine lv_goto (tgt := 2) hx hb dX12_countWays_25 (by decide) ?_
        exact ih2 ls H locs ig69 lg4 z70 (lv_sub hl [0, 1, 2] rfl) hw hI hF (by omega) (by omega) (by omega)
  exact L2 ((288 - z1.toInt) + 1).toNat ls s.heap [] ig lg z1 (lv_sub hl [0, 1, 2] rfl) hw hI hF (by omega) (by omega) (by omega)

set_option maxHeartbeats 4000000 in
set_option maxRecDepth 100000 in
theorem t_X12_shortBy {υ : Option Int} {τ : Tp} {φ : Option Int} (l : Launch) (B : Nat) (D : va_G) (cA : Nat → ClassId) (kd : sK) (ig : sI) (rg : sR) (lg : sG) (sz : Nat) (x : Int32) (y : Int32) (u : Int32) (hu : u.toInt = 0 ∨ u.toInt = 1) (hx0 : 0 ≤ x.toInt ∧ x.toInt < 288) (hy0 : 0 ≤ y.toInt ∧ y.toInt < 37000) (hs2 : ((0 ≤ (ig (B + 55) (y.toInt.toNat + 2)).toInt ∧ (ig (B + 55) (y.toInt.toNat + 2)).toInt < 12) ∧ 0 ≤ (ig (B + 56) (y.toInt.toNat + 2)).toInt ∧ (ig (B + 56) (y.toInt.toNat + 2)).toInt < 24)) (hI : IM τ φ υ B kd ig rg) : MC l B D cA yX12_shortBy cX12_shortBy 9 (some .int) (rL 0 0 0) [.ref (B + 49), .int x, .int y, .int u] kd ig rg lg sz (Pu kd ig rg lg sz (fun r => ∃ z : Int32, r = some (.int z) ∧ ((-1 ≤ z.toInt ∧ z.toInt < 288) ∧ (0 ≤ z.toInt → (u.toInt ≠ 0 → (ig (B + 56) (y.toInt.toNat + 2)).toInt ≠ 23) ∧ (u.toInt = 0 → (ig (B + 55) (y.toInt.toNat + 2)).toInt ≠ 11))))) := by
  refine MC.of (own := RX12) (by decide +kernel) rfl (Nat.le_of_ble_eq_true rfl) ?_
  intro p e s m args below meth c ls C hr hlk hnm hw hsz hl
  have hx := C.1.1
  have hb := C.1.2.1
  have hown := C.1.2.2.2.1
  have hts := C.1.2.2.2.2
  have hl : lv_has ls 9 [(0, .ref (B + 49)), (1, .int x), (2, .int y), (3, .int u)] := hl
  have hsh := hI.sh
  have hrm := hI.rm
  refine lv_aload_n hx hb dX12_shortBy_0 rfl (lv_at hl 0 rfl) ?_
  refine r_get C hw (hsh 49 _ rfl) fl_X12_68 (oV_r rfl (hrm (49, 10, 55) (by decide))) dX12_shortBy_1 ?_
  refine lv_iload_n hx hb dX12_shortBy_4 rfl (lv_at hl 2 rfl) ?_
  refine lv_iconst (v := 2) hx hb dX12_shortBy_5 (by decide) (ti_c 2 (by decide) fun z1 hz1 => ?_)
  refine lv_iadd hx hb dX12_shortBy_6 (tc_add fun z2 hz2 => ?_)
  first | replace hz2 := hz2 (by omega) | clear hz2
  have ez7 : z2.toInt.toNat = y.toInt.toNat + 2 := by omega
  refine r_iald C hw (hsh 55 _ rfl) (by omega) (by omega) dX12_shortBy_7 (ti_c (ig (B + 55) z2.toInt.toNat).toInt rfl fun z3 hz3 => ?_)
  try simp only [ez7] at hz3
  try simp only [ez17] at hz3
  refine lv_istore (lv' := [(4, .int z3), (0, .ref (B + 49)), (1, .int x), (2, .int y), (3, .int u)]) hx hb dX12_shortBy_8 hl (by decide) rfl (fun ls hl => ?_)
  refine lv_aload_n hx hb dX12_shortBy_10 rfl (lv_at hl 1 rfl) ?_
  refine r_get C hw (hsh 49 _ rfl) fl_X12_71 (oV_r rfl (hrm (49, 11, 56) (by decide))) dX12_shortBy_11 ?_
  refine lv_iload_n hx hb dX12_shortBy_14 rfl (lv_at hl 3 rfl) ?_
  refine lv_iconst (v := 2) hx hb dX12_shortBy_15 (by decide) (ti_c 2 (by decide) fun z5 hz5 => ?_)
  refine lv_iadd hx hb dX12_shortBy_16 (tc_add fun z6 hz6 => ?_)
  first | replace hz6 := hz6 (by omega) | clear hz6
  have ez17 : z6.toInt.toNat = y.toInt.toNat + 2 := by omega
  refine r_iald C hw (hsh 56 _ rfl) (by omega) (by omega) dX12_shortBy_17 (ti_c (ig (B + 56) z6.toInt.toNat).toInt rfl fun z7 hz7 => ?_)
  try simp only [ez7] at hz7
  try simp only [ez17] at hz7
  refine lv_istore (lv' := [(5, .int z7), (4, .int z3), (0, .ref (B + 49)), (1, .int x), (2, .int y), (3, .int u)]) hx hb dX12_shortBy_18 hl (by decide) rfl (fun ls hl => ?_)
  refine lv_iload_n hx hb dX12_shortBy_20 rfl (lv_at hl 5 rfl) ?_
  have J51 : ∀ (ls : Array Slot) (H : Heap) (locs : List Loc) , lv_has ls 9 [(5, .int z7), (4, .int z3), (0, .ref (B + 49)), (1, .int x), (3, .int u)] → WD B D cA s.heap kd ig rg lg H locs → H.size = sz → W p l e (rL 0 0 0) s m args below meth c H locs 0 0 (MQ below (QcW B D cA (Pu kd ig rg lg sz (fun r => ∃ z : Int32, r = some (.int z) ∧ ((-1 ≤ z.toInt ∧ z.toInt < 288) ∧ (0 ≤ z.toInt → (u.toInt ≠ 0 → (ig (B + 56) (y.toInt.toNat + 2)).toInt ≠ 23) ∧ (u.toInt = 0 → (ig (B + 55) (y.toInt.toNat + 2)).toInt ≠ 11)))))) args s 0 0 (fun q => B ≤ q)) (F0 m 51 ls []) := by
    intro ls H locs  hl hw hsz
    refine lv_bipush (v := 12) hx hb dX12_shortBy_51 (by decide) (ti_c 12 (by decide) fun z9 hz9 => ?_)
    refine lv_iload hx hb dX12_shortBy_53 (lv_at hl 0 rfl) ?_
    refine lv_imul hx hb dX12_shortBy_55 (tc_mulL 12 hz9 fun z10 hz10 => ?_)
    first | replace hz10 := hz10 (by omega) | clear hz10
    refine lv_iload hx hb dX12_shortBy_56 (lv_at hl 1 rfl) ?_
    refine lv_iadd hx hb dX12_shortBy_58 (tc_add fun z11 hz11 => ?_)
    first | replace hz11 := hz11 (by omega) | clear hz11
    refine lv_istore (lv' := [(6, .int z11), (5, .int z7), (4, .int z3), (0, .ref (B + 49)), (1, .int x), (3, .int u)]) hx hb dX12_shortBy_59 hl (by decide) rfl (fun ls hl => ?_)
    refine lv_iload_n hx hb dX12_shortBy_61 rfl (lv_at hl 5 rfl) ?_
    refine z_eq (tgt := 75) hx hb dX12_shortBy_62 (by decide) (fun c62 => ?_) (fun c62 => ?_)
    · refine lv_iload hx hb dX12_shortBy_75 (lv_at hl 2 rfl) ?_
      refine lv_bipush (v := 11) hx hb dX12_shortBy_77 (by decide) (ti_c 11 (by decide) fun z12 hz12 => ?_)
      refine b_ne (tgt := 84) hx hb dX12_shortBy_79 (by decide) (fun c79 => ?_) (fun c79 => ?_)
      · refine lv_iload_n hx hb dX12_shortBy_84 rfl (lv_at hl 5 rfl) ?_
        refine z_eq (tgt := 96) hx hb dX12_shortBy_85 (by decide) (fun c85 => ?_) (fun c85 => ?_)
        · refine lv_iload hx hb dX12_shortBy_96 (lv_at hl 0 rfl) ?_
          refine lv_iconst (v := 1) hx hb dX12_shortBy_98 (by decide) (ti_c 1 (by decide) fun z13 hz13 => ?_)
          refine lv_iadd hx hb dX12_shortBy_99 (tc_add fun z14 hz14 => ?_)
          first | replace hz14 := hz14 (by omega) | clear hz14
          refine lv_istore (lv' := [(7, .int z14), (6, .int z11), (5, .int z7), (4, .int z3), (0, .ref (B + 49)), (1, .int x), (3, .int u)]) hx hb dX12_shortBy_100 hl (by decide) rfl (fun ls hl => ?_)
          refine lv_iload hx hb dX12_shortBy_102 (lv_at hl 0 rfl) ?_
          refine lv_iload_n hx hb dX12_shortBy_104 rfl (lv_at hl 5 rfl) ?_
          refine b_eq (tgt := 151) hx hb dX12_shortBy_105 (by decide) (fun c105 => ?_) (fun c105 => ?_)
          · refine lv_iconst (v := 0) hx hb dX12_shortBy_151 (by decide) (ti_c 0 (by decide) fun z15 hz15 => ?_)
            refine lv_istore (lv' := [(8, .int z15), (7, .int z14), (6, .int z11), (5, .int z7), (4, .int z3), (0, .ref (B + 49)), (1, .int x), (3, .int u)]) hx hb dX12_shortBy_152 hl (by decide) rfl (fun ls hl => ?_)
            refine lv_iload hx hb dX12_shortBy_154 (lv_at hl 0 rfl) ?_
            refine z_eq (tgt := 164) hx hb dX12_shortBy_156 (by decide) (fun c156 => ?_) (fun c156 => ?_)
            · refine lv_iconst (v := (-1)) hx hb dX12_shortBy_164 (by decide) (ti_c (-1) (by decide) fun z16 hz16 => ?_)
              exact r_iret C hw hr hlk rfl (Nat.le_of_ble_eq_true rfl) (Nat.le_of_ble_eq_true rfl) dX12_shortBy_165 ⟨rfl, rfl, rfl, rfl, hsz, ⟨_, rfl, by omega⟩⟩
            · refine lv_iload hx hb dX12_shortBy_159 (lv_at hl 1 rfl) ?_
              refine lv_goto (tgt := 165) hx hb dX12_shortBy_161 (by decide) ?_
              exact r_iret C hw hr hlk rfl (Nat.le_of_ble_eq_true rfl) (Nat.le_of_ble_eq_true rfl) dX12_shortBy_165 ⟨rfl, rfl, rfl, rfl, hsz, ⟨_, rfl, by omega⟩⟩
          · refine lv_aload_n hx hb dX12_shortBy_108 rfl (lv_at hl 4 rfl) ?_
            refine r_get C hw (hsh 49 _ rfl) fl_X12_80 (oV_r rfl (hrm (49, 15, 59) (by decide))) dX12_shortBy_109 ?_
            refine lv_iload hx hb dX12_shortBy_112 (lv_at hl 0 rfl) ?_
            refine r_iald C hw (hsh 59 _ rfl) (by omega) (by omega) dX12_shortBy_114 (ti_c (ig (B + 59) z14.toInt.toNat).toInt rfl fun z17 hz17 => ?_)
            try simp only [ez7] at hz17
            try simp only [ez17] at hz17
            refine lv_iconst (v := 1) hx hb dX12_shortBy_115 (by decide) (ti_c 1 (by decide) fun z19 hz19 => ?_)
            refine b_eq (tgt := 147) hx hb dX12_shortBy_116 (by decide) (fun c116 => ?_) (fun c116 => ?_)
            · refine lv_iconst (v := 1) hx hb dX12_shortBy_147 (by decide) (ti_c 1 (by decide) fun z20 hz20 => ?_)
              refine lv_goto (tgt := 152) hx hb dX12_shortBy_148 (by decide) ?_
              refine lv_istore (lv' := [(8, .int z20), (7, .int z14), (6, .int z11), (5, .int z7), (4, .int z3), (0, .ref (B + 49)), (1, .int x), (3, .int u)]) hx hb dX12_shortBy_152 hl (by decide) rfl (fun ls hl => ?_)
              refine lv_iload hx hb dX12_shortBy_154 (lv_at hl 0 rfl) ?_
              refine z_eq (tgt := 164) hx hb dX12_shortBy_156 (by decide) (fun c156 => ?_) (fun c156 => ?_)
              · refine lv_iconst (v := (-1)) hx hb dX12_shortBy_164 (by decide) (ti_c (-1) (by decide) fun z21 hz21 => ?_)
                exact r_iret C hw hr hlk rfl (Nat.le_of_ble_eq_true rfl) (Nat.le_of_ble_eq_true rfl) dX12_shortBy_165 ⟨rfl, rfl, rfl, rfl, hsz, ⟨_, rfl, by omega⟩⟩
              · refine lv_iload hx hb dX12_shortBy_159 (lv_at hl 1 rfl) ?_
                refine lv_goto (tgt := 165) hx hb dX12_shortBy_161 (by decide) ?_
                exact r_iret C hw hr hlk rfl (Nat.le_of_ble_eq_true rfl) (Nat.le_of_ble_eq_true rfl) dX12_shortBy_165 ⟨rfl, rfl, rfl, rfl, hsz, ⟨_, rfl, by omega⟩⟩
            · refine lv_aload_n hx hb dX12_shortBy_119 rfl (lv_at hl 4 rfl) ?_
              refine r_get C hw (hsh 49 _ rfl) fl_X12_80 (oV_r rfl (hrm (49, 15, 59) (by decide))) dX12_shortBy_120 ?_
              refine lv_iload hx hb dX12_shortBy_123 (lv_at hl 0 rfl) ?_
              refine r_iald C hw (hsh 59 _ rfl) (by omega) (by omega) dX12_shortBy_125 (ti_c (ig (B + 59) z14.toInt.toNat).toInt rfl fun z22 hz22 => ?_)
              try simp only [ez7] at hz22
              try simp only [ez17] at hz22
              refine lv_iconst (v := 2) hx hb dX12_shortBy_126 (by decide) (ti_c 2 (by decide) fun z24 hz24 => ?_)
              refine b_ne (tgt := 151) hx hb dX12_shortBy_127 (by decide) (fun c127 => ?_) (fun c127 => ?_)
              · refine lv_iconst (v := 0) hx hb dX12_shortBy_151 (by decide) (ti_c 0 (by decide) fun z25 hz25 => ?_)
                refine lv_istore (lv' := [(8, .int z25), (7, .int z14), (6, .int z11), (5, .int z7), (4, .int z3), (0, .ref (B + 49)), (1, .int x), (3, .int u)]) hx hb dX12_shortBy_152 hl (by decide) rfl (fun ls hl => ?_)
                refine lv_iload hx hb dX12_shortBy_154 (lv_at hl 0 rfl) ?_
                refine z_eq (tgt := 164) hx hb dX12_shortBy_156 (by decide) (fun c156 => ?_) (fun c156 => ?_)
                · refine lv_iconst (v := (-1)) hx hb dX12_shortBy_164 (by decide) (ti_c (-1) (by decide) fun z26 hz26 => ?_)
                  exact r_iret C hw hr hlk rfl (Nat.le_of_ble_eq_true rfl) (Nat.le_of_ble_eq_true rfl) dX12_shortBy_165 ⟨rfl, rfl, rfl, rfl, hsz, ⟨_, rfl, by omega⟩⟩
                · refine lv_iload hx hb dX12_shortBy_159 (lv_at hl 1 rfl) ?_
                  refine lv_goto (tgt := 165) hx hb dX12_shortBy_161 (by decide) ?_
                  exact r_iret C hw hr hlk rfl (Nat.le_of_ble_eq_true rfl) (Nat.le_of_ble_eq_true rfl) dX12_shortBy_165 ⟨rfl, rfl, rfl, rfl, hsz, ⟨_, rfl, by omega⟩⟩
              · refine lv_aload_n hx hb dX12_shortBy_130 rfl (lv_at hl 4 rfl) ?_
                refine r_get C hw (hsh 49 _ rfl) fl_X12_117 (oV_r rfl (hrm (49, 28, 71) (by decide))) dX12_shortBy_131 ?_
                refine lv_iload hx hb dX12_shortBy_134 (lv_at hl 0 rfl) ?_
                refine r_iald C hw (hsh 71 _ rfl) (by omega) (by omega) dX12_shortBy_136 (ti_c (ig (B + 71) z14.toInt.toNat).toInt rfl fun z27 hz27 => ?_)
                try simp only [ez7] at hz27
                try simp only [ez17] at hz27
                refine lv_aload_n hx hb dX12_shortBy_137 rfl (lv_at hl 4 rfl) ?_
                refine r_get C hw (hsh 49 _ rfl) fl_X12_117 (oV_r rfl (hrm (49, 28, 71) (by decide))) dX12_shortBy_138 ?_
                refine lv_iload hx hb dX12_shortBy_141 (lv_at hl 1 rfl) ?_
                refine r_iald C hw (hsh 71 _ rfl) (by omega) (by omega) dX12_shortBy_143 (ti_c (ig (B + 71) z11.toInt.toNat).toInt rfl fun z29 hz29 => ?_)
                try simp only [ez7] at hz29
                try simp only [ez17] at hz29
                refine b_ne (tgt := 151) hx hb dX12_shortBy_144 (by decide) (fun c144 => ?_) (fun c144 => ?_)
                · refine lv_iconst (v := 0) hx hb dX12_shortBy_151 (by decide) (ti_c 0 (by decide) fun z31 hz31 => ?_)
                  refine lv_istore (lv' := [(8, .int z31), (7, .int z14), (6, .int z11), (5, .int z7), (4, .int z3), (0, .ref (B + 49)), (1, .int x), (3, .int u)]) hx hb dX12_shortBy_152 hl (by decide) rfl (fun ls hl => ?_)
                  refine lv_iload hx hb dX12_shortBy_154 (lv_at hl 0 rfl) ?_
                  refine z_eq (tgt := 164) hx hb dX12_shortBy_156 (by decide) (fun c156 => ?_) (fun c156 => ?_)
                  · refine lv_iconst (v := (-1)) hx hb dX12_shortBy_164 (by decide) (ti_c (-1) (by decide) fun z32 hz32 => ?_)
                    exact r_iret C hw hr hlk rfl (Nat.le_of_ble_eq_true rfl) (Nat.le_of_ble_eq_true rfl) dX12_shortBy_165 ⟨rfl, rfl, rfl, rfl, hsz, ⟨_, rfl, by omega⟩⟩
                  · refine lv_iload hx hb dX12_shortBy_159 (lv_at hl 1 rfl) ?_
                    refine lv_goto (tgt := 165) hx hb dX12_shortBy_161 (by decide) ?_
                    exact r_iret C hw hr hlk rfl (Nat.le_of_ble_eq_true rfl) (Nat.le_of_ble_eq_true rfl) dX12_shortBy_165 ⟨rfl, rfl, rfl, rfl, hsz, ⟨_, rfl, by omega⟩⟩
                · refine lv_iconst (v := 1) hx hb dX12_shortBy_147 (by decide) (ti_c 1 (by decide) fun z33 hz33 => ?_)
                  refine lv_goto (tgt := 152) hx hb dX12_shortBy_148 (by decide) ?_
                  refine lv_istore (lv' := [(8, .int z33), (7, .int z14), (6, .int z11), (5, .int z7), (4, .int z3), (0, .ref (B + 49)), (1, .int x), (3, .int u)]) hx hb dX12_shortBy_152 hl (by decide) rfl (fun ls hl => ?_)
                  refine lv_iload hx hb dX12_shortBy_154 (lv_at hl 0 rfl) ?_
                  refine z_eq (tgt := 164) hx hb dX12_shortBy_156 (by decide) (fun c156 => ?_) (fun c156 => ?_)
                  · refine lv_iconst (v := (-1)) hx hb dX12_shortBy_164 (by decide) (ti_c (-1) (by decide) fun z34 hz34 => ?_)
                    exact r_iret C hw hr hlk rfl (Nat.le_of_ble_eq_true rfl) (Nat.le_of_ble_eq_true rfl) dX12_shortBy_165 ⟨rfl, rfl, rfl, rfl, hsz, ⟨_, rfl, by omega⟩⟩
                  · refine lv_iload hx hb dX12_shortBy_159 (lv_at hl 1 rfl) ?_
                    refine lv_goto (tgt := 165) hx hb dX12_shortBy_161 (by decide) ?_
                    exact r_iret C hw hr hlk rfl (Nat.le_of_ble_eq_true rfl) (Nat.le_of_ble_eq_true rfl) dX12_shortBy_165 ⟨rfl, rfl, rfl, rfl, hsz, ⟨_, rfl, by omega⟩⟩
        · refine lv_iload hx hb dX12_shortBy_88 (lv_at hl 0 rfl) ?_
          refine lv_bipush (v := 12) hx hb dX12_shortBy_90 (by decide) (ti_c 12 (by decide) fun z35 hz35 => ?_)
          refine lv_iadd hx hb dX12_shortBy_92 (tc_add fun z36 hz36 => ?_)
          first | replace hz36 := hz36 (by omega) | clear hz36
          refine lv_goto (tgt := 100) hx hb dX12_shortBy_93 (by decide) ?_
          refine lv_istore (lv' := [(7, .int z36), (6, .int z11), (5, .int z7), (4, .int z3), (0, .ref (B + 49)), (1, .int x), (3, .int u)]) hx hb dX12_shortBy_100 hl (by decide) rfl (fun ls hl => ?_)
          refine lv_iload hx hb dX12_shortBy_102 (lv_at hl 0 rfl) ?_
          refine lv_iload_n hx hb dX12_shortBy_104 rfl (lv_at hl 5 rfl) ?_
          refine b_eq (tgt := 151) hx hb dX12_shortBy_105 (by decide) (fun c105 => ?_) (fun c105 => ?_)
          · refine lv_iconst (v := 0) hx hb dX12_shortBy_151 (by decide) (ti_c 0 (by decide) fun z37 hz37 => ?_)
            refine lv_istore (lv' := [(8, .int z37), (7, .int z36), (6, .int z11), (5, .int z7), (4, .int z3), (0, .ref (B + 49)), (1, .int x), (3, .int u)]) hx hb dX12_shortBy_152 hl (by decide) rfl (fun ls hl => ?_)
            refine lv_iload hx hb dX12_shortBy_154 (lv_at hl 0 rfl) ?_
            refine z_eq (tgt := 164) hx hb dX12_shortBy_156 (by decide) (fun c156 => ?_) (fun c156 => ?_)
            · refine lv_iconst (v := (-1)) hx hb dX12_shortBy_164 (by decide) (ti_c (-1) (by decide) fun z38 hz38 => ?_)
              exact r_iret C hw hr hlk rfl (Nat.le_of_ble_eq_true rfl) (Nat.le_of_ble_eq_true rfl) dX12_shortBy_165 ⟨rfl, rfl, rfl, rfl, hsz, ⟨_, rfl, by omega⟩⟩
            · refine lv_iload hx hb dX12_shortBy_159 (lv_at hl 1 rfl) ?_
              refine lv_goto (tgt := 165) hx hb dX12_shortBy_161 (by decide) ?_
              exact r_iret C hw hr hlk rfl (Nat.le_of_ble_eq_true rfl) (Nat.le_of_ble_eq_true rfl) dX12_shortBy_165 ⟨rfl, rfl, rfl, rfl, hsz, ⟨_, rfl, by omega⟩⟩
          · refine lv_aload_n hx hb dX12_shortBy_108 rfl (lv_at hl 4 rfl) ?_
            refine r_get C hw (hsh 49 _ rfl) fl_X12_80 (oV_r rfl (hrm (49, 15, 59) (by decide))) dX12_shortBy_109 ?_
            refine lv_iload hx hb dX12_shortBy_112 (lv_at hl 0 rfl) ?_
            refine r_iald C hw (hsh 59 _ rfl) (by omega) (by omega) dX12_shortBy_114 (ti_c (ig (B + 59) z36.toInt.toNat).toInt rfl fun z39 hz39 => ?_)
            try simp only [ez7] at hz39
            try simp only [ez17] at hz39
            refine lv_iconst (v := 1) hx hb dX12_shortBy_115 (by decide) (ti_c 1 (by decide) fun z41 hz41 => ?_)
            refine b_eq (tgt := 147) hx hb dX12_shortBy_116 (by decide) (fun c116 => ?_) (fun c116 => ?_)
            · refine lv_iconst (v := 1) hx hb dX12_shortBy_147 (by decide) (ti_c 1 (by decide) fun z42 hz42 => ?_)
              refine lv_goto (tgt := 152) hx hb dX12_shortBy_148 (by decide) ?_
              refine lv_istore (lv' := [(8, .int z42), (7, .int z36), (6, .int z11), (5, .int z7), (4, .int z3), (0, .ref (B + 49)), (1, .int x), (3, .int u)]) hx hb dX12_shortBy_152 hl (by decide) rfl (fun ls hl => ?_)
              refine lv_iload hx hb dX12_shortBy_154 (lv_at hl 0 rfl) ?_
              refine z_eq (tgt := 164) hx hb dX12_shortBy_156 (by decide) (fun c156 => ?_) (fun c156 => ?_)
              · refine lv_iconst (v := (-1)) hx hb dX12_shortBy_164 (by decide) (ti_c (-1) (by decide) fun z43 hz43 => ?_)
                exact r_iret C hw hr hlk rfl (Nat.le_of_ble_eq_true rfl) (Nat.le_of_ble_eq_true rfl) dX12_shortBy_165 ⟨rfl, rfl, rfl, rfl, hsz, ⟨_, rfl, by omega⟩⟩
              · refine lv_iload hx hb dX12_shortBy_159 (lv_at hl 1 rfl) ?_
                refine lv_goto (tgt := 165) hx hb dX12_shortBy_161 (by decide) ?_
                exact r_iret C hw hr hlk rfl (Nat.le_of_ble_eq_true rfl) (Nat.le_of_ble_eq_true rfl) dX12_shortBy_165 ⟨rfl, rfl, rfl, rfl, hsz, ⟨_, rfl, by omega⟩⟩
            · refine lv_aload_n hx hb dX12_shortBy_119 rfl (lv_at hl 4 rfl) ?_
              refine r_get C hw (hsh 49 _ rfl) fl_X12_80 (oV_r rfl (hrm (49, 15, 59) (by decide))) dX12_shortBy_120 ?_
              refine lv_iload hx hb dX12_shortBy_123 (lv_at hl 0 rfl) ?_
              refine r_iald C hw (hsh 59 _ rfl) (by omega) (by omega) dX12_shortBy_125 (ti_c (ig (B + 59) z36.toInt.toNat).toInt rfl fun z44 hz44 => ?_)
              try simp only [ez7] at hz44
              try simp only [ez17] at hz44
              refine lv_iconst (v := 2) hx hb dX12_shortBy_126 (by decide) (ti_c 2 (by decide) fun z46 hz46 => ?_)
              refine b_ne (tgt := 151) hx hb dX12_shortBy_127 (by decide) (fun c127 => ?_) (fun c127 => ?_)
              · refine lv_iconst (v := 0) hx hb dX12_shortBy_151 (by decide) (ti_c 0 (by decide) fun z47 hz47 => ?_)
                refine lv_istore (lv' := [(8, .int z47), (7, .int z36), (6, .int z11), (5, .int z7), (4, .int z3), (0, .ref (B + 49)), (1, .int x), (3, .int u)]) hx hb dX12_shortBy_152 hl (by decide) rfl (fun ls hl => ?_)
                refine lv_iload hx hb dX12_shortBy_154 (lv_at hl 0 rfl) ?_
                refine z_eq (tgt := 164) hx hb dX12_shortBy_156 (by decide) (fun c156 => ?_) (fun c156 => ?_)
                · refine lv_iconst (v := (-1)) hx hb dX12_shortBy_164 (by decide) (ti_c (-1) (by decide) fun z48 hz48 => ?_)
                  exact r_iret C hw hr hlk rfl (Nat.le_of_ble_eq_true rfl) (Nat.le_of_ble_eq_true rfl) dX12_shortBy_165 ⟨rfl, rfl, rfl, rfl, hsz, ⟨_, rfl, by omega⟩⟩
                · refine lv_iload hx hb dX12_shortBy_159 (lv_at hl 1 rfl) ?_
                  refine lv_goto (tgt := 165) hx hb dX12_shortBy_161 (by decide) ?_
                  exact r_iret C hw hr hlk rfl (Nat.le_of_ble_eq_true rfl) (Nat.le_of_ble_eq_true rfl) dX12_shortBy_165 ⟨rfl, rfl, rfl, rfl, hsz, ⟨_, rfl, by omega⟩⟩
              · refine lv_aload_n hx hb dX12_shortBy_130 rfl (lv_at hl 4 rfl) ?_
                refine r_get C hw (hsh 49 _ rfl) fl_X12_117 (oV_r rfl (hrm (49, 28, 71) (by decide))) dX12_shortBy_131 ?_
                refine lv_iload hx hb dX12_shortBy_134 (lv_at hl 0 rfl) ?_
                refine r_iald C hw (hsh 71 _ rfl) (by omega) (by omega) dX12_shortBy_136 (ti_c (ig (B + 71) z36.toInt.toNat).toInt rfl fun z49 hz49 => ?_)
                try simp only [ez7] at hz49
                try simp only [ez17] at hz49
                refine lv_aload_n hx hb dX12_shortBy_137 rfl (lv_at hl 4 rfl) ?_
                refine r_get C hw (hsh 49 _ rfl) fl_X12_117 (oV_r rfl (hrm (49, 28, 71) (by decide))) dX12_shortBy_138 ?_
                refine lv_iload hx hb dX12_shortBy_141 (lv_at hl 1 rfl) ?_
                refine r_iald C hw (hsh 71 _ rfl) (by omega) (by omega) dX12_shortBy_143 (ti_c (ig (B + 71) z11.toInt.toNat).toInt rfl fun z51 hz51 => ?_)
                try simp only [ez7] at hz51
                try simp only [ez17] at hz51
                refine b_ne (tgt := 151) hx hb dX12_shortBy_144 (by decide) (fun c144 => ?_) (fun c144 => ?_)
                · refine lv_iconst (v := 0) hx hb dX12_shortBy_151 (by decide) (ti_c 0 (by decide) fun z53 hz53 => ?_)
                  refine lv_istore (lv' := [(8, .int z53), (7, .int z36), (6, .int z11), (5, .int z7), (4, .int z3), (0, .ref (B + 49)), (1, .int x), (3, .int u)]) hx hb dX12_shortBy_152 hl (by decide) rfl (fun ls hl => ?_)
                  refine lv_iload hx hb dX12_shortBy_154 (lv_at hl 0 rfl) ?_
                  refine z_eq (tgt := 164) hx hb dX12_shortBy_156 (by decide) (fun c156 => ?_) (fun c156 => ?_)
                  · refine lv_iconst (v := (-1)) hx hb dX12_shortBy_164 (by decide) (ti_c (-1) (by decide) fun z54 hz54 => ?_)
                    exact r_iret C hw hr hlk rfl (Nat.le_of_ble_eq_true rfl) (Nat.le_of_ble_eq_true rfl) dX12_shortBy_165 ⟨rfl, rfl, rfl, rfl, hsz, ⟨_, rfl, by omega⟩⟩
                  · refine lv_iload hx hb dX12_shortBy_159 (lv_at hl 1 rfl) ?_
                    refine lv_goto (tgt := 165) hx hb dX12_shortBy_161 (by decide) ?_
                    exact r_iret C hw hr hlk rfl (Nat.le_of_ble_eq_true rfl) (Nat.le_of_ble_eq_true rfl) dX12_shortBy_165 ⟨rfl, rfl, rfl, rfl, hsz, ⟨_, rfl, by omega⟩⟩
                · refine lv_iconst (v := 1) hx hb dX12_shortBy_147 (by decide) (ti_c 1 (by decide) fun z55 hz55 => ?_)
                  refine lv_goto (tgt := 152) hx hb dX12_shortBy_148 (by decide) ?_
                  refine lv_istore (lv' := [(8, .int z55), (7, .int z36), (6, .int z11), (5, .int z7), (4, .int z3), (0, .ref (B + 49)), (1, .int x), (3, .int u)]) hx hb dX12_shortBy_152 hl (by decide) rfl (fun ls hl => ?_)
                  refine lv_iload hx hb dX12_shortBy_154 (lv_at hl 0 rfl) ?_
                  refine z_eq (tgt := 164) hx hb dX12_shortBy_156 (by decide) (fun c156 => ?_) (fun c156 => ?_)
                  · refine lv_iconst (v := (-1)) hx hb dX12_shortBy_164 (by decide) (ti_c (-1) (by decide) fun z56 hz56 => ?_)
                    exact r_iret C hw hr hlk rfl (Nat.le_of_ble_eq_true rfl) (Nat.le_of_ble_eq_true rfl) dX12_shortBy_165 ⟨rfl, rfl, rfl, rfl, hsz, ⟨_, rfl, by omega⟩⟩
                  · refine lv_iload hx hb dX12_shortBy_159 (lv_at hl 1 rfl) ?_
                    refine lv_goto (tgt := 165) hx hb dX12_shortBy_161 (by decide) ?_
                    exact r_iret C hw hr hlk rfl (Nat.le_of_ble_eq_true rfl) (Nat.le_of_ble_eq_true rfl) dX12_shortBy_165 ⟨rfl, rfl, rfl, rfl, hsz, ⟨_, rfl, by omega⟩⟩
      · refine lv_iconst (v := (-1)) hx hb dX12_shortBy_82 (by decide) (ti_c (-1) (by decide) fun z57 hz57 => ?_)
        exact r_iret C hw hr hlk rfl (Nat.le_of_ble_eq_true rfl) (Nat.le_of_ble_eq_true rfl) dX12_shortBy_83 ⟨rfl, rfl, rfl, rfl, hsz, ⟨_, rfl, by omega⟩⟩
    · refine lv_iload hx hb dX12_shortBy_65 (lv_at hl 1 rfl) ?_
      refine lv_bipush (v := 23) hx hb dX12_shortBy_67 (by decide) (ti_c 23 (by decide) fun z58 hz58 => ?_)
      refine b_ne (tgt := 84) hx hb dX12_shortBy_69 (by decide) (fun c69 => ?_) (fun c69 => ?_)
      · refine lv_iload_n hx hb dX12_shortBy_84 rfl (lv_at hl 5 rfl) ?_
        refine z_eq (tgt := 96) hx hb dX12_shortBy_85 (by decide) (fun c85 => ?_) (fun c85 => ?_)
        · refine lv_iload hx hb dX12_shortBy_96 (lv_at hl 0 rfl) ?_
          refine lv_iconst (v := 1) hx hb dX12_shortBy_98 (by decide) (ti_c 1 (by decide) fun z59 hz59 => ?_)
          refine lv_iadd hx hb dX12_shortBy_99 (tc_add fun z60 hz60 => ?_)
          first | replace hz60 := hz60 (by omega) | clear hz60
          refine lv_istore (lv' := [(7, .int z60), (6, .int z11), (5, .int z7), (4, .int z3), (0, .ref (B + 49)), (1, .int x), (3, .int u)]) hx hb dX12_shortBy_100 hl (by decide) rfl (fun ls hl => ?_)
          refine lv_iload hx hb dX12_shortBy_102 (lv_at hl 0 rfl) ?_
          refine lv_iload_n hx hb dX12_shortBy_104 rfl (lv_at hl 5 rfl) ?_
          refine b_eq (tgt := 151) hx hb dX12_shortBy_105 (by decide) (fun c105 => ?_) (fun c105 => ?_)
          · refine lv_iconst (v := 0) hx hb dX12_shortBy_151 (by decide) (ti_c 0 (by decide) fun z61 hz61 => ?_)
            refine lv_istore (lv' := [(8, .int z61), (7, .int z60), (6, .int z11), (5, .int z7), (4, .int z3), (0, .ref (B + 49)), (1, .int x), (3, .int u)]) hx hb dX12_shortBy_152 hl (by decide) rfl (fun ls hl => ?_)
            refine lv_iload hx hb dX12_shortBy_154 (lv_at hl 0 rfl) ?_
            refine z_eq (tgt := 164) hx hb dX12_shortBy_156 (by decide) (fun c156 => ?_) (fun c156 => ?_)
            · refine lv_iconst (v := (-1)) hx hb dX12_shortBy_164 (by decide) (ti_c (-1) (by decide) fun z62 hz62 => ?_)
              exact r_iret C hw hr hlk rfl (Nat.le_of_ble_eq_true rfl) (Nat.le_of_ble_eq_true rfl) dX12_shortBy_165 ⟨rfl, rfl, rfl, rfl, hsz, ⟨_, rfl, by omega⟩⟩
            · refine lv_iload hx hb dX12_shortBy_159 (lv_at hl 1 rfl) ?_
              refine lv_goto (tgt := 165) hx hb dX12_shortBy_161 (by decide) ?_
              exact r_iret C hw hr hlk rfl (Nat.le_of_ble_eq_true rfl) (Nat.le_of_ble_eq_true rfl) dX12_shortBy_165 ⟨rfl, rfl, rfl, rfl, hsz, ⟨_, rfl, by omega⟩⟩
          · refine lv_aload_n hx hb dX12_shortBy_108 rfl (lv_at hl 4 rfl) ?_
            refine r_get C hw (hsh 49 _ rfl) fl_X12_80 (oV_r rfl (hrm (49, 15, 59) (by decide))) dX12_shortBy_109 ?_
            refine lv_iload hx hb dX12_shortBy_112 (lv_at hl 0 rfl) ?_
            refine r_iald C hw (hsh 59 _ rfl) (by omega) (by omega) dX12_shortBy_114 (ti_c (ig (B + 59) z60.toInt.toNat).toInt rfl fun z63 hz63 => ?_)
            try simp only [ez7] at hz63
            try simp only [ez17] at hz63
            refine lv_iconst (v := 1) hx hb dX12_shortBy_115 (by decide) (ti_c 1 (by decide) fun z65 hz65 => ?_)
            refine b_eq (tgt := 147) hx hb dX12_shortBy_116 (by decide) (fun c116 => ?_) (fun c116 => ?_)
            · refine lv_iconst (v := 1) hx hb dX12_shortBy_147 (by decide) (ti_c 1 (by decide) fun z66 hz66 => ?_)
              refine lv_goto (tgt := 152) hx hb dX12_shortBy_148 (by decide) ?_
              refine lv_istore (lv' := [(8, .int z66), (7, .int z60), (6, .int z11), (5, .int z7), (4, .int z3), (0, .ref (B + 49)), (1, .int x), (3, .int u)]) hx hb dX12_shortBy_152 hl (by decide) rfl (fun ls hl => ?_)
              refine lv_iload hx hb dX12_shortBy_154 (lv_at hl 0 rfl) ?_
              refine z_eq (tgt := 164) hx hb dX12_shortBy_156 (by decide) (fun c156 => ?_) (fun c156 => ?_)
              · refine lv_iconst (v := (-1)) hx hb dX12_shortBy_164 (by decide) (ti_c (-1) (by decide) fun z67 hz67 => ?_)
                exact r_iret C hw hr hlk rfl (Nat.le_of_ble_eq_true rfl) (Nat.le_of_ble_eq_true rfl) dX12_shortBy_165 ⟨rfl, rfl, rfl, rfl, hsz, ⟨_, rfl, by omega⟩⟩
              · refine lv_iload hx hb dX12_shortBy_159 (lv_at hl 1 rfl) ?_
                refine lv_goto (tgt := 165) hx hb dX12_shortBy_161 (by decide) ?_
                exact r_iret C hw hr hlk rfl (Nat.le_of_ble_eq_true rfl) (Nat.le_of_ble_eq_true rfl) dX12_shortBy_165 ⟨rfl, rfl, rfl, rfl, hsz, ⟨_, rfl, by omega⟩⟩
            · refine lv_aload_n hx hb dX12_shortBy_119 rfl (lv_at hl 4 rfl) ?_
              refine r_get C hw (hsh 49 _ rfl) fl_X12_80 (oV_r rfl (hrm (49, 15, 59) (by decide))) dX12_shortBy_120 ?_
              refine lv_iload hx hb dX12_shortBy_123 (lv_at hl 0 rfl) ?_
              refine r_iald C hw (hsh 59 _ rfl) (by omega) (by omega) dX12_shortBy_125 (ti_c (ig (B + 59) z60.toInt.toNat).toInt rfl fun z68 hz68 => ?_)
              try simp only [ez7] at hz68
              try simp only [ez17] at hz68
              refine lv_iconst (v := 2) hx hb dX12_shortBy_126 (by decide) (ti_c 2 (by decide) fun z70 hz70 => ?_)
              refine b_ne (tgt := 151) hx hb dX12_shortBy_127 (by decide) (fun c127 => ?_) (fun c127 => ?_)
              · refine lv_iconst (v := 0) hx hb dX12_shortBy_151 (by decide) (ti_c 0 (by decide) fun z71 hz71 => ?_)
                refine lv_istore (lv' := [(8, .int z71), (7, .int z60), (6, .int z11), (5, .int z7), (4, .int z3), (0, .ref (B + 49)), (1, .int x), (3, .int u)]) hx hb dX12_shortBy_152 hl (by decide) rfl (fun ls hl => ?_)
                refine lv_iload hx hb dX12_shortBy_154 (lv_at hl 0 rfl) ?_
                refine z_eq (tgt := 164) hx hb dX12_shortBy_156 (by decide) (fun c156 => ?_) (fun c156 => ?_)
                · refine lv_iconst (v := (-1)) hx hb dX12_shortBy_164 (by decide) (ti_c (-1) (by decide) fun z72 hz72 => ?_)
                  exact r_iret C hw hr hlk rfl (Nat.le_of_ble_eq_true rfl) (Nat.le_of_ble_eq_true rfl) dX12_shortBy_165 ⟨rfl, rfl, rfl, rfl, hsz, ⟨_, rfl, by omega⟩⟩
                · refine lv_iload hx hb dX12_shortBy_159 (lv_at hl 1 rfl) ?_
                  refine lv_goto (tgt := 165) hx hb dX12_shortBy_161 (by decide) ?_
                  exact r_iret C hw hr hlk rfl (Nat.le_of_ble_eq_true rfl) (Nat.le_of_ble_eq_true rfl) dX12_shortBy_165 ⟨rfl, rfl, rfl, rfl, hsz, ⟨_, rfl, by omega⟩⟩
              · refine lv_aload_n hx hb dX12_shortBy_130 rfl (lv_at hl 4 rfl) ?_
                refine r_get C hw (hsh 49 _ rfl) fl_X12_117 (oV_r rfl (hrm (49, 28, 71) (by decide))) dX12_shortBy_131 ?_
                refine lv_iload hx hb dX12_shortBy_134 (lv_at hl 0 rfl) ?_
                refine r_iald C hw (hsh 71 _ rfl) (by omega) (by omega) dX12_shortBy_136 (ti_c (ig (B + 71) z60.toInt.toNat).toInt rfl fun z73 hz73 => ?_)
                try simp only [ez7] at hz73
                try simp only [ez17] at hz73
                refine lv_aload_n hx hb dX12_shortBy_137 rfl (lv_at hl 4 rfl) ?_
                refine r_get C hw (hsh 49 _ rfl) fl_X12_117 (oV_r rfl (hrm (49, 28, 71) (by decide))) dX12_shortBy_138 ?_
                refine lv_iload hx hb dX12_shortBy_141 (lv_at hl 1 rfl) ?_
                refine r_iald C hw (hsh 71 _ rfl) (by omega) (by omega) dX12_shortBy_143 (ti_c (ig (B + 71) z11.toInt.toNat).toInt rfl fun z75 hz75 => ?_)
                try simp only [ez7] at hz75
                try simp only [ez17] at hz75
                refine b_ne (tgt := 151) hx hb dX12_shortBy_144 (by decide) (fun c144 => ?_) (fun c144 => ?_)
                · refine lv_iconst (v := 0) hx hb dX12_shortBy_151 (by decide) (ti_c 0 (by decide) fun z77 hz77 => ?_)
                  refine lv_istore (lv' := [(8, .int z77), (7, .int z60), (6, .int z11), (5, .int z7), (4, .int z3), (0, .ref (B + 49)), (1, .int x), (3, .int u)]) hx hb dX12_shortBy_152 hl (by decide) rfl (fun ls hl => ?_)
                  refine lv_iload hx hb dX12_shortBy_154 (lv_at hl 0 rfl) ?_
                  refine z_eq (tgt := 164) hx hb dX12_shortBy_156 (by decide) (fun c156 => ?_) (fun c156 => ?_)
                  · refine lv_iconst (v := (-1)) hx hb dX12_shortBy_164 (by decide) (ti_c (-1) (by decide) fun z78 hz78 => ?_)
                    exact r_iret C hw hr hlk rfl (Nat.le_of_ble_eq_true rfl) (Nat.le_of_ble_eq_true rfl) dX12_shortBy_165 ⟨rfl, rfl, rfl, rfl, hsz, ⟨_, rfl, by omega⟩⟩
                  · refine lv_iload hx hb dX12_shortBy_159 (lv_at hl 1 rfl) ?_
                    refine lv_goto (tgt := 165) hx hb dX12_shortBy_161 (by decide) ?_
                    exact r_iret C hw hr hlk rfl (Nat.le_of_ble_eq_true rfl) (Nat.le_of_ble_eq_true rfl) dX12_shortBy_165 ⟨rfl, rfl, rfl, rfl, hsz, ⟨_, rfl, by omega⟩⟩
                · refine lv_iconst (v := 1) hx hb dX12_shortBy_147 (by decide) (ti_c 1 (by decide) fun z79 hz79 => ?_)
                  refine lv_goto (tgt := 152) hx hb dX12_shortBy_148 (by decide) ?_
                  refine lv_istore (lv' := [(8, .int z79), (7, .int z60), (6, .int z11), (5, .int z7), (4, .int z3), (0, .ref (B + 49)), (1, .int x), (3, .int u)]) hx hb dX12_shortBy_152 hl (by decide) rfl (fun ls hl => ?_)
                  refine lv_iload hx hb dX12_shortBy_154 (lv_at hl 0 rfl) ?_
                  refine z_eq (tgt := 164) hx hb dX12_shortBy_156 (by decide) (fun c156 => ?_) (fun c156 => ?_)
                  · refine lv_iconst (v := (-1)) hx hb dX12_shortBy_164 (by decide) (ti_c (-1) (by decide) fun z80 hz80 => ?_)
                    exact r_iret C hw hr hlk rfl (Nat.le_of_ble_eq_true rfl) (Nat.le_of_ble_eq_true rfl) dX12_shortBy_165 ⟨rfl, rfl, rfl, rfl, hsz, ⟨_, rfl, by omega⟩⟩
                  · refine lv_iload hx hb dX12_shortBy_159 (lv_at hl 1 rfl) ?_
                    refine lv_goto (tgt := 165) hx hb dX12_shortBy_161 (by decide) ?_
                    exact r_iret C hw hr hlk rfl (Nat.le_of_ble_eq_true rfl) (Nat.le_of_ble_eq_true rfl) dX12_shortBy_165 ⟨rfl, rfl, rfl, rfl, hsz, ⟨_, rfl, by omega⟩⟩
        · refine lv_iload hx hb dX12_shortBy_88 (lv_at hl 0 rfl) ?_
          refine lv_bipush (v := 12) hx hb dX12_shortBy_90 (by decide) (ti_c 12 (by decide) fun z81 hz81 => ?_)
          refine lv_iadd hx hb dX12_shortBy_92 (tc_add fun z82 hz82 => ?_)
          first | replace hz82 := hz82 (by omega) | clear hz82
          refine lv_goto (tgt := 100) hx hb dX12_shortBy_93 (by decide) ?_
          refine lv_istore (lv' := [(7, .int z82), (6, .int z11), (5, .int z7), (4, .int z3), (0, .ref (B + 49)), (1, .int x), (3, .int u)]) hx hb dX12_shortBy_100 hl (by decide) rfl (fun ls hl => ?_)
          refine lv_iload hx hb dX12_shortBy_102 (lv_at hl 0 rfl) ?_
          refine lv_iload_n hx hb dX12_shortBy_104 rfl (lv_at hl 5 rfl) ?_
          refine b_eq (tgt := 151) hx hb dX12_shortBy_105 (by decide) (fun c105 => ?_) (fun c105 => ?_)
          · refine lv_iconst (v := 0) hx hb dX12_shortBy_151 (by decide) (ti_c 0 (by decide) fun z83 hz83 => ?_)
            refine lv_istore (lv' := [(8, .int z83), (7, .int z82), (6, .int z11), (5, .int z7), (4, .int z3), (0, .ref (B + 49)), (1, .int x), (3, .int u)]) hx hb dX12_shortBy_152 hl (by decide) rfl (fun ls hl => ?_)
            refine lv_iload hx hb dX12_shortBy_154 (lv_at hl 0 rfl) ?_
            refine z_eq (tgt := 164) hx hb dX12_shortBy_156 (by decide) (fun c156 => ?_) (fun c156 => ?_)
            · refine lv_iconst (v := (-1)) hx hb dX12_shortBy_164 (by decide) (ti_c (-1) (by decide) fun z84 hz84 => ?_)
              exact r_iret C hw hr hlk rfl (Nat.le_of_ble_eq_true rfl) (Nat.le_of_ble_eq_true rfl) dX12_shortBy_165 ⟨rfl, rfl, rfl, rfl, hsz, ⟨_, rfl, by omega⟩⟩
            · refine lv_iload hx hb dX12_shortBy_159 (lv_at hl 1 rfl) ?_
              refine lv_goto (tgt := 165) hx hb dX12_shortBy_161 (by decide) ?_
              exact r_iret C hw hr hlk rfl (Nat.le_of_ble_eq_true rfl) (Nat.le_of_ble_eq_true rfl) dX12_shortBy_165 ⟨rfl, rfl, rfl, rfl, hsz, ⟨_, rfl, by omega⟩⟩
          · refine lv_aload_n hx hb dX12_shortBy_108 rfl (lv_at hl 4 rfl) ?_
            refine r_get C hw (hsh 49 _ rfl) fl_X12_80 (oV_r rfl (hrm (49, 15, 59) (by decide))) dX12_shortBy_109 ?_
            refine lv_iload hx hb dX12_shortBy_112 (lv_at hl 0 rfl) ?_
            refine r_iald C hw (hsh 59 _ rfl) (by omega) (by omega) dX12_shortBy_114 (ti_c (ig (B + 59) z82.toInt.toNat).toInt rfl fun z85 hz85 => ?_)
            try simp only [ez7] at hz85
            try simp only [ez17] at hz85
            refine lv_iconst (v := 1) hx hb dX12_shortBy_115 (by decide) (ti_c 1 (by decide) fun z87 hz87 => ?_)
            refine b_eq (tgt := 147) hx hb dX12_shortBy_116 (by decide) (fun c116 => ?_) (fun c116 => ?_)
            · refine lv_iconst (v := 1) hx hb dX12_shortBy_147 (by decide) (ti_c 1 (by decide) fun z88 hz88 => ?_)
              refine lv_goto (tgt := 152) hx hb dX12_shortBy_148 (by decide) ?_
              refine lv_istore (lv' := [(8, .int z88), (7, .int z82), (6, .int z11), (5, .int z7), (4, .int z3), (0, .ref (B + 49)), (1, .int x), (3, .int u)]) hx hb dX12_shortBy_152 hl (by decide) rfl (fun ls hl => ?_)
              refine lv_iload hx hb dX12_shortBy_154 (lv_at hl 0 rfl) ?_
              refine z_eq (tgt := 164) hx hb dX12_shortBy_156 (by decide) (fun c156 => ?_) (fun c156 => ?_)
              · refine lv_iconst (v := (-1)) hx hb dX12_shortBy_164 (by decide) (ti_c (-1) (by decide) fun z89 hz89 => ?_)
                exact r_iret C hw hr hlk rfl (Nat.le_of_ble_eq_true rfl) (Nat.le_of_ble_eq_true rfl) dX12_shortBy_165 ⟨rfl, rfl, rfl, rfl, hsz, ⟨_, rfl, by omega⟩⟩
              · refine lv_iload hx hb dX12_shortBy_159 (lv_at hl 1 rfl) ?_
                refine lv_goto (tgt := 165) hx hb dX12_shortBy_161 (by decide) ?_
                exact r_iret C hw hr hlk rfl (Nat.le_of_ble_eq_true rfl) (Nat.le_of_ble_eq_true rfl) dX12_shortBy_165 ⟨rfl, rfl, rfl, rfl, hsz, ⟨_, rfl, by omega⟩⟩
            · refine lv_aload_n hx hb dX12_shortBy_119 rfl (lv_at hl 4 rfl) ?_
              refine r_get C hw (hsh 49 _ rfl) fl_X12_80 (oV_r rfl (hrm (49, 15, 59) (by decide))) dX12_shortBy_120 ?_
              refine lv_iload hx hb dX12_shortBy_123 (lv_at hl 0 rfl) ?_
              refine r_iald C hw (hsh 59 _ rfl) (by omega) (by omega) dX12_shortBy_125 (ti_c (ig (B + 59) z82.toInt.toNat).toInt rfl fun z90 hz90 => ?_)
              try simp only [ez7] at hz90
              try simp only [ez17] at hz90
              refine lv_iconst (v := 2) hx hb dX12_shortBy_126 (by decide) (ti_c 2 (by decide) fun z92 hz92 => ?_)
              refine b_ne (tgt := 151) hx hb dX12_shortBy_127 (by decide) (fun c127 => ?_) (fun c127 => ?_)
              · refine lv_iconst (v := 0) hx hb dX12_shortBy_151 (by decide) (ti_c 0 (by decide) fun z93 hz93 => ?_)
                refine lv_istore (lv' := [(8, .int z93), (7, .int z82), (6, .int z11), (5, .int z7), (4, .int z3), (0, .ref (B + 49)), (1, .int x), (3, .int u)]) hx hb dX12_shortBy_152 hl (by decide) rfl (fun ls hl => ?_)
                refine lv_iload hx hb dX12_shortBy_154 (lv_at hl 0 rfl) ?_
                refine z_eq (tgt := 164) hx hb dX12_shortBy_156 (by decide) (fun c156 => ?_) (fun c156 => ?_)
                · refine lv_iconst (v := (-1)) hx hb dX12_shortBy_164 (by decide) (ti_c (-1) (by decide) fun z94 hz94 => ?_)
                  exact r_iret C hw hr hlk rfl (Nat.le_of_ble_eq_true rfl) (Nat.le_of_ble_eq_true rfl) dX12_shortBy_165 ⟨rfl, rfl, rfl, rfl, hsz, ⟨_, rfl, by omega⟩⟩
                · refine lv_iload hx hb dX12_shortBy_159 (lv_at hl 1 rfl) ?_
                  refine lv_goto (tgt := 165) hx hb dX12_shortBy_161 (by decide) ?_
                  exact r_iret C hw hr hlk rfl (Nat.le_of_ble_eq_true rfl) (Nat.le_of_ble_eq_true rfl) dX12_shortBy_165 ⟨rfl, rfl, rfl, rfl, hsz, ⟨_, rfl, by omega⟩⟩
              · refine lv_aload_n hx hb dX12_shortBy_130 rfl (lv_at hl 4 rfl) ?_
                refine r_get C hw (hsh 49 _ rfl) fl_X12_117 (oV_r rfl (hrm (49, 28, 71) (by decide))) dX12_shortBy_131 ?_
                refine lv_iload hx hb dX12_shortBy_134 (lv_at hl 0 rfl) ?_
                refine r_iald C hw (hsh 71 _ rfl) (by omega) (by omega) dX12_shortBy_136 (ti_c (ig (B + 71) z82.toInt.toNat).toInt rfl fun z95 hz95 => ?_)
                try simp only [ez7] at hz95
                try simp only [ez17] at hz95
                refine lv_aload_n hx hb dX12_shortBy_137 rfl (lv_at hl 4 rfl) ?_
                refine r_get C hw (hsh 49 _ rfl) fl_X12_117 (oV_r rfl (hrm (49, 28, 71) (by decide))) dX12_shortBy_138 ?_
                refine lv_iload hx hb dX12_shortBy_141 (lv_at hl 1 rfl) ?_
                refine r_iald C hw (hsh 71 _ rfl) (by omega) (by omega) dX12_shortBy_143 (ti_c (ig (B + 71) z11.toInt.toNat).toInt rfl fun z97 hz97 => ?_)
                try simp only [ez7] at hz97
                try simp only [ez17] at hz97
                refine b_ne (tgt := 151) hx hb dX12_shortBy_144 (by decide) (fun c144 => ?_) (fun c144 => ?_)
                · refine lv_iconst (v := 0) hx hb dX12_shortBy_151 (by decide) (ti_c 0 (by decide) fun z99 hz99 => ?_)
                  refine lv_istore (lv' := [(8, .int z99), (7, .int z82), (6, .int z11), (5, .int z7), (4, .int z3), (0, .ref (B + 49)), (1, .int x), (3, .int u)]) hx hb dX12_shortBy_152 hl (by decide) rfl (fun ls hl => ?_)
                  refine lv_iload hx hb dX12_shortBy_154 (lv_at hl 0 rfl) ?_
                  refine z_eq (tgt := 164) hx hb dX12_shortBy_156 (by decide) (fun c156 => ?_) (fun c156 => ?_)
                  · refine lv_iconst (v := (-1)) hx hb dX12_shortBy_164 (by decide) (ti_c (-1) (by decide) fun z100 hz100 => ?_)
                    exact r_iret C hw hr hlk rfl (Nat.le_of_ble_eq_true rfl) (Nat.le_of_ble_eq_true rfl) dX12_shortBy_165 ⟨rfl, rfl, rfl, rfl, hsz, ⟨_, rfl, by omega⟩⟩
                  · refine lv_iload hx hb dX12_shortBy_159 (lv_at hl 1 rfl) ?_
                    refine lv_goto (tgt := 165) hx hb dX12_shortBy_161 (by decide) ?_
                    exact r_iret C hw hr hlk rfl (Nat.le_of_ble_eq_true rfl) (Nat.le_of_ble_eq_true rfl) dX12_shortBy_165 ⟨rfl, rfl, rfl, rfl, hsz, ⟨_, rfl, by omega⟩⟩
                · refine lv_iconst (v := 1) hx hb dX12_shortBy_147 (by decide) (ti_c 1 (by decide) fun z101 hz101 => ?_)
                  refine lv_goto (tgt := 152) hx hb dX12_shortBy_148 (by decide) ?_
                  refine lv_istore (lv' := [(8, .int z101), (7, .int z82), (6, .int z11), (5, .int z7), (4, .int z3), (0, .ref (B + 49)), (1, .int x), (3, .int u)]) hx hb dX12_shortBy_152 hl (by decide) rfl (fun ls hl => ?_)
                  refine lv_iload hx hb dX12_shortBy_154 (lv_at hl 0 rfl) ?_
                  refine z_eq (tgt := 164) hx hb dX12_shortBy_156 (by decide) (fun c156 => ?_) (fun c156 => ?_)
                  · refine lv_iconst (v := (-1)) hx hb dX12_shortBy_164 (by decide) (ti_c (-1) (by decide) fun z102 hz102 => ?_)
                    exact r_iret C hw hr hlk rfl (Nat.le_of_ble_eq_true rfl) (Nat.le_of_ble_eq_true rfl) dX12_shortBy_165 ⟨rfl, rfl, rfl, rfl, hsz, ⟨_, rfl, by omega⟩⟩
                  · refine lv_iload hx hb dX12_shortBy_159 (lv_at hl 1 rfl) ?_
                    refine lv_goto (tgt := 165) hx hb dX12_shortBy_161 (by decide) ?_
                    exact r_iret C hw hr hlk rfl (Nat.le_of_ble_eq_true rfl) (Nat.le_of_ble_eq_true rfl) dX12_shortBy_165 ⟨rfl, rfl, rfl, rfl, hsz, ⟨_, rfl, by omega⟩⟩
      · refine lv_goto (tgt := 82) hx hb dX12_shortBy_72 (by decide) ?_
        refine lv_iconst (v := (-1)) hx hb dX12_shortBy_82 (by decide) (ti_c (-1) (by decide) fun z103 hz103 => ?_)
        exact r_iret C hw hr hlk rfl (Nat.le_of_ble_eq_true rfl) (Nat.le_of_ble_eq_true rfl) dX12_shortBy_83 ⟨rfl, rfl, rfl, rfl, hsz, ⟨_, rfl, by omega⟩⟩
  refine z_eq (tgt := 38) hx hb dX12_shortBy_21 (by decide) (fun c21 => ?_) (fun c21 => ?_)
  · refine lv_aload_n hx hb dX12_shortBy_38 rfl (lv_at hl 2 rfl) ?_
    refine r_get C hw (hsh 49 _ rfl) fl_X12_71 (oV_r rfl (hrm (49, 11, 56) (by decide))) dX12_shortBy_39 ?_
    refine lv_iload_n hx hb dX12_shortBy_42 rfl (lv_at hl 4 rfl) ?_
    refine r_iald C hw (hsh 56 _ rfl) (by omega) (by omega) dX12_shortBy_43 (ti_c (ig (B + 56) y.toInt.toNat).toInt rfl fun z104 hz104 => ?_)
    try simp only [ez7] at hz104
    try simp only [ez17] at hz104
    refine lv_iload hx hb dX12_shortBy_44 (lv_at hl 0 rfl) ?_
    refine b_eq (tgt := 51) hx hb dX12_shortBy_46 (by decide) (fun c46 => ?_) (fun c46 => ?_)
    · exact J51 ls s.heap [] (lv_sub hl [0, 1, 2, 3, 5] rfl) hw hsz
    · refine lv_iconst (v := (-1)) hx hb dX12_shortBy_49 (by decide) (ti_c (-1) (by decide) fun z106 hz106 => ?_)
      exact r_iret C hw hr hlk rfl (Nat.le_of_ble_eq_true rfl) (Nat.le_of_ble_eq_true rfl) dX12_shortBy_50 ⟨rfl, rfl, rfl, rfl, hsz, ⟨_, rfl, by omega⟩⟩
  · refine lv_aload_n hx hb dX12_shortBy_24 rfl (lv_at hl 2 rfl) ?_
    refine r_get C hw (hsh 49 _ rfl) fl_X12_68 (oV_r rfl (hrm (49, 10, 55) (by decide))) dX12_shortBy_25 ?_
    refine lv_iload_n hx hb dX12_shortBy_28 rfl (lv_at hl 4 rfl) ?_
    refine r_iald C hw (hsh 55 _ rfl) (by omega) (by omega) dX12_shortBy_29 (ti_c (ig (B + 55) y.toInt.toNat).toInt rfl fun z107 hz107 => ?_)
    try simp only [ez7] at hz107
    try simp only [ez17] at hz107
    refine lv_iload hx hb dX12_shortBy_30 (lv_at hl 1 rfl) ?_
    refine b_eq (tgt := 51) hx hb dX12_shortBy_32 (by decide) (fun c32 => ?_) (fun c32 => ?_)
    · exact J51 ls s.heap [] (lv_sub hl [0, 1, 2, 3, 5] rfl) hw hsz
    · refine lv_goto (tgt := 49) hx hb dX12_shortBy_35 (by decide) ?_
      refine lv_iconst (v := (-1)) hx hb dX12_shortBy_49 (by decide) (ti_c (-1) (by decide) fun z109 hz109 => ?_)
      exact r_iret C hw hr hlk rfl (Nat.le_of_ble_eq_true rfl) (Nat.le_of_ble_eq_true rfl) dX12_shortBy_50 ⟨rfl, rfl, rfl, rfl, hsz, ⟨_, rfl, by omega⟩⟩

set_option maxHeartbeats 4000000 in
set_option maxRecDepth 100000 in
theorem t_X12_findShort {υ : Option Int} {τ : Tp} {φ : Option Int} (l : Launch) (B : Nat) (D : va_G) (cA : Nat → ClassId) (kd : sK) (ig : sI) (rg : sR) (lg : sG) (sz : Nat) (x : Int32) (hx0 : 0 ≤ x.toInt ∧ x.toInt < 288) (hkd : (ig (B + 59) x.toInt.toNat).toInt = 2) (hs0 : (ig (B + 49) 37).toInt ≤ 99000) (hI : IM τ φ υ B kd ig rg) : MC l B D cA yX12_findShort cX12_findShort 6 none (rL 1 0 0) [.ref (B + 49), .int x] kd ig rg lg sz (PM τ φ υ B [49, 75, 79] kd ig rg lg (fun r ig' lg' => (r = none ∧ (ig' (B + 49) 37).toInt ≤ (ig (B + 49) 37).toInt + 240))) := by
  refine MC.of (own := RX12) (by decide +kernel) rfl (Nat.le_of_ble_eq_true rfl) ?_
  intro p e s m args below meth c ls C hr hlk hnm hw hsz hl
  have hx := C.1.1
  have hb := C.1.2.1
  have hown := C.1.2.2.2.1
  have hts := C.1.2.2.2.2
  have hl : lv_has ls 6 [(0, .ref (B + 49)), (1, .int x)] := hl
  have hF : Ft B [49, 75, 79] ig lg ig lg := Ft.rf
  have hsh := hI.sh
  have hrm := hI.rm
  have hI0 := hI
  have k37 : 0 ≤ (ig (B + 49) 37).toInt ∧ (ig (B + 49) 37).toInt ≤ 100000 := hI.i 49 37 (by decide) (by decide)
  refine lv_iconst (v := 0) hx hb dX12_findShort_0 (by decide) (ti_c 0 (by decide) fun z1 hz1 => ?_)
  refine lv_istore_n (lv' := [(2, .int z1), (0, .ref (B + 49)), (1, .int x)]) hx hb dX12_findShort_1 rfl hl (by decide) rfl (fun ls hl => ?_)
  have L2 : ∀ (n : Nat) (ls : Array Slot) (H : Heap) (locs : List Loc) (ig3 : sI) (lg4 : sG) (v2 : Int32), lv_has ls 6 [(2, .int v2), (0, .ref (B + 49)), (1, .int x)] → WD B D cA s.heap kd ig3 rg lg4 H locs → IM τ φ υ B kd ig3 rg → Ft B [49, 75, 79] ig lg ig3 lg4 → (0 ≤ v2.toInt) → (v2.toInt ≤ 120) → ((ig3 (B + 49) 37).toInt ≤ (ig (B + 49) 37).toInt + 2 * v2.toInt) → 120 - v2.toInt < (n : Int) → W p l e (rL 1 0 0) s m args below meth c H locs 0 0 (MQ below (QcW B D cA (PM τ φ υ B [49, 75, 79] kd ig rg lg (fun r ig' lg' => (r = none ∧ (ig' (B + 49) 37).toInt ≤ (ig (B + 49) 37).toInt + 240)))) args s 0 0 (fun q => B ≤ q)) (F0 m 2 ls []) := by
    intro n2
    induction n2 with
    | zero => intro ls H locs ig3 lg4 v2 hl hw hI hF g2_0 g2_1 g2_2 hmu; exact absurd hmu (by omega)
    | succ n2 ih2 =>
      intro ls H locs ig3 lg4 v2 hl hw hI hF g2_0 g2_1 g2_2 hmu
      refine lv_iload_n hx hb dX12_findShort_2 rfl (lv_at hl 0 rfl) ?_
      refine lv_aload_n hx hb dX12_findShort_3 rfl (lv_at hl 1 rfl) ?_
      refine r_get C hw (hsh 49 _ rfl) fl_X12_77 (oV_r rfl (hrm (49, 13, 58) (by decide))) dX12_findShort_4 ?_
      refine lv_iload_n hx hb dX12_findShort_7 rfl (lv_at hl 2 rfl) ?_
      refine r_iald C hw (hsh 58 _ rfl) (by omega) (by omega) dX12_findShort_8 (ti_c (ig3 (B + 58) x.toInt.toNat).toInt rfl fun z5 hz5 => ?_)
      have k6 := hI.its (j := (x.toInt.toNat)) (by omega)
      rw [Ft.i hF 58 _ (by decide)] at hz5 k6
      refine b_ge (tgt := 83) hx hb dX12_findShort_9 (by decide) (fun c9 => ?_) (fun c9 => ?_)
      · exact r_vret C hw hr hlk (Nat.le_of_ble_eq_true rfl) (Nat.le_of_ble_eq_true rfl) dX12_findShort_83 ⟨rfl, rfl, hI, hF, ⟨rfl, by omega⟩⟩
      · refine lv_bipush (v := 120) hx hb dX12_findShort_12 (by decide) (ti_c 120 (by decide) fun z7 hz7 => ?_)
        refine lv_iload_n hx hb dX12_findShort_14 rfl (lv_at hl 2 rfl) ?_
        refine lv_imul hx hb dX12_findShort_15 (tc_mulL 120 hz7 fun z8 hz8 => ?_)
        first | replace hz8 := hz8 (by omega) | clear hz8
        refine lv_iload_n hx hb dX12_findShort_16 rfl (lv_at hl 0 rfl) ?_
        refine lv_iadd hx hb dX12_findShort_17 (tc_add fun z9 hz9 => ?_)
        first | replace hz9 := hz9 (by omega) | clear hz9
        refine lv_istore_n (lv' := [(3, .int z9), (2, .int v2), (0, .ref (B + 49)), (1, .int x)]) hx hb dX12_findShort_18 rfl hl (by decide) rfl (fun ls hl => ?_)
        refine lv_aload_n hx hb dX12_findShort_19 rfl (lv_at hl 2 rfl) ?_
        refine r_get C hw (hsh 49 _ rfl) fl_X12_65 (oV_r rfl (hrm (49, 9, 54) (by decide))) dX12_findShort_20 ?_
        refine lv_iload_n hx hb dX12_findShort_23 rfl (lv_at hl 0 rfl) ?_
        refine r_iald C hw (hsh 54 _ rfl) (by omega) (by omega) dX12_findShort_24 (ti_c (ig3 (B + 54) z9.toInt.toNat).toInt rfl fun z10 hz10 => ?_)
        rw [Ft.i hF 54 _ (by decide)] at hz10
        refine lv_iconst (v := 2) hx hb dX12_findShort_25 (by decide) (ti_c 2 (by decide) fun z12 hz12 => ?_)
        have J77 : ∀ (ls : Array Slot) (H : Heap) (locs : List Loc) (ig13 : sI) (lg14 : sG) , lv_has ls 6 [(2, .int v2), (0, .ref (B + 49)), (1, .int x)] → WD B D cA s.heap kd ig13 rg lg14 H locs → IM τ φ υ B kd ig13 rg → Ft B [49, 75, 79] ig lg ig13 lg14 → ((ig13 (B + 49) 37).toInt ≤ (ig (B + 49) 37).toInt + 2 * v2.toInt + 2) → W p l e (rL 1 0 0) s m args below meth c H locs 0 0 (MQ below (QcW B D cA (PM τ φ υ B [49, 75, 79] kd ig rg lg (fun r ig' lg' => (r = none ∧ (ig' (B + 49) 37).toInt ≤ (ig (B + 49) 37).toInt + 240)))) args s 0 0 (fun q => B ≤ q)) (F0 m 77 ls []) := by
          intro ls H locs ig13 lg14 hl hw hI hF g77_0
          refine tc_inc hx hb dX12_findShort_77 hl (k := 0) rfl (by decide) (by decide) (fun z15 hz15 ls hl => ?_)
          first | replace hz15 := hz15 (by omega) | clear hz15
          have hl : lv_has ls 6 [(2, .int z15), (0, .ref (B + 49)), (1, .int x)] := hl
          refine lv_goto (tgt := 2) hx hb dX12_findShort_80 (by decide) ?_
          exact ih2 ls H locs ig13 lg14 z15 (lv_sub hl [0, 1, 2] rfl) hw hI hF (by omega) (by omega) (by omega) (by omega)
        refine b_ne (tgt := 77) hx hb dX12_findShort_26 (by decide) (fun c26 => ?_) (fun c26 => ?_)
        · exact J77 ls H locs ig3 lg4 (lv_sub hl [1, 2, 3] rfl) hw hI hF (by omega)
        · have sm := IM.sm hI0 (p := x) (k := v2) (i := z9) (by omega) (by omega) (by omega) (by omega) (by omega)
          refine lv_aload_n hx hb dX12_findShort_29 rfl (lv_at hl 2 rfl) ?_
          refine lv_iload_n hx hb dX12_findShort_30 rfl (lv_at hl 3 rfl) ?_
          refine lv_iload_n hx hb dX12_findShort_31 rfl (lv_at hl 0 rfl) ?_
          refine lv_iconst (v := 2) hx hb dX12_findShort_32 (by decide) (ti_c 2 (by decide) fun z16 hz16 => ?_)
          refine lv_iadd hx hb dX12_findShort_33 (tc_add fun z17 hz17 => ?_)
          first | replace hz17 := hz17 (by omega) | clear hz17
          refine lv_iconst (v := 1) hx hb dX12_findShort_34 (by decide) (ti_c 1 (by decide) fun z18 hz18 => ?_)
          refine r_callV (As := [.int x, .int z17, .int z18]) (rest := []) C hw (t_X12_shortBy l B D cA kd ig3 rg lg4 _ x z17 z18 (by omega) (by omega) (by omega) (by rw [show z17.toInt.toNat + 2 = z9.toInt.toNat + 4 by omega]; rw [Ft.i hF 55 _ (by decide), Ft.i hF 56 _ (by decide)]; exact sm.2.2) hI) sv_X12_320 (hsh 49 _ rfl) rfl hl.1 rfl (Nat.le_of_ble_eq_true rfl) ⟨Nat.le_of_ble_eq_true rfl, Nat.le_of_ble_eq_true rfl⟩ ⟨Nat.le_of_ble_eq_true rfl, Nat.le_of_ble_eq_true rfl⟩ dX12_findShort_35 (fun r23 kd19 ig20 rg21 lg22 H locs hw hH hp24 => ?_)
          obtain ⟨rfl, rfl, rfl, rfl, hzhp24, hrhp24⟩ := hp24
          obtain ⟨z25, rfl, hz25⟩ := hrhp24
          refine lv_istore (lv' := [(4, .int z25), (3, .int z9), (2, .int v2), (0, .ref (B + 49)), (1, .int x)]) hx hb dX12_findShort_38 hl (by decide) rfl (fun ls hl => ?_)
          refine lv_iload hx hb dX12_findShort_40 (lv_at hl 0 rfl) ?_
          have J53 : ∀ (ls : Array Slot) (H : Heap) (locs : List Loc) (ig26 : sI) (lg27 : sG) , lv_has ls 6 [(3, .int z9), (2, .int v2), (0, .ref (B + 49)), (1, .int x)] → WD B D cA s.heap kd ig26 rg lg27 H locs → IM τ φ υ B kd ig26 rg → Ft B [49, 75, 79] ig lg ig26 lg27 → ((ig26 (B + 49) 37).toInt ≤ (ig (B + 49) 37).toInt + 2 * v2.toInt + 1) → W p l e (rL 1 0 0) s m args below meth c H locs 0 0 (MQ below (QcW B D cA (PM τ φ υ B [49, 75, 79] kd ig rg lg (fun r ig' lg' => (r = none ∧ (ig' (B + 49) 37).toInt ≤ (ig (B + 49) 37).toInt + 240)))) args s 0 0 (fun q => B ≤ q)) (F0 m 53 ls []) := by
            intro ls H locs ig26 lg27 hl hw hI hF g53_0
            refine lv_aload_n hx hb dX12_findShort_53 rfl (lv_at hl 2 rfl) ?_
            refine lv_iload_n hx hb dX12_findShort_54 rfl (lv_at hl 3 rfl) ?_
            refine lv_iload_n hx hb dX12_findShort_55 rfl (lv_at hl 0 rfl) ?_
            refine lv_iconst (v := 2) hx hb dX12_findShort_56 (by decide) (ti_c 2 (by decide) fun z28 hz28 => ?_)
            refine lv_iadd hx hb dX12_findShort_57 (tc_add fun z29 hz29 => ?_)
            first | replace hz29 := hz29 (by omega) | clear hz29
            refine lv_iconst (v := 0) hx hb dX12_findShort_58 (by decide) (ti_c 0 (by decide) fun z30 hz30 => ?_)
            refine r_callV (As := [.int x, .int z29, .int z30]) (rest := []) C hw (t_X12_shortBy l B D cA kd ig26 rg lg27 _ x z29 z30 (by omega) (by omega) (by omega) (by rw [show z29.toInt.toNat + 2 = z9.toInt.toNat + 4 by omega]; rw [Ft.i hF 55 _ (by decide), Ft.i hF 56 _ (by decide)]; exact sm.2.2) hI) sv_X12_320 (hsh 49 _ rfl) rfl hl.1 rfl (Nat.le_of_ble_eq_true rfl) ⟨Nat.le_of_ble_eq_true rfl, Nat.le_of_ble_eq_true rfl⟩ ⟨Nat.le_of_ble_eq_true rfl, Nat.le_of_ble_eq_true rfl⟩ dX12_findShort_59 (fun r35 kd31 ig32 rg33 lg34 H locs hw hH hp36 => ?_)
            obtain ⟨rfl, rfl, rfl, rfl, hzhp36, hrhp36⟩ := hp36
            obtain ⟨z37, rfl, hz37⟩ := hrhp36
            refine lv_istore (lv' := [(5, .int z37), (3, .int z9), (2, .int v2), (0, .ref (B + 49)), (1, .int x)]) hx hb dX12_findShort_62 hl (by decide) rfl (fun ls hl => ?_)
            refine lv_iload hx hb dX12_findShort_64 (lv_at hl 0 rfl) ?_
            refine z_lt (tgt := 77) hx hb dX12_findShort_66 (by decide) (fun c66 => ?_) (fun c66 => ?_)
            · exact J77 ls H locs ig26 lg27 (lv_sub hl [2, 3, 4] rfl) hw hI hF (by omega)
            · refine lv_aload_n hx hb dX12_findShort_69 rfl (lv_at hl 3 rfl) ?_
              refine lv_iconst (v := 3) hx hb dX12_findShort_70 (by decide) (ti_c 3 (by decide) fun z38 hz38 => ?_)
              refine lv_iload_n hx hb dX12_findShort_71 rfl (lv_at hl 4 rfl) ?_
              refine lv_iload hx hb dX12_findShort_72 (lv_at hl 0 rfl) ?_
              refine r_callV (As := [.int z38, .int x, .int z37]) (rest := []) C hw (t_X12_finds l B D cA kd ig26 rg lg27 _ z38 x z37 (by omega) hI) sv_X12_324 (hsh 49 _ rfl) rfl hl.1 rfl (Nat.le_of_ble_eq_true rfl) ⟨Nat.le_of_ble_eq_true rfl, Nat.le_of_ble_eq_true rfl⟩ ⟨Nat.le_of_ble_eq_true rfl, Nat.le_of_ble_eq_true rfl⟩ dX12_findShort_74 (fun r43 kd39 ig40 rg41 lg42 H locs hw hH hp44 => ?_)
              obtain ⟨rfl, rfl, hI, hchp44, hrhp44⟩ := hp44
              have hF : Ft B [49, 75, 79] ig lg ig40 lg42 := Ft.tr hF hchp44 (by decide) (by decide)
              obtain ⟨rfl, hvhp44⟩ := hrhp44
              exact J77 ls H locs ig40 lg42 (lv_sub hl [2, 3, 4] rfl) hw hI hF (by omega)
          refine z_lt (tgt := 53) hx hb dX12_findShort_42 (by decide) (fun c42 => ?_) (fun c42 => ?_)
          · exact J53 ls H locs ig3 lg4 (lv_sub hl [1, 2, 3, 4] rfl) hw hI hF (by omega)
          · refine lv_aload_n hx hb dX12_findShort_45 rfl (lv_at hl 3 rfl) ?_
            refine lv_iconst (v := 3) hx hb dX12_findShort_46 (by decide) (ti_c 3 (by decide) fun z45 hz45 => ?_)
            refine lv_iload_n hx hb dX12_findShort_47 rfl (lv_at hl 4 rfl) ?_
            refine lv_iload hx hb dX12_findShort_48 (lv_at hl 0 rfl) ?_
            refine r_callV (As := [.int z45, .int x, .int z25]) (rest := []) C hw (t_X12_finds l B D cA kd ig3 rg lg4 _ z45 x z25 (by omega) hI) sv_X12_324 (hsh 49 _ rfl) rfl hl.1 rfl (Nat.le_of_ble_eq_true rfl) ⟨Nat.le_of_ble_eq_true rfl, Nat.le_of_ble_eq_true rfl⟩ ⟨Nat.le_of_ble_eq_true rfl, Nat.le_of_ble_eq_true rfl⟩ dX12_findShort_50 (fun r50 kd46 ig47 rg48 lg49 H locs hw hH hp51 => ?_)
            obtain ⟨rfl, rfl, hI, hchp51, hrhp51⟩ := hp51
            have hF : Ft B [49, 75, 79] ig lg ig47 lg49 := Ft.tr hF hchp51 (by decide) (by decide)
            obtain ⟨rfl, hvhp51⟩ := hrhp51
            exact J53 ls H locs ig47 lg49 (lv_sub hl [1, 2, 3, 4] rfl) hw hI hF (by omega)
  exact L2 ((120 - z1.toInt) + 1).toNat ls s.heap [] ig lg z1 (lv_sub hl [0, 1, 2] rfl) hw hI hF (by omega) (by omega) (by omega) (by omega)

set_option maxHeartbeats 4000000 in
set_option maxRecDepth 100000 in
theorem t_X12_check {υ : Option Int} {τ : Tp} {φ : Option Int} (l : Launch) (B : Nat) (D : va_G) (cA : Nat → ClassId) (kd : sK) (ig : sI) (rg : sR) (lg : sG) (sz : Nat)  (hI : IM τ φ υ B kd ig rg) : MC l B D cA yX12_check cX12_check 3 (some .int) (rL 2 0 0) [.ref (B + 49)] kd ig rg lg sz (PM τ φ υ B [49, 75, 79] kd ig rg lg (fun r ig' lg' => ∃ z : Int32, r = some (.int z) ∧ True)) := by
  refine MC.of (own := RX12) (by decide +kernel) rfl (Nat.le_of_ble_eq_true rfl) ?_
  intro p e s m args below meth c ls C hr hlk hnm hw hsz hl
  have hx := C.1.1
  have hb := C.1.2.1
  have hown := C.1.2.2.2.1
  have hts := C.1.2.2.2.2
  have hl : lv_has ls 3 [(0, .ref (B + 49))] := hl
  have hF : Ft B [49, 75, 79] ig lg ig lg := Ft.rf
  have hsh := hI.sh
  have hrm := hI.rm
  refine lv_aload_n hx hb dX12_check_0 rfl (lv_at hl 0 rfl) ?_
  refine lv_iconst (v := 0) hx hb dX12_check_1 (by decide) (ti_c 0 (by decide) fun z1 hz1 => ?_)
  refine r_puti C hw (hsh 49 _ rfl) fl_X12_1 rfl rfl rfl dX12_check_2 (fun H locs hH hw => ?_)
  obtain ⟨ig2, eig2⟩ : ∃ f, f = up2 ig (B + 49) 0 z1 := ⟨_, rfl⟩
  rw [← eig2] at hw
  have hF : Ft B [49, 75, 79] ig lg ig2 lg := by rw [eig2]; exact hF.pi (by decide)
  have hI : IM τ φ υ B kd ig2 rg := by rw [eig2]; exact hI.pi (by decide) (show okR none _ from trivial)
  have wig2_49_37 : (ig2 (B + 49) 37).toInt = (ig (B + 49) 37).toInt := by rw [eig2, up2_j (by decide)]
  refine lv_aload_n hx hb dX12_check_5 rfl (lv_at hl 0 rfl) ?_
  refine lv_iconst (v := 0) hx hb dX12_check_6 (by decide) (ti_c 0 (by decide) fun z3 hz3 => ?_)
  refine r_puti C hw (hsh 49 _ rfl) fl_X12_314 rfl rfl rfl dX12_check_7 (fun H locs hH hw => ?_)
  obtain ⟨ig4, eig4⟩ : ∃ f, f = up2 ig2 (B + 49) 37 z3 := ⟨_, rfl⟩
  rw [← eig4] at hw
  have hF : Ft B [49, 75, 79] ig lg ig4 lg := by rw [eig4]; exact hF.pi (by decide)
  have hI : IM τ φ υ B kd ig4 rg := by rw [eig4]; exact hI.pi (by decide) (show okR (some (0, 100000)) _ from ⟨by show (0 : Int) ≤ _; omega, by show _ ≤ (100000 : Int); omega⟩)
  have wig4 : (ig4 (B + 49) 37).toInt = z3.toInt := by rw [eig4, up2_eq]
  refine lv_iconst (v := 0) hx hb dX12_check_10 (by decide) (ti_c 0 (by decide) fun z5 hz5 => ?_)
  refine lv_istore_n (lv' := [(1, .int z5), (0, .ref (B + 49))]) hx hb dX12_check_11 rfl hl (by decide) rfl (fun ls hl => ?_)
  have L12 : ∀ (n : Nat) (ls : Array Slot) (H : Heap) (locs : List Loc) (ig7 : sI) (lg8 : sG) (v6 : Int32), lv_has ls 3 [(1, .int v6), (0, .ref (B + 49))] → WD B D cA s.heap kd ig7 rg lg8 H locs → IM τ φ υ B kd ig7 rg → Ft B [49, 75, 79] ig lg ig7 lg8 → (0 ≤ v6.toInt) → (v6.toInt ≤ 288) → ((ig7 (B + 49) 37).toInt ≤ 300 * v6.toInt + 0) → 288 - v6.toInt < (n : Int) → W p l e (rL 2 0 0) s m args below meth c H locs 0 0 (MQ below (QcW B D cA (PM τ φ υ B [49, 75, 79] kd ig rg lg (fun r ig' lg' => ∃ z : Int32, r = some (.int z) ∧ True))) args s 0 0 (fun q => B ≤ q)) (F0 m 12 ls []) := by
    intro n12
    induction n12 with
    | zero => intro ls H locs ig7 lg8 v6 hl hw hI hF g12_0 g12_1 g12_2 hmu; exact absurd hmu (by omega)
    | succ n12 ih12 =>
      intro ls H locs ig7 lg8 v6 hl hw hI hF g12_0 g12_1 g12_2 hmu
      refine lv_iload_n hx hb dX12_check_12 rfl (lv_at hl 0 rfl) ?_
      refine lv_sipush (v := 288) hx hb dX12_check_13 (by decide) (ti_c 288 (by decide) fun z9 hz9 => ?_)
      refine b_ge (tgt := 149) hx hb dX12_check_16 (by decide) (fun c16 => ?_) (fun c16 => ?_)
      · refine lv_aload_n hx hb dX12_check_149 rfl (lv_at hl 1 rfl) ?_
        refine r_get C hw (hsh 49 _ rfl) fl_X12_314 (oV_i rfl) dX12_check_150 (ti_c (ig7 (B + 49) 37).toInt rfl fun z10 hz10 => ?_)
        have k11 : 0 ≤ (ig7 (B + 49) 37).toInt ∧ (ig7 (B + 49) 37).toInt ≤ 100000 := hI.i 49 37 (by decide) (by decide)
        exact r_iret C hw hr hlk rfl (Nat.le_of_ble_eq_true rfl) (Nat.le_of_ble_eq_true rfl) dX12_check_153 ⟨rfl, rfl, hI, hF, ⟨_, rfl, trivial⟩⟩
      · refine lv_aload_n hx hb dX12_check_19 rfl (lv_at hl 1 rfl) ?_
        refine lv_iload_n hx hb dX12_check_20 rfl (lv_at hl 0 rfl) ?_
        refine r_callV (As := [.int v6]) (rest := []) C hw (t_X12_oddBy l B D cA kd ig7 rg lg8 _ v6 (by omega) hI) sv_X12_327 (hsh 49 _ rfl) rfl hl.1 rfl (Nat.le_of_ble_eq_true rfl) ⟨Nat.le_of_ble_eq_true rfl, Nat.le_of_ble_eq_true rfl⟩ ⟨Nat.le_of_ble_eq_true rfl, Nat.le_of_ble_eq_true rfl⟩ dX12_check_21 (fun r16 kd12 ig13 rg14 lg15 H locs hw hH hp17 => ?_)
        obtain ⟨rfl, rfl, rfl, rfl, hzhp17, hrhp17⟩ := hp17
        obtain ⟨z18, rfl, hz18⟩ := hrhp17
        refine lv_istore_n (lv' := [(2, .int z18), (1, .int v6), (0, .ref (B + 49))]) hx hb dX12_check_24 rfl hl (by decide) rfl (fun ls hl => ?_)
        refine lv_iload_n hx hb dX12_check_25 rfl (lv_at hl 0 rfl) ?_
        have J50 : ∀ (ls : Array Slot) (H : Heap) (locs : List Loc) (ig19 : sI) (lg20 : sG) , lv_has ls 3 [(1, .int v6), (0, .ref (B + 49))] → WD B D cA s.heap kd ig19 rg lg20 H locs → IM τ φ υ B kd ig19 rg → Ft B [49, 75, 79] ig lg ig19 lg20 → ((ig19 (B + 49) 37).toInt ≤ 300 * v6.toInt + 1) → W p l e (rL 2 0 0) s m args below meth c H locs 0 0 (MQ below (QcW B D cA (PM τ φ υ B [49, 75, 79] kd ig rg lg (fun r ig' lg' => ∃ z : Int32, r = some (.int z) ∧ True))) args s 0 0 (fun q => B ≤ q)) (F0 m 50 ls []) := by
          intro ls H locs ig19 lg20 hl hw hI hF g50_0
          refine lv_aload_n hx hb dX12_check_50 rfl (lv_at hl 1 rfl) ?_
          refine r_get C hw (hsh 49 _ rfl) fl_X12_80 (oV_r rfl (hrm (49, 15, 59) (by decide))) dX12_check_51 ?_
          refine lv_iload_n hx hb dX12_check_54 rfl (lv_at hl 0 rfl) ?_
          refine r_iald C hw (hsh 59 _ rfl) (by omega) (by omega) dX12_check_55 (ti_c (ig19 (B + 59) v6.toInt.toNat).toInt rfl fun z21 hz21 => ?_)
          rw [Ft.i hF 59 _ (by decide)] at hz21
          refine lv_iconst (v := 2) hx hb dX12_check_56 (by decide) (ti_c 2 (by decide) fun z23 hz23 => ?_)
          have J65 : ∀ (ls : Array Slot) (H : Heap) (locs : List Loc) (ig24 : sI) (lg25 : sG) , lv_has ls 3 [(1, .int v6), (0, .ref (B + 49))] → WD B D cA s.heap kd ig24 rg lg25 H locs → IM τ φ υ B kd ig24 rg → Ft B [49, 75, 79] ig lg ig24 lg25 → ((ig24 (B + 49) 37).toInt ≤ 300 * v6.toInt + 241) → W p l e (rL 2 0 0) s m args below meth c H locs 0 0 (MQ below (QcW B D cA (PM τ φ υ B [49, 75, 79] kd ig rg lg (fun r ig' lg' => ∃ z : Int32, r = some (.int z) ∧ True))) args s 0 0 (fun q => B ≤ q)) (F0 m 65 ls []) := by
            intro ls H locs ig24 lg25 hl hw hI hF g65_0
            refine lv_aload_n hx hb dX12_check_65 rfl (lv_at hl 1 rfl) ?_
            refine r_get C hw (hsh 49 _ rfl) fl_X12_114 (oV_r rfl (hrm (49, 27, 70) (by decide))) dX12_check_66 ?_
            refine lv_iload_n hx hb dX12_check_69 rfl (lv_at hl 0 rfl) ?_
            refine r_zald C hw (hsh 70 _ rfl) (by omega) (by omega) dX12_check_70 (ti_c (ig24 (B + 70) v6.toInt.toNat).toInt rfl fun z26 hz26 => ?_)
            have J93 : ∀ (ls : Array Slot) (H : Heap) (locs : List Loc) (ig28 : sI) (lg29 : sG) , lv_has ls 3 [(1, .int v6), (0, .ref (B + 49))] → WD B D cA s.heap kd ig28 rg lg29 H locs → IM τ φ υ B kd ig28 rg → Ft B [49, 75, 79] ig lg ig28 lg29 → ((ig28 (B + 49) 37).toInt ≤ 300 * v6.toInt + 242) → W p l e (rL 2 0 0) s m args below meth c H locs 0 0 (MQ below (QcW B D cA (PM τ φ υ B [49, 75, 79] kd ig rg lg (fun r ig' lg' => ∃ z : Int32, r = some (.int z) ∧ True))) args s 0 0 (fun q => B ≤ q)) (F0 m 93 ls []) := by
              intro ls H locs ig28 lg29 hl hw hI hF g93_0
              refine lv_aload_n hx hb dX12_check_93 rfl (lv_at hl 1 rfl) ?_
              refine r_get C hw (hsh 49 _ rfl) fl_X12_80 (oV_r rfl (hrm (49, 15, 59) (by decide))) dX12_check_94 ?_
              refine lv_iload_n hx hb dX12_check_97 rfl (lv_at hl 0 rfl) ?_
              refine r_iald C hw (hsh 59 _ rfl) (by omega) (by omega) dX12_check_98 (ti_c (ig28 (B + 59) v6.toInt.toNat).toInt rfl fun z30 hz30 => ?_)
              rw [Ft.i hF 59 _ (by decide)] at hz30
              have J126 : ∀ (ls : Array Slot) (H : Heap) (locs : List Loc) (ig32 : sI) (lg33 : sG) , lv_has ls 3 [(1, .int v6), (0, .ref (B + 49))] → WD B D cA s.heap kd ig32 rg lg33 H locs → IM τ φ υ B kd ig32 rg → Ft B [49, 75, 79] ig lg ig32 lg33 → ((ig32 (B + 49) 37).toInt ≤ 300 * v6.toInt + 243) → W p l e (rL 2 0 0) s m args below meth c H locs 0 0 (MQ below (QcW B D cA (PM τ φ υ B [49, 75, 79] kd ig rg lg (fun r ig' lg' => ∃ z : Int32, r = some (.int z) ∧ True))) args s 0 0 (fun q => B ≤ q)) (F0 m 126 ls []) := by
                intro ls H locs ig32 lg33 hl hw hI hF g126_0
                refine lv_aload_n hx hb dX12_check_126 rfl (lv_at hl 1 rfl) ?_
                refine r_get C hw (hsh 49 _ rfl) fl_X12_111 (oV_r rfl (hrm (49, 26, 69) (by decide))) dX12_check_127 ?_
                refine lv_iload_n hx hb dX12_check_130 rfl (lv_at hl 0 rfl) ?_
                refine r_zald C hw (hsh 69 _ rfl) (by omega) (by omega) dX12_check_131 (ti_c (ig32 (B + 69) v6.toInt.toNat).toInt rfl fun z34 hz34 => ?_)
                have J143 : ∀ (ls : Array Slot) (H : Heap) (locs : List Loc) (ig36 : sI) (lg37 : sG) , lv_has ls 3 [(1, .int v6), (0, .ref (B + 49))] → WD B D cA s.heap kd ig36 rg lg37 H locs → IM τ φ υ B kd ig36 rg → Ft B [49, 75, 79] ig lg ig36 lg37 → ((ig36 (B + 49) 37).toInt ≤ 300 * v6.toInt + 244) → W p l e (rL 2 0 0) s m args below meth c H locs 0 0 (MQ below (QcW B D cA (PM τ φ υ B [49, 75, 79] kd ig rg lg (fun r ig' lg' => ∃ z : Int32, r = some (.int z) ∧ True))) args s 0 0 (fun q => B ≤ q)) (F0 m 143 ls []) := by
                  intro ls H locs ig36 lg37 hl hw hI hF g143_0
                  refine tc_inc hx hb dX12_check_143 hl (k := 0) rfl (by decide) (by decide) (fun z38 hz38 ls hl => ?_)
                  first | replace hz38 := hz38 (by omega) | clear hz38
                  have hl : lv_has ls 3 [(1, .int z38), (0, .ref (B + 49))] := hl
                  refine lv_goto (tgt := 12) hx hb dX12_check_146 (by decide) ?_
                  exact ih12 ls H locs ig36 lg37 z38 (lv_sub hl [0, 1] rfl) hw hI hF (by omega) (by omega) (by omega) (by omega)
                refine z_eq (tgt := 143) hx hb dX12_check_132 (by decide) (fun c132 => ?_) (fun c132 => ?_)
                · exact J143 ls H locs ig32 lg33 (lv_sub hl [0, 1] rfl) hw hI hF (by omega)
                · refine lv_aload_n hx hb dX12_check_135 rfl (lv_at hl 1 rfl) ?_
                  refine lv_bipush (v := 6) hx hb dX12_check_136 (by decide) (ti_c 6 (by decide) fun z39 hz39 => ?_)
                  refine lv_iload_n hx hb dX12_check_138 rfl (lv_at hl 0 rfl) ?_
                  refine lv_iconst (v := (-1)) hx hb dX12_check_139 (by decide) (ti_c (-1) (by decide) fun z40 hz40 => ?_)
                  refine r_callV (As := [.int z39, .int v6, .int z40]) (rest := []) C hw (t_X12_finds l B D cA kd ig32 rg lg33 _ z39 v6 z40 (by omega) hI) sv_X12_324 (hsh 49 _ rfl) rfl hl.1 rfl (Nat.le_of_ble_eq_true rfl) ⟨Nat.le_of_ble_eq_true rfl, Nat.le_of_ble_eq_true rfl⟩ ⟨Nat.le_of_ble_eq_true rfl, Nat.le_of_ble_eq_true rfl⟩ dX12_check_140 (fun r45 kd41 ig42 rg43 lg44 H locs hw hH hp46 => ?_)
                  obtain ⟨rfl, rfl, hI, hchp46, hrhp46⟩ := hp46
                  have hF : Ft B [49, 75, 79] ig lg ig42 lg44 := Ft.tr hF hchp46 (by decide) (by decide)
                  obtain ⟨rfl, hvhp46⟩ := hrhp46
                  exact J143 ls H locs ig42 lg44 (lv_sub hl [0, 1] rfl) hw hI hF (by omega)
              refine z_eq (tgt := 126) hx hb dX12_check_99 (by decide) (fun c99 => ?_) (fun c99 => ?_)
              · exact J126 ls H locs ig28 lg29 (lv_sub hl [0, 1] rfl) hw hI hF (by omega)
              · refine lv_aload_n hx hb dX12_check_102 rfl (lv_at hl 1 rfl) ?_
                refine lv_iload_n hx hb dX12_check_103 rfl (lv_at hl 0 rfl) ?_
                refine r_callV (As := [.int v6]) (rest := []) C hw (t_X12_readers l B D cA kd ig28 rg lg29 _ v6 (by omega) hI) sv_X12_336 (hsh 49 _ rfl) rfl hl.1 rfl (Nat.le_of_ble_eq_true rfl) ⟨Nat.le_of_ble_eq_true rfl, Nat.le_of_ble_eq_true rfl⟩ ⟨Nat.le_of_ble_eq_true rfl, Nat.le_of_ble_eq_true rfl⟩ dX12_check_104 (fun r51 kd47 ig48 rg49 lg50 H locs hw hH hp52 => ?_)
                obtain ⟨rfl, rfl, rfl, rfl, hzhp52, hrhp52⟩ := hp52
                obtain ⟨z53, rfl, hz53⟩ := hrhp52
                refine z_ne (tgt := 126) hx hb dX12_check_107 (by decide) (fun c107 => ?_) (fun c107 => ?_)
                · exact J126 ls H locs ig28 lg29 (lv_sub hl [0, 1] rfl) hw hI hF (by omega)
                · refine lv_aload_n hx hb dX12_check_110 rfl (lv_at hl 1 rfl) ?_
                  refine r_get C hw (hsh 49 _ rfl) fl_X12_89 (oV_r rfl (hrm (49, 18, 62) (by decide))) dX12_check_111 ?_
                  refine lv_iload_n hx hb dX12_check_114 rfl (lv_at hl 0 rfl) ?_
                  refine r_zald C hw (hsh 62 _ rfl) (by omega) (by omega) dX12_check_115 (ti_c (ig28 (B + 62) v6.toInt.toNat).toInt rfl fun z54 hz54 => ?_)
                  refine z_ne (tgt := 126) hx hb dX12_check_116 (by decide) (fun c116 => ?_) (fun c116 => ?_)
                  · exact J126 ls H locs ig28 lg29 (lv_sub hl [0, 1] rfl) hw hI hF (by omega)
                  · refine lv_aload_n hx hb dX12_check_119 rfl (lv_at hl 1 rfl) ?_
                    refine lv_iconst (v := 5) hx hb dX12_check_120 (by decide) (ti_c 5 (by decide) fun z56 hz56 => ?_)
                    refine lv_iload_n hx hb dX12_check_121 rfl (lv_at hl 0 rfl) ?_
                    refine lv_iconst (v := (-1)) hx hb dX12_check_122 (by decide) (ti_c (-1) (by decide) fun z57 hz57 => ?_)
                    refine r_callV (As := [.int z56, .int v6, .int z57]) (rest := []) C hw (t_X12_finds l B D cA kd ig28 rg lg29 _ z56 v6 z57 (by omega) hI) sv_X12_324 (hsh 49 _ rfl) rfl hl.1 rfl (Nat.le_of_ble_eq_true rfl) ⟨Nat.le_of_ble_eq_true rfl, Nat.le_of_ble_eq_true rfl⟩ ⟨Nat.le_of_ble_eq_true rfl, Nat.le_of_ble_eq_true rfl⟩ dX12_check_123 (fun r62 kd58 ig59 rg60 lg61 H locs hw hH hp63 => ?_)
                    obtain ⟨rfl, rfl, hI, hchp63, hrhp63⟩ := hp63
                    have hF : Ft B [49, 75, 79] ig lg ig59 lg61 := Ft.tr hF hchp63 (by decide) (by decide)
                    obtain ⟨rfl, hvhp63⟩ := hrhp63
                    exact J126 ls H locs ig59 lg61 (lv_sub hl [0, 1] rfl) hw hI hF (by omega)
            refine z_eq (tgt := 93) hx hb dX12_check_71 (by decide) (fun c71 => ?_) (fun c71 => ?_)
            · exact J93 ls H locs ig24 lg25 (lv_sub hl [0, 1] rfl) hw hI hF (by omega)
            · refine lv_aload_n hx hb dX12_check_74 rfl (lv_at hl 1 rfl) ?_
              refine lv_iload_n hx hb dX12_check_75 rfl (lv_at hl 0 rfl) ?_
              refine r_callV (As := [.int v6]) (rest := []) C hw (t_X12_leastTwice l B D cA kd ig24 rg lg25 _ v6 (by omega) hI) sv_X12_333 (hsh 49 _ rfl) rfl hl.1 rfl (Nat.le_of_ble_eq_true rfl) ⟨Nat.le_of_ble_eq_true rfl, Nat.le_of_ble_eq_true rfl⟩ ⟨Nat.le_of_ble_eq_true rfl, Nat.le_of_ble_eq_true rfl⟩ dX12_check_76 (fun r68 kd64 ig65 rg66 lg67 H locs hw hH hp69 => ?_)
              obtain ⟨rfl, rfl, rfl, rfl, hzhp69, hrhp69⟩ := hp69
              obtain ⟨z70, rfl, hz70⟩ := hrhp69
              refine z_lt (tgt := 93) hx hb dX12_check_79 (by decide) (fun c79 => ?_) (fun c79 => ?_)
              · exact J93 ls H locs ig24 lg25 (lv_sub hl [0, 1] rfl) hw hI hF (by omega)
              · refine lv_aload_n hx hb dX12_check_82 rfl (lv_at hl 1 rfl) ?_
                refine lv_iconst (v := 4) hx hb dX12_check_83 (by decide) (ti_c 4 (by decide) fun z71 hz71 => ?_)
                refine lv_iload_n hx hb dX12_check_84 rfl (lv_at hl 0 rfl) ?_
                refine lv_aload_n hx hb dX12_check_85 rfl (lv_at hl 1 rfl) ?_
                refine lv_iload_n hx hb dX12_check_86 rfl (lv_at hl 0 rfl) ?_
                refine r_callV (As := [.int v6]) (rest := [.int v6, .int z71, .ref (B + 49)]) C hw (t_X12_leastTwice l B D cA kd ig24 rg lg25 _ v6 (by omega) hI) sv_X12_333 (hsh 49 _ rfl) rfl hl.1 rfl (Nat.le_of_ble_eq_true rfl) ⟨Nat.le_of_ble_eq_true rfl, Nat.le_of_ble_eq_true rfl⟩ ⟨Nat.le_of_ble_eq_true rfl, Nat.le_of_ble_eq_true rfl⟩ dX12_check_87 (fun r76 kd72 ig73 rg74 lg75 H locs hw hH hp77 => ?_)
                obtain ⟨rfl, rfl, rfl, rfl, hzhp77, hrhp77⟩ := hp77
                obtain ⟨z78, rfl, hz78⟩ := hrhp77
                refine r_callV (As := [.int z71, .int v6, .int z78]) (rest := []) C hw (t_X12_finds l B D cA kd ig24 rg lg25 _ z71 v6 z78 (by omega) hI) sv_X12_324 (hsh 49 _ rfl) rfl hl.1 rfl (Nat.le_of_ble_eq_true rfl) ⟨Nat.le_of_ble_eq_true rfl, Nat.le_of_ble_eq_true rfl⟩ ⟨Nat.le_of_ble_eq_true rfl, Nat.le_of_ble_eq_true rfl⟩ dX12_check_90 (fun r83 kd79 ig80 rg81 lg82 H locs hw hH hp84 => ?_)
                obtain ⟨rfl, rfl, hI, hchp84, hrhp84⟩ := hp84
                have hF : Ft B [49, 75, 79] ig lg ig80 lg82 := Ft.tr hF hchp84 (by decide) (by decide)
                obtain ⟨rfl, hvhp84⟩ := hrhp84
                exact J93 ls H locs ig80 lg82 (lv_sub hl [0, 1] rfl) hw hI hF (by omega)
          refine b_ne (tgt := 65) hx hb dX12_check_57 (by decide) (fun c57 => ?_) (fun c57 => ?_)
          · exact J65 ls H locs ig19 lg20 (lv_sub hl [0, 1] rfl) hw hI hF (by omega)
          · refine lv_aload_n hx hb dX12_check_60 rfl (lv_at hl 1 rfl) ?_
            refine lv_iload_n hx hb dX12_check_61 rfl (lv_at hl 0 rfl) ?_
            refine r_callV (As := [.int v6]) (rest := []) C hw (t_X12_findShort l B D cA kd ig19 rg lg20 _ v6 (by omega) (by rw [Ft.i hF 59 _ (by decide)]; omega) (by omega) hI) sv_X12_330 (hsh 49 _ rfl) rfl hl.1 rfl (Nat.le_of_ble_eq_true rfl) ⟨Nat.le_of_ble_eq_true rfl, Nat.le_of_ble_eq_true rfl⟩ ⟨Nat.le_of_ble_eq_true rfl, Nat.le_of_ble_eq_true rfl⟩ dX12_check_62 (fun r89 kd85 ig86 rg87 lg88 H locs hw hH hp90 => ?_)
            obtain ⟨rfl, rfl, hI, hchp90, hrhp90⟩ := hp90
            have hF : Ft B [49, 75, 79] ig lg ig86 lg88 := Ft.tr hF hchp90 (by decide) (by decide)
            obtain ⟨rfl, hvhp90⟩ := hrhp90
            exact J65 ls H locs ig86 lg88 (lv_sub hl [0, 1] rfl) hw hI hF (by omega)
        refine z_lt (tgt := 50) hx hb dX12_check_26 (by decide) (fun c26 => ?_) (fun c26 => ?_)
        · exact J50 ls H locs ig7 lg8 (lv_sub hl [1, 2] rfl) hw hI hF (by omega)
        · refine lv_aload_n hx hb dX12_check_29 rfl (lv_at hl 2 rfl) ?_
          refine lv_aload_n hx hb dX12_check_30 rfl (lv_at hl 2 rfl) ?_
          refine r_get C hw (hsh 49 _ rfl) fl_X12_80 (oV_r rfl (hrm (49, 15, 59) (by decide))) dX12_check_31 ?_
          refine lv_iload_n hx hb dX12_check_34 rfl (lv_at hl 1 rfl) ?_
          refine r_iald C hw (hsh 59 _ rfl) (by omega) (by omega) dX12_check_35 (ti_c (ig7 (B + 59) v6.toInt.toNat).toInt rfl fun z91 hz91 => ?_)
          rw [Ft.i hF 59 _ (by decide)] at hz91
          refine lv_iconst (v := 2) hx hb dX12_check_36 (by decide) (ti_c 2 (by decide) fun z93 hz93 => ?_)
          have J45 : ∀ (ls : Array Slot) (H : Heap) (locs : List Loc) (ig95 : sI) (lg96 : sG) (u94 : Int32), lv_has ls 3 [(2, .int z18), (1, .int v6), (0, .ref (B + 49))] → WD B D cA s.heap kd ig95 rg lg96 H locs → IM τ φ υ B kd ig95 rg → Ft B [49, 75, 79] ig lg ig95 lg96 → ((ig95 (B + 49) 37).toInt ≤ 300 * v6.toInt + 0) → W p l e (rL 2 0 0) s m args below meth c H locs 0 0 (MQ below (QcW B D cA (PM τ φ υ B [49, 75, 79] kd ig rg lg (fun r ig' lg' => ∃ z : Int32, r = some (.int z) ∧ True))) args s 0 0 (fun q => B ≤ q)) (F0 m 45 ls [.int u94, .ref (B + 49)]) := by
            intro ls H locs ig95 lg96 u94 hl hw hI hF g45_0
            refine lv_iload_n hx hb dX12_check_45 rfl (lv_at hl 1 rfl) ?_
            refine lv_iload_n hx hb dX12_check_46 rfl (lv_at hl 0 rfl) ?_
            refine r_callV (As := [.int u94, .int v6, .int z18]) (rest := []) C hw (t_X12_finds l B D cA kd ig95 rg lg96 _ u94 v6 z18 (by omega) hI) sv_X12_324 (hsh 49 _ rfl) rfl hl.1 rfl (Nat.le_of_ble_eq_true rfl) ⟨Nat.le_of_ble_eq_true rfl, Nat.le_of_ble_eq_true rfl⟩ ⟨Nat.le_of_ble_eq_true rfl, Nat.le_of_ble_eq_true rfl⟩ dX12_check_47 (fun r101 kd97 ig98 rg99 lg100 H locs hw hH hp102 => ?_)
            obtain ⟨rfl, rfl, hI, hchp102, hrhp102⟩ := hp102
            have hF : Ft B [49, 75, 79] ig lg ig98 lg100 := Ft.tr hF hchp102 (by decide) (by decide)
            obtain ⟨rfl, hvhp102⟩ := hrhp102
            exact J50 ls H locs ig98 lg100 (lv_sub hl [1, 2] rfl) hw hI hF (by omega)
          refine b_ne (tgt := 44) hx hb dX12_check_37 (by decide) (fun c37 => ?_) (fun c37 => ?_)
          · refine lv_iconst (v := 2) hx hb dX12_check_44 (by decide) (ti_c 2 (by decide) fun z103 hz103 => ?_)
            exact J45 ls H locs ig7 lg8 z103 (lv_sub hl [0, 1, 2] rfl) hw hI hF (by omega)
          · refine lv_iconst (v := 1) hx hb dX12_check_40 (by decide) (ti_c 1 (by decide) fun z104 hz104 => ?_)
            refine lv_goto (tgt := 45) hx hb dX12_check_41 (by decide) ?_
            exact J45 ls H locs ig7 lg8 z104 (lv_sub hl [0, 1, 2] rfl) hw hI hF (by omega)
  exact L12 ((288 - z5.toInt) + 1).toNat ls H locs ig4 lg z5 (lv_sub hl [0, 1] rfl) hw hI hF (by omega) (by omega) (by omega) (by omega)

set_option maxHeartbeats 4000000 in
set_option maxRecDepth 100000 in
theorem t_X12_sumAt {υ : Option Int} {τ : Tp} {φ : Option Int} (l : Launch) (B : Nat) (D : va_G) (cA : Nat → ClassId) (kd : sK) (ig : sI) (rg : sR) (lg : sG) (sz : Nat) (x : Int32) (y : Int32) (hx0 : 0 ≤ x.toInt ∧ x.toInt < 288) (hI : IM τ φ υ B kd ig rg) : MC l B D cA yX12_sumAt cX12_sumAt 5 (some .int) (rL 0 0 0) [.ref (B + 49), .int x, .int y] kd ig rg lg sz (Pu kd ig rg lg sz (fun r => ∃ z : Int32, r = some (.int z) ∧ (z.toInt = -1 ∨ (0 ≤ z.toInt ∧ z.toInt < (ig (B + 58) x.toInt.toNat).toInt ∧ (ig (B + 54) (120 * x.toInt + z.toInt).toNat).toInt = 2)))) := by
  refine MC.of (own := RX12) (by decide +kernel) rfl (Nat.le_of_ble_eq_true rfl) ?_
  intro p e s m args below meth c ls C hr hlk hnm hw hsz hl
  have hx := C.1.1
  have hb := C.1.2.1
  have hown := C.1.2.2.2.1
  have hts := C.1.2.2.2.2
  have hl : lv_has ls 5 [(0, .ref (B + 49)), (1, .int x), (2, .int y)] := hl
  have hsh := hI.sh
  have hrm := hI.rm
  refine lv_iconst (v := 0) hx hb dX12_sumAt_0 (by decide) (ti_c 0 (by decide) fun z1 hz1 => ?_)
  refine lv_istore_n (lv' := [(3, .int z1), (0, .ref (B + 49)), (1, .int x), (2, .int y)]) hx hb dX12_sumAt_1 rfl hl (by decide) rfl (fun ls hl => ?_)
  refine lv_iconst (v := 0) hx hb dX12_sumAt_2 (by decide) (ti_c 0 (by decide) fun z2 hz2 => ?_)
  refine lv_istore (lv' := [(4, .int z2), (3, .int z1), (0, .ref (B + 49)), (1, .int x), (2, .int y)]) hx hb dX12_sumAt_3 hl (by decide) rfl (fun ls hl => ?_)
  have L5 : ∀ (n : Nat) (ls : Array Slot) (H : Heap) (locs : List Loc) (v3 : Int32) (v4 : Int32), lv_has ls 5 [(4, .int v3), (3, .int v4), (0, .ref (B + 49)), (1, .int x), (2, .int y)] → WD B D cA s.heap kd ig rg lg H locs → H.size = sz → (0 ≤ v3.toInt) → (v3.toInt ≤ 120) → 120 - v3.toInt < (n : Int) → W p l e (rL 0 0 0) s m args below meth c H locs 0 0 (MQ below (QcW B D cA (Pu kd ig rg lg sz (fun r => ∃ z : Int32, r = some (.int z) ∧ (z.toInt = -1 ∨ (0 ≤ z.toInt ∧ z.toInt < (ig (B + 58) x.toInt.toNat).toInt ∧ (ig (B + 54) (120 * x.toInt + z.toInt).toNat).toInt = 2))))) args s 0 0 (fun q => B ≤ q)) (F0 m 5 ls []) := by
    intro n5
    induction n5 with
    | zero => intro ls H locs v3 v4 hl hw hsz g5_0 g5_1 hmu; exact absurd hmu (by omega)
    | succ n5 ih5 =>
      intro ls H locs v3 v4 hl hw hsz g5_0 g5_1 hmu
      refine lv_iload hx hb dX12_sumAt_5 (lv_at hl 0 rfl) ?_
      refine lv_aload_n hx hb dX12_sumAt_7 rfl (lv_at hl 2 rfl) ?_
      refine r_get C hw (hsh 49 _ rfl) fl_X12_77 (oV_r rfl (hrm (49, 13, 58) (by decide))) dX12_sumAt_8 ?_
      refine lv_iload_n hx hb dX12_sumAt_11 rfl (lv_at hl 3 rfl) ?_
      refine r_iald C hw (hsh 58 _ rfl) (by omega) (by omega) dX12_sumAt_12 (ti_c (ig (B + 58) x.toInt.toNat).toInt rfl fun z5 hz5 => ?_)
      have k6 := hI.its (j := (x.toInt.toNat)) (by omega)
      refine b_ge (tgt := 49) hx hb dX12_sumAt_13 (by decide) (fun c13 => ?_) (fun c13 => ?_)
      · refine lv_iconst (v := (-1)) hx hb dX12_sumAt_49 (by decide) (ti_c (-1) (by decide) fun z7 hz7 => ?_)
        exact r_iret C hw hr hlk rfl (Nat.le_of_ble_eq_true rfl) (Nat.le_of_ble_eq_true rfl) dX12_sumAt_50 ⟨rfl, rfl, rfl, rfl, hsz, ⟨_, rfl, Or.inl (by omega)⟩⟩
      · refine lv_aload_n hx hb dX12_sumAt_16 rfl (lv_at hl 2 rfl) ?_
        refine r_get C hw (hsh 49 _ rfl) fl_X12_65 (oV_r rfl (hrm (49, 9, 54) (by decide))) dX12_sumAt_17 ?_
        refine lv_bipush (v := 120) hx hb dX12_sumAt_20 (by decide) (ti_c 120 (by decide) fun z8 hz8 => ?_)
        refine lv_iload_n hx hb dX12_sumAt_22 rfl (lv_at hl 3 rfl) ?_
        refine lv_imul hx hb dX12_sumAt_23 (tc_mulL 120 hz8 fun z9 hz9 => ?_)
        first | replace hz9 := hz9 (by omega) | clear hz9
        refine lv_iload hx hb dX12_sumAt_24 (lv_at hl 0 rfl) ?_
        refine lv_iadd hx hb dX12_sumAt_26 (tc_add fun z10 hz10 => ?_)
        first | replace hz10 := hz10 (by omega) | clear hz10
        refine r_iald C hw (hsh 54 _ rfl) (by omega) (by omega) dX12_sumAt_27 (ti_c (ig (B + 54) z10.toInt.toNat).toInt rfl fun z11 hz11 => ?_)
        refine lv_iconst (v := 2) hx hb dX12_sumAt_28 (by decide) (ti_c 2 (by decide) fun z13 hz13 => ?_)
        refine b_ne (tgt := 43) hx hb dX12_sumAt_29 (by decide) (fun c29 => ?_) (fun c29 => ?_)
        · refine tc_inc hx hb dX12_sumAt_43 hl (k := 0) rfl (by decide) (by decide) (fun z14 hz14 ls hl => ?_)
          first | replace hz14 := hz14 (by omega) | clear hz14
          have hl : lv_has ls 5 [(4, .int z14), (3, .int v4), (0, .ref (B + 49)), (1, .int x), (2, .int y)] := hl
          refine lv_goto (tgt := 5) hx hb dX12_sumAt_46 (by decide) ?_
          exact ih5 ls H locs z14 v4 (lv_sub hl [0, 1, 2, 3, 4] rfl) hw hsz (by omega) (by omega) (by omega)
        · refine lv_iload_n hx hb dX12_sumAt_32 rfl (lv_at hl 1 rfl) ?_
          refine lv_iload_n hx hb dX12_sumAt_33 rfl (lv_at hl 4 rfl) ?_
          refine b_ne (tgt := 40) hx hb dX12_sumAt_34 (by decide) (fun c34 => ?_) (fun c34 => ?_)
          · refine tc_inc hx hb dX12_sumAt_40 hl (k := 1) rfl (by decide) (by decide) (fun z15 hz15 ls hl => ?_)
            first | replace hz15 := hz15 (by omega) | clear hz15
            have hl : lv_has ls 5 [(3, .int z15), (4, .int v3), (0, .ref (B + 49)), (1, .int x), (2, .int y)] := hl
            refine tc_inc hx hb dX12_sumAt_43 hl (k := 1) rfl (by decide) (by decide) (fun z16 hz16 ls hl => ?_)
            first | replace hz16 := hz16 (by omega) | clear hz16
            have hl : lv_has ls 5 [(4, .int z16), (3, .int z15), (0, .ref (B + 49)), (1, .int x), (2, .int y)] := hl
            refine lv_goto (tgt := 5) hx hb dX12_sumAt_46 (by decide) ?_
            exact ih5 ls H locs z16 z15 (lv_sub hl [0, 1, 2, 3, 4] rfl) hw hsz (by omega) (by omega) (by omega)
          · refine lv_iload hx hb dX12_sumAt_37 (lv_at hl 0 rfl) ?_
            exact r_iret C hw hr hlk rfl (Nat.le_of_ble_eq_true rfl) (Nat.le_of_ble_eq_true rfl) dX12_sumAt_39 ⟨rfl, rfl, rfl, rfl, hsz, ⟨_, rfl, Or.inr ⟨by omega, by omega, by rw [show (120 * x.toInt + v3.toInt).toNat = z10.toInt.toNat by omega]; omega⟩⟩⟩
  exact L5 ((120 - z2.toInt) + 1).toNat ls s.heap [] z2 z1 (lv_sub hl [0, 1, 2, 3, 4] rfl) hw hsz (by omega) (by omega) (by omega)
