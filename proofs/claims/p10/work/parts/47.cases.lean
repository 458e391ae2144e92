/-! the law's sixteen cases: one call on each side -/
def lgp (x y : Int32) : Int64 := (x.toInt64 <<< ((32 : Int32).toInt64 &&& 63)) ||| (y.toInt64 &&& 4294967295)
set_option maxHeartbeats 4000000 in
set_option maxRecDepth 100000 in
theorem l_c0 {p : Program} {l : Launch} {e : Env} {s : State} {m : MethodId} {below : List Frame} {meth : Method} {c : Code} {H : Heap} {locs : List Loc} {ls : Array Slot} {b L cells slots : Nat} {xs : Nat → Int32} {D : va_G} {cA : Nat → ClassId} {kd : sK} {ig : sI} {rg : sR} {lg : sG} {i : Int32} {τ : Tp} {σ : Sg} {π : Ps} {ν κ : Nat} (hst : l.stackTraces = false) (A : LA p s m meth c b L xs D cA) (hi : In L i) (hQ : St7 s.heap.size τ σ π ν kd ig rg lg) (hν : ν ≤ κ) (hκ : κ ≤ 512) (hw : WD s.heap.size D cA s.heap kd ig rg lg H locs) (hl : lv_has ls 7 [(0, .ref b), (1, .ref (s.heap.size + 0)), (2, .ref (s.heap.size + 49)), (3, .ref (s.heap.size + 79)), (4, .int i)]) (hf : Rm6 cells slots) (kk : LN p l e s m below meth c b D cA i cells slots κ) : LW p l e s m below meth c b H locs cells slots (F0 m 120 ls []) := by
  have C := A.1
  have hx := C.1.1
  have hb := C.1.2.1
  have hown := C.1.2.2.2.1
  have hts := C.1.2.2.2.2
  unfold Rm6 at hf
  obtain ⟨hP, hI, hM, ⟨hS, hV⟩, ⟨hX, hU⟩, hW, kz, K, ff, hLv, hTv, hVv, hUv, hK3, hK, hKm, hFs, hFm⟩ := hQ
  have hHt := hX.ht
  have hHp := hX.hp
  refine lv_aload_n hx hb dL_law_120 rfl (lv_at hl 1 rfl) ?_
  refine l_ld (v := 1) A hw hi (lv_at hl 0 rfl) (lv_at hl 4 rfl) (by decide) (by decide) dL_law_121 dL_law_122 dL_law_124 dL_law_125 dL_law_126 ?_
  refine lv_i2l hx hb dL_law_127 rfl ?_
  refine lv_bipush (v := 32) hx hb dL_law_128 (by decide) ?_
  refine lv_lshl hx hb dL_law_130 rfl ?_
  refine l_ld (v := 2) A hw hi (lv_at hl 0 rfl) (lv_at hl 4 rfl) (by decide) (by decide) dL_law_131 dL_law_132 dL_law_134 dL_law_135 dL_law_136 ?_
  refine lv_i2l hx hb dL_law_137 rfl ?_
  refine lv_ldc2 hx hb hown (hts _ kl_L_19) dL_law_138 ?_
  refine lv_land hx hb dL_law_141 ?_
  refine lv_lor hx hb dL_law_142 ?_
  refine l_ld (v := 3) A hw hi (lv_at hl 0 rfl) (lv_at hl 4 rfl) (by decide) (by decide) dL_law_143 dL_law_144 dL_law_146 dL_law_147 dL_law_148 ?_
  refine lv_i2l hx hb dL_law_149 rfl ?_
  refine lv_bipush (v := 32) hx hb dL_law_150 (by decide) ?_
  refine lv_lshl hx hb dL_law_152 rfl ?_
  refine l_ld (v := 4) A hw hi (lv_at hl 0 rfl) (lv_at hl 4 rfl) (by decide) (by decide) dL_law_153 dL_law_154 dL_law_156 dL_law_157 dL_law_158 ?_
  refine lv_i2l hx hb dL_law_159 rfl ?_
  refine lv_ldc2 hx hb hown (hts _ kl_L_19) dL_law_160 ?_
  refine lv_land hx hb dL_law_163 ?_
  refine lv_lor hx hb dL_law_164 ?_
  refine l_ld (v := 5) A hw hi (lv_at hl 0 rfl) (lv_at hl 4 rfl) (by decide) (by decide) dL_law_165 dL_law_166 dL_law_168 dL_law_169 dL_law_170 ?_
  refine lv_i2l hx hb dL_law_171 rfl ?_
  refine lv_bipush (v := 32) hx hb dL_law_172 (by decide) ?_
  refine lv_lshl hx hb dL_law_174 rfl ?_
  refine l_lb (v := 6) A hw hi (lv_at hl 0 rfl) (lv_at hl 4 rfl) (by decide) (by decide) dL_law_175 dL_law_176 dL_law_178 dL_law_180 dL_law_181 ?_
  refine lv_i2l hx hb dL_law_182 rfl ?_
  refine lv_ldc2 hx hb hown (hts _ kl_L_19) dL_law_183 ?_
  refine lv_land hx hb dL_law_186 ?_
  refine lv_lor hx hb dL_law_187 ?_
  refine r_callV (As := [.long (lgp (xi xs i 1) (xi xs i 2)), .long (lgp (xi xs i 3) (xi xs i 4)), .long (lgp (xi xs i 5) (xi xs i 6))]) (rest := []) C hw (t_X11_feed l s.heap.size D cA _ _ _ _ _ ((lgp (xi xs i 1) (xi xs i 2))) ((lgp (xi xs i 3) (xi xs i 4))) ((lgp (xi xs i 5) (xi xs i 6))) hI) sv_L_21 (hI.sh 0 _ rfl) rfl hl.1 rfl (Nat.le_of_ble_eq_true rfl) ⟨Nat.le_of_ble_eq_true rfl, Nat.le_of_ble_eq_true rfl⟩ ⟨(by show cells + 0 ≤ 601024; omega), (by show slots + 0 ≤ 7293034; omega)⟩ dL_law_188 (fun r kd1 ig1 rg1 lg1 H locs hw hH hp => ?_)
  obtain ⟨hI, hN, z, rfl, h1⟩ := hp
  have hM := hM.nx hN hI.sh
  have hX := hX.nx hN
  have hU := hU.nx hN
  have hKm := hKm.nx hN
  have hFm := hFm.nx hN
  have hS := hS.nx hN
  have hV := hV.nx hN
  have hLv := hLv.nx hN
  have hVv := hVv.nx hN
  have hUv := hUv.nx hN
  have hTv := hTv.nx hN
  have hK := hK.nx hN
  have hFs := hFs.nx hN
  refine lv_pop hx hb dL_law_191 rfl ?_
  refine lv_aload_n hx hb dL_law_192 rfl (lv_at hl 2 rfl) ?_
  refine l_ld (v := 1) A hw hi (lv_at hl 0 rfl) (lv_at hl 4 rfl) (by decide) (by decide) dL_law_193 dL_law_194 dL_law_196 dL_law_197 dL_law_198 ?_
  refine lv_i2l hx hb dL_law_199 rfl ?_
  refine lv_bipush (v := 32) hx hb dL_law_200 (by decide) ?_
  refine lv_lshl hx hb dL_law_202 rfl ?_
  refine l_ld (v := 2) A hw hi (lv_at hl 0 rfl) (lv_at hl 4 rfl) (by decide) (by decide) dL_law_203 dL_law_204 dL_law_206 dL_law_207 dL_law_208 ?_
  refine lv_i2l hx hb dL_law_209 rfl ?_
  refine lv_ldc2 hx hb hown (hts _ kl_L_19) dL_law_210 ?_
  refine lv_land hx hb dL_law_213 ?_
  refine lv_lor hx hb dL_law_214 ?_
  refine l_ld (v := 3) A hw hi (lv_at hl 0 rfl) (lv_at hl 4 rfl) (by decide) (by decide) dL_law_215 dL_law_216 dL_law_218 dL_law_219 dL_law_220 ?_
  refine lv_i2l hx hb dL_law_221 rfl ?_
  refine lv_bipush (v := 32) hx hb dL_law_222 (by decide) ?_
  refine lv_lshl hx hb dL_law_224 rfl ?_
  refine l_ld (v := 4) A hw hi (lv_at hl 0 rfl) (lv_at hl 4 rfl) (by decide) (by decide) dL_law_225 dL_law_226 dL_law_228 dL_law_229 dL_law_230 ?_
  refine lv_i2l hx hb dL_law_231 rfl ?_
  refine lv_ldc2 hx hb hown (hts _ kl_L_19) dL_law_232 ?_
  refine lv_land hx hb dL_law_235 ?_
  refine lv_lor hx hb dL_law_236 ?_
  refine l_ld (v := 5) A hw hi (lv_at hl 0 rfl) (lv_at hl 4 rfl) (by decide) (by decide) dL_law_237 dL_law_238 dL_law_240 dL_law_241 dL_law_242 ?_
  refine lv_i2l hx hb dL_law_243 rfl ?_
  refine lv_bipush (v := 32) hx hb dL_law_244 (by decide) ?_
  refine lv_lshl hx hb dL_law_246 rfl ?_
  refine l_lb (v := 6) A hw hi (lv_at hl 0 rfl) (lv_at hl 4 rfl) (by decide) (by decide) dL_law_247 dL_law_248 dL_law_250 dL_law_252 dL_law_253 ?_
  refine lv_i2l hx hb dL_law_254 rfl ?_
  refine lv_ldc2 hx hb hown (hts _ kl_L_19) dL_law_255 ?_
  refine lv_land hx hb dL_law_258 ?_
  refine lv_lor hx hb dL_law_259 ?_
  refine r_callV (As := [.long (lgp (xi xs i 1) (xi xs i 2)), .long (lgp (xi xs i 3) (xi xs i 4)), .long (lgp (xi xs i 5) (xi xs i 6))]) (rest := []) C hw (t_X12_feed l s.heap.size D cA _ _ _ _ _ ((lgp (xi xs i 1) (xi xs i 2))) ((lgp (xi xs i 3) (xi xs i 4))) ((lgp (xi xs i 5) (xi xs i 6))) (hM.su (f := (π.length : Int)) hX.len.1)) sv_L_25 (hM.sh 49 _ rfl) rfl hl.1 rfl (Nat.le_of_ble_eq_true rfl) ⟨Nat.le_of_ble_eq_true rfl, Nat.le_of_ble_eq_true rfl⟩ ⟨(by show cells + 0 + 0 ≤ 601024; omega), (by show slots + 0 + 0 ≤ 7293034; omega)⟩ dL_law_260 (fun r kd2 ig2 rg2 lg2 H locs hw hH hp => ?_)
  obtain ⟨rfl, rfl, hM, hF, z2, rfl, h2⟩ := hp
  have e19 := hM.u.trans hX.len.1.symm
  have hM := hM.nu
  have hI := hI.ft hF (by decide)
  have hS := hS.ft hF (by decide)
  have hV := hV.ft hF (by decide)
  have hLv := hLv.ft hF (by decide)
  have hVv := hVv.ft hF (by decide)
  have hUv := hUv.ft hF (by decide)
  have hTv := hTv.ft hF (by decide)
  have hK := hK.ft hF (by decide)
  have hFs := hFs.ft hF (by decide)
  have hKm := hKm.ft hF
  have hFm := hFm.ft hF (congrArg Int32.toInt hF.f37)
  have hX := hX.ft hF (by decide) e19
  have hU := hU.ft hF (by decide)
  simp only [← fd_by] at hM h2
  have hP := prt_fd (f := by8 (lgp (xi xs i 5) (xi xs i 6))) (prt_fd (f := by8 (lgp (xi xs i 3) (xi xs i 4))) (prt_fd (f := by8 (lgp (xi xs i 1) (xi xs i 2))) hP 8) 8) 8
  refine lv_pop hx hb dL_law_263 rfl ?_
  refine lv_goto (tgt := 769) hx hb dL_law_264 (by decide) ?_
  refine W.widen (k := cells + 6) (n := slots + 370) (by show cells + 0 + 0 ≤ cells + 6; omega) (by show slots + 0 + 0 ≤ slots + 370; omega) ?_
  exact kk _ _ _ _ ls H locs _ _ _ _ ⟨hP, hI, hM, ⟨hS, hV⟩, ⟨hX, hU⟩, hW, _, _, _, hLv, hTv, hVv, hUv, hK3, hK, hKm, hFs, hFm⟩ (by omega) hw hl
set_option maxHeartbeats 4000000 in
set_option maxRecDepth 100000 in
theorem l_c1 {p : Program} {l : Launch} {e : Env} {s : State} {m : MethodId} {below : List Frame} {meth : Method} {c : Code} {H : Heap} {locs : List Loc} {ls : Array Slot} {b L cells slots : Nat} {xs : Nat → Int32} {D : va_G} {cA : Nat → ClassId} {kd : sK} {ig : sI} {rg : sR} {lg : sG} {i : Int32} {τ : Tp} {σ : Sg} {π : Ps} {ν κ : Nat} (hst : l.stackTraces = false) (A : LA p s m meth c b L xs D cA) (hi : In L i) (hQ : St7 s.heap.size τ σ π ν kd ig rg lg) (hν : ν ≤ κ) (hκ : κ ≤ 512) (hw : WD s.heap.size D cA s.heap kd ig rg lg H locs) (hl : lv_has ls 7 [(0, .ref b), (1, .ref (s.heap.size + 0)), (2, .ref (s.heap.size + 49)), (3, .ref (s.heap.size + 79)), (4, .int i)]) (hf : Rm6 cells slots) (kk : LN p l e s m below meth c b D cA i cells slots κ) : LW p l e s m below meth c b H locs cells slots (F0 m 267 ls []) := by
  have C := A.1
  have hx := C.1.1
  have hb := C.1.2.1
  have hown := C.1.2.2.2.1
  have hts := C.1.2.2.2.2
  unfold Rm6 at hf
  obtain ⟨hP, hI, hM, ⟨hS, hV⟩, ⟨hX, hU⟩, hW, kz, K, ff, hLv, hTv, hVv, hUv, hK3, hK, hKm, hFs, hFm⟩ := hQ
  have hHt := hX.ht
  have hHp := hX.hp
  refine lv_aload_n hx hb dL_law_267 rfl (lv_at hl 1 rfl) ?_
  refine l_ld (v := 1) A hw hi (lv_at hl 0 rfl) (lv_at hl 4 rfl) (by decide) (by decide) dL_law_268 dL_law_269 dL_law_271 dL_law_272 dL_law_273 ?_
  refine r_callV (As := [.int (xi xs i 1)]) (rest := []) C hw (t_X11_formulaE l s.heap.size D cA _ _ _ _ _ ((xi xs i 1)) hP σ π ν hS hV (by omega) hI) sv_L_26 (hI.sh 0 _ rfl) rfl hl.1 rfl (Nat.le_of_ble_eq_true rfl) ⟨Nat.le_of_ble_eq_true rfl, Nat.le_of_ble_eq_true rfl⟩ ⟨(by show cells + 5 ≤ 601024; omega), (by show slots + 369 ≤ 7293034; omega)⟩ dL_law_274 (fun r kd1 ig1 rg1 lg1 H locs hw hH hp => ?_)
  obtain ⟨hI, hN, z, rfl, σ1, π1, ν1, hS, hV, hle, h1⟩ := hp
  have hM := hM.nx hN hI.sh
  have hX := hX.nx hN
  have hU := hU.nx hN
  have hKm := hKm.nx hN
  have hFm := hFm.nx hN
  have hLv := LV.post hLv hN hle
  have hVv := VV.post hVv hN hle
  have hUv := hUv.post hN hle
  have hTv := hTv.post hN hle
  have hK := hK.nx hN
  have hFs := hFs.nx hN
  have hle : ν1 ≤ ν + 1 := by rcases hle with q | ⟨q, -⟩ <;> omega
  refine lv_pop hx hb dL_law_277 rfl ?_
  refine lv_aload_n hx hb dL_law_278 rfl (lv_at hl 2 rfl) ?_
  refine l_ld (v := 1) A hw hi (lv_at hl 0 rfl) (lv_at hl 4 rfl) (by decide) (by decide) dL_law_279 dL_law_280 dL_law_282 dL_law_283 dL_law_284 ?_
  refine r_callV (As := [.int (xi xs i 1)]) (rest := []) C hw (t_X12_formulaX l s.heap.size D cA _ _ _ _ _ ((xi xs i 1)) σ π hX hW hU (fun ho hp0 => stF.ex h1 ho hp0) hM) sv_L_30 (hM.sh 49 _ rfl) rfl hl.1 rfl (Nat.le_of_ble_eq_true rfl) ⟨Nat.le_of_ble_eq_true rfl, Nat.le_of_ble_eq_true rfl⟩ ⟨(by show cells + 5 + 0 ≤ 601024; omega), (by show slots + 369 + 0 ≤ 7293034; omega)⟩ dL_law_285 (fun r kd2 ig2 rg2 lg2 H locs hw hH hp => ?_)
  obtain ⟨rfl, rfl, hM, hF, z2, rfl, σ2, π2, hX, hU, h2⟩ := hp
  have hI := hI.ft hF (by decide)
  have hS := hS.ft hF (by decide)
  have hV := hV.ft hF (by decide)
  have hLv := hLv.ft hF (by decide)
  have hVv := hVv.ft hF (by decide)
  have hUv := hUv.ft hF (by decide)
  have hTv := hTv.ft hF (by decide)
  have hK := hK.ft hF (by decide)
  have hFs := hFs.ft hF (by decide)
  have hKm := hKm.ft hF
  have hFm := hFm.ft hF (congrArg Int32.toInt hF.f37)
  have hK3 := hK3.stF h1
  have hW := hW.stF h1
  obtain ⟨ez, rfl, rfl⟩ := stF.det h1 h2
  have hP : Prt [] := fun j h => absurd h (Nat.not_lt_zero j)
  refine lv_pop hx hb dL_law_288 rfl ?_
  refine lv_goto (tgt := 769) hx hb dL_law_289 (by decide) ?_
  refine W.widen (k := cells + 6) (n := slots + 370) (by show cells + 5 + 0 ≤ cells + 6; omega) (by show slots + 369 + 0 ≤ slots + 370; omega) ?_
  exact kk _ _ _ _ ls H locs _ _ _ _ ⟨hP, hI, hM, ⟨hS, hV⟩, ⟨hX, hU⟩, hW, _, _, _, hLv, hTv, hVv, hUv, hK3, hK, hKm, hFs, hFm⟩ (by omega) hw hl
set_option maxHeartbeats 4000000 in
set_option maxRecDepth 100000 in
theorem l_c2 {p : Program} {l : Launch} {e : Env} {s : State} {m : MethodId} {below : List Frame} {meth : Method} {c : Code} {H : Heap} {locs : List Loc} {ls : Array Slot} {b L cells slots : Nat} {xs : Nat → Int32} {D : va_G} {cA : Nat → ClassId} {kd : sK} {ig : sI} {rg : sR} {lg : sG} {i : Int32} {τ : Tp} {σ : Sg} {π : Ps} {ν κ : Nat} (hst : l.stackTraces = false) (A : LA p s m meth c b L xs D cA) (hi : In L i) (hQ : St7 s.heap.size τ σ π ν kd ig rg lg) (hν : ν ≤ κ) (hκ : κ ≤ 512) (hw : WD s.heap.size D cA s.heap kd ig rg lg H locs) (hl : lv_has ls 7 [(0, .ref b), (1, .ref (s.heap.size + 0)), (2, .ref (s.heap.size + 49)), (3, .ref (s.heap.size + 79)), (4, .int i)]) (hf : Rm6 cells slots) (kk : LN p l e s m below meth c b D cA i cells slots κ) : LW p l e s m below meth c b H locs cells slots (F0 m 292 ls []) := by
  have C := A.1
  have hx := C.1.1
  have hb := C.1.2.1
  have hown := C.1.2.2.2.1
  have hts := C.1.2.2.2.2
  unfold Rm6 at hf
  obtain ⟨hP, hI, hM, ⟨hS, hV⟩, ⟨hX, hU⟩, hW, kz, K, ff, hLv, hTv, hVv, hUv, hK3, hK, hKm, hFs, hFm⟩ := hQ
  have hHt := hX.ht
  have hHp := hX.hp
  refine lv_aload_n hx hb dL_law_292 rfl (lv_at hl 1 rfl) ?_
  refine l_ld (v := 1) A hw hi (lv_at hl 0 rfl) (lv_at hl 4 rfl) (by decide) (by decide) dL_law_293 dL_law_294 dL_law_296 dL_law_297 dL_law_298 ?_
  refine l_ld (v := 2) A hw hi (lv_at hl 0 rfl) (lv_at hl 4 rfl) (by decide) (by decide) dL_law_299 dL_law_300 dL_law_302 dL_law_303 dL_law_304 ?_
  refine r_callV (As := [.int (xi xs i 1), .int (xi xs i 2)]) (rest := []) C hw (t_X11_numberE l s.heap.size D cA _ _ _ _ _ ((xi xs i 1)) ((xi xs i 2)) σ π ν hS hV (by omega) hI) sv_L_31 (hI.sh 0 _ rfl) rfl hl.1 rfl (Nat.le_of_ble_eq_true rfl) ⟨Nat.le_of_ble_eq_true rfl, Nat.le_of_ble_eq_true rfl⟩ ⟨(by show cells + 1 ≤ 601024; omega), (by show slots + 6 ≤ 7293034; omega)⟩ dL_law_305 (fun r kd1 ig1 rg1 lg1 H locs hw hH hp => ?_)
  obtain ⟨hI, hN, z, rfl, σ1, π1, ν1, hS, hV, hle, h1⟩ := hp
  have hM := hM.nx hN hI.sh
  have hX := hX.nx hN
  have hU := hU.nx hN
  have hKm := hKm.nx hN
  have hFm := hFm.nx hN
  have hLv := LV.post hLv hN hle
  have hVv := VV.post hVv hN hle
  have hUv := hUv.post hN hle
  have hTv := hTv.post hN hle
  have hK := hK.nx hN
  have hFs := hFs.nx hN
  have hle : ν1 ≤ ν + 1 := by rcases hle with q | ⟨q, -⟩ <;> omega
  refine lv_pop hx hb dL_law_308 rfl ?_
  refine lv_aload_n hx hb dL_law_309 rfl (lv_at hl 2 rfl) ?_
  refine l_ld (v := 1) A hw hi (lv_at hl 0 rfl) (lv_at hl 4 rfl) (by decide) (by decide) dL_law_310 dL_law_311 dL_law_313 dL_law_314 dL_law_315 ?_
  refine l_ld (v := 2) A hw hi (lv_at hl 0 rfl) (lv_at hl 4 rfl) (by decide) (by decide) dL_law_316 dL_law_317 dL_law_319 dL_law_320 dL_law_321 ?_
  refine r_callV (As := [.int (xi xs i 1), .int (xi xs i 2)]) (rest := []) C hw (t_X12_numberX l s.heap.size D cA _ _ _ _ _ ((xi xs i 1)) ((xi xs i 2)) σ π hX hU hW hM) sv_L_35 (hM.sh 49 _ rfl) rfl hl.1 rfl (Nat.le_of_ble_eq_true rfl) ⟨Nat.le_of_ble_eq_true rfl, Nat.le_of_ble_eq_true rfl⟩ ⟨(by show cells + 1 + 0 ≤ 601024; omega), (by show slots + 6 + 0 ≤ 7293034; omega)⟩ dL_law_322 (fun r kd2 ig2 rg2 lg2 H locs hw hH hp => ?_)
  obtain ⟨rfl, rfl, hM, hF, z2, rfl, σ2, π2, hX, hU, h2⟩ := hp
  have hI := hI.ft hF (by decide)
  have hS := hS.ft hF (by decide)
  have hV := hV.ft hF (by decide)
  have hLv := hLv.ft hF (by decide)
  have hVv := hVv.ft hF (by decide)
  have hUv := hUv.ft hF (by decide)
  have hTv := hTv.ft hF (by decide)
  have hK := hK.ft hF (by decide)
  have hFs := hFs.ft hF (by decide)
  have hKm := hKm.ft hF
  have hFm := hFm.ft hF (congrArg Int32.toInt hF.f37)
  have hK3 := hK3.stN h1
  have hW := hW.stN h1
  obtain ⟨rfl, rfl⟩ := stN.det h1 h2
  refine lv_pop hx hb dL_law_325 rfl ?_
  refine lv_goto (tgt := 769) hx hb dL_law_326 (by decide) ?_
  refine W.widen (k := cells + 6) (n := slots + 370) (by show cells + 1 + 0 ≤ cells + 6; omega) (by show slots + 6 + 0 ≤ slots + 370; omega) ?_
  exact kk _ _ _ _ ls H locs _ _ _ _ ⟨hP, hI, hM, ⟨hS, hV⟩, ⟨hX, hU⟩, hW, _, _, _, hLv, hTv, hVv, hUv, hK3, hK, hKm, hFs, hFm⟩ (by omega) hw hl
set_option maxHeartbeats 4000000 in
set_option maxRecDepth 100000 in
theorem l_c3 {p : Program} {l : Launch} {e : Env} {s : State} {m : MethodId} {below : List Frame} {meth : Method} {c : Code} {H : Heap} {locs : List Loc} {ls : Array Slot} {b L cells slots : Nat} {xs : Nat → Int32} {D : va_G} {cA : Nat → ClassId} {kd : sK} {ig : sI} {rg : sR} {lg : sG} {i : Int32} {τ : Tp} {σ : Sg} {π : Ps} {ν κ : Nat} (hst : l.stackTraces = false) (A : LA p s m meth c b L xs D cA) (hi : In L i) (hQ : St7 s.heap.size τ σ π ν kd ig rg lg) (hν : ν ≤ κ) (hκ : κ ≤ 512) (hw : WD s.heap.size D cA s.heap kd ig rg lg H locs) (hl : lv_has ls 7 [(0, .ref b), (1, .ref (s.heap.size + 0)), (2, .ref (s.heap.size + 49)), (3, .ref (s.heap.size + 79)), (4, .int i)]) (hf : Rm6 cells slots) (kk : LN p l e s m below meth c b D cA i cells slots κ) : LW p l e s m below meth c b H locs cells slots (F0 m 329 ls []) := by
  have C := A.1
  have hx := C.1.1
  have hb := C.1.2.1
  have hown := C.1.2.2.2.1
  have hts := C.1.2.2.2.2
  unfold Rm6 at hf
  obtain ⟨hP, hI, hM, ⟨hS, hV⟩, ⟨hX, hU⟩, hW, kz, K, ff, hLv, hTv, hVv, hUv, hK3, hK, hKm, hFs, hFm⟩ := hQ
  have hHt := hX.ht
  have hHp := hX.hp
  refine lv_aload_n hx hb dL_law_329 rfl (lv_at hl 1 rfl) ?_
  refine l_ld (v := 1) A hw hi (lv_at hl 0 rfl) (lv_at hl 4 rfl) (by decide) (by decide) dL_law_330 dL_law_331 dL_law_333 dL_law_334 dL_law_335 ?_
  refine r_callV (As := [.int (xi xs i 1)]) (rest := []) C hw (t_X11_emptyE l s.heap.size D cA _ _ _ _ _ ((xi xs i 1)) σ π ν hS hV (by omega) hI) sv_L_36 (hI.sh 0 _ rfl) rfl hl.1 rfl (Nat.le_of_ble_eq_true rfl) ⟨Nat.le_of_ble_eq_true rfl, Nat.le_of_ble_eq_true rfl⟩ ⟨(by show cells + 0 ≤ 601024; omega), (by show slots + 0 ≤ 7293034; omega)⟩ dL_law_336 (fun r kd1 ig1 rg1 lg1 H locs hw hH hp => ?_)
  obtain ⟨hI, hN, z, rfl, σ1, π1, ν1, hS, hV, hle, h1⟩ := hp
  have hM := hM.nx hN hI.sh
  have hX := hX.nx hN
  have hU := hU.nx hN
  have hKm := hKm.nx hN
  have hFm := hFm.nx hN
  have hLv := LV.post hLv hN hle
  have hVv := VV.post hVv hN hle
  have hUv := hUv.post hN hle
  have hTv := hTv.post hN hle
  have hK := hK.nx hN
  have hFs := hFs.nx hN
  have hle : ν1 ≤ ν + 1 := by rcases hle with q | ⟨q, -⟩ <;> omega
  refine lv_pop hx hb dL_law_339 rfl ?_
  refine lv_aload_n hx hb dL_law_340 rfl (lv_at hl 2 rfl) ?_
  refine l_ld (v := 1) A hw hi (lv_at hl 0 rfl) (lv_at hl 4 rfl) (by decide) (by decide) dL_law_341 dL_law_342 dL_law_344 dL_law_345 dL_law_346 ?_
  refine r_callV (As := [.int (xi xs i 1)]) (rest := []) C hw (t_X12_emptyX l s.heap.size D cA _ _ _ _ _ ((xi xs i 1)) σ π hX hU hW hM) sv_L_40 (hM.sh 49 _ rfl) rfl hl.1 rfl (Nat.le_of_ble_eq_true rfl) ⟨Nat.le_of_ble_eq_true rfl, Nat.le_of_ble_eq_true rfl⟩ ⟨(by show cells + 0 + 0 ≤ 601024; omega), (by show slots + 0 + 0 ≤ 7293034; omega)⟩ dL_law_347 (fun r kd2 ig2 rg2 lg2 H locs hw hH hp => ?_)
  obtain ⟨rfl, rfl, hM, hF, z2, rfl, σ2, π2, hX, hU, h2⟩ := hp
  have hI := hI.ft hF (by decide)
  have hS := hS.ft hF (by decide)
  have hV := hV.ft hF (by decide)
  have hLv := hLv.ft hF (by decide)
  have hVv := hVv.ft hF (by decide)
  have hUv := hUv.ft hF (by decide)
  have hTv := hTv.ft hF (by decide)
  have hK := hK.ft hF (by decide)
  have hFs := hFs.ft hF (by decide)
  have hKm := hKm.ft hF
  have hFm := hFm.ft hF (congrArg Int32.toInt hF.f37)
  have hK3 := hK3.stE h1
  have hW := hW.stE h1
  obtain ⟨rfl, rfl⟩ := stE.det h1 h2
  refine lv_pop hx hb dL_law_350 rfl ?_
  refine lv_goto (tgt := 769) hx hb dL_law_351 (by decide) ?_
  refine W.widen (k := cells + 6) (n := slots + 370) (by show cells + 0 + 0 ≤ cells + 6; omega) (by show slots + 0 + 0 ≤ slots + 370; omega) ?_
  exact kk _ _ _ _ ls H locs _ _ _ _ ⟨hP, hI, hM, ⟨hS, hV⟩, ⟨hX, hU⟩, hW, _, _, _, hLv, hTv, hVv, hUv, hK3, hK, hKm, hFs, hFm⟩ (by omega) hw hl
set_option maxHeartbeats 4000000 in
set_option maxRecDepth 100000 in
theorem l_c4 {p : Program} {l : Launch} {e : Env} {s : State} {m : MethodId} {below : List Frame} {meth : Method} {c : Code} {H : Heap} {locs : List Loc} {ls : Array Slot} {b L cells slots : Nat} {xs : Nat → Int32} {D : va_G} {cA : Nat → ClassId} {kd : sK} {ig : sI} {rg : sR} {lg : sG} {i : Int32} {τ : Tp} {σ : Sg} {π : Ps} {ν κ : Nat} (hst : l.stackTraces = false) (A : LA p s m meth c b L xs D cA) (hi : In L i) (hQ : St7 s.heap.size τ σ π ν kd ig rg lg) (hν : ν ≤ κ) (hκ : κ ≤ 512) (hw : WD s.heap.size D cA s.heap kd ig rg lg H locs) (hl : lv_has ls 7 [(0, .ref b), (1, .ref (s.heap.size + 0)), (2, .ref (s.heap.size + 49)), (3, .ref (s.heap.size + 79)), (4, .int i)]) (hf : Rm6 cells slots) (kk : LN p l e s m below meth c b D cA i cells slots κ) : LW p l e s m below meth c b H locs cells slots (F0 m 354 ls []) := by
  have C := A.1
  have hx := C.1.1
  have hb := C.1.2.1
  have hown := C.1.2.2.2.1
  have hts := C.1.2.2.2.2
  unfold Rm6 at hf
  obtain ⟨hP, hI, hM, ⟨hS, hV⟩, ⟨hX, hU⟩, hW, kz, K, ff, hLv, hTv, hVv, hUv, hK3, hK, hKm, hFs, hFm⟩ := hQ
  have hHt := hX.ht
  have hHp := hX.hp
  refine lv_aload_n hx hb dL_law_354 rfl (lv_at hl 1 rfl) ?_
  refine l_ld (v := 1) A hw hi (lv_at hl 0 rfl) (lv_at hl 4 rfl) (by decide) (by decide) dL_law_355 dL_law_356 dL_law_358 dL_law_359 dL_law_360 ?_
  refine l_ld (v := 2) A hw hi (lv_at hl 0 rfl) (lv_at hl 4 rfl) (by decide) (by decide) dL_law_361 dL_law_362 dL_law_364 dL_law_365 dL_law_366 ?_
  refine r_callV (As := [.int (xi xs i 1), .int (xi xs i 2)]) (rest := []) C hw (t_X11_copyE l s.heap.size D cA _ _ _ _ _ ((xi xs i 1)) ((xi xs i 2)) σ π ν hS hV (by omega) hW hI) sv_L_41 (hI.sh 0 _ rfl) rfl hl.1 rfl (Nat.le_of_ble_eq_true rfl) ⟨Nat.le_of_ble_eq_true rfl, Nat.le_of_ble_eq_true rfl⟩ ⟨(by show cells + 1 ≤ 601024; omega), (by show slots + 6 ≤ 7293034; omega)⟩ dL_law_367 (fun r kd1 ig1 rg1 lg1 H locs hw hH hp => ?_)
  obtain ⟨hI, hN, z, rfl, σ1, π1, ν1, hS, hV, hle, h1⟩ := hp
  have hM := hM.nx hN hI.sh
  have hX := hX.nx hN
  have hU := hU.nx hN
  have hKm := hKm.nx hN
  have hFm := hFm.nx hN
  have hLv := LV.post hLv hN hle
  have hVv := VV.post hVv hN hle
  have hUv := hUv.post hN hle
  have hTv := hTv.post hN hle
  have hK := hK.nx hN
  have hFs := hFs.nx hN
  have hle : ν1 ≤ ν + 1 := by rcases hle with q | ⟨q, -⟩ <;> omega
  refine lv_pop hx hb dL_law_370 rfl ?_
  refine lv_aload_n hx hb dL_law_371 rfl (lv_at hl 2 rfl) ?_
  refine l_ld (v := 1) A hw hi (lv_at hl 0 rfl) (lv_at hl 4 rfl) (by decide) (by decide) dL_law_372 dL_law_373 dL_law_375 dL_law_376 dL_law_377 ?_
  refine l_ld (v := 2) A hw hi (lv_at hl 0 rfl) (lv_at hl 4 rfl) (by decide) (by decide) dL_law_378 dL_law_379 dL_law_381 dL_law_382 dL_law_383 ?_
  refine r_callV (As := [.int (xi xs i 1), .int (xi xs i 2)]) (rest := []) C hw (t_X12_copyX l s.heap.size D cA _ _ _ _ _ ((xi xs i 1)) ((xi xs i 2)) σ π hX hU hW hM) sv_L_44 (hM.sh 49 _ rfl) rfl hl.1 rfl (Nat.le_of_ble_eq_true rfl) ⟨Nat.le_of_ble_eq_true rfl, Nat.le_of_ble_eq_true rfl⟩ ⟨(by show cells + 1 + 0 ≤ 601024; omega), (by show slots + 6 + 0 ≤ 7293034; omega)⟩ dL_law_384 (fun r kd2 ig2 rg2 lg2 H locs hw hH hp => ?_)
  obtain ⟨rfl, rfl, hM, hF, z2, rfl, σ2, π2, hX, hU, h2⟩ := hp
  have hI := hI.ft hF (by decide)
  have hS := hS.ft hF (by decide)
  have hV := hV.ft hF (by decide)
  have hLv := hLv.ft hF (by decide)
  have hVv := hVv.ft hF (by decide)
  have hUv := hUv.ft hF (by decide)
  have hTv := hTv.ft hF (by decide)
  have hK := hK.ft hF (by decide)
  have hFs := hFs.ft hF (by decide)
  have hKm := hKm.ft hF
  have hFm := hFm.ft hF (congrArg Int32.toInt hF.f37)
  have hK3 := hK3.stC h1
  have hW := hW.stC h1
  obtain ⟨ez, rfl, rfl⟩ := stC.det h1 h2
  refine lv_pop hx hb dL_law_387 rfl ?_
  refine lv_goto (tgt := 769) hx hb dL_law_388 (by decide) ?_
  refine W.widen (k := cells + 6) (n := slots + 370) (by show cells + 1 + 0 ≤ cells + 6; omega) (by show slots + 6 + 0 ≤ slots + 370; omega) ?_
  exact kk _ _ _ _ ls H locs _ _ _ _ ⟨hP, hI, hM, ⟨hS, hV⟩, ⟨hX, hU⟩, hW, _, _, _, hLv, hTv, hVv, hUv, hK3, hK, hKm, hFs, hFm⟩ (by omega) hw hl
set_option maxHeartbeats 4000000 in
set_option maxRecDepth 100000 in
theorem l_c5 {p : Program} {l : Launch} {e : Env} {s : State} {m : MethodId} {below : List Frame} {meth : Method} {c : Code} {H : Heap} {locs : List Loc} {ls : Array Slot} {b L cells slots : Nat} {xs : Nat → Int32} {D : va_G} {cA : Nat → ClassId} {kd : sK} {ig : sI} {rg : sR} {lg : sG} {i : Int32} {τ : Tp} {σ : Sg} {π : Ps} {ν κ : Nat} (hst : l.stackTraces = false) (A : LA p s m meth c b L xs D cA) (hi : In L i) (hQ : St7 s.heap.size τ σ π ν kd ig rg lg) (hν : ν ≤ κ) (hκ : κ ≤ 512) (hw : WD s.heap.size D cA s.heap kd ig rg lg H locs) (hl : lv_has ls 7 [(0, .ref b), (1, .ref (s.heap.size + 0)), (2, .ref (s.heap.size + 49)), (3, .ref (s.heap.size + 79)), (4, .int i)]) (hf : Rm6 cells slots) (kk : LN p l e s m below meth c b D cA i cells slots κ) : LW p l e s m below meth c b H locs cells slots (F0 m 391 ls []) := by
  have C := A.1
  have hx := C.1.1
  have hb := C.1.2.1
  have hown := C.1.2.2.2.1
  have hts := C.1.2.2.2.2
  unfold Rm6 at hf
  obtain ⟨hP, hI, hM, ⟨hS, hV⟩, ⟨hX, hU⟩, hW, kz, K, ff, hLv, hTv, hVv, hUv, hK3, hK, hKm, hFs, hFm⟩ := hQ
  have hHt := hX.ht
  have hHp := hX.hp
  refine lv_aload_n hx hb dL_law_391 rfl (lv_at hl 1 rfl) ?_
  refine l_ld (v := 1) A hw hi (lv_at hl 0 rfl) (lv_at hl 4 rfl) (by decide) (by decide) dL_law_392 dL_law_393 dL_law_395 dL_law_396 dL_law_397 ?_
  refine l_ld (v := 2) A hw hi (lv_at hl 0 rfl) (lv_at hl 4 rfl) (by decide) (by decide) dL_law_398 dL_law_399 dL_law_401 dL_law_402 dL_law_403 ?_
  refine l_ld (v := 3) A hw hi (lv_at hl 0 rfl) (lv_at hl 4 rfl) (by decide) (by decide) dL_law_404 dL_law_405 dL_law_407 dL_law_408 dL_law_409 ?_
  refine l_ld (v := 4) A hw hi (lv_at hl 0 rfl) (lv_at hl 4 rfl) (by decide) (by decide) dL_law_410 dL_law_411 dL_law_413 dL_law_414 dL_law_415 ?_
  refine r_callV (As := [.int (xi xs i 1), .int (xi xs i 2), .int (xi xs i 3), .int (xi xs i 4)]) (rest := []) C hw (t_X11_unitE l s.heap.size D cA _ _ _ _ _ ((xi xs i 1)) ((xi xs i 2)) ((xi xs i 3)) ((xi xs i 4)) σ π ν hS hV (by omega) hI) sv_L_45 (hI.sh 0 _ rfl) rfl hl.1 rfl (Nat.le_of_ble_eq_true rfl) ⟨Nat.le_of_ble_eq_true rfl, Nat.le_of_ble_eq_true rfl⟩ ⟨(by show cells + 1 ≤ 601024; omega), (by show slots + 6 ≤ 7293034; omega)⟩ dL_law_416 (fun r kd1 ig1 rg1 lg1 H locs hw hH hp => ?_)
  obtain ⟨hI, hN, z, rfl, σ1, π1, ν1, hS, hV, hle, h1⟩ := hp
  have hM := hM.nx hN hI.sh
  have hX := hX.nx hN
  have hU := hU.nx hN
  have hKm := hKm.nx hN
  have hFm := hFm.nx hN
  have hLv := LV.post hLv hN hle
  have hVv := VV.post hVv hN hle
  have hUv := hUv.post hN hle
  have hTv := hTv.post hN hle
  have hK := hK.nx hN
  have hFs := hFs.nx hN
  have hle : ν1 ≤ ν + 1 := by rcases hle with q | ⟨q, -⟩ <;> omega
  refine lv_pop hx hb dL_law_419 rfl ?_
  refine lv_aload_n hx hb dL_law_420 rfl (lv_at hl 2 rfl) ?_
  refine l_ld (v := 1) A hw hi (lv_at hl 0 rfl) (lv_at hl 4 rfl) (by decide) (by decide) dL_law_421 dL_law_422 dL_law_424 dL_law_425 dL_law_426 ?_
  refine l_ld (v := 2) A hw hi (lv_at hl 0 rfl) (lv_at hl 4 rfl) (by decide) (by decide) dL_law_427 dL_law_428 dL_law_430 dL_law_431 dL_law_432 ?_
  refine l_ld (v := 3) A hw hi (lv_at hl 0 rfl) (lv_at hl 4 rfl) (by decide) (by decide) dL_law_433 dL_law_434 dL_law_436 dL_law_437 dL_law_438 ?_
  refine l_ld (v := 4) A hw hi (lv_at hl 0 rfl) (lv_at hl 4 rfl) (by decide) (by decide) dL_law_439 dL_law_440 dL_law_442 dL_law_443 dL_law_444 ?_
  refine r_callV (As := [.int (xi xs i 1), .int (xi xs i 2), .int (xi xs i 3), .int (xi xs i 4)]) (rest := []) C hw (t_X12_unitX l s.heap.size D cA _ _ _ _ _ ((xi xs i 1)) ((xi xs i 2)) ((xi xs i 3)) ((xi xs i 4)) σ π hX hU hW hM) sv_L_49 (hM.sh 49 _ rfl) rfl hl.1 rfl (Nat.le_of_ble_eq_true rfl) ⟨Nat.le_of_ble_eq_true rfl, Nat.le_of_ble_eq_true rfl⟩ ⟨(by show cells + 1 + 0 ≤ 601024; omega), (by show slots + 6 + 0 ≤ 7293034; omega)⟩ dL_law_445 (fun r kd2 ig2 rg2 lg2 H locs hw hH hp => ?_)
  obtain ⟨rfl, rfl, hM, hF, z2, rfl, σ2, π2, hX, hU, h2⟩ := hp
  have hI := hI.ft hF (by decide)
  have hS := hS.ft hF (by decide)
  have hV := hV.ft hF (by decide)
  have hLv := hLv.ft hF (by decide)
  have hVv := hVv.ft hF (by decide)
  have hUv := hUv.ft hF (by decide)
  have hTv := hTv.ft hF (by decide)
  have hK := hK.ft hF (by decide)
  have hFs := hFs.ft hF (by decide)
  have hKm := hKm.ft hF
  have hFm := hFm.ft hF (congrArg Int32.toInt hF.f37)
  have hK3 := hK3.stU h1
  have hW := hW.stU h1
  obtain ⟨ez, rfl, rfl⟩ := stU.det h1 h2
  refine lv_pop hx hb dL_law_448 rfl ?_
  refine lv_goto (tgt := 769) hx hb dL_law_449 (by decide) ?_
  refine W.widen (k := cells + 6) (n := slots + 370) (by show cells + 1 + 0 ≤ cells + 6; omega) (by show slots + 6 + 0 ≤ slots + 370; omega) ?_
  exact kk _ _ _ _ ls H locs _ _ _ _ ⟨hP, hI, hM, ⟨hS, hV⟩, ⟨hX, hU⟩, hW, _, _, _, hLv, hTv, hVv, hUv, hK3, hK, hKm, hFs, hFm⟩ (by omega) hw hl
set_option maxHeartbeats 4000000 in
set_option maxRecDepth 100000 in
theorem l_c6 {p : Program} {l : Launch} {e : Env} {s : State} {m : MethodId} {below : List Frame} {meth : Method} {c : Code} {H : Heap} {locs : List Loc} {ls : Array Slot} {b L cells slots : Nat} {xs : Nat → Int32} {D : va_G} {cA : Nat → ClassId} {kd : sK} {ig : sI} {rg : sR} {lg : sG} {i : Int32} {τ : Tp} {σ : Sg} {π : Ps} {ν κ : Nat} (hst : l.stackTraces = false) (A : LA p s m meth c b L xs D cA) (hi : In L i) (hQ : St7 s.heap.size τ σ π ν kd ig rg lg) (hν : ν ≤ κ) (hκ : κ ≤ 512) (hw : WD s.heap.size D cA s.heap kd ig rg lg H locs) (hl : lv_has ls 7 [(0, .ref b), (1, .ref (s.heap.size + 0)), (2, .ref (s.heap.size + 49)), (3, .ref (s.heap.size + 79)), (4, .int i)]) (hf : Rm6 cells slots) (kk : LN p l e s m below meth c b D cA i cells slots κ) : LW p l e s m below meth c b H locs cells slots (F0 m 452 ls []) := by
  have C := A.1
  have hx := C.1.1
  have hb := C.1.2.1
  have hown := C.1.2.2.2.1
  have hts := C.1.2.2.2.2
  unfold Rm6 at hf
  obtain ⟨hP, hI, hM, ⟨hS, hV⟩, ⟨hX, hU⟩, hW, kz, K, ff, hLv, hTv, hVv, hUv, hK3, hK, hKm, hFs, hFm⟩ := hQ
  have hHt := hX.ht
  have hHp := hX.hp
  refine lv_aload_n hx hb dL_law_452 rfl (lv_at hl 1 rfl) ?_
  refine l_ld (v := 1) A hw hi (lv_at hl 0 rfl) (lv_at hl 4 rfl) (by decide) (by decide) dL_law_453 dL_law_454 dL_law_456 dL_law_457 dL_law_458 ?_
  refine l_ld (v := 2) A hw hi (lv_at hl 0 rfl) (lv_at hl 4 rfl) (by decide) (by decide) dL_law_459 dL_law_460 dL_law_462 dL_law_463 dL_law_464 ?_
  have J : ∀ y : Int32, (y.toInt = 0 ∨ y.toInt = 1) → (y.toInt = 0 ↔ (xi xs i 2).toInt = 0) → LW p l e s m below meth c b H locs cells slots (F0 m 473 ls [.int y, .int (xi xs i 1), .ref (s.heap.size + 0)]) := by
    intro y hy hyy
    refine r_callV (As := [.int (xi xs i 1), .int y]) (rest := []) C hw (t_X11_keepC l s.heap.size D cA _ _ _ _ _ (xi xs i 1) y hy K hK hI) sv_L_50 (hI.sh 0 _ rfl) rfl hl.1 rfl (Nat.le_of_ble_eq_true rfl) ⟨Nat.le_of_ble_eq_true rfl, Nat.le_of_ble_eq_true rfl⟩ ⟨(by show cells + 0 ≤ 601024; omega), (by show slots + 0 ≤ 7293034; omega)⟩ dL_law_473 (fun r kd1 ig1 rg1 lg1 H locs hw hH hp => ?_)
    obtain ⟨hI, hN, z, rfl, hKn, -⟩ := hp
    have hM := hM.nx hN hI.sh
    have hX := hX.nx hN
    have hU := hU.nx hN
    have hKm := hKm.nx hN
    have hFm := hFm.nx hN
    have hS := hS.nx hN
    have hV := hV.nx hN
    have hLv := hLv.nx hN
    have hVv := hVv.nx hN
    have hUv := hUv.nx hN
    have hTv := hTv.nx hN
    have hK := hKn
    have hFs := hFs.nx hN
    refine lv_pop hx hb dL_law_476 rfl ?_
    have J2 : ∀ y2 : Int32, (y2.toInt = 0 ∨ y2.toInt = 1) → (y2.toInt = 0 ↔ (xi xs i 2).toInt = 0) → LW p l e s m below meth c b H locs (cells + 0) (slots + 0) (F0 m 498 ls [.int y2, .int (xi xs i 1), .ref (s.heap.size + 49)]) := by
      intro y2 hy2 hyy2
      refine r_callV (As := [.int (xi xs i 1), .int y2]) (rest := []) C hw (t_X12_keepE l s.heap.size D cA _ _ _ _ _ (xi xs i 1) y2 hy2 K hKm (hM.su (f := (π.length : Int)) hX.len.1)) sv_L_54 (hM.sh 49 _ rfl) rfl hl.1 rfl (Nat.le_of_ble_eq_true rfl) ⟨Nat.le_of_ble_eq_true rfl, Nat.le_of_ble_eq_true rfl⟩ ⟨(by show cells + 0 + 0 ≤ 601024; omega), (by show slots + 0 + 0 ≤ 7293034; omega)⟩ dL_law_498 (fun r kd2 ig2 rg2 lg2 H locs hw hH hp => ?_)
      obtain ⟨rfl, rfl, hM, hF, z2, rfl, hKn, -, -⟩ := hp
      have e19 := hM.u.trans hX.len.1.symm
      have hM := hM.nu
      have hI := hI.ft hF (by decide)
      have hS := hS.ft hF (by decide)
      have hV := hV.ft hF (by decide)
      have hLv := hLv.ft hF (by decide)
      have hVv := hVv.ft hF (by decide)
      have hUv := hUv.ft hF (by decide)
      have hTv := hTv.ft hF (by decide)
      have hK := hK.ft hF (by decide)
      have hFs := hFs.ft hF (by decide)
      have hKm := hKn
      have ey9 : y2.toInt = y.toInt := by omega
      rw [ey9] at hKm
      have hFm := hFm.ft hF (congrArg Int32.toInt hF.f37)
      have hX := hX.ft hF (by decide) e19
      have hU := hU.ft hF (by decide)
      refine lv_pop hx hb dL_law_501 rfl ?_
      refine lv_goto (tgt := 769) hx hb dL_law_502 (by decide) ?_
      refine W.widen (k := cells + 6) (n := slots + 370) (by show cells + 0 + 0 ≤ cells + 6; omega) (by show slots + 0 + 0 ≤ slots + 370; omega) ?_
      exact kk _ _ _ _ ls H locs _ _ _ _ ⟨hP, hI, hM, ⟨hS, hV⟩, ⟨hX, hU⟩, hW, _, _, _, hLv, hTv, hVv, hUv, hK3, hK, hKm, hFs, hFm⟩ (by omega) hw hl
    refine lv_aload_n hx hb dL_law_477 rfl (lv_at hl 2 rfl) ?_
    refine l_ld (v := 1) A hw hi (lv_at hl 0 rfl) (lv_at hl 4 rfl) (by decide) (by decide) dL_law_478 dL_law_479 dL_law_481 dL_law_482 dL_law_483 ?_
    refine l_ld (v := 2) A hw hi (lv_at hl 0 rfl) (lv_at hl 4 rfl) (by decide) (by decide) dL_law_484 dL_law_485 dL_law_487 dL_law_488 dL_law_489 ?_
    refine z_eq (tgt := 497) hx hb dL_law_490 (by decide) (fun h9 => ?_) (fun h9 => ?_)
    · exact lv_iconst (v := 0) hx hb dL_law_497 (by decide) (J2 0 (Or.inl rfl) ⟨fun _ => h9, fun _ => rfl⟩)
    · refine lv_iconst (v := 1) hx hb dL_law_493 (by decide) ?_
      exact lv_goto (tgt := 498) hx hb dL_law_494 (by decide) (J2 1 (Or.inr rfl) ⟨fun w9 => absurd w9 (by decide), fun w9 => absurd w9 h9⟩)
  refine z_eq (tgt := 472) hx hb dL_law_465 (by decide) (fun h9 => ?_) (fun h9 => ?_)
  · exact lv_iconst (v := 0) hx hb dL_law_472 (by decide) (J 0 (Or.inl rfl) ⟨fun _ => h9, fun _ => rfl⟩)
  · refine lv_iconst (v := 1) hx hb dL_law_468 (by decide) ?_
    exact lv_goto (tgt := 473) hx hb dL_law_469 (by decide) (J 1 (Or.inr rfl) ⟨fun w9 => absurd w9 (by decide), fun w9 => absurd w9 h9⟩)
set_option maxHeartbeats 4000000 in
set_option maxRecDepth 100000 in
theorem l_c7 {p : Program} {l : Launch} {e : Env} {s : State} {m : MethodId} {below : List Frame} {meth : Method} {c : Code} {H : Heap} {locs : List Loc} {ls : Array Slot} {b L cells slots : Nat} {xs : Nat → Int32} {D : va_G} {cA : Nat → ClassId} {kd : sK} {ig : sI} {rg : sR} {lg : sG} {i : Int32} {τ : Tp} {σ : Sg} {π : Ps} {ν κ : Nat} (hst : l.stackTraces = false) (A : LA p s m meth c b L xs D cA) (hi : In L i) (hQ : St7 s.heap.size τ σ π ν kd ig rg lg) (hν : ν ≤ κ) (hκ : κ ≤ 512) (hw : WD s.heap.size D cA s.heap kd ig rg lg H locs) (hl : lv_has ls 7 [(0, .ref b), (1, .ref (s.heap.size + 0)), (2, .ref (s.heap.size + 49)), (3, .ref (s.heap.size + 79)), (4, .int i)]) (hf : Rm6 cells slots) (kk : LN p l e s m below meth c b D cA i cells slots κ) : LW p l e s m below meth c b H locs cells slots (F0 m 505 ls []) := by
  have C := A.1
  have hx := C.1.1
  have hb := C.1.2.1
  have hown := C.1.2.2.2.1
  have hts := C.1.2.2.2.2
  unfold Rm6 at hf
  obtain ⟨hP, hI, hM, ⟨hS, hV⟩, ⟨hX, hU⟩, hW, kz, K, ff, hLv, hTv, hVv, hUv, hK3, hK, hKm, hFs, hFm⟩ := hQ
  have hHt := hX.ht
  have hHp := hX.hp
  refine lv_aload_n hx hb dL_law_505 rfl (lv_at hl 1 rfl) ?_
  refine r_callV (As := []) (rest := []) C hw (t_X11_checkC l s.heap.size D cA _ _ _ _ _  σ π ν hS hV (by omega) hLv hVv hW hHt hUv hTv hK3 K hK _ hU.2.1.2 _ _ hU.2.2.1 hI) sv_L_55 (hI.sh 0 _ rfl) rfl hl.1 rfl (Nat.le_of_ble_eq_true rfl) ⟨Nat.le_of_ble_eq_true rfl, Nat.le_of_ble_eq_true rfl⟩ ⟨(by show cells + 0 ≤ 601024; omega), (by show slots + 0 ≤ 7293034; omega)⟩ dL_law_506 (fun r kd1 ig1 rg1 lg1 H locs hw hH hp => ?_)
  obtain ⟨hI, hN, z, rfl, ⟨kz, hS, hV, hLv, hVv, hUv, hTv, hK⟩, fl1, ft1, fs1, h1⟩ := hp
  have hM := hM.nx hN hI.sh
  have hX := hX.nx hN
  have hU := hU.nx hN
  have hKm := hKm.nx hN
  have hFm := hFm.nx hN
  have hFs := fs1
  refine lv_pop hx hb dL_law_509 rfl ?_
  refine lv_aload_n hx hb dL_law_510 rfl (lv_at hl 2 rfl) ?_
  refine r_callV (As := []) (rest := []) C hw (t_X12_checkE l s.heap.size D cA _ _ _ _ _  σ π hX hU hW K hKm (hM.su (f := (π.length : Int)) hX.len.1)) sv_L_59 (hM.sh 49 _ rfl) rfl hl.1 rfl (Nat.le_of_ble_eq_true rfl) ⟨Nat.le_of_ble_eq_true rfl, Nat.le_of_ble_eq_true rfl⟩ ⟨(by show cells + 0 + 0 ≤ 601024; omega), (by show slots + 0 + 0 ≤ 7293034; omega)⟩ dL_law_511 (fun r kd2 ig2 rg2 lg2 H locs hw hH hp => ?_)
  obtain ⟨rfl, rfl, hM, hF, z2, rfl, ⟨fl2, fm2, fs2, h2⟩, -⟩ := hp
  have e19 := hM.u.trans hX.len.1.symm
  have hM := hM.nu
  have hI := hI.ft hF (by decide)
  have hS := hS.ft hF (by decide)
  have hV := hV.ft hF (by decide)
  have hLv := hLv.ft hF (by decide)
  have hVv := hVv.ft hF (by decide)
  have hUv := hUv.ft hF (by decide)
  have hTv := hTv.ft hF (by decide)
  have hK := hK.ft hF (by decide)
  have hFs := hFs.ft hF (by decide)
  have hKm := hKm.ft hF
  have efl := FdT.det hW ft1 ⟨_, _, _, _, hU.1.1.far, hU.2.1.2, hU.2.2.1, fm2⟩
  subst efl
  have hFm := fs2
  have ez : z.toInt = z2.toInt := by rw [h1, h2]
  have hX := hX.ft hF (by decide) e19
  have hU := hU.ft hF (by decide)
  refine lv_pop hx hb dL_law_514 rfl ?_
  refine lv_goto (tgt := 769) hx hb dL_law_515 (by decide) ?_
  refine W.widen (k := cells + 6) (n := slots + 370) (by show cells + 0 + 0 ≤ cells + 6; omega) (by show slots + 0 + 0 ≤ slots + 370; omega) ?_
  exact kk _ _ _ _ ls H locs _ _ _ _ ⟨hP, hI, hM, ⟨hS, hV⟩, ⟨hX, hU⟩, hW, _, _, _, hLv, hTv, hVv, hUv, hK3, hK, hKm, hFs, hFm⟩ (by omega) hw hl
set_option maxHeartbeats 4000000 in
set_option maxRecDepth 100000 in
theorem l_c8 {p : Program} {l : Launch} {e : Env} {s : State} {m : MethodId} {below : List Frame} {meth : Method} {c : Code} {H : Heap} {locs : List Loc} {ls : Array Slot} {b L cells slots : Nat} {xs : Nat → Int32} {D : va_G} {cA : Nat → ClassId} {kd : sK} {ig : sI} {rg : sR} {lg : sG} {i : Int32} {τ : Tp} {σ : Sg} {π : Ps} {ν κ : Nat} (hst : l.stackTraces = false) (A : LA p s m meth c b L xs D cA) (hi : In L i) (hQ : St7 s.heap.size τ σ π ν kd ig rg lg) (hν : ν ≤ κ) (hκ : κ ≤ 512) (hw : WD s.heap.size D cA s.heap kd ig rg lg H locs) (hl : lv_has ls 7 [(0, .ref b), (1, .ref (s.heap.size + 0)), (2, .ref (s.heap.size + 49)), (3, .ref (s.heap.size + 79)), (4, .int i)]) (hf : Rm6 cells slots) (kk : LN p l e s m below meth c b D cA i cells slots κ) : LW p l e s m below meth c b H locs cells slots (F0 m 518 ls []) := by
  have C := A.1
  have hx := C.1.1
  have hb := C.1.2.1
  have hown := C.1.2.2.2.1
  have hts := C.1.2.2.2.2
  unfold Rm6 at hf
  obtain ⟨hP, hI, hM, ⟨hS, hV⟩, ⟨hX, hU⟩, hW, kz, K, ff, hLv, hTv, hVv, hUv, hK3, hK, hKm, hFs, hFm⟩ := hQ
  have hHt := hX.ht
  have hHp := hX.hp
  refine lv_aload_n hx hb dL_law_518 rfl (lv_at hl 1 rfl) ?_
  refine l_ld (v := 1) A hw hi (lv_at hl 0 rfl) (lv_at hl 4 rfl) (by decide) (by decide) dL_law_519 dL_law_520 dL_law_522 dL_law_523 dL_law_524 ?_
  refine l_ld (v := 2) A hw hi (lv_at hl 0 rfl) (lv_at hl 4 rfl) (by decide) (by decide) dL_law_525 dL_law_526 dL_law_528 dL_law_529 dL_law_530 ?_
  refine r_callV (As := [.int (xi xs i 1), .int (xi xs i 2)]) (rest := []) C hw (t_X11_findingC l s.heap.size D cA _ _ _ _ _ ((xi xs i 1)) ((xi xs i 2)) ff hFs hI) sv_L_60 (hI.sh 0 _ rfl) rfl hl.1 rfl (Nat.le_of_ble_eq_true rfl) ⟨Nat.le_of_ble_eq_true rfl, Nat.le_of_ble_eq_true rfl⟩ ⟨(by show cells + 0 ≤ 601024; omega), (by show slots + 0 ≤ 7293034; omega)⟩ dL_law_531 (fun r kd1 ig1 rg1 lg1 H locs hw hH hp => ?_)
  obtain ⟨rfl, rfl, rfl, rfl, -, z, rfl, h1⟩ := hp
  refine lv_aload_n hx hb dL_law_534 rfl (lv_at hl 2 rfl) ?_
  refine l_ld (v := 1) A hw hi (lv_at hl 0 rfl) (lv_at hl 4 rfl) (by decide) (by decide) dL_law_535 dL_law_536 dL_law_538 dL_law_539 dL_law_540 ?_
  refine l_ld (v := 2) A hw hi (lv_at hl 0 rfl) (lv_at hl 4 rfl) (by decide) (by decide) dL_law_541 dL_law_542 dL_law_544 dL_law_545 dL_law_546 ?_
  refine r_callV (As := [.int (xi xs i 1), .int (xi xs i 2)]) (rest := [.int z]) C hw (t_X12_findingE l s.heap.size D cA _ _ _ _ _ ((xi xs i 1)) ((xi xs i 2)) ff hFm (hM.su (f := (π.length : Int)) hX.len.1)) sv_L_63 (hM.sh 49 _ rfl) rfl hl.1 rfl (Nat.le_of_ble_eq_true rfl) ⟨Nat.le_of_ble_eq_true rfl, Nat.le_of_ble_eq_true rfl⟩ ⟨(by show cells + 0 + 0 ≤ 601024; omega), (by show slots + 0 + 0 ≤ 7293034; omega)⟩ dL_law_547 (fun r kd2 ig2 rg2 lg2 H locs hw hH hp => ?_)
  obtain ⟨rfl, rfl, hM, hF, z2, rfl, h2, -, -⟩ := hp
  have e19 := hM.u.trans hX.len.1.symm
  have hM := hM.nu
  have hI := hI.ft hF (by decide)
  have hS := hS.ft hF (by decide)
  have hV := hV.ft hF (by decide)
  have hLv := hLv.ft hF (by decide)
  have hVv := hVv.ft hF (by decide)
  have hUv := hUv.ft hF (by decide)
  have hTv := hTv.ft hF (by decide)
  have hK := hK.ft hF (by decide)
  have hFs := hFs.ft hF (by decide)
  have hKm := hKm.ft hF
  have hFm := hFm.ft hF (congrArg Int32.toInt hF.f37)
  have hX := hX.ft hF (by decide) e19
  have hU := hU.ft hF (by decide)
  have ez := FgR.det h1 h2
  refine b_eq (tgt := 769) hx hb dL_law_550 (by decide) (fun _ => ?_) (fun h => (h ez).elim)
  refine W.widen (k := cells + 6) (n := slots + 370) (by show cells + 0 + 0 ≤ cells + 6; omega) (by show slots + 0 + 0 ≤ slots + 370; omega) ?_
  exact kk _ _ _ _ ls H locs _ _ _ _ ⟨hP, hI, hM, ⟨hS, hV⟩, ⟨hX, hU⟩, hW, _, _, _, hLv, hTv, hVv, hUv, hK3, hK, hKm, hFs, hFm⟩ (by omega) hw hl
set_option maxHeartbeats 4000000 in
set_option maxRecDepth 100000 in
theorem l_c9 {p : Program} {l : Launch} {e : Env} {s : State} {m : MethodId} {below : List Frame} {meth : Method} {c : Code} {H : Heap} {locs : List Loc} {ls : Array Slot} {b L cells slots : Nat} {xs : Nat → Int32} {D : va_G} {cA : Nat → ClassId} {kd : sK} {ig : sI} {rg : sR} {lg : sG} {i : Int32} {τ : Tp} {σ : Sg} {π : Ps} {ν κ : Nat} (hst : l.stackTraces = false) (A : LA p s m meth c b L xs D cA) (hi : In L i) (hQ : St7 s.heap.size τ σ π ν kd ig rg lg) (hν : ν ≤ κ) (hκ : κ ≤ 512) (hw : WD s.heap.size D cA s.heap kd ig rg lg H locs) (hl : lv_has ls 7 [(0, .ref b), (1, .ref (s.heap.size + 0)), (2, .ref (s.heap.size + 49)), (3, .ref (s.heap.size + 79)), (4, .int i)]) (hf : Rm6 cells slots) (kk : LN p l e s m below meth c b D cA i cells slots κ) : LW p l e s m below meth c b H locs cells slots (F0 m 555 ls []) := by
  have C := A.1
  have hx := C.1.1
  have hb := C.1.2.1
  have hown := C.1.2.2.2.1
  have hts := C.1.2.2.2.2
  unfold Rm6 at hf
  obtain ⟨hP, hI, hM, ⟨hS, hV⟩, ⟨hX, hU⟩, hW, kz, K, ff, hLv, hTv, hVv, hUv, hK3, hK, hKm, hFs, hFm⟩ := hQ
  have hHt := hX.ht
  have hHp := hX.hp
  refine lv_aload_n hx hb dL_law_555 rfl (lv_at hl 1 rfl) ?_
  refine l_ld (v := 1) A hw hi (lv_at hl 0 rfl) (lv_at hl 4 rfl) (by decide) (by decide) dL_law_556 dL_law_557 dL_law_559 dL_law_560 dL_law_561 ?_
  refine r_callV (As := [.int (xi xs i 1)]) (rest := []) C hw (t_X11_mendZ l s.heap.size D cA _ _ _ _ _ ((xi xs i 1)) σ π ν hS hV (by omega) hLv hVv hW hHt hI) sv_L_64 (hI.sh 0 _ rfl) rfl hl.1 rfl (Nat.le_of_ble_eq_true rfl) ⟨Nat.le_of_ble_eq_true rfl, Nat.le_of_ble_eq_true rfl⟩ ⟨(by show cells + 1 ≤ 601024; omega), (by show slots + 6 ≤ 7293034; omega)⟩ dL_law_562 (fun r kd1 ig1 rg1 lg1 H locs hw hH hp => ?_)
  obtain ⟨hI, hN, z, rfl, σ1, π1, ν1, hS, hV, hLv, hVv, hle, h1⟩ := hp
  have hM := hM.nx hN hI.sh
  have hX := hX.nx hN
  have hU := hU.nx hN
  have hKm := hKm.nx hN
  have hFm := hFm.nx hN
  have hUv := hUv.post hN hle
  have hTv := hTv.post hN hle
  have hK := hK.nx hN
  have hFs := hFs.nx hN
  have hle : ν1 ≤ ν + 1 := by rcases hle with q | ⟨q, -⟩ <;> omega
  refine lv_pop hx hb dL_law_565 rfl ?_
  refine lv_aload_n hx hb dL_law_566 rfl (lv_at hl 2 rfl) ?_
  refine l_ld (v := 1) A hw hi (lv_at hl 0 rfl) (lv_at hl 4 rfl) (by decide) (by decide) dL_law_567 dL_law_568 dL_law_570 dL_law_571 dL_law_572 ?_
  refine r_callV (As := [.int (xi xs i 1)]) (rest := []) C hw (t_X12_mendX l s.heap.size D cA _ _ _ _ _ ((xi xs i 1)) σ π hX hU hW hM) sv_L_67 (hM.sh 49 _ rfl) rfl hl.1 rfl (Nat.le_of_ble_eq_true rfl) ⟨Nat.le_of_ble_eq_true rfl, Nat.le_of_ble_eq_true rfl⟩ ⟨(by show cells + 1 + 0 ≤ 601024; omega), (by show slots + 6 + 0 ≤ 7293034; omega)⟩ dL_law_573 (fun r kd2 ig2 rg2 lg2 H locs hw hH hp => ?_)
  obtain ⟨rfl, rfl, hM, hF, z2, rfl, σ2, π2, hX, hU, h2⟩ := hp
  have hI := hI.ft hF (by decide)
  have hS := hS.ft hF (by decide)
  have hV := hV.ft hF (by decide)
  have hLv := hLv.ft hF (by decide)
  have hVv := hVv.ft hF (by decide)
  have hUv := hUv.ft hF (by decide)
  have hTv := hTv.ft hF (by decide)
  have hK := hK.ft hF (by decide)
  have hFs := hFs.ft hF (by decide)
  have hKm := hKm.ft hF
  have hFm := hFm.ft hF (congrArg Int32.toInt hF.f37)
  have ez := stMz.det hW h1 h2
  have hK3 := K3S.stM hK3 h1.st
  have hW := hW.stM h1.st
  obtain ⟨rfl, rfl⟩ := stM.det h1.st h2.st
  refine lv_pop hx hb dL_law_576 rfl ?_
  refine lv_goto (tgt := 769) hx hb dL_law_577 (by decide) ?_
  refine W.widen (k := cells + 6) (n := slots + 370) (by show cells + 1 + 0 ≤ cells + 6; omega) (by show slots + 6 + 0 ≤ slots + 370; omega) ?_
  exact kk _ _ _ _ ls H locs _ _ _ _ ⟨hP, hI, hM, ⟨hS, hV⟩, ⟨hX, hU⟩, hW, _, _, _, hLv, hTv, hVv, hUv, hK3, hK, hKm, hFs, hFm⟩ (by omega) hw hl
set_option maxHeartbeats 4000000 in
set_option maxRecDepth 100000 in
theorem l_c10 {p : Program} {l : Launch} {e : Env} {s : State} {m : MethodId} {below : List Frame} {meth : Method} {c : Code} {H : Heap} {locs : List Loc} {ls : Array Slot} {b L cells slots : Nat} {xs : Nat → Int32} {D : va_G} {cA : Nat → ClassId} {kd : sK} {ig : sI} {rg : sR} {lg : sG} {i : Int32} {τ : Tp} {σ : Sg} {π : Ps} {ν κ : Nat} (hst : l.stackTraces = false) (A : LA p s m meth c b L xs D cA) (hi : In L i) (hQ : St7 s.heap.size τ σ π ν kd ig rg lg) (hν : ν ≤ κ) (hκ : κ ≤ 512) (hw : WD s.heap.size D cA s.heap kd ig rg lg H locs) (hl : lv_has ls 7 [(0, .ref b), (1, .ref (s.heap.size + 0)), (2, .ref (s.heap.size + 49)), (3, .ref (s.heap.size + 79)), (4, .int i)]) (hf : Rm6 cells slots) (kk : LN p l e s m below meth c b D cA i cells slots κ) : LW p l e s m below meth c b H locs cells slots (F0 m 580 ls []) := by
  have C := A.1
  have hx := C.1.1
  have hb := C.1.2.1
  have hown := C.1.2.2.2.1
  have hts := C.1.2.2.2.2
  unfold Rm6 at hf
  obtain ⟨hP, hI, hM, ⟨hS, hV⟩, ⟨hX, hU⟩, hW, kz, K, ff, hLv, hTv, hVv, hUv, hK3, hK, hKm, hFs, hFm⟩ := hQ
  have hHt := hX.ht
  have hHp := hX.hp
  refine lv_aload_n hx hb dL_law_580 rfl (lv_at hl 1 rfl) ?_
  refine l_ld (v := 1) A hw hi (lv_at hl 0 rfl) (lv_at hl 4 rfl) (by decide) (by decide) dL_law_581 dL_law_582 dL_law_584 dL_law_585 dL_law_586 ?_
  refine l_ld (v := 2) A hw hi (lv_at hl 0 rfl) (lv_at hl 4 rfl) (by decide) (by decide) dL_law_587 dL_law_588 dL_law_590 dL_law_591 dL_law_592 ?_
  refine r_callV (As := [.int (xi xs i 1), .int (xi xs i 2)]) (rest := []) C hw (t_X11_stretchZ l s.heap.size D cA _ _ _ _ _ ((xi xs i 1)) ((xi xs i 2)) σ π ν hS hV (by omega) hLv hVv hW hHt hI) sv_L_68 (hI.sh 0 _ rfl) rfl hl.1 rfl (Nat.le_of_ble_eq_true rfl) ⟨Nat.le_of_ble_eq_true rfl, Nat.le_of_ble_eq_true rfl⟩ ⟨(by show cells + 5 ≤ 601024; omega), (by show slots + 369 ≤ 7293034; omega)⟩ dL_law_593 (fun r kd1 ig1 rg1 lg1 H locs hw hH hp => ?_)
  obtain ⟨hI, hN, z, rfl, σ1, π1, ν1, hS, hV, hLv, hVv, hle, h1⟩ := hp
  have hM := hM.nx hN hI.sh
  have hX := hX.nx hN
  have hU := hU.nx hN
  have hKm := hKm.nx hN
  have hFm := hFm.nx hN
  have hUv := hUv.post hN hle
  have hTv := hTv.post hN hle
  have hK := hK.nx hN
  have hFs := hFs.nx hN
  have hle : ν1 ≤ ν + 1 := by rcases hle with q | ⟨q, -⟩ <;> omega
  refine lv_pop hx hb dL_law_596 rfl ?_
  refine lv_aload_n hx hb dL_law_597 rfl (lv_at hl 2 rfl) ?_
  refine l_ld (v := 1) A hw hi (lv_at hl 0 rfl) (lv_at hl 4 rfl) (by decide) (by decide) dL_law_598 dL_law_599 dL_law_601 dL_law_602 dL_law_603 ?_
  refine l_ld (v := 2) A hw hi (lv_at hl 0 rfl) (lv_at hl 4 rfl) (by decide) (by decide) dL_law_604 dL_law_605 dL_law_607 dL_law_608 dL_law_609 ?_
  refine r_callV (As := [.int (xi xs i 1), .int (xi xs i 2)]) (rest := []) C hw (t_X12_stretchX l s.heap.size D cA _ _ _ _ _ ((xi xs i 1)) ((xi xs i 2)) σ π hX hU hW hM) sv_L_71 (hM.sh 49 _ rfl) rfl hl.1 rfl (Nat.le_of_ble_eq_true rfl) ⟨Nat.le_of_ble_eq_true rfl, Nat.le_of_ble_eq_true rfl⟩ ⟨(by show cells + 5 + 0 ≤ 601024; omega), (by show slots + 369 + 0 ≤ 7293034; omega)⟩ dL_law_610 (fun r kd2 ig2 rg2 lg2 H locs hw hH hp => ?_)
  obtain ⟨rfl, rfl, hM, hF, z2, rfl, σ2, π2, hX, hU, h2⟩ := hp
  have hI := hI.ft hF (by decide)
  have hS := hS.ft hF (by decide)
  have hV := hV.ft hF (by decide)
  have hLv := hLv.ft hF (by decide)
  have hVv := hVv.ft hF (by decide)
  have hUv := hUv.ft hF (by decide)
  have hTv := hTv.ft hF (by decide)
  have hK := hK.ft hF (by decide)
  have hFs := hFs.ft hF (by decide)
  have hKm := hKm.ft hF
  have hFm := hFm.ft hF (congrArg Int32.toInt hF.f37)
  have ez := stTz.det hW h1 h2
  have hK3 := K3S.stT hW hK3 h1.st
  have hW := hW.stT h1.st
  obtain ⟨rfl, rfl⟩ := stT.det h1.st h2.st
  refine lv_pop hx hb dL_law_613 rfl ?_
  refine lv_goto (tgt := 769) hx hb dL_law_614 (by decide) ?_
  refine W.widen (k := cells + 6) (n := slots + 370) (by show cells + 5 + 0 ≤ cells + 6; omega) (by show slots + 369 + 0 ≤ slots + 370; omega) ?_
  exact kk _ _ _ _ ls H locs _ _ _ _ ⟨hP, hI, hM, ⟨hS, hV⟩, ⟨hX, hU⟩, hW, _, _, _, hLv, hTv, hVv, hUv, hK3, hK, hKm, hFs, hFm⟩ (by omega) hw hl
set_option maxHeartbeats 4000000 in
set_option maxRecDepth 100000 in
theorem l_c11 {p : Program} {l : Launch} {e : Env} {s : State} {m : MethodId} {below : List Frame} {meth : Method} {c : Code} {H : Heap} {locs : List Loc} {ls : Array Slot} {b L cells slots : Nat} {xs : Nat → Int32} {D : va_G} {cA : Nat → ClassId} {kd : sK} {ig : sI} {rg : sR} {lg : sG} {i : Int32} {τ : Tp} {σ : Sg} {π : Ps} {ν κ : Nat} (hst : l.stackTraces = false) (A : LA p s m meth c b L xs D cA) (hi : In L i) (hQ : St7 s.heap.size τ σ π ν kd ig rg lg) (hν : ν ≤ κ) (hκ : κ ≤ 512) (hw : WD s.heap.size D cA s.heap kd ig rg lg H locs) (hl : lv_has ls 7 [(0, .ref b), (1, .ref (s.heap.size + 0)), (2, .ref (s.heap.size + 49)), (3, .ref (s.heap.size + 79)), (4, .int i)]) (hf : Rm6 cells slots) (kk : LN p l e s m below meth c b D cA i cells slots κ) : LW p l e s m below meth c b H locs cells slots (F0 m 617 ls []) := by
  have C := A.1
  have hx := C.1.1
  have hb := C.1.2.1
  have hown := C.1.2.2.2.1
  have hts := C.1.2.2.2.2
  unfold Rm6 at hf
  obtain ⟨hP, hI, hM, ⟨hS, hV⟩, ⟨hX, hU⟩, hW, kz, K, ff, hLv, hTv, hVv, hUv, hK3, hK, hKm, hFs, hFm⟩ := hQ
  have hHt := hX.ht
  have hHp := hX.hp
  refine lv_aload_n hx hb dL_law_617 rfl (lv_at hl 1 rfl) ?_
  refine l_ld (v := 1) A hw hi (lv_at hl 0 rfl) (lv_at hl 4 rfl) (by decide) (by decide) dL_law_618 dL_law_619 dL_law_621 dL_law_622 dL_law_623 ?_
  refine l_ld (v := 2) A hw hi (lv_at hl 0 rfl) (lv_at hl 4 rfl) (by decide) (by decide) dL_law_624 dL_law_625 dL_law_627 dL_law_628 dL_law_629 ?_
  refine r_callV (As := [.int (xi xs i 1), .int (xi xs i 2)]) (rest := []) C hw (t_X11_changed l s.heap.size D cA _ _ _ _ _ ((xi xs i 1)) ((xi xs i 2)) hI) sv_L_72 (hI.sh 0 _ rfl) rfl hl.1 rfl (Nat.le_of_ble_eq_true rfl) ⟨Nat.le_of_ble_eq_true rfl, Nat.le_of_ble_eq_true rfl⟩ ⟨(by show cells + 0 ≤ 601024; omega), (by show slots + 0 ≤ 7293034; omega)⟩ dL_law_630 (fun r kd1 ig1 rg1 lg1 H locs hw hH hp => ?_)
  obtain ⟨rfl, rfl, rfl, rfl, -, z, rfl, h1⟩ := hp
  refine lv_pop hx hb dL_law_633 rfl ?_
  refine lv_aload_n hx hb dL_law_634 rfl (lv_at hl 2 rfl) ?_
  refine l_ld (v := 1) A hw hi (lv_at hl 0 rfl) (lv_at hl 4 rfl) (by decide) (by decide) dL_law_635 dL_law_636 dL_law_638 dL_law_639 dL_law_640 ?_
  refine l_ld (v := 2) A hw hi (lv_at hl 0 rfl) (lv_at hl 4 rfl) (by decide) (by decide) dL_law_641 dL_law_642 dL_law_644 dL_law_645 dL_law_646 ?_
  refine r_callV (As := [.int (xi xs i 1), .int (xi xs i 2)]) (rest := []) C hw (t_X12_changed l s.heap.size D cA _ _ _ _ _ ((xi xs i 1)) ((xi xs i 2)) (hM.su (f := (π.length : Int)) hX.len.1)) sv_L_75 (hM.sh 49 _ rfl) rfl hl.1 rfl (Nat.le_of_ble_eq_true rfl) ⟨Nat.le_of_ble_eq_true rfl, Nat.le_of_ble_eq_true rfl⟩ ⟨(by show cells + 0 + 0 ≤ 601024; omega), (by show slots + 0 + 0 ≤ 7293034; omega)⟩ dL_law_647 (fun r kd2 ig2 rg2 lg2 H locs hw hH hp => ?_)
  obtain ⟨rfl, rfl, hM, hF, z2, rfl, h2⟩ := hp
  have e19 := hM.u.trans hX.len.1.symm
  have hM := hM.nu
  have hI := hI.ft hF (by decide)
  have hS := hS.ft hF (by decide)
  have hV := hV.ft hF (by decide)
  have hLv := hLv.ft hF (by decide)
  have hVv := hVv.ft hF (by decide)
  have hUv := hUv.ft hF (by decide)
  have hTv := hTv.ft hF (by decide)
  have hK := hK.ft hF (by decide)
  have hFs := hFs.ft hF (by decide)
  have hKm := hKm.ft hF
  have hFm := hFm.ft hF (congrArg Int32.toInt hF.f37)
  have hX := hX.ft hF (by decide) e19
  have hU := hU.ft hF (by decide)
  refine lv_pop hx hb dL_law_650 rfl ?_
  refine lv_goto (tgt := 769) hx hb dL_law_651 (by decide) ?_
  refine W.widen (k := cells + 6) (n := slots + 370) (by show cells + 0 + 0 ≤ cells + 6; omega) (by show slots + 0 + 0 ≤ slots + 370; omega) ?_
  exact kk _ _ _ _ ls H locs _ _ _ _ ⟨hP, hI, hM, ⟨hS, hV⟩, ⟨hX, hU⟩, hW, _, _, _, hLv, hTv, hVv, hUv, hK3, hK, hKm, hFs, hFm⟩ (by omega) hw hl
set_option maxHeartbeats 4000000 in
set_option maxRecDepth 100000 in
theorem l_c12 {p : Program} {l : Launch} {e : Env} {s : State} {m : MethodId} {below : List Frame} {meth : Method} {c : Code} {H : Heap} {locs : List Loc} {ls : Array Slot} {b L cells slots : Nat} {xs : Nat → Int32} {D : va_G} {cA : Nat → ClassId} {kd : sK} {ig : sI} {rg : sR} {lg : sG} {i : Int32} {τ : Tp} {σ : Sg} {π : Ps} {ν κ : Nat} (hst : l.stackTraces = false) (A : LA p s m meth c b L xs D cA) (hi : In L i) (hQ : St7 s.heap.size τ σ π ν kd ig rg lg) (hν : ν ≤ κ) (hκ : κ ≤ 512) (hw : WD s.heap.size D cA s.heap kd ig rg lg H locs) (hl : lv_has ls 7 [(0, .ref b), (1, .ref (s.heap.size + 0)), (2, .ref (s.heap.size + 49)), (3, .ref (s.heap.size + 79)), (4, .int i)]) (hf : Rm6 cells slots) (kk : LN p l e s m below meth c b D cA i cells slots κ) : LW p l e s m below meth c b H locs cells slots (F0 m 654 ls []) := by
  have C := A.1
  have hx := C.1.1
  have hb := C.1.2.1
  have hown := C.1.2.2.2.1
  have hts := C.1.2.2.2.2
  unfold Rm6 at hf
  obtain ⟨hP, hI, hM, ⟨hS, hV⟩, ⟨hX, hU⟩, hW, kz, K, ff, hLv, hTv, hVv, hUv, hK3, hK, hKm, hFs, hFm⟩ := hQ
  have hHt := hX.ht
  have hHp := hX.hp
  refine lv_aload_n hx hb dL_law_654 rfl (lv_at hl 1 rfl) ?_
  refine r_callV (As := []) (rest := []) C hw (t_X11_undoZ l s.heap.size D cA _ _ _ _ _  σ π ν hS hV (by omega) hLv hVv hW hHt hHp hI) sv_L_76 (hI.sh 0 _ rfl) rfl hl.1 rfl (Nat.le_of_ble_eq_true rfl) ⟨Nat.le_of_ble_eq_true rfl, Nat.le_of_ble_eq_true rfl⟩ ⟨(by show cells + 0 ≤ 601024; omega), (by show slots + 0 ≤ 7293034; omega)⟩ dL_law_655 (fun r kd1 ig1 rg1 lg1 H locs hw hH hp => ?_)
  obtain ⟨hI, hN, z, rfl, σ1, π1, ν1, hS, hV, hLv, hVv, hle, h1⟩ := hp
  have hM := hM.nx hN hI.sh
  have hX := hX.nx hN
  have hU := hU.nx hN
  have hKm := hKm.nx hN
  have hFm := hFm.nx hN
  have hUv := hUv.post hN hle
  have hTv := hTv.post hN hle
  have hK := hK.nx hN
  have hFs := hFs.nx hN
  have hle : ν1 ≤ ν + 1 := by rcases hle with q | ⟨q, -⟩ <;> omega
  refine lv_pop hx hb dL_law_658 rfl ?_
  refine lv_aload_n hx hb dL_law_659 rfl (lv_at hl 2 rfl) ?_
  refine r_callV (As := []) (rest := []) C hw (t_X12_undoX l s.heap.size D cA _ _ _ _ _  σ π hX hU hW hM) sv_L_79 (hM.sh 49 _ rfl) rfl hl.1 rfl (Nat.le_of_ble_eq_true rfl) ⟨Nat.le_of_ble_eq_true rfl, Nat.le_of_ble_eq_true rfl⟩ ⟨(by show cells + 0 + 0 ≤ 601024; omega), (by show slots + 0 + 0 ≤ 7293034; omega)⟩ dL_law_660 (fun r kd2 ig2 rg2 lg2 H locs hw hH hp => ?_)
  obtain ⟨rfl, rfl, hM, hF, z2, rfl, σ2, π2, hX, hU, h2⟩ := hp
  have hI := hI.ft hF (by decide)
  have hS := hS.ft hF (by decide)
  have hV := hV.ft hF (by decide)
  have hLv := hLv.ft hF (by decide)
  have hVv := hVv.ft hF (by decide)
  have hUv := hUv.ft hF (by decide)
  have hTv := hTv.ft hF (by decide)
  have hK := hK.ft hF (by decide)
  have hFs := hFs.ft hF (by decide)
  have hKm := hKm.ft hF
  have hFm := hFm.ft hF (congrArg Int32.toInt hF.f37)
  have ez := stBz.det hW h1 h2
  have hK3 := K3S.stB hK3 h1.st
  have hW := hW.stB h1.st
  obtain ⟨rfl, rfl⟩ := stB.det h1.st h2.st
  refine lv_pop hx hb dL_law_663 rfl ?_
  refine lv_goto (tgt := 769) hx hb dL_law_664 (by decide) ?_
  refine W.widen (k := cells + 6) (n := slots + 370) (by show cells + 0 + 0 ≤ cells + 6; omega) (by show slots + 0 + 0 ≤ slots + 370; omega) ?_
  exact kk _ _ _ _ ls H locs _ _ _ _ ⟨hP, hI, hM, ⟨hS, hV⟩, ⟨hX, hU⟩, hW, _, _, _, hLv, hTv, hVv, hUv, hK3, hK, hKm, hFs, hFm⟩ (by omega) hw hl
set_option maxHeartbeats 4000000 in
set_option maxRecDepth 100000 in
theorem l_c13 {p : Program} {l : Launch} {e : Env} {s : State} {m : MethodId} {below : List Frame} {meth : Method} {c : Code} {H : Heap} {locs : List Loc} {ls : Array Slot} {b L cells slots : Nat} {xs : Nat → Int32} {D : va_G} {cA : Nat → ClassId} {kd : sK} {ig : sI} {rg : sR} {lg : sG} {i : Int32} {τ : Tp} {σ : Sg} {π : Ps} {ν κ : Nat} (hst : l.stackTraces = false) (A : LA p s m meth c b L xs D cA) (hi : In L i) (hQ : St7 s.heap.size τ σ π ν kd ig rg lg) (hν : ν ≤ κ) (hκ : κ ≤ 512) (hw : WD s.heap.size D cA s.heap kd ig rg lg H locs) (hl : lv_has ls 7 [(0, .ref b), (1, .ref (s.heap.size + 0)), (2, .ref (s.heap.size + 49)), (3, .ref (s.heap.size + 79)), (4, .int i)]) (hf : Rm6 cells slots) (kk : LN p l e s m below meth c b D cA i cells slots κ) : LW p l e s m below meth c b H locs cells slots (F0 m 667 ls []) := by
  have C := A.1
  have hx := C.1.1
  have hb := C.1.2.1
  have hown := C.1.2.2.2.1
  have hts := C.1.2.2.2.2
  unfold Rm6 at hf
  obtain ⟨hP, hI, hM, ⟨hS, hV⟩, ⟨hX, hU⟩, hW, kz, K, ff, hLv, hTv, hVv, hUv, hK3, hK, hKm, hFs, hFm⟩ := hQ
  have hHt := hX.ht
  have hHp := hX.hp
  refine lv_aload_n hx hb dL_law_667 rfl (lv_at hl 1 rfl) ?_
  refine l_ld (v := 1) A hw hi (lv_at hl 0 rfl) (lv_at hl 4 rfl) (by decide) (by decide) dL_law_668 dL_law_669 dL_law_671 dL_law_672 dL_law_673 ?_
  refine l_ld (v := 2) A hw hi (lv_at hl 0 rfl) (lv_at hl 4 rfl) (by decide) (by decide) dL_law_674 dL_law_675 dL_law_677 dL_law_678 dL_law_679 ?_
  refine lv_aload_n hx hb dL_law_680 rfl (lv_at hl 3 rfl) ?_
  obtain ⟨⟨w1, w2, w3, w4⟩, w5, w6, w7, w8⟩ := lc_k
  refine r_callH (na := 4) (As := [.ref (s.heap.size + 0), .int (xi xs i 1), .int (xi xs i 2), .ref (s.heap.size + 79)]) (rest := []) C hw (t_L_cellC l s.heap.size D cA _ _ _ _ _ (xi xs i 1) (xi xs i 2) hst σ π ν hS hV (by omega) hX hU hLv hVv hW hHt hUv hTv hK3 K hK hKm ff hFs hFm hI hM) (TBg_in w1 w5) (TBg_in w2 w6) (TBg_in w3 w7) (TBg_in w4 w8) ⟨by decide +kernel, by decide +kernel, by decide +kernel⟩ rfl hl.1 rfl (Nat.le_of_ble_eq_true rfl) ⟨Nat.le_of_ble_eq_true rfl, Nat.le_of_ble_eq_true rfl⟩ ⟨(by show cells + 1 ≤ 601024; omega), (by show slots + 6 ≤ 7293034; omega)⟩ dL_law_681 (fun r kd1 ig1 rg1 lg1 H locs hw hH hp => ?_)
  obtain ⟨hI, hM, ⟨kz, hS, hV, hX, hU, hLv, hVv, hUv, hTv, hK, hKm, hFs, hFm⟩, q, rfl, hq⟩ := hp
  refine lv_istore (lv' := (5, .int q) :: [(0, .ref b), (1, .ref (s.heap.size + 0)), (2, .ref (s.heap.size + 49)), (3, .ref (s.heap.size + 79)), (4, .int i)]) hx hb dL_law_684 hl (by decide) rfl (fun ls hl => ?_)
  refine lv_aload_n hx hb dL_law_686 rfl (lv_at hl 3 rfl) ?_
  refine l_ld (v := 1) A hw hi (lv_at hl 1 rfl) (lv_at hl 5 rfl) (by decide) (by decide) dL_law_687 dL_law_688 dL_law_690 dL_law_691 dL_law_692 ?_
  refine l_ld (v := 2) A hw hi (lv_at hl 1 rfl) (lv_at hl 5 rfl) (by decide) (by decide) dL_law_693 dL_law_694 dL_law_696 dL_law_697 dL_law_698 ?_
  refine r_callV (As := [.int (xi xs i 1), .int (xi xs i 2)]) (rest := []) C hw (t_X12_cell l s.heap.size D cA _ _ _ _ _ (xi xs i 1) (xi xs i 2) (hM.su (f := (π.length : Int)) hX.len.1)) sv_L_85 (hM.sh 49 _ rfl) rfl hl.1 rfl (Nat.le_of_ble_eq_true rfl) ⟨Nat.le_of_ble_eq_true rfl, Nat.le_of_ble_eq_true rfl⟩ ⟨(by show cells + 1 + 0 ≤ 601024; omega), (by show slots + 6 + 0 ≤ 7293034; omega)⟩ dL_law_699 (fun r kd2 ig2 rg2 lg2 H locs hw hH hp => ?_)
  obtain ⟨rfl, rfl, hM, hF, z2, rfl, -⟩ := hp
  have e19 := hM.u.trans hX.len.1.symm
  have hM := hM.nu
  have hI := hI.ft hF (by decide)
  have hS := hS.ft hF (by decide)
  have hV := hV.ft hF (by decide)
  have hLv := hLv.ft hF (by decide)
  have hVv := hVv.ft hF (by decide)
  have hUv := hUv.ft hF (by decide)
  have hTv := hTv.ft hF (by decide)
  have hK := hK.ft hF (by decide)
  have hFs := hFs.ft hF (by decide)
  have hKm := hKm.ft hF
  have hFm := hFm.ft hF (congrArg Int32.toInt hF.f37)
  have hX := hX.ft hF (by decide) e19
  have hU := hU.ft hF (by decide)
  refine lv_istore (lv' := (6, .int z2) :: (5, .int q) :: [(0, .ref b), (1, .ref (s.heap.size + 0)), (2, .ref (s.heap.size + 49)), (3, .ref (s.heap.size + 79)), (4, .int i)]) hx hb dL_law_702 hl (by decide) rfl (fun ls hl => ?_)
  refine lv_goto (tgt := 769) hx hb dL_law_704 (by decide) ?_
  refine W.widen (k := cells + 6) (n := slots + 370) (by show cells + 1 + 0 ≤ cells + 6; omega) (by show slots + 6 + 0 ≤ slots + 370; omega) ?_
  exact kk _ _ _ _ ls H locs _ _ _ _ ⟨hP, hI, hM, ⟨hS, hV⟩, ⟨hX, hU⟩, hW, _, _, _, hLv, hTv, hVv, hUv, hK3, hK, hKm, hFs, hFm⟩ (by omega) hw (lv_sub hl [2, 3, 4, 5, 6] rfl)
set_option maxHeartbeats 4000000 in
set_option maxRecDepth 100000 in
theorem l_c14 {p : Program} {l : Launch} {e : Env} {s : State} {m : MethodId} {below : List Frame} {meth : Method} {c : Code} {H : Heap} {locs : List Loc} {ls : Array Slot} {b L cells slots : Nat} {xs : Nat → Int32} {D : va_G} {cA : Nat → ClassId} {kd : sK} {ig : sI} {rg : sR} {lg : sG} {i : Int32} {τ : Tp} {σ : Sg} {π : Ps} {ν κ : Nat} (hst : l.stackTraces = false) (A : LA p s m meth c b L xs D cA) (hi : In L i) (hQ : St7 s.heap.size τ σ π ν kd ig rg lg) (hν : ν ≤ κ) (hκ : κ ≤ 512) (hw : WD s.heap.size D cA s.heap kd ig rg lg H locs) (hl : lv_has ls 7 [(0, .ref b), (1, .ref (s.heap.size + 0)), (2, .ref (s.heap.size + 49)), (3, .ref (s.heap.size + 79)), (4, .int i)]) (hf : Rm6 cells slots) (kk : LN p l e s m below meth c b D cA i cells slots κ) : LW p l e s m below meth c b H locs cells slots (F0 m 707 ls []) := by
  have C := A.1
  have hx := C.1.1
  have hb := C.1.2.1
  have hown := C.1.2.2.2.1
  have hts := C.1.2.2.2.2
  unfold Rm6 at hf
  obtain ⟨hP, hI, hM, ⟨hS, hV⟩, ⟨hX, hU⟩, hW, kz, K, ff, hLv, hTv, hVv, hUv, hK3, hK, hKm, hFs, hFm⟩ := hQ
  have hHt := hX.ht
  have hHp := hX.hp
  refine lv_aload_n hx hb dL_law_707 rfl (lv_at hl 1 rfl) ?_
  refine l_ld (v := 1) A hw hi (lv_at hl 0 rfl) (lv_at hl 4 rfl) (by decide) (by decide) dL_law_708 dL_law_709 dL_law_711 dL_law_712 dL_law_713 ?_
  refine l_ld (v := 2) A hw hi (lv_at hl 0 rfl) (lv_at hl 4 rfl) (by decide) (by decide) dL_law_714 dL_law_715 dL_law_717 dL_law_718 dL_law_719 ?_
  refine r_callV (As := [.int (xi xs i 1), .int (xi xs i 2)]) (rest := []) C hw (t_X11_waysC l s.heap.size D cA _ _ _ _ _ ((xi xs i 1)) ((xi xs i 2)) σ π ν hS hV (by omega) hLv hVv hW hHt hUv hTv hK3 K hK hI) sv_L_86 (hI.sh 0 _ rfl) rfl hl.1 rfl (Nat.le_of_ble_eq_true rfl) ⟨Nat.le_of_ble_eq_true rfl, Nat.le_of_ble_eq_true rfl⟩ ⟨(by show cells + 0 ≤ 601024; omega), (by show slots + 0 ≤ 7293034; omega)⟩ dL_law_720 (fun r kd1 ig1 rg1 lg1 H locs hw hH hp => ?_)
  obtain ⟨hI, hN, z, rfl, ⟨kz, hS, hV, hLv, hVv, hUv, hTv, hK⟩, h1⟩ := hp
  have hM := hM.nx hN hI.sh
  have hX := hX.nx hN
  have hU := hU.nx hN
  have hKm := hKm.nx hN
  have hFm := hFm.nx hN
  have hFs := hFs.nx hN
  refine lv_pop hx hb dL_law_723 rfl ?_
  refine lv_aload_n hx hb dL_law_724 rfl (lv_at hl 2 rfl) ?_
  refine l_ld (v := 1) A hw hi (lv_at hl 0 rfl) (lv_at hl 4 rfl) (by decide) (by decide) dL_law_725 dL_law_726 dL_law_728 dL_law_729 dL_law_730 ?_
  refine l_ld (v := 2) A hw hi (lv_at hl 0 rfl) (lv_at hl 4 rfl) (by decide) (by decide) dL_law_731 dL_law_732 dL_law_734 dL_law_735 dL_law_736 ?_
  refine r_callV (As := [.int (xi xs i 1), .int (xi xs i 2)]) (rest := []) C hw (t_X12_waysE l s.heap.size D cA _ _ _ _ _ ((xi xs i 1)) ((xi xs i 2)) σ π hU hW (hM.su (f := (π.length : Int)) hX.len.1)) sv_L_89 (hM.sh 49 _ rfl) rfl hl.1 rfl (Nat.le_of_ble_eq_true rfl) ⟨Nat.le_of_ble_eq_true rfl, Nat.le_of_ble_eq_true rfl⟩ ⟨(by show cells + 0 + 0 ≤ 601024; omega), (by show slots + 0 + 0 ≤ 7293034; omega)⟩ dL_law_737 (fun r kd2 ig2 rg2 lg2 H locs hw hH hp => ?_)
  obtain ⟨rfl, rfl, hM, hF, z2, rfl, h2⟩ := hp
  have e19 := hM.u.trans hX.len.1.symm
  have hM := hM.nu
  have hI := hI.ft hF (by decide)
  have hS := hS.ft hF (by decide)
  have hV := hV.ft hF (by decide)
  have hLv := hLv.ft hF (by decide)
  have hVv := hVv.ft hF (by decide)
  have hUv := hUv.ft hF (by decide)
  have hTv := hTv.ft hF (by decide)
  have hK := hK.ft hF (by decide)
  have hFs := hFs.ft hF (by decide)
  have hKm := hKm.ft hF
  have hFm := hFm.ft hF (congrArg Int32.toInt hF.f37)
  have hX := hX.ft hF (by decide) e19
  have hU := hU.ft hF (by decide)
  have ez := WyR.det hW h1 h2.1
  refine lv_pop hx hb dL_law_740 rfl ?_
  refine lv_goto (tgt := 769) hx hb dL_law_741 (by decide) ?_
  refine W.widen (k := cells + 6) (n := slots + 370) (by show cells + 0 + 0 ≤ cells + 6; omega) (by show slots + 0 + 0 ≤ slots + 370; omega) ?_
  exact kk _ _ _ _ ls H locs _ _ _ _ ⟨hP, hI, hM, ⟨hS, hV⟩, ⟨hX, hU⟩, hW, _, _, _, hLv, hTv, hVv, hUv, hK3, hK, hKm, hFs, hFm⟩ (by omega) hw hl
set_option maxHeartbeats 4000000 in
set_option maxRecDepth 100000 in
theorem l_c15 {p : Program} {l : Launch} {e : Env} {s : State} {m : MethodId} {below : List Frame} {meth : Method} {c : Code} {H : Heap} {locs : List Loc} {ls : Array Slot} {b L cells slots : Nat} {xs : Nat → Int32} {D : va_G} {cA : Nat → ClassId} {kd : sK} {ig : sI} {rg : sR} {lg : sG} {i : Int32} {τ : Tp} {σ : Sg} {π : Ps} {ν κ : Nat} (hst : l.stackTraces = false) (A : LA p s m meth c b L xs D cA) (hi : In L i) (hQ : St7 s.heap.size τ σ π ν kd ig rg lg) (hν : ν ≤ κ) (hκ : κ ≤ 512) (hw : WD s.heap.size D cA s.heap kd ig rg lg H locs) (hl : lv_has ls 7 [(0, .ref b), (1, .ref (s.heap.size + 0)), (2, .ref (s.heap.size + 49)), (3, .ref (s.heap.size + 79)), (4, .int i)]) (hf : Rm6 cells slots) (kk : LN p l e s m below meth c b D cA i cells slots κ) : LW p l e s m below meth c b H locs cells slots (F0 m 744 ls []) := by
  have C := A.1
  have hx := C.1.1
  have hb := C.1.2.1
  have hown := C.1.2.2.2.1
  have hts := C.1.2.2.2.2
  unfold Rm6 at hf
  obtain ⟨hP, hI, hM, ⟨hS, hV⟩, ⟨hX, hU⟩, hW, kz, K, ff, hLv, hTv, hVv, hUv, hK3, hK, hKm, hFs, hFm⟩ := hQ
  have hHt := hX.ht
  have hHp := hX.hp
  refine lv_aload_n hx hb dL_law_744 rfl (lv_at hl 1 rfl) ?_
  refine l_ld (v := 1) A hw hi (lv_at hl 0 rfl) (lv_at hl 4 rfl) (by decide) (by decide) dL_law_745 dL_law_746 dL_law_748 dL_law_749 dL_law_750 ?_
  refine r_callV (As := [.int (xi xs i 1)]) (rest := []) C hw (t_X11_countK l s.heap.size D cA _ _ _ _ _ ((xi xs i 1)) σ π ν hS hV (by omega) hLv hVv hW hHt hI) sv_L_90 (hI.sh 0 _ rfl) rfl hl.1 rfl (Nat.le_of_ble_eq_true rfl) ⟨Nat.le_of_ble_eq_true rfl, Nat.le_of_ble_eq_true rfl⟩ ⟨(by show cells + 0 ≤ 601024; omega), (by show slots + 0 ≤ 7293034; omega)⟩ dL_law_751 (fun r kd1 ig1 rg1 lg1 H locs hw hH hp => ?_)
  obtain ⟨hI, hN, z, rfl, hS, hV, hLv, hVv⟩ := hp
  have hM := hM.nx hN hI.sh
  have hX := hX.nx hN
  have hU := hU.nx hN
  have hKm := hKm.nx hN
  have hFm := hFm.nx hN
  have hUv := hUv.nx hN
  have hTv := hTv.nx hN
  have hK := hK.nx hN
  have hFs := hFs.nx hN
  refine lv_pop hx hb dL_law_754 rfl ?_
  refine lv_aload_n hx hb dL_law_755 rfl (lv_at hl 2 rfl) ?_
  refine l_ld (v := 1) A hw hi (lv_at hl 0 rfl) (lv_at hl 4 rfl) (by decide) (by decide) dL_law_756 dL_law_757 dL_law_759 dL_law_760 dL_law_761 ?_
  refine r_callV (As := [.int (xi xs i 1)]) (rest := []) C hw (t_X12_count l s.heap.size D cA _ _ _ _ _ ((xi xs i 1)) (hM.su (f := (π.length : Int)) hX.len.1)) sv_L_93 (hM.sh 49 _ rfl) rfl hl.1 rfl (Nat.le_of_ble_eq_true rfl) ⟨Nat.le_of_ble_eq_true rfl, Nat.le_of_ble_eq_true rfl⟩ ⟨(by show cells + 0 + 0 ≤ 601024; omega), (by show slots + 0 + 0 ≤ 7293034; omega)⟩ dL_law_762 (fun r kd2 ig2 rg2 lg2 H locs hw hH hp => ?_)
  obtain ⟨rfl, rfl, hM, hF, z2, rfl, h2⟩ := hp
  have e19 := hM.u.trans hX.len.1.symm
  have hM := hM.nu
  have hI := hI.ft hF (by decide)
  have hS := hS.ft hF (by decide)
  have hV := hV.ft hF (by decide)
  have hLv := hLv.ft hF (by decide)
  have hVv := hVv.ft hF (by decide)
  have hUv := hUv.ft hF (by decide)
  have hTv := hTv.ft hF (by decide)
  have hK := hK.ft hF (by decide)
  have hFs := hFs.ft hF (by decide)
  have hKm := hKm.ft hF
  have hFm := hFm.ft hF (congrArg Int32.toInt hF.f37)
  have hX := hX.ft hF (by decide) e19
  have hU := hU.ft hF (by decide)
  refine lv_pop hx hb dL_law_765 rfl ?_
  refine lv_goto (tgt := 769) hx hb dL_law_766 (by decide) ?_
  refine W.widen (k := cells + 6) (n := slots + 370) (by show cells + 0 + 0 ≤ cells + 6; omega) (by show slots + 0 + 0 ≤ slots + 370; omega) ?_
  exact kk _ _ _ _ ls H locs _ _ _ _ ⟨hP, hI, hM, ⟨hS, hV⟩, ⟨hX, hU⟩, hW, _, _, _, hLv, hTv, hVv, hUv, hK3, hK, hKm, hFs, hFm⟩ (by omega) hw hl
