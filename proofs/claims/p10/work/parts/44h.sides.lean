/-! what one side leaves of the other, with links and values -/
section SIDES3
variable {B b : Nat} {T : List Nat} {kd kd' : sK} {ig ig' : sI} {rg rg' : sR} {lg lg' : sG} {σ σ' : Sg} {π π' : Ps} {ν ν' : Nat}
theorem FVm.nx (s : FVm B σ ig) (hN : Nx b B none kd ig rg lg kd' ig' rg' lg') : FVm B σ ig' := ⟨s.1.nx hN, s.2.ag (funext fun p => hN.1.2.2.1 (B + 66) p (by omega) (by omega)) (funext fun p => hN.1.2.2.1 (B + 67) p (by omega) (by omega))⟩
theorem LV.ft {κ : Int} (h : LV κ B σ ν ig lg) (hF : Ft B T ig lg ig' lg') (hT : ∀ q ∈ T, 49 ≤ q ∧ q < 80) : LV κ B σ ν ig' lg' := by
  have e : ∀ c j, c < 49 → ig' (B + c) j = ig (B + c) j := fun c j hc => hF.i c j (fun q hq e => by have := hT q hq; omega)
  have e8 : ∀ j, lg' (B + 18) j = lg (B + 18) j := fun j => hF.l 18 j (fun q hq e => by have := hT q hq; omega)
  exact ⟨by rw [e 15 11 (by decide)]; exact h.1, h.2.1.ag (by rw [e 15 2 (by decide)]) (fun i => e 16 i (by decide)) e8, fun q => (h.2.2 (by rw [← e 15 11 (by decide)]; exact q)).ag (fun c j hc => e c j (by omega)) (by rw [e 15 2 (by decide)]) (by rw [e 15 9 (by decide)]) e8⟩
theorem LV.lw {κ : Int} {c j : Nat} {v : Int64} (h : LV κ B σ ν ig lg) (hc : c ≠ 18) : LV κ B σ ν ig (up2 lg (B + c) j v) := by
  have e8 : ∀ k, up2 lg (B + c) j v (B + 18) k = lg (B + 18) k := fun k => up2_a (by omega)
  exact ⟨h.1, h.2.1.ag rfl (fun _ => rfl) e8, fun q => (h.2.2 q).ag (fun _ _ _ => rfl) rfl rfl e8⟩
theorem VV.ft (h : VV B σ ν ig) (hF : Ft B T ig lg ig' lg') (hT : ∀ q ∈ T, 49 ≤ q ∧ q < 80) : VV B σ ν ig' := by
  have e : ∀ c j, c < 49 → ig' (B + c) j = ig (B + c) j := fun c j hc => hF.i c j (fun q hq e => by have := hT q hq; omega)
  unfold VV
  rw [e 24 8 (by decide), show ig' (B + 25) = ig (B + 25) from funext fun j => e 25 j (by decide), show ig' (B + 26) = ig (B + 26) from funext fun j => e 26 j (by decide)]
  exact h
theorem LV.post {κ : Int} (h : LV κ B σ ν ig lg) (hN : Nx b B none kd ig rg lg kd' ig' rg' lg') (hv : ν' = ν + 1 ∨ (ν' = ν ∧ σ' = σ)) (hb : b.testBit 3 = true := by decide) : LV κ B σ' ν' ig' lg' := by
  rcases hv with rfl | ⟨rfl, rfl⟩
  · exact h.step hN hb
  · exact h.nx hN hb
theorem VV.post (h : VV B σ ν ig) (hN : Nx b B none kd ig rg lg kd' ig' rg' lg') (hv : ν' = ν + 1 ∨ (ν' = ν ∧ σ' = σ)) (hb : b.testBit 4 = true := by decide) : VV B σ' ν' ig' := by
  rcases hv with rfl | ⟨rfl, rfl⟩
  · exact h.step hN hb
  · exact h.nx hN hb
theorem SM.ht (s : SM B σ π ig) : HtS σ := fun p hp k => by
  obtain ⟨n, _, _, q⟩ := ((s.1 p hp).2.2.1 k).1
  exact (hE.hg q).L
theorem SM.hp (s : SM B σ π ig) : HtP π := fun e he k => by
  obtain ⟨i, hi, rfl⟩ := List.getElem_of_mem he
  obtain ⟨n, _, _, q⟩ := ((s.2.2 i hi).2.2.2.2.1 k).1
  exact (hE.hg q).L
theorem stMz.st {x z : Int} (h : stMz σ π x σ' π' z) : stM σ π x σ' π' := by
  obtain ⟨ζ, n, a, b, c⟩ := h
  exact ⟨ζ, n, a, b, c.imp (fun w => ⟨w.1, w.2.1⟩) (fun w => ⟨w.1, w.2.1⟩)⟩
theorem stTz.st {x k z : Int} (h : stTz σ π x σ' π' k z) : stT σ π x σ' π' k := by
  obtain ⟨o, a, c⟩ := h
  exact ⟨o, a, c.imp (fun w => ⟨w.1, w.2.1⟩) (fun ⟨L, w⟩ => ⟨L, w.1, w.2.1⟩)⟩
theorem stMz.det {σ1 σ2 : Sg} {π1 π2 : Ps} {x z y : Int} (hW : WS σ π) (h1 : stMz σ π x σ1 π1 z) (h2 : stMz σ π x σ2 π2 y) : z = y := by
  obtain ⟨e1, e2⟩ := stM.det h1.st h2.st
  subst e1 e2
  have hW' := hW.stM h1.st
  obtain ⟨ζ, n, a1, a2, a3⟩ := h1
  obtain ⟨ξ, k, b1, b2, b3⟩ := h2
  have e : n = k := OddR.det (OddR.cg (a1.det b1) a2) b2
  subst e
  rcases a3 with ⟨a4, _, a5⟩ | ⟨a4, _, a5⟩ <;> rcases b3 with ⟨b4, _, b5⟩ | ⟨b4, _, b5⟩
  · rw [a5, b5]
  · exact absurd b4 a4
  · exact absurd a4 b4
  · exact chR.det hW hW' a5 b5
theorem stTz.det {σ1 σ2 : Sg} {π1 π2 : Ps} {x k z y : Int} (hW : WS σ π) (h1 : stTz σ π x σ1 π1 k z) (h2 : stTz σ π x σ2 π2 k y) : z = y := by
  obtain ⟨e1, e2⟩ := stT.det h1.st h2.st
  subst e1 e2
  have hW' := hW.stT h1.st
  obtain ⟨o, a1, a3⟩ := h1
  obtain ⟨q, b1, b3⟩ := h2
  obtain rfl := a1.det b1
  rcases a3 with ⟨a4, _, a5⟩ | ⟨L, a4, _, a5⟩ <;> rcases b3 with ⟨b4, _, b5⟩ | ⟨M, b4, _, b5⟩
  · rw [a5, b5]
  · rw [a4] at b4; cases b4
  · rw [a4] at b4; cases b4
  · exact chR.det hW hW' a5 b5
end SIDES3
/-! what one side leaves of the other: units, totals, reads, what is kept -/
section SIDES4
variable {κ : Int} {B b : Nat} {T : List Nat} {kd kd' : sK} {ig ig' : sI} {rg rg' : sR} {lg lg' : sG} {σ σ' : Sg} {π π' : Ps} {ν ν' : Nat} {K : Nat → Prop}
theorem FXm.nx (s : FXm B σ ig lg) (hN : Nx b B none kd ig rg lg kd' ig' rg' lg') : FXm B σ ig' lg' := by
  have e : ∀ c j, 49 ≤ c → c < 80 → ig' (B + c) j = ig (B + c) j := fun c j h1 h2 => hN.1.2.2.1 (B + c) j (by omega) (by omega)
  have e4 : ∀ j, lg' (B + 64) j = lg (B + 64) j := fun j => hN.1.2.2.2.2 (B + 64) j (by omega) (by omega)
  have w : wyV B ig' = wyV B ig := funext fun p => funext fun r => by unfold wyV; rw [e 72 _ (by decide) (by decide)]
  obtain ⟨r1, r2⟩ := rows_m (B := B) (ig := ig) (ig' := ig') (fun j => e 68 j (by decide) (by decide)) (fun j => e 69 j (by decide) (by decide))
  refine ⟨s.1.nx hN, ⟨fun p hp => by rw [e 70 p (by decide) (by decide)]; exact s.2.1.1 p hp, by rw [w]; exact s.2.1.2⟩, ?_, s.2.2.2.ag e4⟩
  unfold URm
  rw [r1, r2]
  exact s.2.2.1
theorem FdM.nx {ff : List Fng} (h : FdM B ff ig) (hN : Nx b B none kd ig rg lg kd' ig' rg' lg') : FdM B ff ig' := h.ag (by rw [hN.1.2.2.1 (B + 49) 37 (by omega) (by omega)]) (fun j => hN.1.2.2.1 (B + 75) j (by omega) (by omega))
theorem FdS.ft {ff : List Fng} (h : FdS B ff ig) (hF : Ft B T ig lg ig' lg') (hT : ∀ q ∈ T, 49 ≤ q ∧ q < 80) : FdS B ff ig' := by
  have e : ∀ c j, c < 49 → ig' (B + c) j = ig (B + c) j := fun c j hc => hF.i c j (fun q hq e => by have := hT q hq; omega)
  exact h.ag (by rw [e 43 6 (by decide)]) (fun j => e 44 j (by decide))
theorem KpM.nx (h : KpM B K ig) (hN : Nx b B none kd ig rg lg kd' ig' rg' lg') : KpM B K ig' := h.ag (fun p => hN.1.2.2.1 (B + 62) p (by omega) (by omega))
theorem UV.ft (h : UV B σ ν ig) (hF : Ft B T ig lg ig' lg') (hT : ∀ q ∈ T, 49 ≤ q ∧ q < 80) : UV B σ ν ig' := by
  have e : ∀ c j, c < 49 → ig' (B + c) j = ig (B + c) j := fun c j hc => hF.i c j (fun q hq e => by have := hT q hq; omega)
  obtain ⟨r1, r2⟩ := rows_u (B := B) (ig := ig) (ig' := ig') (fun j => e 33 j (by decide)) (fun j => e 34 j (by decide))
  unfold UV
  rw [e 32 8 (by decide), r1, r2]
  exact h
theorem TVk.ft (h : TVk κ B σ ν ig) (hF : Ft B T ig lg ig' lg') (hT : ∀ q ∈ T, 49 ≤ q ∧ q < 80) : TVk κ B σ ν ig' := by
  have e : ∀ c j, c < 49 → ig' (B + c) j = ig (B + c) j := fun c j hc => hF.i c j (fun q hq e => by have := hT q hq; omega)
  unfold TVk TV
  rw [e 37 7 (by decide)]
  exact ⟨⟨h.1.1, fun q => (h.1.2 q).ag (fun p => e 38 p (by decide))⟩, h.2⟩
theorem KpC.ft (h : KpC B K ig) (hF : Ft B T ig lg ig' lg') (hT : ∀ q ∈ T, 49 ≤ q ∧ q < 80) : KpC B K ig' := h.ag (fun p => hF.i 12 p (fun q hq e => by have := hT q hq; omega))
end SIDES4
/-- what both sides have besides: links, values, units, totals, what is kept -/
def Sx (B : Nat) (σ : Sg) (π : Ps) (ν : Nat) (ig : sI) (lg : sG) : Prop := ∃ (kz : Int) (K : Nat → Prop) (ff : List Fng), LV kz B σ ν ig lg ∧ TVk kz B σ ν ig ∧ VV B σ ν ig ∧ UV B σ ν ig ∧ K3S σ π ∧ KpC B K ig ∧ KpM B K ig ∧ FdS B ff ig ∧ FdM B ff ig
set_option maxHeartbeats 4000000 in
set_option maxRecDepth 100000 in
theorem t_L_cellC {κ : Int} {υ : Option Int} {τ : Tp} {φ : Option Int} (l : Launch) (B : Nat) (D : va_G) (cA : Nat → ClassId) (kd : sK) (ig : sI) (rg : sR) (lg : sG) (sz : Nat) (x y : Int32) (hst : l.stackTraces = false) (σ : Sg) (π : Ps) (ν : Nat) (hS : SCh B σ π ν kd ig rg) (hV : FV B σ ν ig) (hν : ν < 1000000) (hX : SM B σ π ig) (hU : FXm B σ ig lg) (hLv : LV κ B σ ν ig lg) (hVv : VV B σ ν ig) (hW : WS σ π) (hHt : HtS σ) (hUv : UV B σ ν ig) (hTv : TVk κ B σ ν ig) (hK3 : K3S σ π) (K : Nat → Prop) (hK : KpC B K ig) (hKm : KpM B K ig) (ff : List Fng) (hFs : FdS B ff ig) (hFm : FdM B ff ig) (hI : IC τ B kd ig rg) (hM : IM τ φ υ B kd ig rg) : MH l B D cA yL_cell cL_cell 5 (some .int) [(0, 10, 13, 13)] (rL 8 1 6) [.ref (B + 0), .int x, .int y, .ref (B + 79)] kd ig rg lg sz True (fun r kd' ig' rg' lg' n => IC τ B kd' ig' rg' ∧ IM τ φ υ B kd' ig' rg' ∧ (∃ κ' : Int, SCh B σ π ν kd' ig' rg' ∧ FV B σ ν ig' ∧ SM B σ π ig' ∧ FXm B σ ig' lg' ∧ LV κ' B σ ν ig' lg' ∧ VV B σ ν ig' ∧ UV B σ ν ig' ∧ TVk κ' B σ ν ig' ∧ KpC B K ig' ∧ KpM B K ig' ∧ FdS B ff ig' ∧ FdM B ff ig') ∧ ∃ q : Int32, r = some (.int q) ∧ ((((0 ≤ x.toInt ∧ x.toInt < 288) ∧ 0 ≤ y.toInt ∧ y.toInt ≤ 10) ∧ q.toInt = 0 ∧ ∃ z : Int32, lg' (B + 79) 0 = z.toInt64 ∧ CeR σ K x.toInt y.toInt z.toInt) ∨ (¬ ((0 ≤ x.toInt ∧ x.toInt < 288) ∧ 0 ≤ y.toInt ∧ y.toInt ≤ 10) ∧ q.toInt = 1))) := by
  refine MH.of (own := RL) (by decide +kernel) rfl (Nat.le_of_ble_eq_true rfl) ?_
  intro p e s m args below meth c ls C hr hlk hnm hw hsz hl hnt
  have hx := C.1.1
  have hb := C.1.2.1
  have hown := C.1.2.2.2.1
  have hts := C.1.2.2.2.2
  have hl : lv_has ls 5 [(0, .ref (B + 0)), (1, .int x), (2, .int y), (3, .ref (B + 79))] := hl
  have hsh := hI.sh
  obtain ⟨sa, hKX⟩ := C.2.2.2.2.1
  refine lv_aload_n hx hb dL_cell_0 rfl (lv_at hl 3 rfl) ?_
  refine lv_iconst (v := 0) hx hb dL_cell_1 (by decide) (ti_c 0 (by decide) fun z1 hz1 => ?_)
  refine lv_aload_n hx hb dL_cell_2 rfl (lv_at hl 0 rfl) ?_
  refine lv_iload_n hx hb dL_cell_3 rfl (lv_at hl 1 rfl) ?_
  refine lv_iload_n hx hb dL_cell_4 rfl (lv_at hl 2 rfl) ?_
  refine r_callX (As := [.int x, .int y]) (rest := [.int z1, .ref (B + 79)]) C hw (t_X11_cellC l B D cA kd ig rg lg _ x y hst σ π ν hS hV hν hLv hVv hW hHt hUv hTv hK3 K hK hI) sv_L_7 (hsh 0 _ rfl) rfl hl.1 rfl (Nat.le_of_ble_eq_true rfl) ⟨Nat.le_of_ble_eq_true rfl, Nat.le_of_ble_eq_true rfl⟩ ⟨Nat.le_of_ble_eq_true rfl, Nat.le_of_ble_eq_true rfl⟩ dL_cell_5 (fun ce q H locs hN hw hH hce hcv hcl => ?_) (fun r kd1 ig1 rg1 lg1 H locs hw hH hp => ?_)
  · refine vx_catch (E := NSE) (name := NSE) hown [] ⟨0, 10, 13, 13⟩ [] hnt (fun _ h => nomatch h) (by decide) (by decide) (hts _ (TBg_in atN_k.1 atN_k.2)) (va_Nw.use rfl (hKX.1 _ List.mem_cons_self)) hce hcv hcl ?_
    refine W.widen (k := 1) (n := 6) (Nat.le_of_ble_eq_true rfl) (Nat.le_of_ble_eq_true rfl) ?_
    refine lv_astore (lv' := [(4, .ref q), (0, .ref (B + 0)), (1, .int x), (2, .int y), (3, .ref (B + 79))]) hx hb dL_cell_13 hl (by decide) rfl (fun ls hl => ?_)
    refine lv_iconst (v := 1) hx hb dL_cell_15 (by decide) (ti_c 1 (by decide) fun z2 hz2 => ?_)
    exact vx_ret (r_iret C hw hr hlk rfl (Nat.le_of_ble_eq_true rfl) (Nat.le_of_ble_eq_true rfl) dL_cell_16 ⟨hI, hM, ⟨_, hS, hV, hX, hU, hLv, hVv, hUv, hTv, hK, hKm, hFs, hFm⟩, _, rfl, Or.inr ⟨hN, by omega⟩⟩)
  · obtain ⟨hI, hN, z, rfl, hv9, ⟨κ2, hS, hV, hLv, hVv, hUv, hTv, hK⟩, hce⟩ := hp
    have hKm := hKm.nx hN
    have hFm := hFm.nx hN
    have hFs := hFs.nx hN
    have hX := hX.nx hN
    have hU := hU.nx hN
    have hM := hM.nx hN hI.sh
    have hsh := hI.sh
    refine W.widen (k := 1) (n := 6) (Nat.le_of_ble_eq_true rfl) (Nat.le_of_ble_eq_true rfl) ?_
    refine lv_i2l hx hb dL_cell_8 rfl (lv_topl fun x3 hx3 => ?_)
    refine r_last C hw (hsh 79 _ rfl) (by omega) (by omega) dL_cell_9 (fun H locs hH hw => ?_)
    refine lv_goto (tgt := 17) hx hb dL_cell_10 (by decide) ?_
    refine lv_iconst (v := 0) hx hb dL_cell_17 (by decide) (ti_c 0 (by decide) fun z5 hz5 => ?_)
    exact vx_ret (r_iret C hw hr hlk rfl (Nat.le_of_ble_eq_true rfl) (Nat.le_of_ble_eq_true rfl) dL_cell_18 ⟨hI, hM, ⟨_, hS, hV, hX, ⟨hU.1, hU.2.1, hU.2.2.1, hU.2.2.2.ag (fun k9 => up2_a (by omega))⟩, hLv.lw (by decide), hVv, hUv, hTv, hK, hKm, hFs, hFm⟩, _, rfl, Or.inl ⟨hv9, by omega, z, (by rw [show z1.toInt.toNat = 0 by omega, up2_eq]; exact hx3), hce⟩⟩)
