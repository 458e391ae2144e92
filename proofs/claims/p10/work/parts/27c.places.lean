set_option maxHeartbeats 4000000 in
set_option maxRecDepth 100000 in
theorem t_J13_bitCount_95d88E {τ : Tp} (l : Launch) (B : Nat) (D : va_G) (cA : Nat → ClassId) (kd : sK) (ig : sI) (rg : sR) (lg : sG) (sz : Nat) (x : Int64) (hI : IC τ B kd ig rg) : MC l B D cA yJ13_bitCount_95d88 cJ13_bitCount_95d88 2 (some .int) (rL 0 0 0) [.long x] kd ig rg lg sz (Pu kd ig rg lg sz (fun r => ∃ z : Int32, r = some (.int z) ∧ z.toInt = (cnt (Bt x) 64 : Int))) := by
  refine MC.of (own := RJ13) (by decide +kernel) rfl (Nat.le_of_ble_eq_true rfl) ?_
  intro p e s m args below meth c ls C hr hlk hnm hw hsz hl
  have hx := C.1.1
  have hb := C.1.2.1
  have hown := C.1.2.2.2.1
  have hts := C.1.2.2.2.2
  have hl : lv_has ls 2 [(0, .long x)] := hl
  have hsh := hI.sh
  have hrs := hI.rs
  refine lv_lload_n hx hb dJ13_bitCount_95d88_0 rfl (lv_at hl 0 rfl) ?_
  refine lv_lload_n hx hb dJ13_bitCount_95d88_1 rfl (lv_at hl 0 rfl) ?_
  refine lv_iconst (v := 1) hx hb dJ13_bitCount_95d88_2 (by decide) (ti_c 1 (by decide) fun z1 hz1 => ?_)
  refine lv_lushr hx hb dJ13_bitCount_95d88_3 rfl (lv_topl fun x2 hx2 => ?_)
  refine lv_ldc2 (v := 6148914691236517205) hx hb hown (hts _ kl_J13_314) dJ13_bitCount_95d88_4 (lv_topl fun x3 hx3 => ?_)
  refine lv_land hx hb dJ13_bitCount_95d88_7 (lv_topl fun x4 hx4 => ?_)
  refine lv_lsub hx hb dJ13_bitCount_95d88_8 (lv_topl fun x5 hx5 => ?_)
  refine lv_lstore_n (lv' := [(0, .long x5)]) hx hb dJ13_bitCount_95d88_9 rfl hl (by decide) rfl (fun ls hl => ?_)
  refine lv_lload_n hx hb dJ13_bitCount_95d88_10 rfl (lv_at hl 0 rfl) ?_
  refine lv_ldc2 (v := 3689348814741910323) hx hb hown (hts _ kl_J13_316) dJ13_bitCount_95d88_11 (lv_topl fun x6 hx6 => ?_)
  refine lv_land hx hb dJ13_bitCount_95d88_14 (lv_topl fun x7 hx7 => ?_)
  refine lv_lload_n hx hb dJ13_bitCount_95d88_15 rfl (lv_at hl 0 rfl) ?_
  refine lv_iconst (v := 2) hx hb dJ13_bitCount_95d88_16 (by decide) (ti_c 2 (by decide) fun z8 hz8 => ?_)
  refine lv_lushr hx hb dJ13_bitCount_95d88_17 rfl (lv_topl fun x9 hx9 => ?_)
  refine lv_ldc2 (v := 3689348814741910323) hx hb hown (hts _ kl_J13_316) dJ13_bitCount_95d88_18 (lv_topl fun x10 hx10 => ?_)
  refine lv_land hx hb dJ13_bitCount_95d88_21 (lv_topl fun x11 hx11 => ?_)
  refine lv_ladd hx hb dJ13_bitCount_95d88_22 (lv_topl fun x12 hx12 => ?_)
  refine lv_lstore_n (lv' := [(0, .long x12)]) hx hb dJ13_bitCount_95d88_23 rfl hl (by decide) rfl (fun ls hl => ?_)
  refine lv_lload_n hx hb dJ13_bitCount_95d88_24 rfl (lv_at hl 0 rfl) ?_
  refine lv_lload_n hx hb dJ13_bitCount_95d88_25 rfl (lv_at hl 0 rfl) ?_
  refine lv_iconst (v := 4) hx hb dJ13_bitCount_95d88_26 (by decide) (ti_c 4 (by decide) fun z13 hz13 => ?_)
  refine lv_lushr hx hb dJ13_bitCount_95d88_27 rfl (lv_topl fun x14 hx14 => ?_)
  refine lv_ladd hx hb dJ13_bitCount_95d88_28 (lv_topl fun x15 hx15 => ?_)
  refine lv_ldc2 (v := 1085102592571150095) hx hb hown (hts _ kl_J13_318) dJ13_bitCount_95d88_29 (lv_topl fun x16 hx16 => ?_)
  refine lv_land hx hb dJ13_bitCount_95d88_32 (lv_topl fun x17 hx17 => ?_)
  refine lv_lstore_n (lv' := [(0, .long x17)]) hx hb dJ13_bitCount_95d88_33 rfl hl (by decide) rfl (fun ls hl => ?_)
  refine lv_lload_n hx hb dJ13_bitCount_95d88_34 rfl (lv_at hl 0 rfl) ?_
  refine lv_lload_n hx hb dJ13_bitCount_95d88_35 rfl (lv_at hl 0 rfl) ?_
  refine lv_bipush (v := 8) hx hb dJ13_bitCount_95d88_36 (by decide) (ti_c 8 (by decide) fun z18 hz18 => ?_)
  refine lv_lushr hx hb dJ13_bitCount_95d88_38 rfl (lv_topl fun x19 hx19 => ?_)
  refine lv_ladd hx hb dJ13_bitCount_95d88_39 (lv_topl fun x20 hx20 => ?_)
  refine lv_lstore_n (lv' := [(0, .long x20)]) hx hb dJ13_bitCount_95d88_40 rfl hl (by decide) rfl (fun ls hl => ?_)
  refine lv_lload_n hx hb dJ13_bitCount_95d88_41 rfl (lv_at hl 0 rfl) ?_
  refine lv_lload_n hx hb dJ13_bitCount_95d88_42 rfl (lv_at hl 0 rfl) ?_
  refine lv_bipush (v := 16) hx hb dJ13_bitCount_95d88_43 (by decide) (ti_c 16 (by decide) fun z21 hz21 => ?_)
  refine lv_lushr hx hb dJ13_bitCount_95d88_45 rfl (lv_topl fun x22 hx22 => ?_)
  refine lv_ladd hx hb dJ13_bitCount_95d88_46 (lv_topl fun x23 hx23 => ?_)
  refine lv_lstore_n (lv' := [(0, .long x23)]) hx hb dJ13_bitCount_95d88_47 rfl hl (by decide) rfl (fun ls hl => ?_)
  refine lv_lload_n hx hb dJ13_bitCount_95d88_48 rfl (lv_at hl 0 rfl) ?_
  refine lv_lload_n hx hb dJ13_bitCount_95d88_49 rfl (lv_at hl 0 rfl) ?_
  refine lv_bipush (v := 32) hx hb dJ13_bitCount_95d88_50 (by decide) (ti_c 32 (by decide) fun z24 hz24 => ?_)
  refine lv_lushr hx hb dJ13_bitCount_95d88_52 rfl (lv_topl fun x25 hx25 => ?_)
  refine lv_ladd hx hb dJ13_bitCount_95d88_53 (lv_topl fun x26 hx26 => ?_)
  refine lv_lstore_n (lv' := [(0, .long x26)]) hx hb dJ13_bitCount_95d88_54 rfl hl (by decide) rfl (fun ls hl => ?_)
  refine lv_lload_n hx hb dJ13_bitCount_95d88_55 rfl (lv_at hl 0 rfl) ?_
  refine lv_l2i hx hb dJ13_bitCount_95d88_56 rfl (lv_topi fun z27 hz27 => ?_)
  refine lv_bipush (v := 127) hx hb dJ13_bitCount_95d88_57 (by decide) (ti_c 127 (by decide) fun z28 hz28 => ?_)
  refine lv_iand hx hb dJ13_bitCount_95d88_59 (lv_topi fun z29 hz29 => ?_)
  exact r_iret C hw hr hlk rfl (Nat.le_of_ble_eq_true rfl) (Nat.le_of_ble_eq_true rfl) dJ13_bitCount_95d88_60 ⟨rfl, rfl, rfl, rfl, hsz, ⟨_, rfl, by rw [hz29]; exact bc_ok hz1 hz8 hz13 hz18 hz21 hz24 hz28 hx2 hx3 hx4 hx5 hx6 hx7 hx9 hx10 hx11 hx12 hx14 hx15 hx16 hx17 hx19 hx20 hx22 hx23 hx25 hx26 hz27⟩⟩

def hbP (f : Nat → Int64) (x y : Int) : Prop := (0 ≤ x ∧ x < 288) ∧ (0 ≤ y ∧ y < 288) ∧ bR f x.toNat y.toNat = true
theorem lg_cmp0 {x y : Int64} : (lg_cmp x y).toInt = 0 ↔ x = y := by
  unfold lg_cmp
  split
  · rename_i h
    constructor
    · intro e; exact absurd e (by decide)
    · rintro rfl; exact absurd h (by simp [Int64.lt_iff_toInt_lt])
  · split
    · rename_i h; constructor
      · intro e; first | exact h | exact absurd e (by decide)
      · intro e; first | rfl | (subst e; exact absurd h (by simp [Int64.lt_iff_toInt_lt]))
    · rename_i h1 h2
      constructor
      · intro e; first | exact absurd e (by decide) | (apply Int64.toInt_inj.mp; simp only [Int64.lt_iff_toInt_lt] at h1 h2; omega)
      · intro e; first | exact absurd e h2 | rfl
section HB
variable {f : Nat → Int64} {x y z20 z23 z28 : Int32} {x21 x24 x25 x26 x27 : Int64}
theorem hb_k (hon : (0 ≤ x.toInt ∧ x.toInt < 288) ∧ 0 ≤ y.toInt ∧ y.toInt < 288) (h20 : z20.toInt = x.toInt * 5 + y.toInt / 64) (h23 : z23.toInt = y.toInt % 64) (h21 : x21 = f z20.toInt.toNat) (h24 : x24 = (x21.toUInt64 >>> (z23.toInt64.toUInt64 &&& Int64.toUInt64 63)).toInt64) (h25 : x25 = 1) (h26 : x26 = x24 &&& x25) (h27 : x27 = 0) (h28 : z28 = lg_cmp x26 x27) : z28.toInt = 0 ↔ bR f x.toInt.toNat y.toInt.toNat = false := by
  rw [h28, lg_cmp0, h27, h26, h25, Bt.end.1, h24, Bt.ushr ⟨by omega, by omega⟩, h21]
  unfold bR
  rw [show z20.toInt.toNat = 5 * x.toInt.toNat + y.toInt.toNat / 64 by omega, show z23.toInt.toNat = y.toInt.toNat % 64 by omega]
theorem hb0 (hon : (0 ≤ x.toInt ∧ x.toInt < 288) ∧ 0 ≤ y.toInt ∧ y.toInt < 288) (h20 : z20.toInt = x.toInt * 5 + y.toInt / 64) (h23 : z23.toInt = y.toInt % 64) (h21 : x21 = f z20.toInt.toNat) (h24 : x24 = (x21.toUInt64 >>> (z23.toInt64.toUInt64 &&& Int64.toUInt64 63)).toInt64) (h25 : x25 = 1) (h26 : x26 = x24 &&& x25) (h27 : x27 = 0) (h28 : z28 = lg_cmp x26 x27) (c : z28.toInt = 0) : ¬ hbP f x.toInt y.toInt := fun w => by
  have := (hb_k hon h20 h23 h21 h24 h25 h26 h27 h28).mp c
  rw [w.2.2] at this; cases this
theorem hb1 (hon : (0 ≤ x.toInt ∧ x.toInt < 288) ∧ 0 ≤ y.toInt ∧ y.toInt < 288) (h20 : z20.toInt = x.toInt * 5 + y.toInt / 64) (h23 : z23.toInt = y.toInt % 64) (h21 : x21 = f z20.toInt.toNat) (h24 : x24 = (x21.toUInt64 >>> (z23.toInt64.toUInt64 &&& Int64.toUInt64 63)).toInt64) (h25 : x25 = 1) (h26 : x26 = x24 &&& x25) (h27 : x27 = 0) (h28 : z28 = lg_cmp x26 x27) (c : z28.toInt ≠ 0) : hbP f x.toInt y.toInt := ⟨hon.1, hon.2, by
  cases q : bR f x.toInt.toNat y.toInt.toNat with
  | true => rfl
  | false => exact absurd ((hb_k hon h20 h23 h21 h24 h25 h26 h27 h28).mpr q) c⟩
end HB
set_option maxHeartbeats 4000000 in
set_option maxRecDepth 100000 in
theorem t_X11_hasBitE {τ : Tp} (l : Launch) (B : Nat) (D : va_G) (cA : Nat → ClassId) (kd : sK) (ig : sI) (rg : sR) (lg : sG) (sz : Nat) (c0 : Nat) (hc : isLr c0) (x : Int32) (y : Int32) (hI : IC τ B kd ig rg) : MC l B D cA yX11_hasBit cX11_hasBit 3 (some .boolean) (rL 1 0 0) [.ref (B + c0), .int x, .int y] kd ig rg lg sz (Pu kd ig rg lg sz (fun r => ∃ z : Int32, r = some (.int z) ∧ ((z.toInt = 1 ∧ hbP (lg (B + c0)) x.toInt y.toInt) ∨ (z.toInt = 0 ∧ ¬ hbP (lg (B + c0)) x.toInt y.toInt)))) := by
  refine MC.of (own := RX11) (by decide +kernel) rfl (Nat.le_of_ble_eq_true rfl) ?_
  intro p e s m args below meth c ls C hr hlk hnm hw hsz hl
  have hx := C.1.1
  have hb := C.1.2.1
  have hown := C.1.2.2.2.1
  have hts := C.1.2.2.2.2
  have hl : lv_has ls 3 [(0, .ref (B + c0)), (1, .int x), (2, .int y)] := hl
  have hsh := hI.sh
  have hrs := hI.rs
  have hcl := hc.lt
  refine lv_iload_n hx hb dX11_hasBit_0 rfl (lv_at hl 1 rfl) ?_
  refine r_callS (As := [.int x]) (rest := []) C hw (t_X11_onSheet l B D cA kd ig rg lg _ x  hI) ss_X11_88 rfl hl.1 rfl (Nat.le_of_ble_eq_true rfl) ⟨Nat.le_of_ble_eq_true rfl, Nat.le_of_ble_eq_true rfl⟩ ⟨Nat.le_of_ble_eq_true rfl, Nat.le_of_ble_eq_true rfl⟩ dX11_hasBit_1 (fun r5 kd1 ig2 rg3 lg4 H locs hw hH hp6 => ?_)
  obtain ⟨rfl, rfl, rfl, rfl, hzhp6, hrhp6⟩ := hp6
  have hsz := hzhp6.trans hsz
  obtain ⟨z7, rfl, hz7⟩ := hrhp6
  refine z_eq (tgt := 14) hx hb dX11_hasBit_4 (by decide) (fun c4 => ?_) (fun c4 => ?_)
  · refine lv_iconst (v := 0) hx hb dX11_hasBit_14 (by decide) (ti_c 0 (by decide) fun z8 hz8 => ?_)
    exact r_iret C hw hr hlk (nar_b (by omega)) (Nat.le_of_ble_eq_true rfl) (Nat.le_of_ble_eq_true rfl) dX11_hasBit_15 ⟨rfl, rfl, rfl, rfl, hsz, ⟨_, rfl, Or.inr ⟨by omega, fun w => by have w1 := w.1; omega⟩⟩⟩
  · refine lv_iload_n hx hb dX11_hasBit_7 rfl (lv_at hl 2 rfl) ?_
    refine r_callS (As := [.int y]) (rest := []) C hw (t_X11_onSheet l B D cA kd ig rg lg _ y  hI) ss_X11_88 rfl hl.1 rfl (Nat.le_of_ble_eq_true rfl) ⟨Nat.le_of_ble_eq_true rfl, Nat.le_of_ble_eq_true rfl⟩ ⟨Nat.le_of_ble_eq_true rfl, Nat.le_of_ble_eq_true rfl⟩ dX11_hasBit_8 (fun r13 kd9 ig10 rg11 lg12 H locs hw hH hp14 => ?_)
    obtain ⟨rfl, rfl, rfl, rfl, hzhp14, hrhp14⟩ := hp14
    have hsz := hzhp14.trans hsz
    obtain ⟨z15, rfl, hz15⟩ := hrhp14
    refine z_ne (tgt := 16) hx hb dX11_hasBit_11 (by decide) (fun c11 => ?_) (fun c11 => ?_)
    · refine lv_aload_n hx hb dX11_hasBit_16 rfl (lv_at hl 0 rfl) ?_
      refine lv_iload_n hx hb dX11_hasBit_17 rfl (lv_at hl 1 rfl) ?_
      refine lv_iconst (v := 5) hx hb dX11_hasBit_18 (by decide) (ti_c 5 (by decide) fun z16 hz16 => ?_)
      refine lv_imul hx hb dX11_hasBit_19 (tc_mulR 5 hz16 fun z17 hz17 => ?_)
      first | replace hz17 := hz17 (by omega) | clear hz17
      refine lv_iload_n hx hb dX11_hasBit_20 rfl (lv_at hl 2 rfl) ?_
      refine lv_bipush (v := 64) hx hb dX11_hasBit_21 (by decide) (ti_c 64 (by decide) fun z18 hz18 => ?_)
      refine lv_idiv hx hb dX11_hasBit_23 (ne0_of (by omega)) (tc_div 64 hz18 (by decide) fun z19 bz19 hz19 => ?_)
      first | replace hz19 := hz19 (by omega) | clear hz19
      refine lv_iadd hx hb dX11_hasBit_24 (tc_add fun z20 hz20 => ?_)
      first | replace hz20 := hz20 (by omega) | clear hz20
      refine r_lald C hw (isLr.k hc hsh) (by omega) (by omega) dX11_hasBit_25 (lv_topl fun x21 hx21 => ?_)
      refine lv_iload_n hx hb dX11_hasBit_26 rfl (lv_at hl 2 rfl) ?_
      refine lv_bipush (v := 64) hx hb dX11_hasBit_27 (by decide) (ti_c 64 (by decide) fun z22 hz22 => ?_)
      refine lv_irem hx hb dX11_hasBit_29 (ne0_of (by omega)) (tc_rem 64 hz22 (by decide) fun z23 bz23 hz23 => ?_)
      first | replace hz23 := hz23 (by omega) | clear hz23
      refine lv_lushr hx hb dX11_hasBit_30 rfl (lv_topl fun x24 hx24 => ?_)
      refine lv_lconst (v := 1) hx hb dX11_hasBit_31 (by decide) (lv_topl fun x25 hx25 => ?_)
      refine lv_land hx hb dX11_hasBit_32 (lv_topl fun x26 hx26 => ?_)
      refine lv_lconst (v := 0) hx hb dX11_hasBit_33 (by decide) (lv_topl fun x27 hx27 => ?_)
      refine W.lcmp hx hb dX11_hasBit_34 (lv_topi fun z28 hz28 => ?_)
      have hon0 : (0 ≤ x.toInt ∧ x.toInt < 288) ∧ 0 ≤ y.toInt ∧ y.toInt < 288 := by omega
      refine z_eq (tgt := 42) hx hb dX11_hasBit_35 (by decide) (fun c35 => ?_) (fun c35 => ?_)
      · refine lv_iconst (v := 0) hx hb dX11_hasBit_42 (by decide) (ti_c 0 (by decide) fun z29 hz29 => ?_)
        exact r_iret C hw hr hlk (nar_b (by omega)) (Nat.le_of_ble_eq_true rfl) (Nat.le_of_ble_eq_true rfl) dX11_hasBit_43 ⟨rfl, rfl, rfl, rfl, hsz, ⟨_, rfl, Or.inr ⟨by omega, hb0 hon0 (by omega) (by omega) hx21 hx24 hx25 hx26 hx27 hz28 c35⟩⟩⟩
      · refine lv_iconst (v := 1) hx hb dX11_hasBit_38 (by decide) (ti_c 1 (by decide) fun z30 hz30 => ?_)
        refine lv_goto (tgt := 43) hx hb dX11_hasBit_39 (by decide) ?_
        exact r_iret C hw hr hlk (nar_b (by omega)) (Nat.le_of_ble_eq_true rfl) (Nat.le_of_ble_eq_true rfl) dX11_hasBit_43 ⟨rfl, rfl, rfl, rfl, hsz, ⟨_, rfl, Or.inl ⟨by omega, hb1 hon0 (by omega) (by omega) hx21 hx24 hx25 hx26 hx27 hz28 c35⟩⟩⟩
    · refine lv_iconst (v := 0) hx hb dX11_hasBit_14 (by decide) (ti_c 0 (by decide) fun z31 hz31 => ?_)
      exact r_iret C hw hr hlk (nar_b (by omega)) (Nat.le_of_ble_eq_true rfl) (Nat.le_of_ble_eq_true rfl) dX11_hasBit_15 ⟨rfl, rfl, rfl, rfl, hsz, ⟨_, rfl, Or.inr ⟨by omega, fun w => by have w1 := w.2.1; omega⟩⟩⟩

section SB
variable {f g : Nat → Int64} {x y z19 z23 : Int32} {x20 x21 x24 x25 : Int64}
theorem sb_k (hon : (0 ≤ x.toInt ∧ x.toInt < 288) ∧ 0 ≤ y.toInt ∧ y.toInt < 288) (h19 : z19.toInt = x.toInt * 5 + y.toInt / 64) (h23 : z23.toInt = y.toInt % 64) (h20 : x20 = f z19.toInt.toNat) (h21 : x21 = 1) (h24 : x24 = x21 <<< (z23.toInt64 &&& 63)) (h25 : x25 = x20 ||| x24) (hg : g z19.toInt.toNat = x25) (hr : ∀ k, k ≠ z19.toInt.toNat → g k = f k) : SBt f g x.toInt.toNat y.toInt.toNat := fun p q hq =>
  bR_set (j := z19.toInt.toNat) (y := z23) (by omega) (by omega) (by rw [hg, h25, h20, h24, h21]) hr (by omega) hq
end SB

set_option maxHeartbeats 4000000 in
set_option maxRecDepth 100000 in
theorem t_X11_setBitE {τ : Tp} (l : Launch) (B : Nat) (D : va_G) (cA : Nat → ClassId) (kd : sK) (ig : sI) (rg : sR) (lg : sG) (sz : Nat) (c0 : Nat) (hc : isLr c0) (hmb : nWl 1014 B (B + c0)) (x : Int32) (y : Int32) (hon : (0 ≤ x.toInt ∧ x.toInt < 288) ∧ 0 ≤ y.toInt ∧ y.toInt < 288) (hI : IC τ B kd ig rg) : MC l B D cA yX11_setBit cX11_setBit 3 none (rL 1 0 0) [.ref (B + c0), .int x, .int y] kd ig rg lg sz (PI 1014 τ B none kd ig rg lg (fun r kd' ig' rg' lg' => (r = none ∧ (SBt (lg (B + c0)) (lg' (B + c0)) x.toInt.toNat y.toInt.toNat ∧ Fo B [c0] ig lg ig' lg' ∧ (ig' (B + 43) 6).toInt = (ig (B + 43) 6).toInt)))) := by
  refine MC.of (own := RX11) (by decide +kernel) rfl (Nat.le_of_ble_eq_true rfl) ?_
  intro p e s m args below meth c ls C hr hlk hnm hw hsz hl
  have hx := C.1.1
  have hb := C.1.2.1
  have hown := C.1.2.2.2.1
  have hts := C.1.2.2.2.2
  have hl : lv_has ls 3 [(0, .ref (B + c0)), (1, .int x), (2, .int y)] := hl
  have hN : Nx 1014 B none kd ig rg lg kd ig rg lg := Nx.rf
  have hsh := hI.sh
  have hrs := hI.rs
  have hO : Fo B [c0] ig lg ig lg := Fo.rf
  have hcl := hc.lt
  refine lv_iload_n hx hb dX11_setBit_0 rfl (lv_at hl 1 rfl) ?_
  refine r_callS (As := [.int x]) (rest := []) C hw (t_X11_onSheet l B D cA kd ig rg lg _ x  hI) ss_X11_88 rfl hl.1 rfl (Nat.le_of_ble_eq_true rfl) ⟨Nat.le_of_ble_eq_true rfl, Nat.le_of_ble_eq_true rfl⟩ ⟨Nat.le_of_ble_eq_true rfl, Nat.le_of_ble_eq_true rfl⟩ dX11_setBit_1 (fun r5 kd1 ig2 rg3 lg4 H locs hw hH hp6 => ?_)
  obtain ⟨rfl, rfl, rfl, rfl, hzhp6, hrhp6⟩ := hp6
  obtain ⟨z7, rfl, hz7⟩ := hrhp6
  refine z_eq (tgt := 33) hx hb dX11_setBit_4 (by decide) (fun c4 => ?_) (fun c4 => ?_)
  · exact absurd c4 (by omega)
  · refine lv_iload_n hx hb dX11_setBit_7 rfl (lv_at hl 2 rfl) ?_
    refine r_callS (As := [.int y]) (rest := []) C hw (t_X11_onSheet l B D cA kd ig rg lg _ y  hI) ss_X11_88 rfl hl.1 rfl (Nat.le_of_ble_eq_true rfl) ⟨Nat.le_of_ble_eq_true rfl, Nat.le_of_ble_eq_true rfl⟩ ⟨Nat.le_of_ble_eq_true rfl, Nat.le_of_ble_eq_true rfl⟩ dX11_setBit_8 (fun r12 kd8 ig9 rg10 lg11 H locs hw hH hp13 => ?_)
    obtain ⟨rfl, rfl, rfl, rfl, hzhp13, hrhp13⟩ := hp13
    obtain ⟨z14, rfl, hz14⟩ := hrhp13
    refine z_eq (tgt := 33) hx hb dX11_setBit_11 (by decide) (fun c11 => ?_) (fun c11 => ?_)
    · exact absurd c11 (by omega)
    · refine lv_aload_n hx hb dX11_setBit_14 rfl (lv_at hl 0 rfl) ?_
      refine lv_iload_n hx hb dX11_setBit_15 rfl (lv_at hl 1 rfl) ?_
      refine lv_iconst (v := 5) hx hb dX11_setBit_16 (by decide) (ti_c 5 (by decide) fun z15 hz15 => ?_)
      refine lv_imul hx hb dX11_setBit_17 (tc_mulR 5 hz15 fun z16 hz16 => ?_)
      first | replace hz16 := hz16 (by omega) | clear hz16
      refine lv_iload_n hx hb dX11_setBit_18 rfl (lv_at hl 2 rfl) ?_
      refine lv_bipush (v := 64) hx hb dX11_setBit_19 (by decide) (ti_c 64 (by decide) fun z17 hz17 => ?_)
      refine lv_idiv hx hb dX11_setBit_21 (ne0_of (by omega)) (tc_div 64 hz17 (by decide) fun z18 bz18 hz18 => ?_)
      first | replace hz18 := hz18 (by omega) | clear hz18
      refine lv_iadd hx hb dX11_setBit_22 (tc_add fun z19 hz19 => ?_)
      first | replace hz19 := hz19 (by omega) | clear hz19
      refine lv_dup2_11 hx hb dX11_setBit_23 rfl rfl ?_
      refine r_lald C hw (isLr.k hc hsh) (by omega) (by omega) dX11_setBit_24 (lv_topl fun x20 hx20 => ?_)
      refine lv_lconst (v := 1) hx hb dX11_setBit_25 (by decide) (lv_topl fun x21 hx21 => ?_)
      refine lv_iload_n hx hb dX11_setBit_26 rfl (lv_at hl 2 rfl) ?_
      refine lv_bipush (v := 64) hx hb dX11_setBit_27 (by decide) (ti_c 64 (by decide) fun z22 hz22 => ?_)
      refine lv_irem hx hb dX11_setBit_29 (ne0_of (by omega)) (tc_rem 64 hz22 (by decide) fun z23 bz23 hz23 => ?_)
      first | replace hz23 := hz23 (by omega) | clear hz23
      refine lv_lshl hx hb dX11_setBit_30 rfl (lv_topl fun x24 hx24 => ?_)
      refine lv_lor hx hb dX11_setBit_31 (lv_topl fun x25 hx25 => ?_)
      refine r_last C hw (isLr.k hc hsh) (by omega) (by omega) dX11_setBit_32 (fun H locs hH hw => ?_)
      have hO0 := hO
      obtain ⟨lg26, elg26⟩ : ∃ f, f = up2 lg (B + c0) z19.toInt.toNat x25 := ⟨_, rfl⟩
      rw [← elg26] at hw
      have hN : Nx 1014 B none kd ig rg lg kd ig rg lg26 := by rw [elg26]; exact hN.pl (by omega)
      have hO : Fo B [c0] ig lg ig lg26 := by rw [elg26]; exact hO0.pl (by simp)
      clear hO0
      exact r_vret C hw hr hlk (Nat.le_of_ble_eq_true rfl) (Nat.le_of_ble_eq_true rfl) dX11_setBit_33 ⟨hI, hN, ⟨rfl, ⟨sb_k (x := x) (y := y) (f := lg (B + c0)) (g := lg26 (B + c0)) (z19 := z19) (z23 := z23) hon (by omega) (by omega) hx20 hx21 hx24 hx25 (by rw [elg26, up2_eq]) (fun k hk => by rw [elg26, up2_j hk]), hO, by omega⟩⟩⟩

set_option maxHeartbeats 4000000 in
set_option maxRecDepth 100000 in
theorem t_X11_setBitTE {τ : Tp} (l : Launch) (B : Nat) (D : va_G) (cA : Nat → ClassId) (kd : sK) (ig : sI) (rg : sR) (lg : sG) (sz : Nat) (c0 : Nat) (hc : isLr c0) (hmb : nWl 958 B (B + c0)) (x : Int32) (y : Int32) (hon : (0 ≤ x.toInt ∧ x.toInt < 288) ∧ 0 ≤ y.toInt ∧ y.toInt < 288) (hI : IC τ B kd ig rg) : MC l B D cA yX11_setBit cX11_setBit 3 none (rL 1 0 0) [.ref (B + c0), .int x, .int y] kd ig rg lg sz (PI 958 τ B none kd ig rg lg (fun r kd' ig' rg' lg' => (r = none ∧ (SBt (lg (B + c0)) (lg' (B + c0)) x.toInt.toNat y.toInt.toNat ∧ Fo B [c0] ig lg ig' lg' ∧ (ig' (B + 43) 6).toInt = (ig (B + 43) 6).toInt)))) := by
  refine MC.of (own := RX11) (by decide +kernel) rfl (Nat.le_of_ble_eq_true rfl) ?_
  intro p e s m args below meth c ls C hr hlk hnm hw hsz hl
  have hx := C.1.1
  have hb := C.1.2.1
  have hown := C.1.2.2.2.1
  have hts := C.1.2.2.2.2
  have hl : lv_has ls 3 [(0, .ref (B + c0)), (1, .int x), (2, .int y)] := hl
  have hN : Nx 958 B none kd ig rg lg kd ig rg lg := Nx.rf
  have hsh := hI.sh
  have hrs := hI.rs
  have hO : Fo B [c0] ig lg ig lg := Fo.rf
  have hcl := hc.lt
  refine lv_iload_n hx hb dX11_setBit_0 rfl (lv_at hl 1 rfl) ?_
  refine r_callS (As := [.int x]) (rest := []) C hw (t_X11_onSheet l B D cA kd ig rg lg _ x  hI) ss_X11_88 rfl hl.1 rfl (Nat.le_of_ble_eq_true rfl) ⟨Nat.le_of_ble_eq_true rfl, Nat.le_of_ble_eq_true rfl⟩ ⟨Nat.le_of_ble_eq_true rfl, Nat.le_of_ble_eq_true rfl⟩ dX11_setBit_1 (fun r5 kd1 ig2 rg3 lg4 H locs hw hH hp6 => ?_)
  obtain ⟨rfl, rfl, rfl, rfl, hzhp6, hrhp6⟩ := hp6
  obtain ⟨z7, rfl, hz7⟩ := hrhp6
  refine z_eq (tgt := 33) hx hb dX11_setBit_4 (by decide) (fun c4 => ?_) (fun c4 => ?_)
  · exact absurd c4 (by omega)
  · refine lv_iload_n hx hb dX11_setBit_7 rfl (lv_at hl 2 rfl) ?_
    refine r_callS (As := [.int y]) (rest := []) C hw (t_X11_onSheet l B D cA kd ig rg lg _ y  hI) ss_X11_88 rfl hl.1 rfl (Nat.le_of_ble_eq_true rfl) ⟨Nat.le_of_ble_eq_true rfl, Nat.le_of_ble_eq_true rfl⟩ ⟨Nat.le_of_ble_eq_true rfl, Nat.le_of_ble_eq_true rfl⟩ dX11_setBit_8 (fun r12 kd8 ig9 rg10 lg11 H locs hw hH hp13 => ?_)
    obtain ⟨rfl, rfl, rfl, rfl, hzhp13, hrhp13⟩ := hp13
    obtain ⟨z14, rfl, hz14⟩ := hrhp13
    refine z_eq (tgt := 33) hx hb dX11_setBit_11 (by decide) (fun c11 => ?_) (fun c11 => ?_)
    · exact absurd c11 (by omega)
    · refine lv_aload_n hx hb dX11_setBit_14 rfl (lv_at hl 0 rfl) ?_
      refine lv_iload_n hx hb dX11_setBit_15 rfl (lv_at hl 1 rfl) ?_
      refine lv_iconst (v := 5) hx hb dX11_setBit_16 (by decide) (ti_c 5 (by decide) fun z15 hz15 => ?_)
      refine lv_imul hx hb dX11_setBit_17 (tc_mulR 5 hz15 fun z16 hz16 => ?_)
      first | replace hz16 := hz16 (by omega) | clear hz16
      refine lv_iload_n hx hb dX11_setBit_18 rfl (lv_at hl 2 rfl) ?_
      refine lv_bipush (v := 64) hx hb dX11_setBit_19 (by decide) (ti_c 64 (by decide) fun z17 hz17 => ?_)
      refine lv_idiv hx hb dX11_setBit_21 (ne0_of (by omega)) (tc_div 64 hz17 (by decide) fun z18 bz18 hz18 => ?_)
      first | replace hz18 := hz18 (by omega) | clear hz18
      refine lv_iadd hx hb dX11_setBit_22 (tc_add fun z19 hz19 => ?_)
      first | replace hz19 := hz19 (by omega) | clear hz19
      refine lv_dup2_11 hx hb dX11_setBit_23 rfl rfl ?_
      refine r_lald C hw (isLr.k hc hsh) (by omega) (by omega) dX11_setBit_24 (lv_topl fun x20 hx20 => ?_)
      refine lv_lconst (v := 1) hx hb dX11_setBit_25 (by decide) (lv_topl fun x21 hx21 => ?_)
      refine lv_iload_n hx hb dX11_setBit_26 rfl (lv_at hl 2 rfl) ?_
      refine lv_bipush (v := 64) hx hb dX11_setBit_27 (by decide) (ti_c 64 (by decide) fun z22 hz22 => ?_)
      refine lv_irem hx hb dX11_setBit_29 (ne0_of (by omega)) (tc_rem 64 hz22 (by decide) fun z23 bz23 hz23 => ?_)
      first | replace hz23 := hz23 (by omega) | clear hz23
      refine lv_lshl hx hb dX11_setBit_30 rfl (lv_topl fun x24 hx24 => ?_)
      refine lv_lor hx hb dX11_setBit_31 (lv_topl fun x25 hx25 => ?_)
      refine r_last C hw (isLr.k hc hsh) (by omega) (by omega) dX11_setBit_32 (fun H locs hH hw => ?_)
      have hO0 := hO
      obtain ⟨lg26, elg26⟩ : ∃ f, f = up2 lg (B + c0) z19.toInt.toNat x25 := ⟨_, rfl⟩
      rw [← elg26] at hw
      have hN : Nx 958 B none kd ig rg lg kd ig rg lg26 := by rw [elg26]; exact hN.pl (by omega)
      have hO : Fo B [c0] ig lg ig lg26 := by rw [elg26]; exact hO0.pl (by simp)
      clear hO0
      exact r_vret C hw hr hlk (Nat.le_of_ble_eq_true rfl) (Nat.le_of_ble_eq_true rfl) dX11_setBit_33 ⟨hI, hN, ⟨rfl, ⟨sb_k (x := x) (y := y) (f := lg (B + c0)) (g := lg26 (B + c0)) (z19 := z19) (z23 := z23) hon (by omega) (by omega) hx20 hx21 hx24 hx25 (by rw [elg26, up2_eq]) (fun k hk => by rw [elg26, up2_j hk]), hO, by omega⟩⟩⟩

set_option maxHeartbeats 4000000 in
set_option maxRecDepth 100000 in
theorem t_X11_setBit5E {τ : Tp} (l : Launch) (B : Nat) (D : va_G) (cA : Nat → ClassId) (kd : sK) (ig : sI) (rg : sR) (lg : sG) (sz : Nat) (w : Int32) (x : Int32) (hw0 : w.toInt = 0) (hx0 : 0 ≤ x.toInt ∧ x.toInt < 288) (hI : IC τ B kd ig rg) : MC l B D cA yX11_setBit cX11_setBit 3 none (rL 1 0 0) [.ref (B + 17), .int w, .int x] kd ig rg lg sz (PI 1014 τ B none kd ig rg lg (fun r kd' ig' rg' lg' => (r = none ∧ (SBt (lg (B + 17)) (lg' (B + 17)) 0 x.toInt.toNat ∧ Fo B [17] ig lg ig' lg')))) := by
  refine MC.of (own := RX11) (by decide +kernel) rfl (Nat.le_of_ble_eq_true rfl) ?_
  intro p e s m args below meth c ls C hr hlk hnm hw hsz hl
  have hx := C.1.1
  have hb := C.1.2.1
  have hown := C.1.2.2.2.1
  have hts := C.1.2.2.2.2
  have hl : lv_has ls 3 [(0, .ref (B + 17)), (1, .int w), (2, .int x)] := hl
  have hN : Nx 1014 B none kd ig rg lg kd ig rg lg := Nx.rf
  have hsh := hI.sh
  have hrs := hI.rs
  have hO : Fo B [17] ig lg ig lg := Fo.rf
  refine lv_iload_n hx hb dX11_setBit_0 rfl (lv_at hl 1 rfl) ?_
  refine r_callS (As := [.int w]) (rest := []) C hw (t_X11_onSheet l B D cA kd ig rg lg _ w  hI) ss_X11_88 rfl hl.1 rfl (Nat.le_of_ble_eq_true rfl) ⟨Nat.le_of_ble_eq_true rfl, Nat.le_of_ble_eq_true rfl⟩ ⟨Nat.le_of_ble_eq_true rfl, Nat.le_of_ble_eq_true rfl⟩ dX11_setBit_1 (fun r5 kd1 ig2 rg3 lg4 H locs hw hH hp6 => ?_)
  obtain ⟨rfl, rfl, rfl, rfl, hzhp6, hrhp6⟩ := hp6
  obtain ⟨z7, rfl, hz7⟩ := hrhp6
  refine z_eq (tgt := 33) hx hb dX11_setBit_4 (by decide) (fun c4 => ?_) (fun c4 => ?_)
  · exact absurd c4 (by omega)
  · refine lv_iload_n hx hb dX11_setBit_7 rfl (lv_at hl 2 rfl) ?_
    refine r_callS (As := [.int x]) (rest := []) C hw (t_X11_onSheet l B D cA kd ig rg lg _ x  hI) ss_X11_88 rfl hl.1 rfl (Nat.le_of_ble_eq_true rfl) ⟨Nat.le_of_ble_eq_true rfl, Nat.le_of_ble_eq_true rfl⟩ ⟨Nat.le_of_ble_eq_true rfl, Nat.le_of_ble_eq_true rfl⟩ dX11_setBit_8 (fun r12 kd8 ig9 rg10 lg11 H locs hw hH hp13 => ?_)
    obtain ⟨rfl, rfl, rfl, rfl, hzhp13, hrhp13⟩ := hp13
    obtain ⟨z14, rfl, hz14⟩ := hrhp13
    refine z_eq (tgt := 33) hx hb dX11_setBit_11 (by decide) (fun c11 => ?_) (fun c11 => ?_)
    · exact absurd c11 (by omega)
    · refine lv_aload_n hx hb dX11_setBit_14 rfl (lv_at hl 0 rfl) ?_
      refine lv_iload_n hx hb dX11_setBit_15 rfl (lv_at hl 1 rfl) ?_
      refine lv_iconst (v := 5) hx hb dX11_setBit_16 (by decide) (ti_c 5 (by decide) fun z15 hz15 => ?_)
      refine lv_imul hx hb dX11_setBit_17 (tc_mulR 5 hz15 fun z16 hz16 => ?_)
      first | replace hz16 := hz16 (by omega) | clear hz16
      refine lv_iload_n hx hb dX11_setBit_18 rfl (lv_at hl 2 rfl) ?_
      refine lv_bipush (v := 64) hx hb dX11_setBit_19 (by decide) (ti_c 64 (by decide) fun z17 hz17 => ?_)
      refine lv_idiv hx hb dX11_setBit_21 (ne0_of (by omega)) (tc_div 64 hz17 (by decide) fun z18 bz18 hz18 => ?_)
      first | replace hz18 := hz18 (by omega) | clear hz18
      refine lv_iadd hx hb dX11_setBit_22 (tc_add fun z19 hz19 => ?_)
      first | replace hz19 := hz19 (by omega) | clear hz19
      refine lv_dup2_11 hx hb dX11_setBit_23 rfl rfl ?_
      refine r_lald C hw (hsh 17 _ rfl) (by omega) (by omega) dX11_setBit_24 (lv_topl fun x20 hx20 => ?_)
      refine lv_lconst (v := 1) hx hb dX11_setBit_25 (by decide) (lv_topl fun x21 hx21 => ?_)
      refine lv_iload_n hx hb dX11_setBit_26 rfl (lv_at hl 2 rfl) ?_
      refine lv_bipush (v := 64) hx hb dX11_setBit_27 (by decide) (ti_c 64 (by decide) fun z22 hz22 => ?_)
      refine lv_irem hx hb dX11_setBit_29 (ne0_of (by omega)) (tc_rem 64 hz22 (by decide) fun z23 bz23 hz23 => ?_)
      first | replace hz23 := hz23 (by omega) | clear hz23
      refine lv_lshl hx hb dX11_setBit_30 rfl (lv_topl fun x24 hx24 => ?_)
      refine lv_lor hx hb dX11_setBit_31 (lv_topl fun x25 hx25 => ?_)
      refine r_last C hw (hsh 17 _ rfl) (by omega) (by omega) dX11_setBit_32 (fun H locs hH hw => ?_)
      have hO0 := hO
      obtain ⟨lg26, elg26⟩ : ∃ f, f = up2 lg (B + 17) z19.toInt.toNat x25 := ⟨_, rfl⟩
      rw [← elg26] at hw
      have hN : Nx 1014 B none kd ig rg lg kd ig rg lg26 := by rw [elg26]; exact hN.pl (by omega)
      have hO : Fo B [17] ig lg ig lg26 := by rw [elg26]; exact hO0.pl (by decide)
      clear hO0
      exact r_vret C hw hr hlk (Nat.le_of_ble_eq_true rfl) (Nat.le_of_ble_eq_true rfl) dX11_setBit_33 ⟨hI, hN, ⟨rfl, ⟨(by have q9 := sb_k (x := w) (y := x) (f := lg (B + 17)) (g := lg26 (B + 17)) (z19 := z19) (z23 := z23) ⟨by omega, by omega⟩ (by omega) (by omega) hx20 hx21 hx24 hx25 (by rw [elg26, up2_eq]) (fun k hk => by rw [elg26, up2_j hk]); rw [show w.toInt.toNat = 0 by omega] at q9; exact q9), hO⟩⟩⟩

set_option maxHeartbeats 4000000 in
set_option maxRecDepth 100000 in
theorem t_X4_listPlacesE {τ : Tp} (l : Launch) (B : Nat) (D : va_G) (cA : Nat → ClassId) (kd : sK) (ig : sI) (rg : sR) (lg : sG) (sz : Nat) (f : Nat) (L : Fm) (hL : FnL B kd ig rg f L) (x : Int32) (y : Int32) (c0 : Nat) (hc : isSp c0) (hin : 0 ≤ x.toInt ∧ x.toInt < (L.length : Int)) (hy0 : 0 ≤ y.toInt ∧ y.toInt < 288) (hpk : pkR (stp L x.toInt).2.1 ∧ pkR (stp L x.toInt).2.2) (hft : fitS y.toInt (stp L x.toInt)) (hI : IC τ B kd ig rg) : MC l B D cA yX4_listPlaces cX4_listPlaces 10 (some .int) (rL 2 0 0) [.ref f, .int x, .int y, .ref (B + c0)] kd ig rg lg sz (PI 1022 τ B none kd ig rg lg (fun r kd' ig' rg' lg' => ∃ z : Int32, r = some (.int z) ∧ (SpL B c0 (plS (stp L x.toInt) y.toInt) ig' z.toInt ∧ Fo B [c0] ig lg ig' lg' ∧ (ig' (B + 43) 6).toInt = (ig (B + 43) 6).toInt))) := by
  refine MC.of (own := RX4) (by decide +kernel) rfl (Nat.le_of_ble_eq_true rfl) ?_
  intro p e s m args below meth c ls C hr hlk hnm hw hsz hl
  have hx := C.1.1
  have hb := C.1.2.1
  have hown := C.1.2.2.2.1
  have hts := C.1.2.2.2.2
  have hl : lv_has ls 10 [(0, .ref f), (1, .int x), (2, .int y), (3, .ref (B + c0))] := hl
  have hN : Nx 1022 B none kd ig rg lg kd ig rg lg := Nx.rf
  have hsh := hI.sh
  have hrs := hI.rs
  have hO : Fo B [c0] ig lg ig lg := Fo.rf
  have lnf := hL.le
  have hcl := hc.lt
  have hcs : c0 = 23 ∨ c0 = 27 ∨ c0 = 35 ∨ c0 = 40 := hc
  obtain ⟨hW1, hH1, hW, hH⟩ := spW_le hft
  obtain ⟨⟨⟨a1, a2⟩, a3, a4⟩, ⟨⟨b1, b2⟩, b3, b4⟩, c1, c2⟩ := (show (((0 ≤ colv (stp L x.toInt).2.1 y.toInt ∧ colv (stp L x.toInt).2.1 y.toInt < 12) ∧ 0 ≤ rowv (stp L x.toInt).2.1 y.toInt ∧ rowv (stp L x.toInt).2.1 y.toInt < 24) ∧ ((0 ≤ colv (stp L x.toInt).2.2 y.toInt ∧ colv (stp L x.toInt).2.2 y.toInt < 12) ∧ 0 ≤ rowv (stp L x.toInt).2.2 y.toInt ∧ rowv (stp L x.toInt).2.2 y.toInt < 24) ∧ colv (stp L x.toInt).2.1 y.toInt ≤ colv (stp L x.toInt).2.2 y.toInt ∧ rowv (stp L x.toInt).2.1 y.toInt ≤ rowv (stp L x.toInt).2.2 y.toInt) from hft)
  refine lv_iconst (v := 0) hx hb dX4_listPlaces_0 (by decide) (ti_c 0 (by decide) fun z1 hz1 => ?_)
  refine lv_istore (lv' := [(4, .int z1), (0, .ref f), (1, .int x), (2, .int y), (3, .ref (B + c0))]) hx hb dX4_listPlaces_1 hl (by decide) rfl (fun ls hl => ?_)
  refine lv_aload_n hx hb dX4_listPlaces_3 rfl (lv_at hl 1 rfl) ?_
  refine lv_iload_n hx hb dX4_listPlaces_4 rfl (lv_at hl 2 rfl) ?_
  refine lv_iload_n hx hb dX4_listPlaces_5 rfl (lv_at hl 3 rfl) ?_
  refine r_callV (As := [.int x, .int y]) (rest := []) C hw (t_X4_leftE l B D cA kd ig rg lg _ f L (hL.nx hN) x y (by omega) (by omega) hpk.1 hI) sv_X4_38 (isFn.k (FnL.F (hL.nx hN))) rfl hl.1 rfl (Nat.le_of_ble_eq_true rfl) ⟨Nat.le_of_ble_eq_true rfl, Nat.le_of_ble_eq_true rfl⟩ ⟨Nat.le_of_ble_eq_true rfl, Nat.le_of_ble_eq_true rfl⟩ dX4_listPlaces_6 (fun r6 kd2 ig3 rg4 lg5 H locs hw hH hp7 => ?_)
  obtain ⟨rfl, rfl, rfl, rfl, hzhp7, hrhp7⟩ := hp7
  obtain ⟨z8, rfl, hz8⟩ := hrhp7
  refine lv_istore (lv' := [(5, .int z8), (4, .int z1), (0, .ref f), (1, .int x), (2, .int y), (3, .ref (B + c0))]) hx hb dX4_listPlaces_9 hl (by decide) rfl (fun ls hl => ?_)
  refine lv_aload_n hx hb dX4_listPlaces_11 rfl (lv_at hl 2 rfl) ?_
  refine lv_iload_n hx hb dX4_listPlaces_12 rfl (lv_at hl 3 rfl) ?_
  refine lv_iload_n hx hb dX4_listPlaces_13 rfl (lv_at hl 4 rfl) ?_
  refine r_callV (As := [.int x, .int y]) (rest := []) C hw (t_X4_rightE l B D cA kd ig rg lg _ f L (hL.nx hN) x y (by omega) (by omega) hpk.2 hI) sv_X4_41 (isFn.k (FnL.F (hL.nx hN))) rfl hl.1 rfl (Nat.le_of_ble_eq_true rfl) ⟨Nat.le_of_ble_eq_true rfl, Nat.le_of_ble_eq_true rfl⟩ ⟨Nat.le_of_ble_eq_true rfl, Nat.le_of_ble_eq_true rfl⟩ dX4_listPlaces_14 (fun r13 kd9 ig10 rg11 lg12 H locs hw hH hp14 => ?_)
  obtain ⟨rfl, rfl, rfl, rfl, hzhp14, hrhp14⟩ := hp14
  obtain ⟨z15, rfl, hz15⟩ := hrhp14
  refine lv_istore (lv' := [(6, .int z15), (5, .int z8), (4, .int z1), (0, .ref f), (1, .int x), (2, .int y), (3, .ref (B + c0))]) hx hb dX4_listPlaces_17 hl (by decide) rfl (fun ls hl => ?_)
  refine lv_aload_n hx hb dX4_listPlaces_19 rfl (lv_at hl 3 rfl) ?_
  refine lv_iload_n hx hb dX4_listPlaces_20 rfl (lv_at hl 4 rfl) ?_
  refine lv_iload_n hx hb dX4_listPlaces_21 rfl (lv_at hl 5 rfl) ?_
  refine r_callV (As := [.int x, .int y]) (rest := []) C hw (t_X4_bottomE l B D cA kd ig rg lg _ f L (hL.nx hN) x y (by omega) (by omega) hpk.2 hI) sv_X4_44 (isFn.k (FnL.F (hL.nx hN))) rfl hl.1 rfl (Nat.le_of_ble_eq_true rfl) ⟨Nat.le_of_ble_eq_true rfl, Nat.le_of_ble_eq_true rfl⟩ ⟨Nat.le_of_ble_eq_true rfl, Nat.le_of_ble_eq_true rfl⟩ dX4_listPlaces_22 (fun r20 kd16 ig17 rg18 lg19 H locs hw hH hp21 => ?_)
  obtain ⟨rfl, rfl, rfl, rfl, hzhp21, hrhp21⟩ := hp21
  obtain ⟨z22, rfl, hz22⟩ := hrhp21
  refine lv_istore (lv' := [(7, .int z22), (6, .int z15), (5, .int z8), (4, .int z1), (0, .ref f), (1, .int x), (2, .int y), (3, .ref (B + c0))]) hx hb dX4_listPlaces_25 hl (by decide) rfl (fun ls hl => ?_)
  refine lv_aload_n hx hb dX4_listPlaces_27 rfl (lv_at hl 4 rfl) ?_
  refine lv_iload_n hx hb dX4_listPlaces_28 rfl (lv_at hl 5 rfl) ?_
  refine lv_iload_n hx hb dX4_listPlaces_29 rfl (lv_at hl 6 rfl) ?_
  refine r_callV (As := [.int x, .int y]) (rest := []) C hw (t_X4_topE l B D cA kd ig rg lg _ f L (hL.nx hN) x y (by omega) (by omega) hpk.1 hI) sv_X4_47 (isFn.k (FnL.F (hL.nx hN))) rfl hl.1 rfl (Nat.le_of_ble_eq_true rfl) ⟨Nat.le_of_ble_eq_true rfl, Nat.le_of_ble_eq_true rfl⟩ ⟨Nat.le_of_ble_eq_true rfl, Nat.le_of_ble_eq_true rfl⟩ dX4_listPlaces_30 (fun r27 kd23 ig24 rg25 lg26 H locs hw hH hp28 => ?_)
  obtain ⟨rfl, rfl, rfl, rfl, hzhp28, hrhp28⟩ := hp28
  obtain ⟨z29, rfl, hz29⟩ := hrhp28
  refine lv_istore (lv' := [(8, .int z29), (7, .int z22), (6, .int z15), (5, .int z8), (4, .int z1), (0, .ref f), (1, .int x), (2, .int y), (3, .ref (B + c0))]) hx hb dX4_listPlaces_33 hl (by decide) rfl (fun ls hl => ?_)
  have L35 : ∀ (n : Nat) (ls : Array Slot) (H : Heap) (locs : List Loc) (kd32 : sK) (ig33 : sI) (rg34 : sR) (lg35 : sG) (v30 : Int32) (v31 : Int32), lv_has ls 10 [(8, .int v30), (7, .int z22), (6, .int z15), (5, .int z8), (4, .int v31), (3, .ref (B + c0))] → WD B D cA s.heap kd32 ig33 rg34 lg35 H locs → IC τ B kd32 ig33 rg34 → Nx 1022 B none kd ig rg lg kd32 ig33 rg34 lg35 → (∃ j : Nat, v30.toInt = rowv (stp L x.toInt).2.1 y.toInt + (j : Int) ∧ j ≤ spH (stp L x.toInt) y.toInt ∧ SpL B c0 (plF (rowv (stp L x.toInt).2.1 y.toInt) (colv (stp L x.toInt).2.1 y.toInt) (spW (stp L x.toInt) y.toInt) j) ig33 v31.toInt) → (Fo B [c0] ig lg ig33 lg35) → ((ig33 (B + 43) 6).toInt = (ig (B + 43) 6).toInt) → rowv (stp L x.toInt).2.2 y.toInt + 1 - v30.toInt < (n : Int) → W p l e (rL 2 0 0) s m args below meth c H locs 0 0 (MQ below (QcW B D cA (PI 1022 τ B none kd ig rg lg (fun r kd' ig' rg' lg' => ∃ z : Int32, r = some (.int z) ∧ (SpL B c0 (plS (stp L x.toInt) y.toInt) ig' z.toInt ∧ Fo B [c0] ig lg ig' lg' ∧ (ig' (B + 43) 6).toInt = (ig (B + 43) 6).toInt)))) args s 0 0 (fun q => B ≤ q)) (F0 m 35 ls []) := by
    intro n35
    induction n35 with
    | zero => intro ls H locs kd32 ig33 rg34 lg35 v30 v31 hl hw hI hN g35_0 g35_1 g35_2 hmu; exact absurd hmu (by omega)
    | succ n35 ih35 =>
      intro ls H locs kd32 ig33 rg34 lg35 v30 v31 hl hw hI hN g35_0 g35_1 g35_2 hmu
      have hsh := hI.sh
      have hrs := hI.rs
      have hO := g35_1
      obtain ⟨j, hj8, hjH, hsp⟩ := g35_0
      have hsn := hsp.1
      refine lv_iload hx hb dX4_listPlaces_35 (lv_at hl 0 rfl) ?_
      refine lv_iload hx hb dX4_listPlaces_37 (lv_at hl 1 rfl) ?_
      refine b_gt (tgt := 87) hx hb dX4_listPlaces_39 (by decide) (fun c39 => ?_) (fun c39 => ?_)
      · refine lv_iload hx hb dX4_listPlaces_87 (lv_at hl 4 rfl) ?_
        exact r_iret C hw hr hlk rfl (Nat.le_of_ble_eq_true rfl) (Nat.le_of_ble_eq_true rfl) dX4_listPlaces_89 ⟨hI, hN, ⟨_, rfl, ⟨(by obtain rfl : j = spH (stp L x.toInt) y.toInt := (by omega); exact hsp), hO, by omega⟩⟩⟩
      · refine lv_iload hx hb dX4_listPlaces_42 (lv_at hl 3 rfl) ?_
        refine lv_istore (lv' := [(9, .int z8), (8, .int v30), (7, .int z22), (6, .int z15), (5, .int z8), (4, .int v31), (3, .ref (B + c0))]) hx hb dX4_listPlaces_44 hl (by decide) rfl (fun ls hl => ?_)
        have L46 : ∀ (n : Nat) (ls : Array Slot) (H : Heap) (locs : List Loc) (kd38 : sK) (ig39 : sI) (rg40 : sR) (lg41 : sG) (v36 : Int32) (v37 : Int32), lv_has ls 10 [(9, .int v36), (8, .int v30), (7, .int z22), (6, .int z15), (5, .int z8), (4, .int v37), (3, .ref (B + c0))] → WD B D cA s.heap kd38 ig39 rg40 lg41 H locs → IC τ B kd38 ig39 rg40 → Nx 1022 B none kd ig rg lg kd38 ig39 rg40 lg41 → (∃ k : Nat, v36.toInt = colv (stp L x.toInt).2.1 y.toInt + (k : Int) ∧ k ≤ spW (stp L x.toInt) y.toInt ∧ SpL B c0 (plF (rowv (stp L x.toInt).2.1 y.toInt) (colv (stp L x.toInt).2.1 y.toInt) (spW (stp L x.toInt) y.toInt) j ++ plR (rowv (stp L x.toInt).2.1 y.toInt + (j : Int)) (colv (stp L x.toInt).2.1 y.toInt) k) ig39 v37.toInt) → (Fo B [c0] ig lg ig39 lg41) → ((ig39 (B + 43) 6).toInt = (ig (B + 43) 6).toInt) → colv (stp L x.toInt).2.2 y.toInt + 1 - v36.toInt < (n : Int) → W p l e (rL 2 0 0) s m args below meth c H locs 0 0 (MQ below (QcW B D cA (PI 1022 τ B none kd ig rg lg (fun r kd' ig' rg' lg' => ∃ z : Int32, r = some (.int z) ∧ (SpL B c0 (plS (stp L x.toInt) y.toInt) ig' z.toInt ∧ Fo B [c0] ig lg ig' lg' ∧ (ig' (B + 43) 6).toInt = (ig (B + 43) 6).toInt)))) args s 0 0 (fun q => B ≤ q)) (F0 m 46 ls []) := by
          intro n46
          induction n46 with
          | zero => intro ls H locs kd38 ig39 rg40 lg41 v36 v37 hl hw hI hN g46_0 g46_1 g46_2 hmu; exact absurd hmu (by omega)
          | succ n46 ih46 =>
            intro ls H locs kd38 ig39 rg40 lg41 v36 v37 hl hw hI hN g46_0 g46_1 g46_2 hmu
            have hsh := hI.sh
            have hrs := hI.rs
            have hO := g46_1
            obtain ⟨k, hk9, hkW, hsp⟩ := g46_0
            have hsn := hsp.1
            refine lv_iload hx hb dX4_listPlaces_46 (lv_at hl 0 rfl) ?_
            refine lv_iload hx hb dX4_listPlaces_48 (lv_at hl 3 rfl) ?_
            refine b_gt (tgt := 81) hx hb dX4_listPlaces_50 (by decide) (fun c50 => ?_) (fun c50 => ?_)
            · refine tc_inc hx hb dX4_listPlaces_81 hl (k := 1) rfl (by decide) (by decide) (fun z42 hz42 ls hl => ?_)
              first | replace hz42 := hz42 (by omega) | clear hz42
              have hl : lv_has ls 10 [(8, .int z42), (9, .int v36), (7, .int z22), (6, .int z15), (5, .int z8), (4, .int v37), (3, .ref (B + c0))] := hl
              refine lv_goto (tgt := 35) hx hb dX4_listPlaces_84 (by decide) ?_
              exact ih35 ls H locs kd38 ig39 rg40 lg41 z42 v37 (lv_sub hl [0, 2, 3, 4, 5, 6] rfl) hw hI hN (⟨j + 1, by omega, by omega, by obtain rfl : k = spW (stp L x.toInt) y.toInt := (by omega); rw [plF_s]; exact hsp⟩) (hO) (by omega) (by omega)
            · have hlt := plF_lt (y := rowv (stp L x.toInt).2.1 y.toInt) (c := colv (stp L x.toInt).2.1 y.toInt) (y' := rowv (stp L x.toInt).2.1 y.toInt + (j : Int)) (c' := colv (stp L x.toInt).2.1 y.toInt) hft (j := j) (k := k) (by omega) (by omega)
              have h288 : v37.toInt < 288 := by omega
              refine lv_iload hx hb dX4_listPlaces_53 (lv_at hl 5 rfl) ?_
              refine lv_aload_n hx hb dX4_listPlaces_55 rfl (lv_at hl 6 rfl) ?_
              refine r_alen C hw (isSp.k hc hsh) (by omega) (by omega) dX4_listPlaces_56 (fun z43 hz43 => ?_)
              refine b_ge (tgt := 81) hx hb dX4_listPlaces_57 (by decide) (fun c57 => ?_) (fun c57 => ?_)
              · exact absurd c57 (by omega)
              · refine lv_aload_n hx hb dX4_listPlaces_60 rfl (lv_at hl 6 rfl) ?_
                refine lv_iload hx hb dX4_listPlaces_61 (lv_at hl 5 rfl) ?_
                refine lv_iload hx hb dX4_listPlaces_63 (lv_at hl 1 rfl) ?_
                refine lv_bipush (v := 12) hx hb dX4_listPlaces_65 (by decide) (ti_c 12 (by decide) fun z44 hz44 => ?_)
                refine lv_imul hx hb dX4_listPlaces_67 (tc_mulR 12 hz44 fun z45 hz45 => ?_)
                first | replace hz45 := hz45 (by omega) | clear hz45
                refine lv_iload hx hb dX4_listPlaces_68 (lv_at hl 0 rfl) ?_
                refine lv_iadd hx hb dX4_listPlaces_70 (tc_add fun z46 hz46 => ?_)
                first | replace hz46 := hz46 (by omega) | clear hz46
                refine r_iast C hw (isSp.k hc hsh) (by omega) (by omega) dX4_listPlaces_71 (fun H locs hH hw => ?_)
                have hO0 := hO
                obtain ⟨ig47, eig47⟩ : ∃ f, f = up2 ig39 (B + c0) v37.toInt.toNat z46 := ⟨_, rfl⟩
                rw [← eig47] at hw
                have hN : Nx 1022 B none kd ig rg lg kd38 ig47 rg40 lg41 := by rw [eig47]; exact hN.pi (by omega)
                have hI : IC τ B kd38 ig47 rg40 := by rw [eig47]; exact hI.pi hc.ok
                have wig47_43_6 : (ig47 (B + 43) 6).toInt = (ig39 (B + 43) 6).toInt := by rw [eig47, up2_a (by omega)]
                have hO : Fo B [c0] ig lg ig47 lg41 := by rw [eig47]; exact hO0.pi (by simp)
                clear hO0
                have hsp2 : SpL B c0 (plF (rowv (stp L x.toInt).2.1 y.toInt) (colv (stp L x.toInt).2.1 y.toInt) (spW (stp L x.toInt) y.toInt) j ++ plR (rowv (stp L x.toInt).2.1 y.toInt + (j : Int)) (colv (stp L x.toInt).2.1 y.toInt) (k + 1)) ig47 (v37.toInt + 1) := by rw [plR_s, ← List.append_assoc, eig47]; exact hsp.add (by omega) rfl (by rw [hz46]; omega)
                refine tc_inc hx hb dX4_listPlaces_72 hl (k := 5) rfl (by decide) (by decide) (fun z48 hz48 ls hl => ?_)
                first | replace hz48 := hz48 (by omega) | clear hz48
                have hl : lv_has ls 10 [(4, .int z48), (9, .int v36), (8, .int v30), (7, .int z22), (6, .int z15), (5, .int z8), (3, .ref (B + c0))] := hl
                refine tc_inc hx hb dX4_listPlaces_75 hl (k := 1) rfl (by decide) (by decide) (fun z49 hz49 ls hl => ?_)
                first | replace hz49 := hz49 (by omega) | clear hz49
                have hl : lv_has ls 10 [(9, .int z49), (4, .int z48), (8, .int v30), (7, .int z22), (6, .int z15), (5, .int z8), (3, .ref (B + c0))] := hl
                refine lv_goto (tgt := 46) hx hb dX4_listPlaces_78 (by decide) ?_
                exact ih46 ls H locs kd38 ig47 rg40 lg41 z49 z48 (lv_sub hl [0, 2, 3, 4, 5, 1, 6] rfl) hw hI hN (⟨k + 1, by omega, by omega, hsp2.to (by omega)⟩) (hO) (by omega) (by omega)
        exact L46 ((colv (stp L x.toInt).2.2 y.toInt + 1 - z8.toInt) + 1).toNat ls H locs kd32 ig33 rg34 lg35 z8 v31 (lv_sub hl [0, 1, 2, 3, 4, 5, 6] rfl) hw hI hN (⟨0, by omega, by omega, by rw [plR_0, List.append_nil]; exact hsp⟩) (hO) (by omega) (by omega)
  exact L35 ((rowv (stp L x.toInt).2.2 y.toInt + 1 - z29.toInt) + 1).toNat ls H locs kd ig rg lg z29 z1 (lv_sub hl [0, 1, 2, 3, 4, 8] rfl) hw hI hN (⟨0, by omega, by omega, SpL.nil (by omega)⟩) (hO) (by omega) (by omega)
