theorem FXm.wrE {B : Nat} {σ : Sg} {ig ig2 : sI} {lg : sG} {v : Int32} {cc j : Nat} (e : ig2 = up2 ig (B + cc) j v) (h : FXm B σ ig lg) (hc : (cc ≠ 71 ∧ cc ≠ 66 ∧ cc ≠ 67) ∧ (cc ≠ 70 ∧ cc ≠ 72) ∧ cc ≠ 68 ∧ cc ≠ 69) : FXm B σ ig2 lg := by rw [e]; exact h.wr hc
theorem wf_n {p : Nat} {v : Int} : wfC p (nCl v) := ⟨fun w => absurd (show (1 : Int) = 2 from w) (by decide), fun w => absurd rfl w⟩
theorem wf_u {p : Nat} {v a b c : Int} : wfC p (uCl v a b c) := ⟨fun w => absurd (show (1 : Int) = 2 from w) (by decide), fun w => absurd rfl w⟩
theorem wf_b {p : Nat} : wfC p blk := ⟨fun w => absurd (show (0 : Int) = 2 from w) (by decide), fun _ => ⟨rfl, rfl⟩⟩
set_option maxHeartbeats 4000000 in
set_option maxRecDepth 100000 in
theorem t_X12_putsX {τ : Tp} {φ : Option Int} (l : Launch) (B : Nat) (D : va_G) (cA : Nat → ClassId) (kd : sK) (ig : sI) (rg : sR) (lg : sG) (sz : Nat) (x : Int32) (hx0 : 0 ≤ x.toInt ∧ x.toInt < 288) (hwp : WP B ig 288) (σ : Sg) (π : Ps) (hM : SM B σ π ig) (dc : Cl) (hD : RowM B ig 288 (x.toInt.toNat : Int) dc) (π2 : Ps) (hW2 : WS (upS σ x.toInt.toNat dc) π2) (hI : IM τ φ none B kd ig rg) : MC l B D cA yX12_puts cX12_puts 3 none (rL 32 0 0) [.ref (B + 49), .int x] kd ig rg lg sz (PM τ φ none B [49, 54, 55, 56, 57, 58, 59, 60, 61, 63, 64, 65, 66, 67, 68, 69, 70, 71, 72, 73, 74] kd ig rg lg (fun r ig' lg' => (r = none ∧ (SM B (upS σ x.toInt.toNat dc) (pput π x.toInt.toNat (σ x.toInt.toNat)) ig' ∧ FXm B (upS σ x.toInt.toNat dc) ig' lg')))) := by
  refine MC.of (own := RX12) (by decide +kernel) rfl (Nat.le_of_ble_eq_true rfl) ?_
  intro p e s m args below meth c ls C hr hlk hnm hw hsz hl
  have hx := C.1.1
  have hb := C.1.2.1
  have hown := C.1.2.2.2.1
  have hts := C.1.2.2.2.2
  have hl : lv_has ls 3 [(0, .ref (B + 49)), (1, .int x)] := hl
  have hF : Ft B [49, 54, 55, 56, 57, 58, 59, 60, 61, 63, 64, 65, 66, 67, 68, 69, 70, 71, 72, 73, 74] ig lg ig lg := Ft.rf
  have hsh := hI.sh
  have hrm := hI.rm
  have hl9 := hM.len
  have hpl := ptl_len hl9.2
  refine lv_aload_n hx hb dX12_puts_0 rfl (lv_at hl 0 rfl) ?_
  refine r_get C hw (hsh 49 _ rfl) fl_X12_188 (oV_i rfl) dX12_puts_1 (ti_c (ig (B + 49) 19).toInt rfl fun z1 hz1 => ?_)
  have k2 : 0 ≤ (ig (B + 49) 19).toInt ∧ (ig (B + 49) 19).toInt ≤ 20 := hI.i 49 19 (by decide) (by decide)
  refine lv_bipush (v := 20) hx hb dX12_puts_4 (by decide) (ti_c 20 (by decide) fun z3 hz3 => ?_)
  have J61 : ∀ (ls : Array Slot) (H : Heap) (locs : List Loc) (ig4 : sI) (lg5 : sG) , lv_has ls 3 [(0, .ref (B + 49)), (1, .int x)] → WD B D cA s.heap kd ig4 rg lg5 H locs → IM τ φ none B kd ig4 rg → Ft B [49, 54, 55, 56, 57, 58, 59, 60, 61, 63, 64, 65, 66, 67, 68, 69, 70, 71, 72, 73, 74] ig lg ig4 lg5 → (SM B σ (ptl π) ig4) → (WP B ig4 288) → (RowM B ig4 288 (x.toInt.toNat : Int) dc) → W p l e (rL 32 0 0) s m args below meth c H locs 0 0 (MQ below (QcW B D cA (PM τ φ none B [49, 54, 55, 56, 57, 58, 59, 60, 61, 63, 64, 65, 66, 67, 68, 69, 70, 71, 72, 73, 74] kd ig rg lg (fun r ig' lg' => (r = none ∧ (SM B (upS σ x.toInt.toNat dc) (pput π x.toInt.toNat (σ x.toInt.toNat)) ig' ∧ FXm B (upS σ x.toInt.toNat dc) ig' lg'))))) args s 0 0 (fun q => B ≤ q)) (F0 m 61 ls []) := by
    intro ls H locs ig4 lg5 hl hw hI hF g61_0 g61_1 g61_2
    have hM := g61_0
    have hwp := g61_1
    have hD := g61_2
    have hl8 := hM.len
    refine lv_aload_n hx hb dX12_puts_61 rfl (lv_at hl 0 rfl) ?_
    refine lv_iload_n hx hb dX12_puts_62 rfl (lv_at hl 1 rfl) ?_
    refine lv_sipush (v := 289) hx hb dX12_puts_63 (by decide) (ti_c 289 (by decide) fun z6 hz6 => ?_)
    refine lv_aload_n hx hb dX12_puts_66 rfl (lv_at hl 0 rfl) ?_
    refine r_get C hw (hsh 49 _ rfl) fl_X12_188 (oV_i rfl) dX12_puts_67 (ti_c (ig4 (B + 49) 19).toInt rfl fun z7 hz7 => ?_)
    have k8 : 0 ≤ (ig4 (B + 49) 19).toInt ∧ (ig4 (B + 49) 19).toInt ≤ 20 := hI.i 49 19 (by decide) (by decide)
    refine lv_iadd hx hb dX12_puts_70 (tc_add fun z9 hz9 => ?_)
    first | replace hz9 := hz9 (by omega) | clear hz9
    have hI61 := hI
    refine r_callV (As := [.int x, .int z9]) (rest := []) C hw (t_X12_copyRowE l B D cA kd ig4 rg lg5 _ x z9 (by omega) (by omega) (i32_ne (by omega)) (hI.wp (by omega) (by omega)) hI) sv_X12_191 (hsh 49 _ rfl) rfl hl.1 rfl (Nat.le_of_ble_eq_true rfl) ⟨Nat.le_of_ble_eq_true rfl, Nat.le_of_ble_eq_true rfl⟩ ⟨Nat.le_of_ble_eq_true rfl, Nat.le_of_ble_eq_true rfl⟩ dX12_puts_71 (fun r14 kd10 ig11 rg12 lg13 H locs hw hH hp15 => ?_)
    obtain ⟨rfl, rfl, hI, hchp15, hrhp15⟩ := hp15
    have hF : Ft B [49, 54, 55, 56, 57, 58, 59, 60, 61, 63, 64, 65, 66, 67, 68, 69, 70, 71, 72, 73, 74] ig lg ig11 lg13 := Ft.tr hF hchp15 (by decide) (by decide)
    obtain ⟨rfl, hvhp15⟩ := hrhp15
    have hcx : CRx B x.toInt.toNat (289 + (ptl π).length) ig4 ig11 := CRx.toY hvhp15 (by omega)
    have hwp : WP B ig11 288 := WP.keep hwp hcx.1 (by omega)
    have hD := hcx.oth hD (by omega) (hI61.its (j := 288) (by decide)).2
    have h63 : ∀ j, ig11 (B + 63) j = ig4 (B + 63) j := fun j => hchp15.i 63 j (by decide)
    have h19i := congrArg Int32.toInt (hchp15.i 49 19 (by decide))
    refine lv_aload_n hx hb dX12_puts_74 rfl (lv_at hl 0 rfl) ?_
    refine r_get C hw (hsh 49 _ rfl) fl_X12_93 (oV_r rfl (hrm (49, 20, 63) (by decide))) dX12_puts_75 ?_
    refine lv_aload_n hx hb dX12_puts_78 rfl (lv_at hl 0 rfl) ?_
    refine r_get C hw (hsh 49 _ rfl) fl_X12_188 (oV_i rfl) dX12_puts_79 (ti_c (ig11 (B + 49) 19).toInt rfl fun z16 hz16 => ?_)
    have k17 : 0 ≤ (ig11 (B + 49) 19).toInt ∧ (ig11 (B + 49) 19).toInt ≤ 20 := hI.i 49 19 (by decide) (by decide)
    refine lv_iload_n hx hb dX12_puts_82 rfl (lv_at hl 1 rfl) ?_
    refine r_iast C hw (hsh 63 _ rfl) (by omega) (by omega) dX12_puts_83 (fun H locs hH hw => ?_)
    obtain ⟨ig18, eig18⟩ : ∃ f, f = up2 ig11 (B + 63) z16.toInt.toNat x := ⟨_, rfl⟩
    rw [← eig18] at hw
    have hF : Ft B [49, 54, 55, 56, 57, 58, 59, 60, 61, 63, 64, 65, 66, 67, 68, 69, 70, 71, 72, 73, 74] ig lg ig18 lg13 := by rw [eig18]; exact hF.pi (by decide)
    have hI : IM τ φ none B kd ig18 rg := by rw [eig18]; exact hI.pi (by decide) (show okR (some (0, 287)) _ from ⟨by show (0 : Int) ≤ _; omega, by show _ ≤ (287 : Int); omega⟩)
    have wig18_49_19 : (ig18 (B + 49) 19).toInt = (ig11 (B + 49) 19).toInt := by rw [eig18, up2_a (by omega)]
    have hwp : WP B ig18 288 := by rw [eig18]; exact WP.u hwp (by decide)
    have hD : RowM B ig18 288 (x.toInt.toNat : Int) dc := by rw [eig18]; exact hD.wr (by omega)
    refine lv_aload_n hx hb dX12_puts_84 rfl (lv_at hl 0 rfl) ?_
    refine lv_dup hx hb dX12_puts_85 rfl ?_
    refine r_get C hw (hsh 49 _ rfl) fl_X12_188 (oV_i rfl) dX12_puts_86 (ti_c (ig18 (B + 49) 19).toInt rfl fun z19 hz19 => ?_)
    have k20 : 0 ≤ (ig18 (B + 49) 19).toInt ∧ (ig18 (B + 49) 19).toInt ≤ 20 := hI.i 49 19 (by decide) (by decide)
    refine lv_iconst (v := 1) hx hb dX12_puts_89 (by decide) (ti_c 1 (by decide) fun z21 hz21 => ?_)
    refine lv_iadd hx hb dX12_puts_90 (tc_add fun z22 hz22 => ?_)
    first | replace hz22 := hz22 (by omega) | clear hz22
    refine r_puti C hw (hsh 49 _ rfl) fl_X12_188 rfl rfl rfl dX12_puts_91 (fun H locs hH hw => ?_)
    obtain ⟨ig23, eig23⟩ : ∃ f, f = up2 ig18 (B + 49) 19 z22 := ⟨_, rfl⟩
    rw [← eig23] at hw
    have hF : Ft B [49, 54, 55, 56, 57, 58, 59, 60, 61, 63, 64, 65, 66, 67, 68, 69, 70, 71, 72, 73, 74] ig lg ig23 lg13 := by rw [eig23]; exact hF.pi (by decide)
    have hI : IM τ φ none B kd ig23 rg := by rw [eig23]; exact hI.pi (by decide) (show okR (some (0, 20)) _ from ⟨by show (0 : Int) ≤ _; omega, by show _ ≤ (20 : Int); omega⟩)
    have wig23 : (ig23 (B + 49) 19).toInt = z22.toInt := by rw [eig23, up2_eq]
    have hwp : WP B ig23 288 := by rw [eig23]; exact WP.u hwp (by decide)
    have hD : RowM B ig23 288 (x.toInt.toNat : Int) dc := by rw [eig23]; exact hD.wr (by omega)
    have hM : SM B σ (pput π x.toInt.toNat (σ x.toInt.toNat)) ig23 := by rw [eig23, eig18]; exact SM.push hM (by omega) (by omega) hcx hI61.i120 h63 (n := z16.toInt.toNat) (by omega) (by omega) (by omega)
    have hI91 := hI
    refine lv_aload_n hx hb dX12_puts_94 rfl (lv_at hl 0 rfl) ?_
    refine lv_sipush (v := 288) hx hb dX12_puts_95 (by decide) (ti_c 288 (by decide) fun z24 hz24 => ?_)
    refine lv_iload_n hx hb dX12_puts_98 rfl (lv_at hl 1 rfl) ?_
    refine r_callV (As := [.int z24, .int x]) (rest := []) C hw (t_X12_copyRowE l B D cA kd ig23 rg lg13 _ z24 x (by omega) (by omega) (i32_ne (by omega)) (by rw [show z24.toInt.toNat = 288 by omega]; exact hwp) hI) sv_X12_191 (hsh 49 _ rfl) rfl hl.1 rfl (Nat.le_of_ble_eq_true rfl) ⟨Nat.le_of_ble_eq_true rfl, Nat.le_of_ble_eq_true rfl⟩ ⟨Nat.le_of_ble_eq_true rfl, Nat.le_of_ble_eq_true rfl⟩ dX12_puts_99 (fun r29 kd25 ig26 rg27 lg28 H locs hw hH hp30 => ?_)
    obtain ⟨rfl, rfl, hI, hchp30, hrhp30⟩ := hp30
    have hF : Ft B [49, 54, 55, 56, 57, 58, 59, 60, 61, 63, 64, 65, 66, 67, 68, 69, 70, 71, 72, 73, 74] ig lg ig26 lg28 := Ft.tr hF hchp30 (by decide) (by decide)
    obtain ⟨rfl, hvhp30⟩ := hrhp30
    have hcy : CRx B 288 x.toInt.toNat ig23 ig26 := CRx.toX hvhp30 (by omega)
    have hM : SM B (upS σ x.toInt.toNat dc) (pput π x.toInt.toNat (σ x.toInt.toNat)) ig26 := SM.cell hM hcy (by omega) hD hI91.i120 (fun j => hchp30.i 63 j (by decide)) (hchp30.i 49 19 (by decide))
    refine lv_aload_n hx hb dX12_puts_102 rfl (lv_at hl 0 rfl) ?_
    have hI := hI.su (f := (ig26 (B + 49) 19).toInt) rfl
    refine r_callV (As := []) (rest := []) C hw (t_X12_worksX l B D cA kd ig26 rg lg28 _  _ hM.1 hW2.s.1 hW2.s.2 π2 hW2 hI) sv_X12_195 (hsh 49 _ rfl) rfl hl.1 rfl (Nat.le_of_ble_eq_true rfl) ⟨Nat.le_of_ble_eq_true rfl, Nat.le_of_ble_eq_true rfl⟩ ⟨Nat.le_of_ble_eq_true rfl, Nat.le_of_ble_eq_true rfl⟩ dX12_puts_103 (fun r35 kd31 ig32 rg33 lg34 H locs hw hH hp36 => ?_)
    obtain ⟨rfl, rfl, hI, hchp36, hrhp36⟩ := hp36
    have hF : Ft B [49, 54, 55, 56, 57, 58, 59, 60, 61, 63, 64, 65, 66, 67, 68, 69, 70, 71, 72, 73, 74] ig lg ig32 lg34 := Ft.tr hF hchp36 (by decide) (by decide)
    obtain ⟨rfl, hvhp36⟩ := hrhp36
    have e19 := hI.u
    have hI := hI.nu
    have hM := hM.ft hchp36 (by decide) e19
    exact r_vret C hw hr hlk (Nat.le_of_ble_eq_true rfl) (Nat.le_of_ble_eq_true rfl) dX12_puts_106 ⟨rfl, rfl, hI, hF, ⟨rfl, ⟨hM, hvhp36⟩⟩⟩
  refine b_ne (tgt := 61) hx hb dX12_puts_6 (by decide) (fun c6 => ?_) (fun c6 => ?_)
  · exact J61 ls s.heap [] ig lg (lv_sub hl [0, 1] rfl) hw hI hF (by rw [ptl_n (by omega)]; exact hM) (hwp) (hD)
  · have hl20 : π.length = 20 := by omega
    refine lv_iconst (v := 1) hx hb dX12_puts_9 (by decide) (ti_c 1 (by decide) fun z37 hz37 => ?_)
    refine lv_istore_n (lv' := [(2, .int z37), (0, .ref (B + 49)), (1, .int x)]) hx hb dX12_puts_10 rfl hl (by decide) rfl (fun ls hl => ?_)
    have L11 : ∀ (n : Nat) (ls : Array Slot) (H : Heap) (locs : List Loc) (ig39 : sI) (lg40 : sG) (v38 : Int32), lv_has ls 3 [(2, .int v38), (0, .ref (B + 49)), (1, .int x)] → WD B D cA s.heap kd ig39 rg lg40 H locs → IM τ φ none B kd ig39 rg → Ft B [49, 54, 55, 56, 57, 58, 59, 60, 61, 63, 64, 65, 66, 67, 68, 69, 70, 71, 72, 73, 74] ig lg ig39 lg40 → (1 ≤ v38.toInt) → (v38.toInt ≤ 20) → ((ig39 (B + 49) 19).toInt = 20) → (WP B ig39 288) → (SM B σ (sfp π (v38.toInt.toNat - 1)) ig39) → (RowM B ig39 288 (x.toInt.toNat : Int) dc) → 20 - v38.toInt < (n : Int) → W p l e (rL 32 0 0) s m args below meth c H locs 0 0 (MQ below (QcW B D cA (PM τ φ none B [49, 54, 55, 56, 57, 58, 59, 60, 61, 63, 64, 65, 66, 67, 68, 69, 70, 71, 72, 73, 74] kd ig rg lg (fun r ig' lg' => (r = none ∧ (SM B (upS σ x.toInt.toNat dc) (pput π x.toInt.toNat (σ x.toInt.toNat)) ig' ∧ FXm B (upS σ x.toInt.toNat dc) ig' lg'))))) args s 0 0 (fun q => B ≤ q)) (F0 m 11 ls []) := by
      intro n11
      induction n11 with
      | zero => intro ls H locs ig39 lg40 v38 hl hw hI hF g11_0 g11_1 g11_2 g11_3 g11_4 g11_5 hmu; exact absurd hmu (by omega)
      | succ n11 ih11 =>
        intro ls H locs ig39 lg40 v38 hl hw hI hF g11_0 g11_1 g11_2 g11_3 g11_4 g11_5 hmu
        have hwp := g11_3
        have hM := g11_4
        have hD := g11_5
        refine lv_iload_n hx hb dX12_puts_11 rfl (lv_at hl 0 rfl) ?_
        refine lv_bipush (v := 20) hx hb dX12_puts_12 (by decide) (ti_c 20 (by decide) fun z41 hz41 => ?_)
        refine b_ge (tgt := 51) hx hb dX12_puts_14 (by decide) (fun c14 => ?_) (fun c14 => ?_)
        · have hM : SM B σ (sfp π 19) ig39 := by have q := g11_4; rw [show v38.toInt.toNat - 1 = 19 by omega] at q; exact q
          refine lv_aload_n hx hb dX12_puts_51 rfl (lv_at hl 1 rfl) ?_
          refine lv_dup hx hb dX12_puts_52 rfl ?_
          refine r_get C hw (hsh 49 _ rfl) fl_X12_188 (oV_i rfl) dX12_puts_53 (ti_c (ig39 (B + 49) 19).toInt rfl fun z42 hz42 => ?_)
          have k43 : 0 ≤ (ig39 (B + 49) 19).toInt ∧ (ig39 (B + 49) 19).toInt ≤ 20 := hI.i 49 19 (by decide) (by decide)
          refine lv_iconst (v := 1) hx hb dX12_puts_56 (by decide) (ti_c 1 (by decide) fun z44 hz44 => ?_)
          refine lv_isub hx hb dX12_puts_57 (tc_sub fun z45 hz45 => ?_)
          first | replace hz45 := hz45 (by omega) | clear hz45
          refine r_puti C hw (hsh 49 _ rfl) fl_X12_188 rfl rfl rfl dX12_puts_58 (fun H locs hH hw => ?_)
          obtain ⟨ig46, eig46⟩ : ∃ f, f = up2 ig39 (B + 49) 19 z45 := ⟨_, rfl⟩
          rw [← eig46] at hw
          have hF : Ft B [49, 54, 55, 56, 57, 58, 59, 60, 61, 63, 64, 65, 66, 67, 68, 69, 70, 71, 72, 73, 74] ig lg ig46 lg40 := by rw [eig46]; exact hF.pi (by decide)
          have hI : IM τ φ none B kd ig46 rg := by rw [eig46]; exact hI.pi (by decide) (show okR (some (0, 20)) _ from ⟨by show (0 : Int) ≤ _; omega, by show _ ≤ (20 : Int); omega⟩)
          have wig46 : (ig46 (B + 49) 19).toInt = z45.toInt := by rw [eig46, up2_eq]
          have hM : SM B σ (ptl π) ig46 := by rw [ptl_t hl20, eig46]; exact SM.dep hM (by rw [List.length_tail]; omega) (by rw [List.length_tail, sfp_len]; omega) (sfp_tail (by omega))
          have hwp : WP B ig46 288 := by rw [eig46]; exact WP.u hwp (by decide)
          have hD : RowM B ig46 288 (x.toInt.toNat : Int) dc := by rw [eig46]; exact hD.wr (by omega)
          exact J61 ls H locs ig46 lg40 (lv_sub hl [1, 2] rfl) hw hI hF (hM) (hwp) (hD)
        · have hI0 := hI
          refine lv_aload_n hx hb dX12_puts_17 rfl (lv_at hl 1 rfl) ?_
          refine lv_sipush (v := 289) hx hb dX12_puts_18 (by decide) (ti_c 289 (by decide) fun z47 hz47 => ?_)
          refine lv_iload_n hx hb dX12_puts_21 rfl (lv_at hl 0 rfl) ?_
          refine lv_iadd hx hb dX12_puts_22 (tc_add fun z48 hz48 => ?_)
          first | replace hz48 := hz48 (by omega) | clear hz48
          refine lv_sipush (v := 288) hx hb dX12_puts_23 (by decide) (ti_c 288 (by decide) fun z49 hz49 => ?_)
          refine lv_iload_n hx hb dX12_puts_26 rfl (lv_at hl 0 rfl) ?_
          refine lv_iadd hx hb dX12_puts_27 (tc_add fun z50 hz50 => ?_)
          first | replace hz50 := hz50 (by omega) | clear hz50
          refine r_callV (As := [.int z48, .int z50]) (rest := []) C hw (t_X12_copyRowE l B D cA kd ig39 rg lg40 _ z48 z50 (by omega) (by omega) (i32_ne (by omega)) (hI.wp (by omega) (by omega)) hI) sv_X12_191 (hsh 49 _ rfl) rfl hl.1 rfl (Nat.le_of_ble_eq_true rfl) ⟨Nat.le_of_ble_eq_true rfl, Nat.le_of_ble_eq_true rfl⟩ ⟨Nat.le_of_ble_eq_true rfl, Nat.le_of_ble_eq_true rfl⟩ dX12_puts_28 (fun r55 kd51 ig52 rg53 lg54 H locs hw hH hp56 => ?_)
          obtain ⟨rfl, rfl, hI, hchp56, hrhp56⟩ := hp56
          have hF : Ft B [49, 54, 55, 56, 57, 58, 59, 60, 61, 63, 64, 65, 66, 67, 68, 69, 70, 71, 72, 73, 74] ig lg ig52 lg54 := Ft.tr hF hchp56 (by decide) (by decide)
          obtain ⟨rfl, hvhp56⟩ := hrhp56
          have hcx : CRx B (289 + v38.toInt.toNat) (288 + v38.toInt.toNat) ig39 ig52 := CRx.toX (CRx.toY hvhp56 (by omega)) (by omega)
          have hwp : WP B ig52 288 := WP.keep hwp hcx.1 (by omega)
          have hD := hcx.oth hD (by omega) (hI0.its (j := 288) (by decide)).2
          have h63 : ∀ j, ig52 (B + 63) j = ig39 (B + 63) j := fun j => hchp56.i 63 j (by decide)
          have h19 : ig52 (B + 49) 19 = ig39 (B + 49) 19 := hchp56.i 49 19 (by decide)
          have h19i := congrArg Int32.toInt h19
          refine lv_aload_n hx hb dX12_puts_31 rfl (lv_at hl 1 rfl) ?_
          refine r_get C hw (hsh 49 _ rfl) fl_X12_93 (oV_r rfl (hrm (49, 20, 63) (by decide))) dX12_puts_32 ?_
          refine lv_iload_n hx hb dX12_puts_35 rfl (lv_at hl 0 rfl) ?_
          refine lv_iconst (v := 1) hx hb dX12_puts_36 (by decide) (ti_c 1 (by decide) fun z57 hz57 => ?_)
          refine lv_isub hx hb dX12_puts_37 (tc_sub fun z58 hz58 => ?_)
          first | replace hz58 := hz58 (by omega) | clear hz58
          refine lv_aload_n hx hb dX12_puts_38 rfl (lv_at hl 1 rfl) ?_
          refine r_get C hw (hsh 49 _ rfl) fl_X12_93 (oV_r rfl (hrm (49, 20, 63) (by decide))) dX12_puts_39 ?_
          refine lv_iload_n hx hb dX12_puts_42 rfl (lv_at hl 0 rfl) ?_
          refine r_iald C hw (hsh 63 _ rfl) (by omega) (by omega) dX12_puts_43 (ti_c (ig52 (B + 63) v38.toInt.toNat).toInt rfl fun z59 hz59 => ?_)
          have k60 : 0 ≤ (ig52 (B + 63) (v38.toInt.toNat)).toInt ∧ (ig52 (B + 63) (v38.toInt.toNat)).toInt ≤ 287 := hI.i 63 (v38.toInt.toNat) (by decide) (by decide)
          refine r_iast C hw (hsh 63 _ rfl) (by omega) (by omega) dX12_puts_44 (fun H locs hH hw => ?_)
          obtain ⟨ig61, eig61⟩ : ∃ f, f = up2 ig52 (B + 63) z58.toInt.toNat z59 := ⟨_, rfl⟩
          rw [← eig61] at hw
          have hF : Ft B [49, 54, 55, 56, 57, 58, 59, 60, 61, 63, 64, 65, 66, 67, 68, 69, 70, 71, 72, 73, 74] ig lg ig61 lg54 := by rw [eig61]; exact hF.pi (by decide)
          have hI : IM τ φ none B kd ig61 rg := by rw [eig61]; exact hI.pi (by decide) (show okR (some (0, 287)) _ from ⟨by show (0 : Int) ≤ _; omega, by show _ ≤ (287 : Int); omega⟩)
          have wig61_49_19 : (ig61 (B + 49) 19).toInt = (ig52 (B + 49) 19).toInt := by rw [eig61, up2_a (by omega)]
          have hM : SM B σ (sfp π v38.toInt.toNat) ig61 := by rw [eig61]; exact (SM.down hM (k := v38.toInt.toNat) (by rw [sfp_len]; omega) hcx hI0.i120 h63 h19 (n := z58.toInt.toNat) (by omega) (i32_inj (by rw [hz59, h63]))).eq rfl (by rw [sfp_at (by omega), sfp_down (by omega)])
          have hwp : WP B ig61 288 := by rw [eig61]; exact WP.u hwp (by decide)
          have hD : RowM B ig61 288 (x.toInt.toNat : Int) dc := by rw [eig61]; exact hD.wr (by omega)
          refine tc_inc hx hb dX12_puts_45 hl (k := 0) rfl (by decide) (by decide) (fun z62 hz62 ls hl => ?_)
          first | replace hz62 := hz62 (by omega) | clear hz62
          have hl : lv_has ls 3 [(2, .int z62), (0, .ref (B + 49)), (1, .int x)] := hl
          refine lv_goto (tgt := 11) hx hb dX12_puts_48 (by decide) ?_
          exact ih11 ls H locs ig61 lg54 z62 (lv_sub hl [0, 1, 2] rfl) hw hI hF (by omega) (by omega) (by omega) (hwp) (by rw [show z62.toInt.toNat - 1 = v38.toInt.toNat by omega]; exact hM) (hD) (by omega)
    exact L11 ((20 - z37.toInt) + 1).toNat ls s.heap [] ig lg z37 (lv_sub hl [0, 1, 2] rfl) hw hI hF (by omega) (by omega) (by omega) (hwp) (by rw [show z37.toInt.toNat - 1 = 0 by omega, sfp_0]; exact hM) (hD) (by omega)

set_option maxHeartbeats 4000000 in
set_option maxRecDepth 100000 in
theorem t_X12_numberX {τ : Tp} {φ : Option Int} (l : Launch) (B : Nat) (D : va_G) (cA : Nat → ClassId) (kd : sK) (ig : sI) (rg : sR) (lg : sG) (sz : Nat) (x : Int32) (y : Int32) (σ : Sg) (π : Ps) (hM : SM B σ π ig) (hU : FXm B σ ig lg) (hW : WS σ π) (hI : IM τ φ none B kd ig rg) : MC l B D cA yX12_number cX12_number 3 (some .boolean) (rL 33 0 0) [.ref (B + 49), .int x, .int y] kd ig rg lg sz (PM τ φ none B [49, 54, 55, 56, 57, 58, 59, 60, 61, 63, 64, 65, 66, 67, 68, 69, 70, 71, 72, 73, 74] kd ig rg lg (fun r ig' lg' => ∃ z : Int32, r = some (.int z) ∧ (∃ σ' π', SM B σ' π' ig' ∧ FXm B σ' ig' lg' ∧ stN σ π x.toInt y.toInt z.toInt σ' π'))) := by
  refine MC.of (own := RX12) (by decide +kernel) rfl (Nat.le_of_ble_eq_true rfl) ?_
  intro p e s m args below meth c ls C hr hlk hnm hw hsz hl
  have hx := C.1.1
  have hb := C.1.2.1
  have hown := C.1.2.2.2.1
  have hts := C.1.2.2.2.2
  have hl : lv_has ls 3 [(0, .ref (B + 49)), (1, .int x), (2, .int y)] := hl
  have hF : Ft B [49, 54, 55, 56, 57, 58, 59, 60, 61, 63, 64, 65, 66, 67, 68, 69, 70, 71, 72, 73, 74] ig lg ig lg := Ft.rf
  have hsh := hI.sh
  have hrm := hI.rm
  refine lv_aload_n hx hb dX12_number_0 rfl (lv_at hl 0 rfl) ?_
  refine lv_iconst (v := 0) hx hb dX12_number_1 (by decide) (ti_c 0 (by decide) fun z1 hz1 => ?_)
  refine r_puti C hw (hsh 49 _ rfl) fl_X12_1 rfl rfl rfl dX12_number_2 (fun H locs hH hw => ?_)
  obtain ⟨ig2, eig2⟩ : ∃ f, f = up2 ig (B + 49) 0 z1 := ⟨_, rfl⟩
  rw [← eig2] at hw
  have hF : Ft B [49, 54, 55, 56, 57, 58, 59, 60, 61, 63, 64, 65, 66, 67, 68, 69, 70, 71, 72, 73, 74] ig lg ig2 lg := by rw [eig2]; exact hF.pi (by decide)
  have hI : IM τ φ none B kd ig2 rg := by rw [eig2]; exact hI.pi (by decide) (show okR none _ from trivial)
  have hM : SM B σ π ig2 := by rw [eig2]; exact hM.wr (by decide)
  have hU := FXm.wrE eig2 hU (by decide)
  refine lv_iload_n hx hb dX12_number_5 rfl (lv_at hl 1 rfl) ?_
  refine r_callS (As := [.int x]) (rest := []) C hw (t_X12_isPlace l B D cA kd ig2 rg lg _ x  hI) ss_X12_198 rfl hl.1 rfl (Nat.le_of_ble_eq_true rfl) ⟨Nat.le_of_ble_eq_true rfl, Nat.le_of_ble_eq_true rfl⟩ ⟨Nat.le_of_ble_eq_true rfl, Nat.le_of_ble_eq_true rfl⟩ dX12_number_6 (fun r7 kd3 ig4 rg5 lg6 H locs hw hH hp8 => ?_)
  obtain ⟨rfl, rfl, rfl, rfl, hzhp8, hrhp8⟩ := hp8
  obtain ⟨z9, rfl, hz9⟩ := hrhp8
  refine z_ne (tgt := 14) hx hb dX12_number_9 (by decide) (fun c9 => ?_) (fun c9 => ?_)
  · refine lv_aload_n hx hb dX12_number_14 rfl (lv_at hl 0 rfl) ?_
    refine lv_iconst (v := 1) hx hb dX12_number_15 (by decide) (ti_c 1 (by decide) fun z10 hz10 => ?_)
    refine lv_iload_n hx hb dX12_number_16 rfl (lv_at hl 2 rfl) ?_
    have hIc := hI
    refine r_callV (As := [.int z10, .int y]) (rest := []) C hw (t_X12_clearDraftE l B D cA kd ig2 rg lg _ z10 y  hI) sv_X12_204 (hsh 49 _ rfl) rfl hl.1 rfl (Nat.le_of_ble_eq_true rfl) ⟨Nat.le_of_ble_eq_true rfl, Nat.le_of_ble_eq_true rfl⟩ ⟨Nat.le_of_ble_eq_true rfl, Nat.le_of_ble_eq_true rfl⟩ dX12_number_17 (fun r15 kd11 ig12 rg13 lg14 H locs hw hH hp16 => ?_)
    obtain ⟨rfl, rfl, hI, hchp16, hrhp16⟩ := hp16
    have hF : Ft B [49, 54, 55, 56, 57, 58, 59, 60, 61, 63, 64, 65, 66, 67, 68, 69, 70, 71, 72, 73, 74] ig lg ig12 lg14 := Ft.tr hF hchp16 (by decide) (by decide)
    obtain ⟨rfl, hvhp16⟩ := hrhp16
    obtain ⟨⟨⟨k59, k60⟩, k58⟩, ku, kk⟩ := hvhp16
    have hD : RowM B ig12 288 (x.toInt.toNat : Int) (nCl y.toInt) := RowM.nof (by rw [k59]; exact hz10) (by rw [k60]; rfl) ku (by show ¬ (1 : Int) = 2; decide) k58
    have hwp : WP B ig12 288 := WP.no (k59.trans (by omega : _ = (1 : Int))) (by decide)
    have hM := hM.dr hIc.i120 (fun c j a b q => kk c j ⟨a, b⟩ (fun w => q (by unfold drp; omega))) (fun j => hchp16.i 63 j (by decide)) (congrArg Int32.toInt (hchp16.i 49 19 (by decide)))
    refine lv_aload_n hx hb dX12_number_20 rfl (lv_at hl 0 rfl) ?_
    refine lv_iload_n hx hb dX12_number_21 rfl (lv_at hl 1 rfl) ?_
    refine r_callV (As := [.int x]) (rest := []) C hw (t_X12_putsX l B D cA kd ig12 rg lg14 _ x (by omega) hwp σ π hM _ hD _ (hW.up (by omega) wf_n) hI) sv_X12_207 (hsh 49 _ rfl) rfl hl.1 rfl (Nat.le_of_ble_eq_true rfl) ⟨Nat.le_of_ble_eq_true rfl, Nat.le_of_ble_eq_true rfl⟩ ⟨Nat.le_of_ble_eq_true rfl, Nat.le_of_ble_eq_true rfl⟩ dX12_number_22 (fun r21 kd17 ig18 rg19 lg20 H locs hw hH hp22 => ?_)
    obtain ⟨rfl, rfl, hI, hchp22, hrhp22⟩ := hp22
    have hF : Ft B [49, 54, 55, 56, 57, 58, 59, 60, 61, 63, 64, 65, 66, 67, 68, 69, 70, 71, 72, 73, 74] ig lg ig18 lg20 := Ft.tr hF hchp22 (by decide) (by decide)
    obtain ⟨rfl, hvhp22⟩ := hrhp22
    obtain ⟨hM, hU⟩ := hvhp22
    refine lv_iconst (v := 1) hx hb dX12_number_25 (by decide) (ti_c 1 (by decide) fun z23 hz23 => ?_)
    exact r_iret C hw hr hlk (nar_b (by omega)) (Nat.le_of_ble_eq_true rfl) (Nat.le_of_ble_eq_true rfl) dX12_number_26 ⟨rfl, rfl, hI, hF, ⟨_, rfl, ⟨_, _, hM, hU, Or.inr ⟨by unfold onS; omega, by omega, rfl, rfl⟩⟩⟩⟩
  · refine lv_iconst (v := 0) hx hb dX12_number_12 (by decide) (ti_c 0 (by decide) fun z24 hz24 => ?_)
    exact r_iret C hw hr hlk (nar_b (by omega)) (Nat.le_of_ble_eq_true rfl) (Nat.le_of_ble_eq_true rfl) dX12_number_13 ⟨rfl, rfl, hI, hF, ⟨_, rfl, ⟨_, _, hM, hU, Or.inl ⟨by unfold onS; omega, by omega, rfl, rfl⟩⟩⟩⟩

set_option maxHeartbeats 4000000 in
set_option maxRecDepth 100000 in
theorem t_X12_emptyX {τ : Tp} {φ : Option Int} (l : Launch) (B : Nat) (D : va_G) (cA : Nat → ClassId) (kd : sK) (ig : sI) (rg : sR) (lg : sG) (sz : Nat) (x : Int32) (σ : Sg) (π : Ps) (hM : SM B σ π ig) (hU : FXm B σ ig lg) (hW : WS σ π) (hI : IM τ φ none B kd ig rg) : MC l B D cA yX12_empty cX12_empty 2 (some .boolean) (rL 33 0 0) [.ref (B + 49), .int x] kd ig rg lg sz (PM τ φ none B [49, 54, 55, 56, 57, 58, 59, 60, 61, 63, 64, 65, 66, 67, 68, 69, 70, 71, 72, 73, 74] kd ig rg lg (fun r ig' lg' => ∃ z : Int32, r = some (.int z) ∧ (∃ σ' π', SM B σ' π' ig' ∧ FXm B σ' ig' lg' ∧ stE σ π x.toInt z.toInt σ' π'))) := by
  refine MC.of (own := RX12) (by decide +kernel) rfl (Nat.le_of_ble_eq_true rfl) ?_
  intro p e s m args below meth c ls C hr hlk hnm hw hsz hl
  have hx := C.1.1
  have hb := C.1.2.1
  have hown := C.1.2.2.2.1
  have hts := C.1.2.2.2.2
  have hl : lv_has ls 2 [(0, .ref (B + 49)), (1, .int x)] := hl
  have hF : Ft B [49, 54, 55, 56, 57, 58, 59, 60, 61, 63, 64, 65, 66, 67, 68, 69, 70, 71, 72, 73, 74] ig lg ig lg := Ft.rf
  have hsh := hI.sh
  have hrm := hI.rm
  refine lv_aload_n hx hb dX12_empty_0 rfl (lv_at hl 0 rfl) ?_
  refine lv_iconst (v := 0) hx hb dX12_empty_1 (by decide) (ti_c 0 (by decide) fun z1 hz1 => ?_)
  refine r_puti C hw (hsh 49 _ rfl) fl_X12_1 rfl rfl rfl dX12_empty_2 (fun H locs hH hw => ?_)
  obtain ⟨ig2, eig2⟩ : ∃ f, f = up2 ig (B + 49) 0 z1 := ⟨_, rfl⟩
  rw [← eig2] at hw
  have hF : Ft B [49, 54, 55, 56, 57, 58, 59, 60, 61, 63, 64, 65, 66, 67, 68, 69, 70, 71, 72, 73, 74] ig lg ig2 lg := by rw [eig2]; exact hF.pi (by decide)
  have hI : IM τ φ none B kd ig2 rg := by rw [eig2]; exact hI.pi (by decide) (show okR none _ from trivial)
  have hM : SM B σ π ig2 := by rw [eig2]; exact hM.wr (by decide)
  have hU := FXm.wrE eig2 hU (by decide)
  refine lv_iload_n hx hb dX12_empty_5 rfl (lv_at hl 1 rfl) ?_
  refine r_callS (As := [.int x]) (rest := []) C hw (t_X12_isPlace l B D cA kd ig2 rg lg _ x  hI) ss_X12_198 rfl hl.1 rfl (Nat.le_of_ble_eq_true rfl) ⟨Nat.le_of_ble_eq_true rfl, Nat.le_of_ble_eq_true rfl⟩ ⟨Nat.le_of_ble_eq_true rfl, Nat.le_of_ble_eq_true rfl⟩ dX12_empty_6 (fun r7 kd3 ig4 rg5 lg6 H locs hw hH hp8 => ?_)
  obtain ⟨rfl, rfl, rfl, rfl, hzhp8, hrhp8⟩ := hp8
  obtain ⟨z9, rfl, hz9⟩ := hrhp8
  refine z_ne (tgt := 14) hx hb dX12_empty_9 (by decide) (fun c9 => ?_) (fun c9 => ?_)
  · refine lv_aload_n hx hb dX12_empty_14 rfl (lv_at hl 0 rfl) ?_
    refine lv_iconst (v := 0) hx hb dX12_empty_15 (by decide) (ti_c 0 (by decide) fun z10 hz10 => ?_)
    refine lv_iconst (v := 0) hx hb dX12_empty_16 (by decide) (ti_c 0 (by decide) fun z11 hz11 => ?_)
    have hIc := hI
    refine r_callV (As := [.int z10, .int z11]) (rest := []) C hw (t_X12_clearDraftE l B D cA kd ig2 rg lg _ z10 z11  hI) sv_X12_204 (hsh 49 _ rfl) rfl hl.1 rfl (Nat.le_of_ble_eq_true rfl) ⟨Nat.le_of_ble_eq_true rfl, Nat.le_of_ble_eq_true rfl⟩ ⟨Nat.le_of_ble_eq_true rfl, Nat.le_of_ble_eq_true rfl⟩ dX12_empty_17 (fun r16 kd12 ig13 rg14 lg15 H locs hw hH hp17 => ?_)
    obtain ⟨rfl, rfl, hI, hchp17, hrhp17⟩ := hp17
    have hF : Ft B [49, 54, 55, 56, 57, 58, 59, 60, 61, 63, 64, 65, 66, 67, 68, 69, 70, 71, 72, 73, 74] ig lg ig13 lg15 := Ft.tr hF hchp17 (by decide) (by decide)
    obtain ⟨rfl, hvhp17⟩ := hrhp17
    obtain ⟨⟨⟨k59, k60⟩, k58⟩, ku, kk⟩ := hvhp17
    have hD : RowM B ig13 288 (x.toInt.toNat : Int) blk := RowM.nof (by rw [k59]; exact hz10) (by rw [k60]; exact hz11) ku (by show ¬ (0 : Int) = 2; decide) k58
    have hwp : WP B ig13 288 := WP.no (k59.trans (by omega : _ = (0 : Int))) (by decide)
    have hM := hM.dr hIc.i120 (fun c j a b q => kk c j ⟨a, b⟩ (fun w => q (by unfold drp; omega))) (fun j => hchp17.i 63 j (by decide)) (congrArg Int32.toInt (hchp17.i 49 19 (by decide)))
    refine lv_aload_n hx hb dX12_empty_20 rfl (lv_at hl 0 rfl) ?_
    refine lv_iload_n hx hb dX12_empty_21 rfl (lv_at hl 1 rfl) ?_
    refine r_callV (As := [.int x]) (rest := []) C hw (t_X12_putsX l B D cA kd ig13 rg lg15 _ x (by omega) hwp σ π hM _ hD _ (hW.up (by omega) wf_b) hI) sv_X12_207 (hsh 49 _ rfl) rfl hl.1 rfl (Nat.le_of_ble_eq_true rfl) ⟨Nat.le_of_ble_eq_true rfl, Nat.le_of_ble_eq_true rfl⟩ ⟨Nat.le_of_ble_eq_true rfl, Nat.le_of_ble_eq_true rfl⟩ dX12_empty_22 (fun r22 kd18 ig19 rg20 lg21 H locs hw hH hp23 => ?_)
    obtain ⟨rfl, rfl, hI, hchp23, hrhp23⟩ := hp23
    have hF : Ft B [49, 54, 55, 56, 57, 58, 59, 60, 61, 63, 64, 65, 66, 67, 68, 69, 70, 71, 72, 73, 74] ig lg ig19 lg21 := Ft.tr hF hchp23 (by decide) (by decide)
    obtain ⟨rfl, hvhp23⟩ := hrhp23
    obtain ⟨hM, hU⟩ := hvhp23
    refine lv_iconst (v := 1) hx hb dX12_empty_25 (by decide) (ti_c 1 (by decide) fun z24 hz24 => ?_)
    exact r_iret C hw hr hlk (nar_b (by omega)) (Nat.le_of_ble_eq_true rfl) (Nat.le_of_ble_eq_true rfl) dX12_empty_26 ⟨rfl, rfl, hI, hF, ⟨_, rfl, ⟨_, _, hM, hU, Or.inr ⟨by unfold onS; omega, by omega, rfl, rfl⟩⟩⟩⟩
  · refine lv_iconst (v := 0) hx hb dX12_empty_12 (by decide) (ti_c 0 (by decide) fun z25 hz25 => ?_)
    exact r_iret C hw hr hlk (nar_b (by omega)) (Nat.le_of_ble_eq_true rfl) (Nat.le_of_ble_eq_true rfl) dX12_empty_13 ⟨rfl, rfl, hI, hF, ⟨_, rfl, ⟨_, _, hM, hU, Or.inl ⟨by unfold onS; omega, by omega, rfl, rfl⟩⟩⟩⟩

set_option maxHeartbeats 4000000 in
set_option maxRecDepth 100000 in
theorem t_X12_unitX {τ : Tp} {φ : Option Int} (l : Launch) (B : Nat) (D : va_G) (cA : Nat → ClassId) (kd : sK) (ig : sI) (rg : sR) (lg : sG) (sz : Nat) (x : Int32) (y : Int32) (u : Int32) (w : Int32) (σ : Sg) (π : Ps) (hM : SM B σ π ig) (hU : FXm B σ ig lg) (hW : WS σ π) (hI : IM τ φ none B kd ig rg) : MC l B D cA yX12_unit cX12_unit 5 (some .boolean) (rL 32 0 0) [.ref (B + 49), .int x, .int y, .int u, .int w] kd ig rg lg sz (PM τ φ none B [49, 61, 64, 65, 66, 67, 68, 69, 70, 71, 72, 73, 74] kd ig rg lg (fun r ig' lg' => ∃ z : Int32, r = some (.int z) ∧ (∃ σ' π', SM B σ' π' ig' ∧ FXm B σ' ig' lg' ∧ stU σ π x.toInt z.toInt σ' π' y.toInt u.toInt w.toInt))) := by
  refine MC.of (own := RX12) (by decide +kernel) rfl (Nat.le_of_ble_eq_true rfl) ?_
  intro p e s m args below meth c ls C hr hlk hnm hw hsz hl
  have hx := C.1.1
  have hb := C.1.2.1
  have hown := C.1.2.2.2.1
  have hts := C.1.2.2.2.2
  have hl : lv_has ls 5 [(0, .ref (B + 49)), (1, .int x), (2, .int y), (3, .int u), (4, .int w)] := hl
  have hF : Ft B [49, 61, 64, 65, 66, 67, 68, 69, 70, 71, 72, 73, 74] ig lg ig lg := Ft.rf
  have hsh := hI.sh
  have hrm := hI.rm
  have hM0 := hM
  refine lv_aload_n hx hb dX12_unit_0 rfl (lv_at hl 0 rfl) ?_
  refine lv_iconst (v := 0) hx hb dX12_unit_1 (by decide) (ti_c 0 (by decide) fun z1 hz1 => ?_)
  refine r_puti C hw (hsh 49 _ rfl) fl_X12_1 rfl rfl rfl dX12_unit_2 (fun H locs hH hw => ?_)
  obtain ⟨ig2, eig2⟩ : ∃ f, f = up2 ig (B + 49) 0 z1 := ⟨_, rfl⟩
  rw [← eig2] at hw
  have hF : Ft B [49, 61, 64, 65, 66, 67, 68, 69, 70, 71, 72, 73, 74] ig lg ig2 lg := by rw [eig2]; exact hF.pi (by decide)
  have hI : IM τ φ none B kd ig2 rg := by rw [eig2]; exact hI.pi (by decide) (show okR none _ from trivial)
  have hM : SM B σ π ig2 := by rw [eig2]; exact hM.wr (by decide)
  have hU := FXm.wrE eig2 hU (by decide)
  refine lv_iload_n hx hb dX12_unit_5 rfl (lv_at hl 1 rfl) ?_
  refine r_callS (As := [.int x]) (rest := []) C hw (t_X12_isPlace l B D cA kd ig2 rg lg _ x  hI) ss_X12_198 rfl hl.1 rfl (Nat.le_of_ble_eq_true rfl) ⟨Nat.le_of_ble_eq_true rfl, Nat.le_of_ble_eq_true rfl⟩ ⟨Nat.le_of_ble_eq_true rfl, Nat.le_of_ble_eq_true rfl⟩ dX12_unit_6 (fun r7 kd3 ig4 rg5 lg6 H locs hw hH hp8 => ?_)
  obtain ⟨rfl, rfl, rfl, rfl, hzhp8, hrhp8⟩ := hp8
  obtain ⟨z9, rfl, hz9⟩ := hrhp8
  refine z_eq (tgt := 57) hx hb dX12_unit_9 (by decide) (fun c9 => ?_) (fun c9 => ?_)
  · refine lv_iconst (v := 0) hx hb dX12_unit_57 (by decide) (ti_c 0 (by decide) fun z10 hz10 => ?_)
    exact r_iret C hw hr hlk (nar_b (by omega)) (Nat.le_of_ble_eq_true rfl) (Nat.le_of_ble_eq_true rfl) dX12_unit_58 ⟨rfl, rfl, hI, hF, ⟨_, rfl, ⟨_, _, hM, hU, Or.inl ⟨fun q => by have q1 := atC_k (σ := σ) (x := x.toInt) (by rw [q.1]; decide); omega, by omega, rfl, rfl⟩⟩⟩⟩
  · refine lv_aload_n hx hb dX12_unit_12 rfl (lv_at hl 0 rfl) ?_
    refine r_get C hw (hsh 49 _ rfl) fl_X12_80 (oV_r rfl (hrm (49, 15, 59) (by decide))) dX12_unit_13 ?_
    refine lv_iload_n hx hb dX12_unit_16 rfl (lv_at hl 1 rfl) ?_
    refine r_iald C hw (hsh 59 _ rfl) (by omega) (by omega) dX12_unit_17 (ti_c (ig2 (B + 59) x.toInt.toNat).toInt rfl fun z11 hz11 => ?_)
    rw [Ft.i hF 59 _ (by decide)] at hz11
    have kd9 : z11.toInt = kdO (atC σ x.toInt) := by rw [hz11]; first | exact hM.kdx (x := x.toInt) (by omega) | exact hM0.kdx (x := x.toInt) (by omega)
    refine lv_iconst (v := 1) hx hb dX12_unit_18 (by decide) (ti_c 1 (by decide) fun z13 hz13 => ?_)
    refine b_ne (tgt := 57) hx hb dX12_unit_19 (by decide) (fun c19 => ?_) (fun c19 => ?_)
    · refine lv_iconst (v := 0) hx hb dX12_unit_57 (by decide) (ti_c 0 (by decide) fun z14 hz14 => ?_)
      exact r_iret C hw hr hlk (nar_b (by omega)) (Nat.le_of_ble_eq_true rfl) (Nat.le_of_ble_eq_true rfl) dX12_unit_58 ⟨rfl, rfl, hI, hF, ⟨_, rfl, ⟨_, _, hM, hU, Or.inl ⟨fun q => by unfold unO at q; omega, by omega, rfl, rfl⟩⟩⟩⟩
    · refine lv_iload_n hx hb dX12_unit_22 rfl (lv_at hl 2 rfl) ?_
      refine lv_bipush (v := (-4)) hx hb dX12_unit_23 (by decide) (ti_c (-4) (by decide) fun z15 hz15 => ?_)
      refine b_lt (tgt := 57) hx hb dX12_unit_25 (by decide) (fun c25 => ?_) (fun c25 => ?_)
      · refine lv_iconst (v := 0) hx hb dX12_unit_57 (by decide) (ti_c 0 (by decide) fun z16 hz16 => ?_)
        exact r_iret C hw hr hlk (nar_b (by omega)) (Nat.le_of_ble_eq_true rfl) (Nat.le_of_ble_eq_true rfl) dX12_unit_58 ⟨rfl, rfl, hI, hF, ⟨_, rfl, ⟨_, _, hM, hU, Or.inl ⟨fun q => by unfold unO at q; omega, by omega, rfl, rfl⟩⟩⟩⟩
      · refine lv_iload_n hx hb dX12_unit_28 rfl (lv_at hl 2 rfl) ?_
        refine lv_iconst (v := 4) hx hb dX12_unit_29 (by decide) (ti_c 4 (by decide) fun z17 hz17 => ?_)
        refine b_gt (tgt := 57) hx hb dX12_unit_30 (by decide) (fun c30 => ?_) (fun c30 => ?_)
        · refine lv_iconst (v := 0) hx hb dX12_unit_57 (by decide) (ti_c 0 (by decide) fun z18 hz18 => ?_)
          exact r_iret C hw hr hlk (nar_b (by omega)) (Nat.le_of_ble_eq_true rfl) (Nat.le_of_ble_eq_true rfl) dX12_unit_58 ⟨rfl, rfl, hI, hF, ⟨_, rfl, ⟨_, _, hM, hU, Or.inl ⟨fun q => by unfold unO at q; omega, by omega, rfl, rfl⟩⟩⟩⟩
        · refine lv_iload_n hx hb dX12_unit_33 rfl (lv_at hl 3 rfl) ?_
          refine lv_bipush (v := (-4)) hx hb dX12_unit_34 (by decide) (ti_c (-4) (by decide) fun z19 hz19 => ?_)
          refine b_lt (tgt := 57) hx hb dX12_unit_36 (by decide) (fun c36 => ?_) (fun c36 => ?_)
          · refine lv_iconst (v := 0) hx hb dX12_unit_57 (by decide) (ti_c 0 (by decide) fun z20 hz20 => ?_)
            exact r_iret C hw hr hlk (nar_b (by omega)) (Nat.le_of_ble_eq_true rfl) (Nat.le_of_ble_eq_true rfl) dX12_unit_58 ⟨rfl, rfl, hI, hF, ⟨_, rfl, ⟨_, _, hM, hU, Or.inl ⟨fun q => by unfold unO at q; omega, by omega, rfl, rfl⟩⟩⟩⟩
          · refine lv_iload_n hx hb dX12_unit_39 rfl (lv_at hl 3 rfl) ?_
            refine lv_iconst (v := 4) hx hb dX12_unit_40 (by decide) (ti_c 4 (by decide) fun z21 hz21 => ?_)
            refine b_gt (tgt := 57) hx hb dX12_unit_41 (by decide) (fun c41 => ?_) (fun c41 => ?_)
            · refine lv_iconst (v := 0) hx hb dX12_unit_57 (by decide) (ti_c 0 (by decide) fun z22 hz22 => ?_)
              exact r_iret C hw hr hlk (nar_b (by omega)) (Nat.le_of_ble_eq_true rfl) (Nat.le_of_ble_eq_true rfl) dX12_unit_58 ⟨rfl, rfl, hI, hF, ⟨_, rfl, ⟨_, _, hM, hU, Or.inl ⟨fun q => by unfold unO at q; omega, by omega, rfl, rfl⟩⟩⟩⟩
            · refine lv_iload hx hb dX12_unit_44 (lv_at hl 4 rfl) ?_
              refine lv_bipush (v := (-4)) hx hb dX12_unit_46 (by decide) (ti_c (-4) (by decide) fun z23 hz23 => ?_)
              refine b_lt (tgt := 57) hx hb dX12_unit_48 (by decide) (fun c48 => ?_) (fun c48 => ?_)
              · refine lv_iconst (v := 0) hx hb dX12_unit_57 (by decide) (ti_c 0 (by decide) fun z24 hz24 => ?_)
                exact r_iret C hw hr hlk (nar_b (by omega)) (Nat.le_of_ble_eq_true rfl) (Nat.le_of_ble_eq_true rfl) dX12_unit_58 ⟨rfl, rfl, hI, hF, ⟨_, rfl, ⟨_, _, hM, hU, Or.inl ⟨fun q => by unfold unO at q; omega, by omega, rfl, rfl⟩⟩⟩⟩
              · refine lv_iload hx hb dX12_unit_51 (lv_at hl 4 rfl) ?_
                refine lv_iconst (v := 4) hx hb dX12_unit_53 (by decide) (ti_c 4 (by decide) fun z25 hz25 => ?_)
                refine b_le (tgt := 59) hx hb dX12_unit_54 (by decide) (fun c54 => ?_) (fun c54 => ?_)
                · have hIu := hI
                  refine lv_aload_n hx hb dX12_unit_59 rfl (lv_at hl 0 rfl) ?_
                  refine r_get C hw (hsh 49 _ rfl) fl_X12_86 (oV_r rfl (hrm (49, 17, 61) (by decide))) dX12_unit_60 ?_
                  refine lv_iconst (v := 3) hx hb dX12_unit_63 (by decide) (ti_c 3 (by decide) fun z26 hz26 => ?_)
                  refine lv_iload_n hx hb dX12_unit_64 rfl (lv_at hl 1 rfl) ?_
                  refine lv_imul hx hb dX12_unit_65 (tc_mulL 3 hz26 fun z27 hz27 => ?_)
                  first | replace hz27 := hz27 (by omega) | clear hz27
                  refine lv_iload_n hx hb dX12_unit_66 rfl (lv_at hl 2 rfl) ?_
                  refine r_iast C hw (hsh 61 _ rfl) (by omega) (by omega) dX12_unit_67 (fun H locs hH hw => ?_)
                  obtain ⟨ig28, eig28⟩ : ∃ f, f = up2 ig2 (B + 61) z27.toInt.toNat y := ⟨_, rfl⟩
                  rw [← eig28] at hw
                  have hF : Ft B [49, 61, 64, 65, 66, 67, 68, 69, 70, 71, 72, 73, 74] ig lg ig28 lg := by rw [eig28]; exact hF.pi (by decide)
                  have hI : IM τ φ none B kd ig28 rg := by rw [eig28]; exact hI.pi (by decide) (show okR none _ from trivial)
                  refine lv_aload_n hx hb dX12_unit_68 rfl (lv_at hl 0 rfl) ?_
                  refine r_get C hw (hsh 49 _ rfl) fl_X12_86 (oV_r rfl (hrm (49, 17, 61) (by decide))) dX12_unit_69 ?_
                  refine lv_iconst (v := 3) hx hb dX12_unit_72 (by decide) (ti_c 3 (by decide) fun z29 hz29 => ?_)
                  refine lv_iload_n hx hb dX12_unit_73 rfl (lv_at hl 1 rfl) ?_
                  refine lv_imul hx hb dX12_unit_74 (tc_mulL 3 hz29 fun z30 hz30 => ?_)
                  first | replace hz30 := hz30 (by omega) | clear hz30
                  refine lv_iconst (v := 1) hx hb dX12_unit_75 (by decide) (ti_c 1 (by decide) fun z31 hz31 => ?_)
                  refine lv_iadd hx hb dX12_unit_76 (tc_add fun z32 hz32 => ?_)
                  first | replace hz32 := hz32 (by omega) | clear hz32
                  refine lv_iload_n hx hb dX12_unit_77 rfl (lv_at hl 3 rfl) ?_
                  refine r_iast C hw (hsh 61 _ rfl) (by omega) (by omega) dX12_unit_78 (fun H locs hH hw => ?_)
                  obtain ⟨ig33, eig33⟩ : ∃ f, f = up2 ig28 (B + 61) z32.toInt.toNat u := ⟨_, rfl⟩
                  rw [← eig33] at hw
                  have hF : Ft B [49, 61, 64, 65, 66, 67, 68, 69, 70, 71, 72, 73, 74] ig lg ig33 lg := by rw [eig33]; exact hF.pi (by decide)
                  have hI : IM τ φ none B kd ig33 rg := by rw [eig33]; exact hI.pi (by decide) (show okR none _ from trivial)
                  refine lv_aload_n hx hb dX12_unit_79 rfl (lv_at hl 0 rfl) ?_
                  refine r_get C hw (hsh 49 _ rfl) fl_X12_86 (oV_r rfl (hrm (49, 17, 61) (by decide))) dX12_unit_80 ?_
                  refine lv_iconst (v := 3) hx hb dX12_unit_83 (by decide) (ti_c 3 (by decide) fun z34 hz34 => ?_)
                  refine lv_iload_n hx hb dX12_unit_84 rfl (lv_at hl 1 rfl) ?_
                  refine lv_imul hx hb dX12_unit_85 (tc_mulL 3 hz34 fun z35 hz35 => ?_)
                  first | replace hz35 := hz35 (by omega) | clear hz35
                  refine lv_iconst (v := 2) hx hb dX12_unit_86 (by decide) (ti_c 2 (by decide) fun z36 hz36 => ?_)
                  refine lv_iadd hx hb dX12_unit_87 (tc_add fun z37 hz37 => ?_)
                  first | replace hz37 := hz37 (by omega) | clear hz37
                  refine lv_iload hx hb dX12_unit_88 (lv_at hl 4 rfl) ?_
                  refine r_iast C hw (hsh 61 _ rfl) (by omega) (by omega) dX12_unit_90 (fun H locs hH hw => ?_)
                  obtain ⟨ig38, eig38⟩ : ∃ f, f = up2 ig33 (B + 61) z37.toInt.toNat w := ⟨_, rfl⟩
                  rw [← eig38] at hw
                  have hF : Ft B [49, 61, 64, 65, 66, 67, 68, 69, 70, 71, 72, 73, 74] ig lg ig38 lg := by rw [eig38]; exact hF.pi (by decide)
                  have hI : IM τ φ none B kd ig38 rg := by rw [eig38]; exact hI.pi (by decide) (show okR none _ from trivial)
                  have kd8 : kdO (σ x.toInt.toNat) = 1 := by rw [← atC_on (σ := σ) (x := x.toInt) (by omega)]; omega
                  have hM : SM B (upS σ x.toInt.toNat (uCl (σ x.toInt.toNat).1.2 y.toInt u.toInt w.toInt)) π ig38 := by rw [eig38, eig33, eig28]; exact SM.unit hM (by omega) kd8 hIu.i120 (by omega) (by omega) (by omega)
                  refine lv_aload_n hx hb dX12_unit_91 rfl (lv_at hl 0 rfl) ?_
                  have hI := hI.su (f := (ig38 (B + 49) 19).toInt) rfl
                  refine r_callV (As := []) (rest := []) C hw (t_X12_worksX l B D cA kd ig38 rg lg _  _ hM.1 (hW.up (by omega) wf_u).s.1 (hW.up (by omega) wf_u).s.2 _ (hW.up (by omega) wf_u) hI) sv_X12_195 (hsh 49 _ rfl) rfl hl.1 rfl (Nat.le_of_ble_eq_true rfl) ⟨Nat.le_of_ble_eq_true rfl, Nat.le_of_ble_eq_true rfl⟩ ⟨Nat.le_of_ble_eq_true rfl, Nat.le_of_ble_eq_true rfl⟩ dX12_unit_92 (fun r43 kd39 ig40 rg41 lg42 H locs hw hH hp44 => ?_)
                  obtain ⟨rfl, rfl, hI, hchp44, hrhp44⟩ := hp44
                  have hF : Ft B [49, 61, 64, 65, 66, 67, 68, 69, 70, 71, 72, 73, 74] ig lg ig40 lg42 := Ft.tr hF hchp44 (by decide) (by decide)
                  obtain ⟨rfl, hvhp44⟩ := hrhp44
                  have e19 := hI.u
                  have hI := hI.nu
                  have hM := hM.ft hchp44 (by decide) e19
                  have hU := hvhp44
                  refine lv_iconst (v := 1) hx hb dX12_unit_95 (by decide) (ti_c 1 (by decide) fun z45 hz45 => ?_)
                  exact r_iret C hw hr hlk (nar_b (by omega)) (Nat.le_of_ble_eq_true rfl) (Nat.le_of_ble_eq_true rfl) dX12_unit_96 ⟨rfl, rfl, hI, hF, ⟨_, rfl, ⟨_, _, hM, hU, Or.inr ⟨⟨by omega, by omega, by omega, by omega⟩, by omega, by rw [atC_on (by omega)], rfl⟩⟩⟩⟩
                · refine lv_iconst (v := 0) hx hb dX12_unit_57 (by decide) (ti_c 0 (by decide) fun z46 hz46 => ?_)
                  exact r_iret C hw hr hlk (nar_b (by omega)) (Nat.le_of_ble_eq_true rfl) (Nat.le_of_ble_eq_true rfl) dX12_unit_58 ⟨rfl, rfl, hI, hF, ⟨_, rfl, ⟨_, _, hM, hU, Or.inl ⟨fun q => by unfold unO at q; omega, by omega, rfl, rfl⟩⟩⟩⟩

set_option maxHeartbeats 4000000 in
set_option maxRecDepth 100000 in
theorem t_X12_copyX {τ : Tp} {φ : Option Int} (l : Launch) (B : Nat) (D : va_G) (cA : Nat → ClassId) (kd : sK) (ig : sI) (rg : sR) (lg : sG) (sz : Nat) (x : Int32) (y : Int32) (σ : Sg) (π : Ps) (hM : SM B σ π ig) (hU : FXm B σ ig lg) (hW : WS σ π) (hI : IM τ φ none B kd ig rg) : MC l B D cA yX12_copy cX12_copy 3 (some .boolean) (rL 33 0 0) [.ref (B + 49), .int x, .int y] kd ig rg lg sz (PM τ φ none B [49, 54, 55, 56, 57, 58, 59, 60, 61, 63, 64, 65, 66, 67, 68, 69, 70, 71, 72, 73, 74] kd ig rg lg (fun r ig' lg' => ∃ z : Int32, r = some (.int z) ∧ (∃ σ' π', SM B σ' π' ig' ∧ FXm B σ' ig' lg' ∧ stC σ π x.toInt y.toInt z.toInt σ' π'))) := by
  refine MC.of (own := RX12) (by decide +kernel) rfl (Nat.le_of_ble_eq_true rfl) ?_
  intro p e s m args below meth c ls C hr hlk hnm hw hsz hl
  have hx := C.1.1
  have hb := C.1.2.1
  have hown := C.1.2.2.2.1
  have hts := C.1.2.2.2.2
  have hl : lv_has ls 3 [(0, .ref (B + 49)), (1, .int x), (2, .int y)] := hl
  have hF : Ft B [49, 54, 55, 56, 57, 58, 59, 60, 61, 63, 64, 65, 66, 67, 68, 69, 70, 71, 72, 73, 74] ig lg ig lg := Ft.rf
  have hsh := hI.sh
  have hrm := hI.rm
  refine lv_aload_n hx hb dX12_copy_0 rfl (lv_at hl 0 rfl) ?_
  refine lv_iconst (v := 0) hx hb dX12_copy_1 (by decide) (ti_c 0 (by decide) fun z1 hz1 => ?_)
  refine r_puti C hw (hsh 49 _ rfl) fl_X12_1 rfl rfl rfl dX12_copy_2 (fun H locs hH hw => ?_)
  obtain ⟨ig2, eig2⟩ : ∃ f, f = up2 ig (B + 49) 0 z1 := ⟨_, rfl⟩
  rw [← eig2] at hw
  have hF : Ft B [49, 54, 55, 56, 57, 58, 59, 60, 61, 63, 64, 65, 66, 67, 68, 69, 70, 71, 72, 73, 74] ig lg ig2 lg := by rw [eig2]; exact hF.pi (by decide)
  have hI : IM τ φ none B kd ig2 rg := by rw [eig2]; exact hI.pi (by decide) (show okR none _ from trivial)
  have hM : SM B σ π ig2 := by rw [eig2]; exact hM.wr (by decide)
  have hU := FXm.wrE eig2 hU (by decide)
  refine lv_iload_n hx hb dX12_copy_5 rfl (lv_at hl 1 rfl) ?_
  refine r_callS (As := [.int x]) (rest := []) C hw (t_X12_isPlace l B D cA kd ig2 rg lg _ x  hI) ss_X12_198 rfl hl.1 rfl (Nat.le_of_ble_eq_true rfl) ⟨Nat.le_of_ble_eq_true rfl, Nat.le_of_ble_eq_true rfl⟩ ⟨Nat.le_of_ble_eq_true rfl, Nat.le_of_ble_eq_true rfl⟩ dX12_copy_6 (fun r7 kd3 ig4 rg5 lg6 H locs hw hH hp8 => ?_)
  obtain ⟨rfl, rfl, rfl, rfl, hzhp8, hrhp8⟩ := hp8
  obtain ⟨z9, rfl, hz9⟩ := hrhp8
  refine z_eq (tgt := 28) hx hb dX12_copy_9 (by decide) (fun c9 => ?_) (fun c9 => ?_)
  · refine lv_iconst (v := 0) hx hb dX12_copy_28 (by decide) (ti_c 0 (by decide) fun z10 hz10 => ?_)
    exact r_iret C hw hr hlk (nar_b (by omega)) (Nat.le_of_ble_eq_true rfl) (Nat.le_of_ble_eq_true rfl) dX12_copy_29 ⟨rfl, rfl, hI, hF, ⟨_, rfl, ⟨_, _, hM, hU, Or.inl ⟨fun q => by have q1 := q.1; have q2 := q.2.1; unfold onS at q1 q2; omega, by omega, rfl, rfl⟩⟩⟩⟩
  · refine lv_iload_n hx hb dX12_copy_12 rfl (lv_at hl 2 rfl) ?_
    refine r_callS (As := [.int y]) (rest := []) C hw (t_X12_isPlace l B D cA kd ig2 rg lg _ y  hI) ss_X12_198 rfl hl.1 rfl (Nat.le_of_ble_eq_true rfl) ⟨Nat.le_of_ble_eq_true rfl, Nat.le_of_ble_eq_true rfl⟩ ⟨Nat.le_of_ble_eq_true rfl, Nat.le_of_ble_eq_true rfl⟩ dX12_copy_13 (fun r15 kd11 ig12 rg13 lg14 H locs hw hH hp16 => ?_)
    obtain ⟨rfl, rfl, rfl, rfl, hzhp16, hrhp16⟩ := hp16
    obtain ⟨z17, rfl, hz17⟩ := hrhp16
    refine z_eq (tgt := 28) hx hb dX12_copy_16 (by decide) (fun c16 => ?_) (fun c16 => ?_)
    · refine lv_iconst (v := 0) hx hb dX12_copy_28 (by decide) (ti_c 0 (by decide) fun z18 hz18 => ?_)
      exact r_iret C hw hr hlk (nar_b (by omega)) (Nat.le_of_ble_eq_true rfl) (Nat.le_of_ble_eq_true rfl) dX12_copy_29 ⟨rfl, rfl, hI, hF, ⟨_, rfl, ⟨_, _, hM, hU, Or.inl ⟨fun q => by have q1 := q.1; have q2 := q.2.1; unfold onS at q1 q2; omega, by omega, rfl, rfl⟩⟩⟩⟩
    · refine lv_aload_n hx hb dX12_copy_19 rfl (lv_at hl 0 rfl) ?_
      refine lv_iload_n hx hb dX12_copy_20 rfl (lv_at hl 1 rfl) ?_
      refine lv_iload_n hx hb dX12_copy_21 rfl (lv_at hl 2 rfl) ?_
      refine r_callV (As := [.int x, .int y]) (rest := []) C hw (t_X12_makesCopyE l B D cA kd ig2 rg lg _ x y (by omega) (by omega) σ π hM hW hI) sv_X12_210 (hsh 49 _ rfl) rfl hl.1 rfl (Nat.le_of_ble_eq_true rfl) ⟨Nat.le_of_ble_eq_true rfl, Nat.le_of_ble_eq_true rfl⟩ ⟨Nat.le_of_ble_eq_true rfl, Nat.le_of_ble_eq_true rfl⟩ dX12_copy_22 (fun r23 kd19 ig20 rg21 lg22 H locs hw hH hp24 => ?_)
      obtain ⟨rfl, rfl, hI, hchp24, hrhp24⟩ := hp24
      have hF : Ft B [49, 54, 55, 56, 57, 58, 59, 60, 61, 63, 64, 65, 66, 67, 68, 69, 70, 71, 72, 73, 74] ig lg ig20 lg22 := Ft.tr hF hchp24 (by decide) (by decide)
      obtain ⟨z25, rfl, hz25⟩ := hrhp24
      obtain ⟨hM, mw, hRf, mb⟩ := hz25
      have hU := hU.ft hchp24 (by decide)
      refine z_ne (tgt := 30) hx hb dX12_copy_25 (by decide) (fun c25 => ?_) (fun c25 => ?_)
      · have hwp : WP B ig20 288 := mw (by omega)
        have hD : RowM B ig20 288 ((y.toInt.toNat : Nat) : Int) (wuC (σ x.toInt.toNat)) := by rw [show ((y.toInt.toNat : Nat) : Int) = y.toInt by omega]; exact hRf
        refine lv_aload_n hx hb dX12_copy_30 rfl (lv_at hl 0 rfl) ?_
        refine lv_iload_n hx hb dX12_copy_31 rfl (lv_at hl 2 rfl) ?_
        refine r_callV (As := [.int y]) (rest := []) C hw (t_X12_putsX l B D cA kd ig20 rg lg22 _ y (by omega) hwp σ π hM _ hD _ (WS.cp (n := x.toInt) (y := y.toInt) (σ' := upS σ y.toInt.toNat (wuC (σ x.toInt.toNat))) (π' := pput π y.toInt.toNat (σ y.toInt.toNat)) hW (by unfold onS; omega) (by rw [atC_on (by omega)]; exact by1 mb (by omega)) ⟨by rw [atC_on (σ := σ) (x := x.toInt) (by omega)], rfl⟩) hI) sv_X12_207 (hsh 49 _ rfl) rfl hl.1 rfl (Nat.le_of_ble_eq_true rfl) ⟨Nat.le_of_ble_eq_true rfl, Nat.le_of_ble_eq_true rfl⟩ ⟨Nat.le_of_ble_eq_true rfl, Nat.le_of_ble_eq_true rfl⟩ dX12_copy_32 (fun r30 kd26 ig27 rg28 lg29 H locs hw hH hp31 => ?_)
        obtain ⟨rfl, rfl, hI, hchp31, hrhp31⟩ := hp31
        have hF : Ft B [49, 54, 55, 56, 57, 58, 59, 60, 61, 63, 64, 65, 66, 67, 68, 69, 70, 71, 72, 73, 74] ig lg ig27 lg29 := Ft.tr hF hchp31 (by decide) (by decide)
        obtain ⟨rfl, hvhp31⟩ := hrhp31
        obtain ⟨hM, hU⟩ := hvhp31
        refine lv_iconst (v := 1) hx hb dX12_copy_35 (by decide) (ti_c 1 (by decide) fun z32 hz32 => ?_)
        exact r_iret C hw hr hlk (nar_b (by omega)) (Nat.le_of_ble_eq_true rfl) (Nat.le_of_ble_eq_true rfl) dX12_copy_36 ⟨rfl, rfl, hI, hF, ⟨_, rfl, ⟨_, _, hM, hU, Or.inr ⟨⟨by unfold onS; omega, by unfold onS; omega, by rw [atC_on (by omega)]; exact by1 mb (by omega)⟩, by omega, by rw [atC_on (σ := σ) (x := x.toInt) (by omega)], rfl⟩⟩⟩⟩
      · refine lv_iconst (v := 0) hx hb dX12_copy_28 (by decide) (ti_c 0 (by decide) fun z33 hz33 => ?_)
        exact r_iret C hw hr hlk (nar_b (by omega)) (Nat.le_of_ble_eq_true rfl) (Nat.le_of_ble_eq_true rfl) dX12_copy_29 ⟨rfl, rfl, hI, hF, ⟨_, rfl, ⟨_, _, hM, hU, Or.inl ⟨fun q => by0 mb (by omega) (by have q2 := q.2.2; rw [atC_on (by omega)] at q2; exact q2), by omega, rfl, rfl⟩⟩⟩⟩

set_option maxHeartbeats 4000000 in
set_option maxRecDepth 100000 in
theorem t_X12_undoX {τ : Tp} {φ : Option Int} (l : Launch) (B : Nat) (D : va_G) (cA : Nat → ClassId) (kd : sK) (ig : sI) (rg : sR) (lg : sG) (sz : Nat) (σ : Sg) (π : Ps) (hM : SM B σ π ig) (hU : FXm B σ ig lg) (hW : WS σ π) (hI : IM τ φ none B kd ig rg) : MC l B D cA yX12_undo cX12_undo 1 (some .int) (rL 32 0 0) [.ref (B + 49)] kd ig rg lg sz (PM τ φ none B [49, 54, 55, 56, 57, 58, 59, 60, 61, 64, 65, 66, 67, 68, 69, 70, 71, 72, 73, 74, 76, 77, 78] kd ig rg lg (fun r ig' lg' => ∃ z : Int32, r = some (.int z) ∧ (∃ σ' π', SM B σ' π' ig' ∧ FXm B σ' ig' lg' ∧ stBz σ π σ' π' z.toInt))) := by
  refine MC.of (own := RX12) (by decide +kernel) rfl (Nat.le_of_ble_eq_true rfl) ?_
  intro p e s m args below meth c ls C hr hlk hnm hw hsz hl
  have hx := C.1.1
  have hb := C.1.2.1
  have hown := C.1.2.2.2.1
  have hts := C.1.2.2.2.2
  have hl : lv_has ls 1 [(0, .ref (B + 49))] := hl
  have hF : Ft B [49, 54, 55, 56, 57, 58, 59, 60, 61, 64, 65, 66, 67, 68, 69, 70, 71, 72, 73, 74, 76, 77, 78] ig lg ig lg := Ft.rf
  have hsh := hI.sh
  have hrm := hI.rm
  have hl9 := hM.len
  refine lv_aload_n hx hb dX12_undo_0 rfl (lv_at hl 0 rfl) ?_
  refine lv_iconst (v := 0) hx hb dX12_undo_1 (by decide) (ti_c 0 (by decide) fun z1 hz1 => ?_)
  refine r_puti C hw (hsh 49 _ rfl) fl_X12_1 rfl rfl rfl dX12_undo_2 (fun H locs hH hw => ?_)
  obtain ⟨ig2, eig2⟩ : ∃ f, f = up2 ig (B + 49) 0 z1 := ⟨_, rfl⟩
  rw [← eig2] at hw
  have hF : Ft B [49, 54, 55, 56, 57, 58, 59, 60, 61, 64, 65, 66, 67, 68, 69, 70, 71, 72, 73, 74, 76, 77, 78] ig lg ig2 lg := by rw [eig2]; exact hF.pi (by decide)
  have hI : IM τ φ none B kd ig2 rg := by rw [eig2]; exact hI.pi (by decide) (show okR none _ from trivial)
  have wig2_49_19 : (ig2 (B + 49) 19).toInt = (ig (B + 49) 19).toInt := by rw [eig2, up2_j (by decide)]
  have hM : SM B σ π ig2 := by rw [eig2]; exact hM.wr (by decide)
  have hU := FXm.wrE eig2 hU (by decide)
  refine lv_aload_n hx hb dX12_undo_5 rfl (lv_at hl 0 rfl) ?_
  refine r_get C hw (hsh 49 _ rfl) fl_X12_188 (oV_i rfl) dX12_undo_6 (ti_c (ig2 (B + 49) 19).toInt rfl fun z3 hz3 => ?_)
  have k4 : 0 ≤ (ig2 (B + 49) 19).toInt ∧ (ig2 (B + 49) 19).toInt ≤ 20 := hI.i 49 19 (by decide) (by decide)
  refine z_ne (tgt := 14) hx hb dX12_undo_9 (by decide) (fun c9 => ?_) (fun c9 => ?_)
  · obtain ⟨π0, ⟨p0, c0⟩, hπ0⟩ : ∃ π0 e, π = π0 ++ [e] := ⟨π.dropLast, π.getLast (by intro q; rw [q] at hl9; simp at hl9; omega), (List.dropLast_concat_getLast _).symm⟩
    have hM0 := hM
    rw [hπ0] at hM hM0 hl9
    rw [List.length_append, List.length_singleton] at hl9
    refine lv_aload_n hx hb dX12_undo_14 rfl (lv_at hl 0 rfl) ?_
    refine lv_dup hx hb dX12_undo_15 rfl ?_
    refine r_get C hw (hsh 49 _ rfl) fl_X12_188 (oV_i rfl) dX12_undo_16 (ti_c (ig2 (B + 49) 19).toInt rfl fun z5 hz5 => ?_)
    have k6 : 0 ≤ (ig2 (B + 49) 19).toInt ∧ (ig2 (B + 49) 19).toInt ≤ 20 := hI.i 49 19 (by decide) (by decide)
    refine lv_iconst (v := 1) hx hb dX12_undo_19 (by decide) (ti_c 1 (by decide) fun z7 hz7 => ?_)
    refine lv_isub hx hb dX12_undo_20 (tc_sub fun z8 hz8 => ?_)
    first | replace hz8 := hz8 (by omega) | clear hz8
    refine r_puti C hw (hsh 49 _ rfl) fl_X12_188 rfl rfl rfl dX12_undo_21 (fun H locs hH hw => ?_)
    obtain ⟨ig9, eig9⟩ : ∃ f, f = up2 ig2 (B + 49) 19 z8 := ⟨_, rfl⟩
    rw [← eig9] at hw
    have hF : Ft B [49, 54, 55, 56, 57, 58, 59, 60, 61, 64, 65, 66, 67, 68, 69, 70, 71, 72, 73, 74, 76, 77, 78] ig lg ig9 lg := by rw [eig9]; exact hF.pi (by decide)
    have hI : IM τ φ none B kd ig9 rg := by rw [eig9]; exact hI.pi (by decide) (show okR (some (0, 20)) _ from ⟨by show (0 : Int) ≤ _; omega, by show _ ≤ (20 : Int); omega⟩)
    have wig9 : (ig9 (B + 49) 19).toInt = z8.toInt := by rw [eig9, up2_eq]
    have hM : SM B σ π0 ig9 := by rw [eig9]; exact SM.dep hM (by omega) (by rw [List.length_append]; omega) (fun i hi => (List.getElem_append_left hi).symm)
    have la : (ig9 (B + 63) π0.length).toInt = (p0 : Int) ∧ p0 < 288 ∧ RowM B ig9 (289 + π0.length) (p0 : Int) c0 := by
      have q := hM0.2.2 π0.length (by rw [List.length_append, List.length_singleton]; omega)
      rw [List.getElem_append_right (Nat.le_refl _)] at q
      simp only [Nat.sub_self, List.getElem_cons_zero] at q
      exact ⟨by rw [eig9, up2_c (by decide)]; exact q.1, q.2.1, by rw [eig9]; exact q.2.2.wr (by omega)⟩
    have hU : FXm B σ ig9 lg := by rw [eig9]; exact hU.wr (by decide)
    refine lv_aload_n hx hb dX12_undo_24 rfl (lv_at hl 0 rfl) ?_
    have hI := hI.su (f := (ig9 (B + 49) 19).toInt) rfl
    refine r_callV (As := []) (rest := []) C hw (t_X12_remembersE l B D cA kd ig9 rg lg _   hI) sv_X12_342 (hsh 49 _ rfl) rfl hl.1 rfl (Nat.le_of_ble_eq_true rfl) ⟨Nat.le_of_ble_eq_true rfl, Nat.le_of_ble_eq_true rfl⟩ ⟨Nat.le_of_ble_eq_true rfl, Nat.le_of_ble_eq_true rfl⟩ dX12_undo_25 (fun r14 kd10 ig11 rg12 lg13 H locs hw hH hp15 => ?_)
    obtain ⟨rfl, rfl, hI, hchp15, hrhp15⟩ := hp15
    have hF : Ft B [49, 54, 55, 56, 57, 58, 59, 60, 61, 64, 65, 66, 67, 68, 69, 70, 71, 72, 73, 74, 76, 77, 78] ig lg ig11 lg13 := Ft.tr hF hchp15 (by decide) (by decide)
    obtain ⟨rfl, hvhp15⟩ := hrhp15
    have v09 := hU.1.2
    have rm9 := hvhp15
    have e19 := hI.u
    have hI := hI.nu
    have hM := hM.ft hchp15 (by decide) e19
    have la : (ig11 (B + 63) π0.length).toInt = (p0 : Int) ∧ p0 < 288 ∧ RowM B ig11 (289 + π0.length) (p0 : Int) c0 := ⟨by rw [hchp15.i 63 _ (by decide)]; exact la.1, la.2.1, la.2.2.ft hchp15 (by decide)⟩
    have la1 := la.1
    have la2 := la.2.1
    have hI25 := hI
    have hl8 := hM.len
    refine lv_aload_n hx hb dX12_undo_28 rfl (lv_at hl 0 rfl) ?_
    refine lv_sipush (v := 289) hx hb dX12_undo_29 (by decide) (ti_c 289 (by decide) fun z16 hz16 => ?_)
    refine lv_aload_n hx hb dX12_undo_32 rfl (lv_at hl 0 rfl) ?_
    refine r_get C hw (hsh 49 _ rfl) fl_X12_188 (oV_i rfl) dX12_undo_33 (ti_c (ig11 (B + 49) 19).toInt rfl fun z17 hz17 => ?_)
    have k18 : 0 ≤ (ig11 (B + 49) 19).toInt ∧ (ig11 (B + 49) 19).toInt ≤ 20 := hI.i 49 19 (by decide) (by decide)
    refine lv_iadd hx hb dX12_undo_36 (tc_add fun z19 hz19 => ?_)
    first | replace hz19 := hz19 (by omega) | clear hz19
    refine lv_aload_n hx hb dX12_undo_37 rfl (lv_at hl 0 rfl) ?_
    refine r_get C hw (hsh 49 _ rfl) fl_X12_93 (oV_r rfl (hrm (49, 20, 63) (by decide))) dX12_undo_38 ?_
    refine lv_aload_n hx hb dX12_undo_41 rfl (lv_at hl 0 rfl) ?_
    refine r_get C hw (hsh 49 _ rfl) fl_X12_188 (oV_i rfl) dX12_undo_42 (ti_c (ig11 (B + 49) 19).toInt rfl fun z20 hz20 => ?_)
    have k21 : 0 ≤ (ig11 (B + 49) 19).toInt ∧ (ig11 (B + 49) 19).toInt ≤ 20 := hI.i 49 19 (by decide) (by decide)
    refine r_iald C hw (hsh 63 _ rfl) (by omega) (by omega) dX12_undo_45 (ti_c (ig11 (B + 63) z20.toInt.toNat).toInt rfl fun z22 hz22 => ?_)
    have k23 : 0 ≤ (ig11 (B + 63) (z20.toInt.toNat)).toInt ∧ (ig11 (B + 63) (z20.toInt.toNat)).toInt ≤ 287 := hI.i 63 (z20.toInt.toNat) (by decide) (by decide)
    rw [show z20.toInt.toNat = π0.length by omega] at hz22
    refine r_callV (As := [.int z19, .int z22]) (rest := []) C hw (t_X12_copyRowE l B D cA kd ig11 rg lg13 _ z19 z22 (by omega) (by omega) (i32_ne (by omega)) (hI.wp (by omega) (by omega)) hI) sv_X12_191 (hsh 49 _ rfl) rfl hl.1 rfl (Nat.le_of_ble_eq_true rfl) ⟨Nat.le_of_ble_eq_true rfl, Nat.le_of_ble_eq_true rfl⟩ ⟨Nat.le_of_ble_eq_true rfl, Nat.le_of_ble_eq_true rfl⟩ dX12_undo_46 (fun r28 kd24 ig25 rg26 lg27 H locs hw hH hp29 => ?_)
    obtain ⟨rfl, rfl, hI, hchp29, hrhp29⟩ := hp29
    have hF : Ft B [49, 54, 55, 56, 57, 58, 59, 60, 61, 64, 65, 66, 67, 68, 69, 70, 71, 72, 73, 74, 76, 77, 78] ig lg ig25 lg27 := Ft.tr hF hchp29 (by decide) (by decide)
    obtain ⟨rfl, hvhp29⟩ := hrhp29
    have hcx : CRx B (289 + π0.length) p0 ig11 ig25 := CRx.toX (CRx.toY hvhp29 (by omega)) (by omega)
    have hM : SM B (upS σ p0 c0) π0 ig25 := SM.cell hM hcx la2 la.2.2 hI25.i120 (fun j => hchp29.i 63 j (by decide)) (hchp29.i 49 19 (by decide))
    have rm9 := rm9.ft hchp29
    refine lv_aload_n hx hb dX12_undo_49 rfl (lv_at hl 0 rfl) ?_
    have hI := hI.su (f := (ig25 (B + 49) 19).toInt) rfl
    refine r_callV (As := []) (rest := []) C hw (t_X12_worksX l B D cA kd ig25 rg lg27 _  _ hM.1 (WS.stB (σ' := upS σ p0 c0) (π' := π0) hW (Or.inr ⟨π0, p0, c0, hπ0, rfl, rfl⟩)).s.1 (WS.stB (σ' := upS σ p0 c0) (π' := π0) hW (Or.inr ⟨π0, p0, c0, hπ0, rfl, rfl⟩)).s.2 _ (WS.stB (σ' := upS σ p0 c0) (π' := π0) hW (Or.inr ⟨π0, p0, c0, hπ0, rfl, rfl⟩)) hI) sv_X12_195 (hsh 49 _ rfl) rfl hl.1 rfl (Nat.le_of_ble_eq_true rfl) ⟨Nat.le_of_ble_eq_true rfl, Nat.le_of_ble_eq_true rfl⟩ ⟨Nat.le_of_ble_eq_true rfl, Nat.le_of_ble_eq_true rfl⟩ dX12_undo_50 (fun r34 kd30 ig31 rg32 lg33 H locs hw hH hp35 => ?_)
    obtain ⟨rfl, rfl, hI, hchp35, hrhp35⟩ := hp35
    have hF : Ft B [49, 54, 55, 56, 57, 58, 59, 60, 61, 64, 65, 66, 67, 68, 69, 70, 71, 72, 73, 74, 76, 77, 78] ig lg ig31 lg33 := Ft.tr hF hchp35 (by decide) (by decide)
    obtain ⟨rfl, hvhp35⟩ := hrhp35
    have rm9 := rm9.ft hchp35
    have e19 := hI.u
    have hI := hI.nu
    have hM := hM.ft hchp35 (by decide) e19
    have hU := hvhp35
    have hU : FXm B (upS σ p0 c0) ig31 lg33 := hU
    refine lv_aload_n hx hb dX12_undo_53 rfl (lv_at hl 0 rfl) ?_
    have hI := hI.su (f := (ig31 (B + 49) 19).toInt) rfl
    refine r_callV (As := []) (rest := []) C hw (t_X12_tellsE l B D cA kd ig31 rg lg33 _   hI) sv_X12_345 (hsh 49 _ rfl) rfl hl.1 rfl (Nat.le_of_ble_eq_true rfl) ⟨Nat.le_of_ble_eq_true rfl, Nat.le_of_ble_eq_true rfl⟩ ⟨Nat.le_of_ble_eq_true rfl, Nat.le_of_ble_eq_true rfl⟩ dX12_undo_54 (fun r40 kd36 ig37 rg38 lg39 H locs hw hH hp41 => ?_)
    obtain ⟨rfl, rfl, hI, hchp41, hrhp41⟩ := hp41
    have hF : Ft B [49, 54, 55, 56, 57, 58, 59, 60, 61, 64, 65, 66, 67, 68, 69, 70, 71, 72, 73, 74, 76, 77, 78] ig lg ig37 lg39 := Ft.tr hF hchp41 (by decide) (by decide)
    obtain ⟨z42, rfl, hz42⟩ := hrhp41
    have ch9 := RmR.ch v09 rm9 hU.1.2 hz42
    have e19 := hI.u
    have hI := hI.nu
    have hM := hM.ft hchp41 (by decide) e19
    have hU := hU.ft hchp41 (by decide)
    exact r_iret C hw hr hlk rfl (Nat.le_of_ble_eq_true rfl) (Nat.le_of_ble_eq_true rfl) dX12_undo_57 ⟨rfl, rfl, hI, hF, ⟨_, rfl, ⟨_, _, hM, hU, Or.inr ⟨π0, p0, c0, hπ0, rfl, rfl, ch9⟩⟩⟩⟩
  · have hπ0 : π = [] := List.length_eq_zero_iff.mp (by omega)
    refine lv_iconst (v := (-1)) hx hb dX12_undo_12 (by decide) (ti_c (-1) (by decide) fun z43 hz43 => ?_)
    exact r_iret C hw hr hlk rfl (Nat.le_of_ble_eq_true rfl) (Nat.le_of_ble_eq_true rfl) dX12_undo_13 ⟨rfl, rfl, hI, hF, ⟨_, rfl, ⟨_, _, hM, hU, Or.inl ⟨hπ0, ⟨rfl, rfl⟩, by omega⟩⟩⟩⟩

set_option maxHeartbeats 4000000 in
set_option maxRecDepth 100000 in
theorem t_X12_mendX {τ : Tp} {φ : Option Int} (l : Launch) (B : Nat) (D : va_G) (cA : Nat → ClassId) (kd : sK) (ig : sI) (rg : sR) (lg : sG) (sz : Nat) (x : Int32) (σ : Sg) (π : Ps) (hM : SM B σ π ig) (hU : FXm B σ ig lg) (hW : WS σ π) (hI : IM τ φ none B kd ig rg) : MC l B D cA yX12_mend cX12_mend 3 (some .int) (rL 33 0 0) [.ref (B + 49), .int x] kd ig rg lg sz (PM τ φ none B [49, 54, 55, 56, 57, 58, 59, 60, 61, 63, 64, 65, 66, 67, 68, 69, 70, 71, 72, 73, 74, 76, 77, 78] kd ig rg lg (fun r ig' lg' => ∃ z : Int32, r = some (.int z) ∧ (∃ σ' π', SM B σ' π' ig' ∧ FXm B σ' ig' lg' ∧ stMz σ π x.toInt σ' π' z.toInt))) := by
  refine MC.of (own := RX12) (by decide +kernel) rfl (Nat.le_of_ble_eq_true rfl) ?_
  intro p e s m args below meth c ls C hr hlk hnm hw hsz hl
  have hx := C.1.1
  have hb := C.1.2.1
  have hown := C.1.2.2.2.1
  have hts := C.1.2.2.2.2
  have hl : lv_has ls 3 [(0, .ref (B + 49)), (1, .int x)] := hl
  have hF : Ft B [49, 54, 55, 56, 57, 58, 59, 60, 61, 63, 64, 65, 66, 67, 68, 69, 70, 71, 72, 73, 74, 76, 77, 78] ig lg ig lg := Ft.rf
  have hsh := hI.sh
  have hrm := hI.rm
  refine lv_aload_n hx hb dX12_mend_0 rfl (lv_at hl 0 rfl) ?_
  refine lv_iconst (v := 0) hx hb dX12_mend_1 (by decide) (ti_c 0 (by decide) fun z1 hz1 => ?_)
  refine r_puti C hw (hsh 49 _ rfl) fl_X12_1 rfl rfl rfl dX12_mend_2 (fun H locs hH hw => ?_)
  obtain ⟨ig2, eig2⟩ : ∃ f, f = up2 ig (B + 49) 0 z1 := ⟨_, rfl⟩
  rw [← eig2] at hw
  have hF : Ft B [49, 54, 55, 56, 57, 58, 59, 60, 61, 63, 64, 65, 66, 67, 68, 69, 70, 71, 72, 73, 74, 76, 77, 78] ig lg ig2 lg := by rw [eig2]; exact hF.pi (by decide)
  have hI : IM τ φ none B kd ig2 rg := by rw [eig2]; exact hI.pi (by decide) (show okR none _ from trivial)
  have hM : SM B σ π ig2 := by rw [eig2]; exact hM.wr (by decide)
  have hU := FXm.wrE eig2 hU (by decide)
  refine lv_iload_n hx hb dX12_mend_5 rfl (lv_at hl 1 rfl) ?_
  refine r_callS (As := [.int x]) (rest := []) C hw (t_X12_isPlace l B D cA kd ig2 rg lg _ x  hI) ss_X12_198 rfl hl.1 rfl (Nat.le_of_ble_eq_true rfl) ⟨Nat.le_of_ble_eq_true rfl, Nat.le_of_ble_eq_true rfl⟩ ⟨Nat.le_of_ble_eq_true rfl, Nat.le_of_ble_eq_true rfl⟩ dX12_mend_6 (fun r7 kd3 ig4 rg5 lg6 H locs hw hH hp8 => ?_)
  obtain ⟨rfl, rfl, rfl, rfl, hzhp8, hrhp8⟩ := hp8
  obtain ⟨z9, rfl, hz9⟩ := hrhp8
  refine z_eq (tgt := 20) hx hb dX12_mend_9 (by decide) (fun c9 => ?_) (fun c9 => ?_)
  · refine lv_iconst (v := (-1)) hx hb dX12_mend_20 (by decide) (ti_c (-1) (by decide) fun z10 hz10 => ?_)
    refine lv_istore_n (lv' := [(2, .int z10), (0, .ref (B + 49)), (1, .int x)]) hx hb dX12_mend_21 rfl hl (by decide) rfl (fun ls hl => ?_)
    refine lv_iload_n hx hb dX12_mend_22 rfl (lv_at hl 0 rfl) ?_
    refine z_lt (tgt := 35) hx hb dX12_mend_23 (by decide) (fun c23 => ?_) (fun c23 => ?_)
    · refine lv_iconst (v := (-1)) hx hb dX12_mend_35 (by decide) (ti_c (-1) (by decide) fun z11 hz11 => ?_)
      exact r_iret C hw hr hlk rfl (Nat.le_of_ble_eq_true rfl) (Nat.le_of_ble_eq_true rfl) dX12_mend_36 ⟨rfl, rfl, hI, hF, ⟨_, rfl, ⟨_, _, hM, hU, ⟨famZ B ig2, -1, hU.far, Or.inl ⟨by rw [atC_off (by omega)]; rfl, rfl⟩, Or.inl ⟨fun w => w.1 rfl, ⟨rfl, rfl⟩, by omega⟩⟩⟩⟩⟩
    · refine lv_aload_n hx hb dX12_mend_26 rfl (lv_at hl 1 rfl) ?_
      refine lv_iload_n hx hb dX12_mend_27 rfl (lv_at hl 0 rfl) ?_
      refine lv_iload_n hx hb dX12_mend_28 rfl (lv_at hl 2 rfl) ?_
      refine r_callV (As := [.int z10, .int x]) (rest := []) C hw (t_X12_makesCopyE l B D cA kd ig2 rg lg _ z10 x (by omega) (by omega) σ π hM hW hI) sv_X12_210 (hsh 49 _ rfl) rfl hl.1 rfl (Nat.le_of_ble_eq_true rfl) ⟨Nat.le_of_ble_eq_true rfl, Nat.le_of_ble_eq_true rfl⟩ ⟨Nat.le_of_ble_eq_true rfl, Nat.le_of_ble_eq_true rfl⟩ dX12_mend_29 (fun r16 kd12 ig13 rg14 lg15 H locs hw hH hp17 => ?_)
      obtain ⟨rfl, rfl, hI, hchp17, hrhp17⟩ := hp17
      have hF : Ft B [49, 54, 55, 56, 57, 58, 59, 60, 61, 63, 64, 65, 66, 67, 68, 69, 70, 71, 72, 73, 74, 76, 77, 78] ig lg ig13 lg15 := Ft.tr hF hchp17 (by decide) (by decide)
      obtain ⟨z18, rfl, hz18⟩ := hrhp17
      obtain ⟨hM, mw, hRf, mb⟩ := hz18
      have hU := hU.ft hchp17 (by decide)
      refine z_ne (tgt := 37) hx hb dX12_mend_32 (by decide) (fun c32 => ?_) (fun c32 => ?_)
      · have hwp : WP B ig13 288 := mw (by omega)
        have hD : RowM B ig13 288 ((x.toInt.toNat : Nat) : Int) (wuC (σ z10.toInt.toNat)) := by rw [show ((x.toInt.toNat : Nat) : Int) = x.toInt by omega]; exact hRf
        refine lv_aload_n hx hb dX12_mend_37 rfl (lv_at hl 1 rfl) ?_
        have hI := hI.su (f := (ig13 (B + 49) 19).toInt) rfl
        refine r_callV (As := []) (rest := []) C hw (t_X12_remembersE l B D cA kd ig13 rg lg15 _   hI) sv_X12_342 (hsh 49 _ rfl) rfl hl.1 rfl (Nat.le_of_ble_eq_true rfl) ⟨Nat.le_of_ble_eq_true rfl, Nat.le_of_ble_eq_true rfl⟩ ⟨Nat.le_of_ble_eq_true rfl, Nat.le_of_ble_eq_true rfl⟩ dX12_mend_38 (fun r23 kd19 ig20 rg21 lg22 H locs hw hH hp24 => ?_)
        obtain ⟨rfl, rfl, hI, hchp24, hrhp24⟩ := hp24
        have hF : Ft B [49, 54, 55, 56, 57, 58, 59, 60, 61, 63, 64, 65, 66, 67, 68, 69, 70, 71, 72, 73, 74, 76, 77, 78] ig lg ig20 lg22 := Ft.tr hF hchp24 (by decide) (by decide)
        obtain ⟨rfl, hvhp24⟩ := hrhp24
        have v09 := hU.1.2
        have rm9 := hvhp24
        have e19 := hI.u
        have hI := hI.nu
        have hM := hM.ft hchp24 (by decide) e19
        have hU := hU.ft hchp24 (by decide)
        have hwp : WP B ig20 288 := WP.ft hwp hchp24 (by decide) (by decide) (by decide) (by decide) (by decide)
        have hD := hD.ft hchp24 (by decide)
        refine lv_aload_n hx hb dX12_mend_41 rfl (lv_at hl 1 rfl) ?_
        refine lv_iload_n hx hb dX12_mend_42 rfl (lv_at hl 2 rfl) ?_
        refine r_callV (As := [.int x]) (rest := []) C hw (t_X12_putsX l B D cA kd ig20 rg lg22 _ x (by omega) hwp σ π hM _ hD _ (WS.cp (n := z10.toInt) (y := x.toInt) (σ' := upS σ x.toInt.toNat (wuC (σ z10.toInt.toNat))) (π' := pput π x.toInt.toNat (σ x.toInt.toNat)) hW (by unfold onS; omega) (by rw [atC_on (by omega)]; exact by1 mb (by omega)) ⟨by rw [atC_on (σ := σ) (x := z10.toInt) (by omega)], rfl⟩) hI) sv_X12_207 (hsh 49 _ rfl) rfl hl.1 rfl (Nat.le_of_ble_eq_true rfl) ⟨Nat.le_of_ble_eq_true rfl, Nat.le_of_ble_eq_true rfl⟩ ⟨Nat.le_of_ble_eq_true rfl, Nat.le_of_ble_eq_true rfl⟩ dX12_mend_43 (fun r29 kd25 ig26 rg27 lg28 H locs hw hH hp30 => ?_)
        obtain ⟨rfl, rfl, hI, hchp30, hrhp30⟩ := hp30
        have hF : Ft B [49, 54, 55, 56, 57, 58, 59, 60, 61, 63, 64, 65, 66, 67, 68, 69, 70, 71, 72, 73, 74, 76, 77, 78] ig lg ig26 lg28 := Ft.tr hF hchp30 (by decide) (by decide)
        obtain ⟨rfl, hvhp30⟩ := hrhp30
        obtain ⟨hM, hU⟩ := hvhp30
        have rm9 := rm9.ft hchp30
        refine lv_aload_n hx hb dX12_mend_46 rfl (lv_at hl 1 rfl) ?_
        have hI := hI.su (f := (ig26 (B + 49) 19).toInt) rfl
        refine r_callV (As := []) (rest := []) C hw (t_X12_tellsE l B D cA kd ig26 rg lg28 _   hI) sv_X12_345 (hsh 49 _ rfl) rfl hl.1 rfl (Nat.le_of_ble_eq_true rfl) ⟨Nat.le_of_ble_eq_true rfl, Nat.le_of_ble_eq_true rfl⟩ ⟨Nat.le_of_ble_eq_true rfl, Nat.le_of_ble_eq_true rfl⟩ dX12_mend_47 (fun r35 kd31 ig32 rg33 lg34 H locs hw hH hp36 => ?_)
        obtain ⟨rfl, rfl, hI, hchp36, hrhp36⟩ := hp36
        have hF : Ft B [49, 54, 55, 56, 57, 58, 59, 60, 61, 63, 64, 65, 66, 67, 68, 69, 70, 71, 72, 73, 74, 76, 77, 78] ig lg ig32 lg34 := Ft.tr hF hchp36 (by decide) (by decide)
        obtain ⟨z37, rfl, hz37⟩ := hrhp36
        have ch9 := RmR.ch v09 rm9 hU.1.2 hz37
        have e19 := hI.u
        have hI := hI.nu
        have hM := hM.ft hchp36 (by decide) e19
        have hU := hU.ft hchp36 (by decide)
        exact r_iret C hw hr hlk rfl (Nat.le_of_ble_eq_true rfl) (Nat.le_of_ble_eq_true rfl) dX12_mend_50 ⟨rfl, rfl, hI, hF, ⟨_, rfl, (by exfalso; omega)⟩⟩
      · refine lv_iconst (v := (-1)) hx hb dX12_mend_35 (by decide) (ti_c (-1) (by decide) fun z38 hz38 => ?_)
        exact r_iret C hw hr hlk rfl (Nat.le_of_ble_eq_true rfl) (Nat.le_of_ble_eq_true rfl) dX12_mend_36 ⟨rfl, rfl, hI, hF, ⟨_, rfl, (by exfalso; omega)⟩⟩
  · refine lv_aload_n hx hb dX12_mend_12 rfl (lv_at hl 0 rfl) ?_
    refine lv_iload_n hx hb dX12_mend_13 rfl (lv_at hl 1 rfl) ?_
    refine r_callV (As := [.int x]) (rest := []) C hw (t_X12_oddByE l B D cA kd ig2 rg lg _ x (by omega) σ π hM hU.1.1 hI) sv_X12_327 (hsh 49 _ rfl) rfl hl.1 rfl (Nat.le_of_ble_eq_true rfl) ⟨Nat.le_of_ble_eq_true rfl, Nat.le_of_ble_eq_true rfl⟩ ⟨Nat.le_of_ble_eq_true rfl, Nat.le_of_ble_eq_true rfl⟩ dX12_mend_14 (fun r43 kd39 ig40 rg41 lg42 H locs hw hH hp44 => ?_)
    obtain ⟨rfl, rfl, rfl, rfl, hzhp44, hrhp44⟩ := hp44
    obtain ⟨z45, rfl, hz45⟩ := hrhp44
    have odd9 := hz45
    have faz := hU.far
    have odb : z45.toInt = -1 ∨ (0 ≤ z45.toInt ∧ z45.toInt < 288) := (by rcases odd9 with ⟨-, q⟩ | ⟨-, ⟨q1, q⟩ | ⟨-, q1, q⟩ | ⟨-, -, q⟩⟩; omega; (have w := q1.2.1.1; omega); (have w := q1.1.1; omega); omega)
    refine lv_goto (tgt := 21) hx hb dX12_mend_17 (by decide) ?_
    refine lv_istore_n (lv' := [(2, .int z45), (0, .ref (B + 49)), (1, .int x)]) hx hb dX12_mend_21 rfl hl (by decide) rfl (fun ls hl => ?_)
    refine lv_iload_n hx hb dX12_mend_22 rfl (lv_at hl 0 rfl) ?_
    refine z_lt (tgt := 35) hx hb dX12_mend_23 (by decide) (fun c23 => ?_) (fun c23 => ?_)
    · refine lv_iconst (v := (-1)) hx hb dX12_mend_35 (by decide) (ti_c (-1) (by decide) fun z46 hz46 => ?_)
      exact r_iret C hw hr hlk rfl (Nat.le_of_ble_eq_true rfl) (Nat.le_of_ble_eq_true rfl) dX12_mend_36 ⟨rfl, rfl, hI, hF, ⟨_, rfl, ⟨_, _, hM, hU, ⟨(famZ B ig2), _, faz, odd9, Or.inl ⟨fun w => by have w1 := w.1; omega, ⟨rfl, rfl⟩, by omega⟩⟩⟩⟩⟩
    · refine lv_aload_n hx hb dX12_mend_26 rfl (lv_at hl 1 rfl) ?_
      refine lv_iload_n hx hb dX12_mend_27 rfl (lv_at hl 0 rfl) ?_
      refine lv_iload_n hx hb dX12_mend_28 rfl (lv_at hl 2 rfl) ?_
      refine r_callV (As := [.int z45, .int x]) (rest := []) C hw (t_X12_makesCopyE l B D cA kd ig2 rg lg _ z45 x (by omega) (by omega) σ π hM hW hI) sv_X12_210 (hsh 49 _ rfl) rfl hl.1 rfl (Nat.le_of_ble_eq_true rfl) ⟨Nat.le_of_ble_eq_true rfl, Nat.le_of_ble_eq_true rfl⟩ ⟨Nat.le_of_ble_eq_true rfl, Nat.le_of_ble_eq_true rfl⟩ dX12_mend_29 (fun r51 kd47 ig48 rg49 lg50 H locs hw hH hp52 => ?_)
      obtain ⟨rfl, rfl, hI, hchp52, hrhp52⟩ := hp52
      have hF : Ft B [49, 54, 55, 56, 57, 58, 59, 60, 61, 63, 64, 65, 66, 67, 68, 69, 70, 71, 72, 73, 74, 76, 77, 78] ig lg ig48 lg50 := Ft.tr hF hchp52 (by decide) (by decide)
      obtain ⟨z53, rfl, hz53⟩ := hrhp52
      obtain ⟨hM, mw, hRf, mb⟩ := hz53
      have hU := hU.ft hchp52 (by decide)
      refine z_ne (tgt := 37) hx hb dX12_mend_32 (by decide) (fun c32 => ?_) (fun c32 => ?_)
      · have hwp : WP B ig48 288 := mw (by omega)
        have hD : RowM B ig48 288 ((x.toInt.toNat : Nat) : Int) (wuC (σ z45.toInt.toNat)) := by rw [show ((x.toInt.toNat : Nat) : Int) = x.toInt by omega]; exact hRf
        refine lv_aload_n hx hb dX12_mend_37 rfl (lv_at hl 1 rfl) ?_
        have hI := hI.su (f := (ig48 (B + 49) 19).toInt) rfl
        refine r_callV (As := []) (rest := []) C hw (t_X12_remembersE l B D cA kd ig48 rg lg50 _   hI) sv_X12_342 (hsh 49 _ rfl) rfl hl.1 rfl (Nat.le_of_ble_eq_true rfl) ⟨Nat.le_of_ble_eq_true rfl, Nat.le_of_ble_eq_true rfl⟩ ⟨Nat.le_of_ble_eq_true rfl, Nat.le_of_ble_eq_true rfl⟩ dX12_mend_38 (fun r58 kd54 ig55 rg56 lg57 H locs hw hH hp59 => ?_)
        obtain ⟨rfl, rfl, hI, hchp59, hrhp59⟩ := hp59
        have hF : Ft B [49, 54, 55, 56, 57, 58, 59, 60, 61, 63, 64, 65, 66, 67, 68, 69, 70, 71, 72, 73, 74, 76, 77, 78] ig lg ig55 lg57 := Ft.tr hF hchp59 (by decide) (by decide)
        obtain ⟨rfl, hvhp59⟩ := hrhp59
        have v09 := hU.1.2
        have rm9 := hvhp59
        have e19 := hI.u
        have hI := hI.nu
        have hM := hM.ft hchp59 (by decide) e19
        have hU := hU.ft hchp59 (by decide)
        have hwp : WP B ig55 288 := WP.ft hwp hchp59 (by decide) (by decide) (by decide) (by decide) (by decide)
        have hD := hD.ft hchp59 (by decide)
        refine lv_aload_n hx hb dX12_mend_41 rfl (lv_at hl 1 rfl) ?_
        refine lv_iload_n hx hb dX12_mend_42 rfl (lv_at hl 2 rfl) ?_
        refine r_callV (As := [.int x]) (rest := []) C hw (t_X12_putsX l B D cA kd ig55 rg lg57 _ x (by omega) hwp σ π hM _ hD _ (WS.cp (n := z45.toInt) (y := x.toInt) (σ' := upS σ x.toInt.toNat (wuC (σ z45.toInt.toNat))) (π' := pput π x.toInt.toNat (σ x.toInt.toNat)) hW (by unfold onS; omega) (by rw [atC_on (by omega)]; exact by1 mb (by omega)) ⟨by rw [atC_on (σ := σ) (x := z45.toInt) (by omega)], rfl⟩) hI) sv_X12_207 (hsh 49 _ rfl) rfl hl.1 rfl (Nat.le_of_ble_eq_true rfl) ⟨Nat.le_of_ble_eq_true rfl, Nat.le_of_ble_eq_true rfl⟩ ⟨Nat.le_of_ble_eq_true rfl, Nat.le_of_ble_eq_true rfl⟩ dX12_mend_43 (fun r64 kd60 ig61 rg62 lg63 H locs hw hH hp65 => ?_)
        obtain ⟨rfl, rfl, hI, hchp65, hrhp65⟩ := hp65
        have hF : Ft B [49, 54, 55, 56, 57, 58, 59, 60, 61, 63, 64, 65, 66, 67, 68, 69, 70, 71, 72, 73, 74, 76, 77, 78] ig lg ig61 lg63 := Ft.tr hF hchp65 (by decide) (by decide)
        obtain ⟨rfl, hvhp65⟩ := hrhp65
        obtain ⟨hM, hU⟩ := hvhp65
        have rm9 := rm9.ft hchp65
        refine lv_aload_n hx hb dX12_mend_46 rfl (lv_at hl 1 rfl) ?_
        have hI := hI.su (f := (ig61 (B + 49) 19).toInt) rfl
        refine r_callV (As := []) (rest := []) C hw (t_X12_tellsE l B D cA kd ig61 rg lg63 _   hI) sv_X12_345 (hsh 49 _ rfl) rfl hl.1 rfl (Nat.le_of_ble_eq_true rfl) ⟨Nat.le_of_ble_eq_true rfl, Nat.le_of_ble_eq_true rfl⟩ ⟨Nat.le_of_ble_eq_true rfl, Nat.le_of_ble_eq_true rfl⟩ dX12_mend_47 (fun r70 kd66 ig67 rg68 lg69 H locs hw hH hp71 => ?_)
        obtain ⟨rfl, rfl, hI, hchp71, hrhp71⟩ := hp71
        have hF : Ft B [49, 54, 55, 56, 57, 58, 59, 60, 61, 63, 64, 65, 66, 67, 68, 69, 70, 71, 72, 73, 74, 76, 77, 78] ig lg ig67 lg69 := Ft.tr hF hchp71 (by decide) (by decide)
        obtain ⟨z72, rfl, hz72⟩ := hrhp71
        have ch9 := RmR.ch v09 rm9 hU.1.2 hz72
        have e19 := hI.u
        have hI := hI.nu
        have hM := hM.ft hchp71 (by decide) e19
        have hU := hU.ft hchp71 (by decide)
        exact r_iret C hw hr hlk rfl (Nat.le_of_ble_eq_true rfl) (Nat.le_of_ble_eq_true rfl) dX12_mend_50 ⟨rfl, rfl, hI, hF, ⟨_, rfl, ⟨_, _, hM, hU, ⟨(famZ B ig2), _, faz, odd9, Or.inr ⟨⟨by omega, by rw [atC_on (by omega)]; exact by1 mb (by omega)⟩, ⟨by rw [atC_on (σ := σ) (x := z45.toInt) (by omega)], rfl⟩, ch9⟩⟩⟩⟩⟩
      · refine lv_iconst (v := (-1)) hx hb dX12_mend_35 (by decide) (ti_c (-1) (by decide) fun z73 hz73 => ?_)
        exact r_iret C hw hr hlk rfl (Nat.le_of_ble_eq_true rfl) (Nat.le_of_ble_eq_true rfl) dX12_mend_36 ⟨rfl, rfl, hI, hF, ⟨_, rfl, ⟨_, _, hM, hU, ⟨(famZ B ig2), _, faz, odd9, Or.inl ⟨fun w => by0 mb (by omega) (by have w2 := w.2; rw [atC_on (by omega)] at w2; exact w2), ⟨rfl, rfl⟩, by omega⟩⟩⟩⟩⟩

set_option maxHeartbeats 4000000 in
set_option maxRecDepth 100000 in
theorem t_X12_stretchX {τ : Tp} {φ : Option Int} (l : Launch) (B : Nat) (D : va_G) (cA : Nat → ClassId) (kd : sK) (ig : sI) (rg : sR) (lg : sG) (sz : Nat) (x : Int32) (y : Int32) (σ : Sg) (π : Ps) (hM : SM B σ π ig) (hU : FXm B σ ig lg) (hW : WS σ π) (hI : IM τ φ none B kd ig rg) : MC l B D cA yX12_stretch cX12_stretch 5 (some .int) (rL 33 0 0) [.ref (B + 49), .int x, .int y] kd ig rg lg sz (PM τ φ none B [49, 54, 55, 56, 57, 58, 59, 60, 61, 63, 64, 65, 66, 67, 68, 69, 70, 71, 72, 73, 74, 76, 77, 78] kd ig rg lg (fun r ig' lg' => ∃ z : Int32, r = some (.int z) ∧ (∃ σ' π', SM B σ' π' ig' ∧ FXm B σ' ig' lg' ∧ stTz σ π x.toInt σ' π' y.toInt z.toInt))) := by
  refine MC.of (own := RX12) (by decide +kernel) rfl (Nat.le_of_ble_eq_true rfl) ?_
  intro p e s m args below meth c ls C hr hlk hnm hw hsz hl
  have hx := C.1.1
  have hb := C.1.2.1
  have hown := C.1.2.2.2.1
  have hts := C.1.2.2.2.2
  have hl : lv_has ls 5 [(0, .ref (B + 49)), (1, .int x), (2, .int y)] := hl
  have hF : Ft B [49, 54, 55, 56, 57, 58, 59, 60, 61, 63, 64, 65, 66, 67, 68, 69, 70, 71, 72, 73, 74, 76, 77, 78] ig lg ig lg := Ft.rf
  have hsh := hI.sh
  have hrm := hI.rm
  have hM0 := hM
  refine lv_aload_n hx hb dX12_stretch_0 rfl (lv_at hl 0 rfl) ?_
  refine lv_iconst (v := 0) hx hb dX12_stretch_1 (by decide) (ti_c 0 (by decide) fun z1 hz1 => ?_)
  refine r_puti C hw (hsh 49 _ rfl) fl_X12_1 rfl rfl rfl dX12_stretch_2 (fun H locs hH hw => ?_)
  obtain ⟨ig2, eig2⟩ : ∃ f, f = up2 ig (B + 49) 0 z1 := ⟨_, rfl⟩
  rw [← eig2] at hw
  have hF : Ft B [49, 54, 55, 56, 57, 58, 59, 60, 61, 63, 64, 65, 66, 67, 68, 69, 70, 71, 72, 73, 74, 76, 77, 78] ig lg ig2 lg := by rw [eig2]; exact hF.pi (by decide)
  have hI : IM τ φ none B kd ig2 rg := by rw [eig2]; exact hI.pi (by decide) (show okR none _ from trivial)
  have hM : SM B σ π ig2 := by rw [eig2]; exact hM.wr (by decide)
  have hU := FXm.wrE eig2 hU (by decide)
  refine lv_iload_n hx hb dX12_stretch_5 rfl (lv_at hl 1 rfl) ?_
  refine r_callS (As := [.int x]) (rest := []) C hw (t_X12_isPlace l B D cA kd ig2 rg lg _ x  hI) ss_X12_198 rfl hl.1 rfl (Nat.le_of_ble_eq_true rfl) ⟨Nat.le_of_ble_eq_true rfl, Nat.le_of_ble_eq_true rfl⟩ ⟨Nat.le_of_ble_eq_true rfl, Nat.le_of_ble_eq_true rfl⟩ dX12_stretch_6 (fun r7 kd3 ig4 rg5 lg6 H locs hw hH hp8 => ?_)
  obtain ⟨rfl, rfl, rfl, rfl, hzhp8, hrhp8⟩ := hp8
  obtain ⟨z9, rfl, hz9⟩ := hrhp8
  have J32 : ∀ (ls : Array Slot) (H : Heap) (locs : List Loc) (ig11 : sI) (lg12 : sG) (u10 : Int32), lv_has ls 5 [(0, .ref (B + 49)), (1, .int x)] → WD B D cA s.heap kd ig11 rg lg12 H locs → IM τ φ none B kd ig11 rg → Ft B [49, 54, 55, 56, 57, 58, 59, 60, 61, 63, 64, 65, 66, 67, 68, 69, 70, 71, 72, 73, 74, 76, 77, 78] ig lg ig11 lg12 → (SM B σ π ig11) → (FXm B σ ig11 lg12) → (JSt B ig11 σ x.toInt y.toInt u10.toInt) → W p l e (rL 33 0 0) s m args below meth c H locs 0 0 (MQ below (QcW B D cA (PM τ φ none B [49, 54, 55, 56, 57, 58, 59, 60, 61, 63, 64, 65, 66, 67, 68, 69, 70, 71, 72, 73, 74, 76, 77, 78] kd ig rg lg (fun r ig' lg' => ∃ z : Int32, r = some (.int z) ∧ (∃ σ' π', SM B σ' π' ig' ∧ FXm B σ' ig' lg' ∧ stTz σ π x.toInt σ' π' y.toInt z.toInt)))) args s 0 0 (fun q => B ≤ q)) (F0 m 32 ls [.int u10]) := by
    intro ls H locs ig11 lg12 u10 hl hw hI hF g32_0 g32_1 g32_2
    have hM := g32_0
    have hU := g32_1
    have js := g32_2
    refine lv_istore_n (lv' := [(3, .int u10), (0, .ref (B + 49)), (1, .int x)]) hx hb dX12_stretch_32 rfl hl (by decide) rfl (fun ls hl => ?_)
    refine lv_iload_n hx hb dX12_stretch_33 rfl (lv_at hl 0 rfl) ?_
    refine z_ge (tgt := 39) hx hb dX12_stretch_34 (by decide) (fun c34 => ?_) (fun c34 => ?_)
    · obtain ⟨hon, hk2, n, hn, hsi⟩ : (0 ≤ x.toInt ∧ x.toInt < 288) ∧ kdO (atC σ x.toInt) = 2 ∧ ∃ n : Nat, (ig11 (B + 58) x.toInt.toNat).toInt = (n : Int) ∧ sumI (mR B ig11 (x.toInt.toNat : Int) x.toInt.toNat) n y.toInt u10.toInt := (by rcases js with ⟨w, -⟩ | w; (exfalso; omega); exact w)
      have hrow := hM.1 x.toInt.toNat (by omega)
      rw [← atC_on (σ := σ) (x := x.toInt) (by omega)] at hrow
      have hrf := hrow.2.2.1 hk2
      have hie : iE (mR B ig11 (x.toInt.toNat : Int) x.toInt.toNat) 8 0 n (fmO (atC σ x.toInt)) := (by obtain ⟨n2, q1, q2, q3⟩ := hrf.1; rw [show n = n2 by omega]; exact q3)
      obtain ⟨j, l9, ej, hsl, smt⟩ : ∃ j l : Nat, u10.toInt = (j : Int) ∧ sumS (fmO (atC σ x.toInt)) y.toInt (l : Int) ∧ SMt (mR B ig11 (x.toInt.toNat : Int) x.toInt.toNat) n (fmO (atC σ x.toInt)) j l := (by rcases sum_match hie hsi with ⟨w, -⟩ | w; (exfalso; omega); exact w)
      have sm3 := smt.2.2.1
      have kit := hI.its (j := x.toInt.toNat) (by omega)
      have hkd : (ig11 (B + 59) x.toInt.toNat).toInt = 2 := by rw [hrow.1.1]; exact hk2
      have r2 := rd_ref smt.2.2.2.2.1 (by omega) rfl (hrf.2 (j + 2) (by omega)) (hI.at (p := x.toInt.toNat) (k := j + 2) (by omega) (by omega) hkd (by omega)).2 (by omega)
      have r4 := rd_ref smt.2.2.2.2.2.1 (by omega) rfl (hrf.2 (j + 4) (by omega)) (hI.at (p := x.toInt.toNat) (k := j + 4) (by omega) (by omega) hkd (by omega)).2 (by omega)
      rw [show 120 * x.toInt.toNat + (j + 4) = (120 * x.toInt.toNat + (j + 2)) + 2 by omega] at r4
      have ep : ((x.toInt.toNat : Nat) : Int) = x.toInt := by omega
      have rc2 := r2.2.1
      have rr2 := r2.2.2.1
      have rc4 := r4.2.1
      have rr4 := r4.2.2.1
      rw [ep] at rc2 rr2 rc4 rr4
      have rg4 := r4.2.2.2.1
      have iB := shDn.iff (B := B) (ig := ig11) (σ := σ) (x := x.toInt) (i := 120 * x.toInt.toNat + (j + 2)) smt.2.1 rc2 rc4 rr4 rg4.2.2
      have iR := shRt.iff (B := B) (ig := ig11) (σ := σ) (x := x.toInt) (i := 120 * x.toInt.toNat + (j + 2)) smt.2.1 rr2 rc4 rr4 rg4.1.2
      replace iB : hid _ := iB
      replace iR : hid _ := iR
      have hI0 := hI
      have hM9 := hM
      have hU9 := hU
      refine lv_aload_n hx hb dX12_stretch_39 rfl (lv_at hl 1 rfl) ?_
      refine lv_iload_n hx hb dX12_stretch_40 rfl (lv_at hl 2 rfl) ?_
      refine lv_bipush (v := 120) hx hb dX12_stretch_41 (by decide) (ti_c 120 (by decide) fun z13 hz13 => ?_)
      refine lv_iload_n hx hb dX12_stretch_43 rfl (lv_at hl 2 rfl) ?_
      refine lv_imul hx hb dX12_stretch_44 (tc_mulL 120 hz13 fun z14 hz14 => ?_)
      first | replace hz14 := hz14 (by omega) | clear hz14
      refine lv_iload_n hx hb dX12_stretch_45 rfl (lv_at hl 0 rfl) ?_
      refine lv_iadd hx hb dX12_stretch_46 (tc_add fun z15 hz15 => ?_)
      first | replace hz15 := hz15 (by omega) | clear hz15
      refine lv_iconst (v := 2) hx hb dX12_stretch_47 (by decide) (ti_c 2 (by decide) fun z16 hz16 => ?_)
      refine lv_iadd hx hb dX12_stretch_48 (tc_add fun z17 hz17 => ?_)
      first | replace hz17 := hz17 (by omega) | clear hz17
      refine lv_iconst (v := 1) hx hb dX12_stretch_49 (by decide) (ti_c 1 (by decide) fun z18 hz18 => ?_)
      refine r_callV (As := [.int x, .int z17, .int z18]) (rest := []) C hw (t_X12_shortByE l B D cA kd ig11 rg lg12 _ x z17 z18 (by omega) (by omega) (by omega) (by rw [show z17.toInt.toNat + 2 = (120 * x.toInt.toNat + (j + 2)) + 2 by omega]; exact rg4) σ π hM hU.1.1 hI) sv_X12_320 (hsh 49 _ rfl) rfl hl.1 rfl (Nat.le_of_ble_eq_true rfl) ⟨Nat.le_of_ble_eq_true rfl, Nat.le_of_ble_eq_true rfl⟩ ⟨Nat.le_of_ble_eq_true rfl, Nat.le_of_ble_eq_true rfl⟩ dX12_stretch_50 (fun r23 kd19 ig20 rg21 lg22 H locs hw hH hp24 => ?_)
      obtain ⟨rfl, rfl, rfl, rfl, hzhp24, hrhp24⟩ := hp24
      obtain ⟨z25, rfl, hz25⟩ := hrhp24
      rw [show z17.toInt.toNat = 120 * x.toInt.toNat + (j + 2) by omega] at hz25
      have sd9 := sh_x (hz25.1 (by omega)) (by omega)
      replace sd9 : hid _ := sd9
      refine z_lt (tgt := 60) hx hb dX12_stretch_53 (by decide) (fun c53 => ?_) (fun c53 => ?_)
      · refine lv_iconst (v := 0) hx hb dX12_stretch_60 (by decide) (ti_c 0 (by decide) fun z26 hz26 => ?_)
        refine lv_istore (lv' := [(4, .int z26), (3, .int u10), (0, .ref (B + 49)), (1, .int x)]) hx hb dX12_stretch_61 hl (by decide) rfl (fun ls hl => ?_)
        refine lv_iload hx hb dX12_stretch_63 (lv_at hl 0 rfl) ?_
        refine z_ne (tgt := 87) hx hb dX12_stretch_65 (by decide) (fun c65 => ?_) (fun c65 => ?_)
        · refine lv_aload_n hx hb dX12_stretch_87 rfl (lv_at hl 2 rfl) ?_
          refine lv_iload_n hx hb dX12_stretch_88 rfl (lv_at hl 3 rfl) ?_
          refine lv_sipush (v := 288) hx hb dX12_stretch_89 (by decide) (ti_c 288 (by decide) fun z27 hz27 => ?_)
          refine r_callV (As := [.int x, .int z27]) (rest := []) C hw (t_X12_copyRowE l B D cA kd ig11 rg lg12 _ x z27 (by omega) (by omega) (i32_ne (by omega)) (hI.wp (by omega) (by omega)) hI) sv_X12_191 (hsh 49 _ rfl) rfl hl.1 rfl (Nat.le_of_ble_eq_true rfl) ⟨Nat.le_of_ble_eq_true rfl, Nat.le_of_ble_eq_true rfl⟩ ⟨Nat.le_of_ble_eq_true rfl, Nat.le_of_ble_eq_true rfl⟩ dX12_stretch_92 (fun r32 kd28 ig29 rg30 lg31 H locs hw hH hp33 => ?_)
          obtain ⟨rfl, rfl, hI, hchp33, hrhp33⟩ := hp33
          have hF : Ft B [49, 54, 55, 56, 57, 58, 59, 60, 61, 63, 64, 65, 66, 67, 68, 69, 70, 71, 72, 73, 74, 76, 77, 78] ig lg ig29 lg31 := Ft.tr hF hchp33 (by decide) (by decide)
          obtain ⟨rfl, hvhp33⟩ := hrhp33
          have hcx := CRx.toY (y := 288) hvhp33 (by omega)
          have hcr := hcx.1
          have nd : NDr B ig11 ig29 := NDr.cr hcx
          have h63 : ∀ j, ig29 (B + 63) j = ig11 (B + 63) j := fun j => hchp33.i 63 j (by decide)
          have h19 := congrArg Int32.toInt (hchp33.i 49 19 (by decide))
          have hR1 := hcx.row hrow
          have wf : WFr B ig29 288 := (hI0.row (p := x.toInt.toNat) (by omega) (by omega) hkd).copy hcr
          have f4 := CRw.f4 (q := j + 4) hcr (by omega)
          have f7 := congrArg Int32.toInt (hcr.2.2.2.1 57 (j + 4) (by decide) (by decide) (by omega))
          rw [show 120 * x.toInt.toNat + (j + 4) = (120 * x.toInt.toNat + (j + 2)) + 2 by omega] at f4 f7
          have f7 : (ig29 (B + 57) (34560 + (j + 4))).toInt = (ig11 (B + 57) (120 * x.toInt.toNat + (j + 2) + 2)).toInt := f7
          have q4 : j + 4 < 120 := by omega
          have emr : mR B ig29 (x.toInt.toNat : Int) 288 = mR B ig11 (x.toInt.toNat : Int) x.toInt.toNat := mR.ag hcr.2.1 (fun c k a b hk => hcr.2.2.2.1 c k a b hk)
          have k34 : (ig29 (B + 54) (34560 + (j + 4))).toInt = 3 := by rw [f4.1]; exact r4.1
          have e58 := congrArg Int32.toInt hcr.2.1
          have pw4 := r4.2.2.2.2
          have hU := hU.ft hchp33 (by decide)
          refine lv_aload_n hx hb dX12_stretch_95 rfl (lv_at hl 2 rfl) ?_
          refine r_get C hw (hsh 49 _ rfl) fl_X12_71 (oV_r rfl (hrm (49, 11, 56) (by decide))) dX12_stretch_96 ?_
          refine lv_ldc (v := 34560) hx hb hown (hts _ kc_X12_142) dX12_stretch_99 (ti_c 34560 (by decide) fun z34 hz34 => ?_)
          refine lv_iload_n hx hb dX12_stretch_101 rfl (lv_at hl 1 rfl) ?_
          refine lv_iadd hx hb dX12_stretch_102 (tc_add fun z35 hz35 => ?_)
          first | replace hz35 := hz35 (by omega) | clear hz35
          refine lv_iconst (v := 4) hx hb dX12_stretch_103 (by decide) (ti_c 4 (by decide) fun z36 hz36 => ?_)
          refine lv_iadd hx hb dX12_stretch_104 (tc_add fun z37 hz37 => ?_)
          first | replace hz37 := hz37 (by omega) | clear hz37
          refine lv_dup2_11 hx hb dX12_stretch_105 rfl rfl ?_
          have nw : z37.toInt.toNat = 34560 + (j + 4) := by omega
          have nW : nEq z37.toInt.toNat (34560 + (j + 4)) := nw
          refine r_iald C hw (hsh 56 _ rfl) (by omega) (by omega) dX12_stretch_106 (ti_c (ig29 (B + 56) z37.toInt.toNat).toInt rfl fun z38 hz38 => ?_)
          rw [nw] at hz38
          refine lv_iload hx hb dX12_stretch_107 (lv_at hl 0 rfl) ?_
          refine z_eq (tgt := 116) hx hb dX12_stretch_109 (by decide) (fun c109 => ?_) (fun c109 => ?_)
          · refine lv_iconst (v := 0) hx hb dX12_stretch_116 (by decide) (ti_c 0 (by decide) fun z40 hz40 => ?_)
            refine lv_iadd hx hb dX12_stretch_117 (tc_add fun z41 hz41 => ?_)
            first | replace hz41 := hz41 (by omega) | clear hz41
            refine r_iast C hw (hsh 56 _ rfl) (by omega) (by omega) dX12_stretch_118 (fun H locs hH hw => ?_)
            obtain ⟨ig42, eig42⟩ : ∃ f, f = up2 ig29 (B + 56) z37.toInt.toNat z41 := ⟨_, rfl⟩
            rw [← eig42] at hw
            have hF : Ft B [49, 54, 55, 56, 57, 58, 59, 60, 61, 63, 64, 65, 66, 67, 68, 69, 70, 71, 72, 73, 74, 76, 77, 78] ig lg ig42 lg31 := by rw [eig42]; exact hF.pi (by decide)
            have hI : IM τ φ none B kd ig42 rg := by rw [eig42]; exact hI.pdr2 (Or.inr rfl) nW q4
            have wf : WFr B ig42 288 := by rw [eig42, nw]; exact WFr.uB wf k34 (by omega) (by omega)
            have k3b : (ig42 (B + 54) (34560 + (j + 4))).toInt = 3 := by rw [eig42, up2_c (by decide)]; exact k34
            have fA : (ig42 (B + 55) (34560 + (j + 4))).toInt = (ig29 (B + 55) (34560 + (j + 4))).toInt := by rw [eig42, up2_c (by decide)]
            have fB : 0 ≤ (ig42 (B + 56) (34560 + (j + 4))).toInt ∧ (ig42 (B + 56) (34560 + (j + 4))).toInt < 24 := by rw [eig42, nw, up2_eq]; omega
            have nd : NDr B ig11 ig42 := by rw [eig42]; exact nd.wr (Or.inr (Or.inr ⟨by decide, by decide, by omega, by omega⟩))
            have hU : FXm B σ ig42 lg31 := by rw [eig42]; exact hU.wr (by decide)
            refine lv_aload_n hx hb dX12_stretch_119 rfl (lv_at hl 2 rfl) ?_
            refine r_get C hw (hsh 49 _ rfl) fl_X12_68 (oV_r rfl (hrm (49, 10, 55) (by decide))) dX12_stretch_120 ?_
            refine lv_ldc (v := 34560) hx hb hown (hts _ kc_X12_142) dX12_stretch_123 (ti_c 34560 (by decide) fun z43 hz43 => ?_)
            refine lv_iload_n hx hb dX12_stretch_125 rfl (lv_at hl 1 rfl) ?_
            refine lv_iadd hx hb dX12_stretch_126 (tc_add fun z44 hz44 => ?_)
            first | replace hz44 := hz44 (by omega) | clear hz44
            refine lv_iconst (v := 4) hx hb dX12_stretch_127 (by decide) (ti_c 4 (by decide) fun z45 hz45 => ?_)
            refine lv_iadd hx hb dX12_stretch_128 (tc_add fun z46 hz46 => ?_)
            first | replace hz46 := hz46 (by omega) | clear hz46
            refine lv_dup2_11 hx hb dX12_stretch_129 rfl rfl ?_
            have nw2 : z46.toInt.toNat = 34560 + (j + 4) := by omega
            have nW2 : nEq z46.toInt.toNat (34560 + (j + 4)) := nw2
            refine r_iald C hw (hsh 55 _ rfl) (by omega) (by omega) dX12_stretch_130 (ti_c (ig42 (B + 55) z46.toInt.toNat).toInt rfl fun z47 hz47 => ?_)
            rw [nw2] at hz47
            refine lv_iload hx hb dX12_stretch_131 (lv_at hl 0 rfl) ?_
            refine z_eq (tgt := 140) hx hb dX12_stretch_133 (by decide) (fun c133 => ?_) (fun c133 => ?_)
            · refine lv_iconst (v := 1) hx hb dX12_stretch_140 (by decide) (ti_c 1 (by decide) fun z49 hz49 => ?_)
              refine lv_iadd hx hb dX12_stretch_141 (tc_add fun z50 hz50 => ?_)
              first | replace hz50 := hz50 (by omega) | clear hz50
              refine r_iast C hw (hsh 55 _ rfl) (by omega) (by omega) dX12_stretch_142 (fun H locs hH hw => ?_)
              obtain ⟨ig51, eig51⟩ : ∃ f, f = up2 ig42 (B + 55) z46.toInt.toNat z50 := ⟨_, rfl⟩
              rw [← eig51] at hw
              have hF : Ft B [49, 54, 55, 56, 57, 58, 59, 60, 61, 63, 64, 65, 66, 67, 68, 69, 70, 71, 72, 73, 74, 76, 77, 78] ig lg ig51 lg31 := by rw [eig51]; exact hF.pi (by decide)
              have hI : IM τ φ none B kd ig51 rg := by rw [eig51]; exact hI.pdr2 (Or.inl rfl) nW2 q4
              have wf : WFr B ig51 288 := by rw [eig51, nw2]; exact WFr.uA wf k3b (by omega) fB
              have hwp : WP B ig51 288 := fun _ => wf
              have nd : NDr B ig11 ig51 := by rw [eig51]; exact nd.wr (Or.inr (Or.inr ⟨by decide, by decide, by omega, by omega⟩))
              have hfl : RowF B ig51 288 (x.toInt.toNat : Int) ((fmO (atC σ x.toInt)).set l9 (2, (stp (fmO (atC σ x.toInt)) (l9 : Int)).2.1, (stp (fmO (atC σ x.toInt)) (l9 : Int)).2.2 + (128 * 1 + 0))) := by rw [eig51, eig42]; exact RowF.longer (n := n) (hR1.2.2.1 hk2) (by omega) (by rw [emr]; exact smt) rfl k34 (by rw [f7, f4.2.1, f4.2.2]; exact pw4.1) (by rw [f7]; exact pw4.2) nw nw2 (by omega) (by omega)
              have hux := hW.uz (x := x.toInt) (by omega)
              have hD : RowM B ig51 288 (x.toInt.toNat : Int) (fCl (stL (fmO (atC σ x.toInt)) (l9 : Int) (128 * 1 + 0))) := ⟨⟨by rw [eig51, up2_c (by decide), eig42, up2_c (by decide), hR1.1.1, hk2]; rfl, by rw [eig51, up2_c (by decide), eig42, up2_c (by decide), hR1.1.2, hux.2]; rfl⟩, by unfold RowU; rw [eig51, up2_c (by decide), up2_c (by decide), up2_c (by decide), eig42, up2_c (by decide), up2_c (by decide), up2_c (by decide)]; have q := hR1.2.1; rw [hux.1] at q; exact q, fun _ => by show RowF B _ 288 _ (stL _ _ _); rw [stL_eq smt.2.1]; exact hfl, fun w => absurd rfl w⟩
              have hM := hM9.dr hI0.i120 nd (fun j => by rw [eig51, up2_c (by decide), eig42, up2_c (by decide)]; exact h63 j) (by rw [eig51, up2_c (by decide), eig42, up2_c (by decide)]; exact h19)
              have hU : FXm B σ ig51 lg31 := by rw [eig51]; exact hU.wr (by decide)
              refine lv_aload_n hx hb dX12_stretch_143 rfl (lv_at hl 2 rfl) ?_
              have hI := hI.su (f := (ig51 (B + 49) 19).toInt) rfl
              refine r_callV (As := []) (rest := []) C hw (t_X12_remembersE l B D cA kd ig51 rg lg31 _   hI) sv_X12_342 (hsh 49 _ rfl) rfl hl.1 rfl (Nat.le_of_ble_eq_true rfl) ⟨Nat.le_of_ble_eq_true rfl, Nat.le_of_ble_eq_true rfl⟩ ⟨Nat.le_of_ble_eq_true rfl, Nat.le_of_ble_eq_true rfl⟩ dX12_stretch_144 (fun r56 kd52 ig53 rg54 lg55 H locs hw hH hp57 => ?_)
              obtain ⟨rfl, rfl, hI, hchp57, hrhp57⟩ := hp57
              have hF : Ft B [49, 54, 55, 56, 57, 58, 59, 60, 61, 63, 64, 65, 66, 67, 68, 69, 70, 71, 72, 73, 74, 76, 77, 78] ig lg ig53 lg55 := Ft.tr hF hchp57 (by decide) (by decide)
              obtain ⟨rfl, hvhp57⟩ := hrhp57
              have v09 := hU.1.2
              have rm9 := hvhp57
              have e19 := hI.u
              have hI := hI.nu
              have hM := hM.ft hchp57 (by decide) e19
              have hwp : WP B ig53 288 := WP.ft hwp hchp57 (by decide) (by decide) (by decide) (by decide) (by decide)
              have hD := hD.ft hchp57 (by decide)
              refine lv_aload_n hx hb dX12_stretch_147 rfl (lv_at hl 2 rfl) ?_
              refine lv_iload_n hx hb dX12_stretch_148 rfl (lv_at hl 3 rfl) ?_
              have hst9 : stT σ π x.toInt (upS σ x.toInt.toNat (fCl (stL (fmO (atC σ x.toInt)) (l9 : Int) (128 * 1 + 0)))) (pput π x.toInt.toNat (σ x.toInt.toNat)) y.toInt := (by exfalso; omega)
              refine r_callV (As := [.int x]) (rest := []) C hw (t_X12_putsX l B D cA kd ig53 rg lg55 _ x (by omega) hwp σ π hM _ hD _ (hW.stT hst9) hI) sv_X12_207 (hsh 49 _ rfl) rfl hl.1 rfl (Nat.le_of_ble_eq_true rfl) ⟨Nat.le_of_ble_eq_true rfl, Nat.le_of_ble_eq_true rfl⟩ ⟨Nat.le_of_ble_eq_true rfl, Nat.le_of_ble_eq_true rfl⟩ dX12_stretch_149 (fun r62 kd58 ig59 rg60 lg61 H locs hw hH hp63 => ?_)
              obtain ⟨rfl, rfl, hI, hchp63, hrhp63⟩ := hp63
              have hF : Ft B [49, 54, 55, 56, 57, 58, 59, 60, 61, 63, 64, 65, 66, 67, 68, 69, 70, 71, 72, 73, 74, 76, 77, 78] ig lg ig59 lg61 := Ft.tr hF hchp63 (by decide) (by decide)
              obtain ⟨rfl, hvhp63⟩ := hrhp63
              obtain ⟨hM, hU⟩ := hvhp63
              have rm9 := rm9.ft hchp63
              refine lv_aload_n hx hb dX12_stretch_152 rfl (lv_at hl 2 rfl) ?_
              have hI := hI.su (f := (ig59 (B + 49) 19).toInt) rfl
              refine r_callV (As := []) (rest := []) C hw (t_X12_tellsE l B D cA kd ig59 rg lg61 _   hI) sv_X12_345 (hsh 49 _ rfl) rfl hl.1 rfl (Nat.le_of_ble_eq_true rfl) ⟨Nat.le_of_ble_eq_true rfl, Nat.le_of_ble_eq_true rfl⟩ ⟨Nat.le_of_ble_eq_true rfl, Nat.le_of_ble_eq_true rfl⟩ dX12_stretch_153 (fun r68 kd64 ig65 rg66 lg67 H locs hw hH hp69 => ?_)
              obtain ⟨rfl, rfl, hI, hchp69, hrhp69⟩ := hp69
              have hF : Ft B [49, 54, 55, 56, 57, 58, 59, 60, 61, 63, 64, 65, 66, 67, 68, 69, 70, 71, 72, 73, 74, 76, 77, 78] ig lg ig65 lg67 := Ft.tr hF hchp69 (by decide) (by decide)
              obtain ⟨z70, rfl, hz70⟩ := hrhp69
              have ch9 := RmR.ch v09 rm9 hU.1.2 hz70
              have e19 := hI.u
              have hI := hI.nu
              have hM := hM.ft hchp69 (by decide) e19
              have hU := hU.ft hchp69 (by decide)
              exact r_iret C hw hr hlk rfl (Nat.le_of_ble_eq_true rfl) (Nat.le_of_ble_eq_true rfl) dX12_stretch_156 ⟨rfl, rfl, hI, hF, ⟨_, rfl, (by exfalso; omega)⟩⟩
            · refine lv_iconst (v := 0) hx hb dX12_stretch_136 (by decide) (ti_c 0 (by decide) fun z71 hz71 => ?_)
              refine lv_goto (tgt := 141) hx hb dX12_stretch_137 (by decide) ?_
              refine lv_iadd hx hb dX12_stretch_141 (tc_add fun z72 hz72 => ?_)
              first | replace hz72 := hz72 (by omega) | clear hz72
              refine r_iast C hw (hsh 55 _ rfl) (by omega) (by omega) dX12_stretch_142 (fun H locs hH hw => ?_)
              obtain ⟨ig73, eig73⟩ : ∃ f, f = up2 ig42 (B + 55) z46.toInt.toNat z72 := ⟨_, rfl⟩
              rw [← eig73] at hw
              have hF : Ft B [49, 54, 55, 56, 57, 58, 59, 60, 61, 63, 64, 65, 66, 67, 68, 69, 70, 71, 72, 73, 74, 76, 77, 78] ig lg ig73 lg31 := by rw [eig73]; exact hF.pi (by decide)
              have hI : IM τ φ none B kd ig73 rg := by rw [eig73]; exact hI.pdr2 (Or.inl rfl) nW2 q4
              have wf : WFr B ig73 288 := by rw [eig73, nw2]; exact WFr.uA wf k3b (by omega) fB
              have hwp : WP B ig73 288 := fun _ => wf
              have nd : NDr B ig11 ig73 := by rw [eig73]; exact nd.wr (Or.inr (Or.inr ⟨by decide, by decide, by omega, by omega⟩))
              have hfl : RowF B ig73 288 (x.toInt.toNat : Int) ((fmO (atC σ x.toInt)).set l9 (2, (stp (fmO (atC σ x.toInt)) (l9 : Int)).2.1, (stp (fmO (atC σ x.toInt)) (l9 : Int)).2.2 + (128 * 0 + 0))) := by rw [eig73, eig42]; exact RowF.longer (n := n) (hR1.2.2.1 hk2) (by omega) (by rw [emr]; exact smt) rfl k34 (by rw [f7, f4.2.1, f4.2.2]; exact pw4.1) (by rw [f7]; exact pw4.2) nw nw2 (by omega) (by omega)
              have hux := hW.uz (x := x.toInt) (by omega)
              have hD : RowM B ig73 288 (x.toInt.toNat : Int) (fCl (stL (fmO (atC σ x.toInt)) (l9 : Int) (128 * 0 + 0))) := ⟨⟨by rw [eig73, up2_c (by decide), eig42, up2_c (by decide), hR1.1.1, hk2]; rfl, by rw [eig73, up2_c (by decide), eig42, up2_c (by decide), hR1.1.2, hux.2]; rfl⟩, by unfold RowU; rw [eig73, up2_c (by decide), up2_c (by decide), up2_c (by decide), eig42, up2_c (by decide), up2_c (by decide), up2_c (by decide)]; have q := hR1.2.1; rw [hux.1] at q; exact q, fun _ => by show RowF B _ 288 _ (stL _ _ _); rw [stL_eq smt.2.1]; exact hfl, fun w => absurd rfl w⟩
              have hM := hM9.dr hI0.i120 nd (fun j => by rw [eig73, up2_c (by decide), eig42, up2_c (by decide)]; exact h63 j) (by rw [eig73, up2_c (by decide), eig42, up2_c (by decide)]; exact h19)
              have hU : FXm B σ ig73 lg31 := by rw [eig73]; exact hU.wr (by decide)
              refine lv_aload_n hx hb dX12_stretch_143 rfl (lv_at hl 2 rfl) ?_
              have hI := hI.su (f := (ig73 (B + 49) 19).toInt) rfl
              refine r_callV (As := []) (rest := []) C hw (t_X12_remembersE l B D cA kd ig73 rg lg31 _   hI) sv_X12_342 (hsh 49 _ rfl) rfl hl.1 rfl (Nat.le_of_ble_eq_true rfl) ⟨Nat.le_of_ble_eq_true rfl, Nat.le_of_ble_eq_true rfl⟩ ⟨Nat.le_of_ble_eq_true rfl, Nat.le_of_ble_eq_true rfl⟩ dX12_stretch_144 (fun r78 kd74 ig75 rg76 lg77 H locs hw hH hp79 => ?_)
              obtain ⟨rfl, rfl, hI, hchp79, hrhp79⟩ := hp79
              have hF : Ft B [49, 54, 55, 56, 57, 58, 59, 60, 61, 63, 64, 65, 66, 67, 68, 69, 70, 71, 72, 73, 74, 76, 77, 78] ig lg ig75 lg77 := Ft.tr hF hchp79 (by decide) (by decide)
              obtain ⟨rfl, hvhp79⟩ := hrhp79
              have v09 := hU.1.2
              have rm9 := hvhp79
              have e19 := hI.u
              have hI := hI.nu
              have hM := hM.ft hchp79 (by decide) e19
              have hwp : WP B ig75 288 := WP.ft hwp hchp79 (by decide) (by decide) (by decide) (by decide) (by decide)
              have hD := hD.ft hchp79 (by decide)
              refine lv_aload_n hx hb dX12_stretch_147 rfl (lv_at hl 2 rfl) ?_
              refine lv_iload_n hx hb dX12_stretch_148 rfl (lv_at hl 3 rfl) ?_
              have hst9 : stT σ π x.toInt (upS σ x.toInt.toNat (fCl (stL (fmO (atC σ x.toInt)) (l9 : Int) (128 * 0 + 0)))) (pput π x.toInt.toNat (σ x.toInt.toNat)) y.toInt := (by exfalso; omega)
              refine r_callV (As := [.int x]) (rest := []) C hw (t_X12_putsX l B D cA kd ig75 rg lg77 _ x (by omega) hwp σ π hM _ hD _ (hW.stT hst9) hI) sv_X12_207 (hsh 49 _ rfl) rfl hl.1 rfl (Nat.le_of_ble_eq_true rfl) ⟨Nat.le_of_ble_eq_true rfl, Nat.le_of_ble_eq_true rfl⟩ ⟨Nat.le_of_ble_eq_true rfl, Nat.le_of_ble_eq_true rfl⟩ dX12_stretch_149 (fun r84 kd80 ig81 rg82 lg83 H locs hw hH hp85 => ?_)
              obtain ⟨rfl, rfl, hI, hchp85, hrhp85⟩ := hp85
              have hF : Ft B [49, 54, 55, 56, 57, 58, 59, 60, 61, 63, 64, 65, 66, 67, 68, 69, 70, 71, 72, 73, 74, 76, 77, 78] ig lg ig81 lg83 := Ft.tr hF hchp85 (by decide) (by decide)
              obtain ⟨rfl, hvhp85⟩ := hrhp85
              obtain ⟨hM, hU⟩ := hvhp85
              have rm9 := rm9.ft hchp85
              refine lv_aload_n hx hb dX12_stretch_152 rfl (lv_at hl 2 rfl) ?_
              have hI := hI.su (f := (ig81 (B + 49) 19).toInt) rfl
              refine r_callV (As := []) (rest := []) C hw (t_X12_tellsE l B D cA kd ig81 rg lg83 _   hI) sv_X12_345 (hsh 49 _ rfl) rfl hl.1 rfl (Nat.le_of_ble_eq_true rfl) ⟨Nat.le_of_ble_eq_true rfl, Nat.le_of_ble_eq_true rfl⟩ ⟨Nat.le_of_ble_eq_true rfl, Nat.le_of_ble_eq_true rfl⟩ dX12_stretch_153 (fun r90 kd86 ig87 rg88 lg89 H locs hw hH hp91 => ?_)
              obtain ⟨rfl, rfl, hI, hchp91, hrhp91⟩ := hp91
              have hF : Ft B [49, 54, 55, 56, 57, 58, 59, 60, 61, 63, 64, 65, 66, 67, 68, 69, 70, 71, 72, 73, 74, 76, 77, 78] ig lg ig87 lg89 := Ft.tr hF hchp91 (by decide) (by decide)
              obtain ⟨z92, rfl, hz92⟩ := hrhp91
              have ch9 := RmR.ch v09 rm9 hU.1.2 hz92
              have e19 := hI.u
              have hI := hI.nu
              have hM := hM.ft hchp91 (by decide) e19
              have hU := hU.ft hchp91 (by decide)
              exact r_iret C hw hr hlk rfl (Nat.le_of_ble_eq_true rfl) (Nat.le_of_ble_eq_true rfl) dX12_stretch_156 ⟨rfl, rfl, hI, hF, ⟨_, rfl, (by exfalso; omega)⟩⟩
          · refine lv_iconst (v := 1) hx hb dX12_stretch_112 (by decide) (ti_c 1 (by decide) fun z93 hz93 => ?_)
            refine lv_goto (tgt := 117) hx hb dX12_stretch_113 (by decide) ?_
            refine lv_iadd hx hb dX12_stretch_117 (tc_add fun z94 hz94 => ?_)
            first | replace hz94 := hz94 (by omega) | clear hz94
            refine r_iast C hw (hsh 56 _ rfl) (by omega) (by omega) dX12_stretch_118 (fun H locs hH hw => ?_)
            obtain ⟨ig95, eig95⟩ : ∃ f, f = up2 ig29 (B + 56) z37.toInt.toNat z94 := ⟨_, rfl⟩
            rw [← eig95] at hw
            have hF : Ft B [49, 54, 55, 56, 57, 58, 59, 60, 61, 63, 64, 65, 66, 67, 68, 69, 70, 71, 72, 73, 74, 76, 77, 78] ig lg ig95 lg31 := by rw [eig95]; exact hF.pi (by decide)
            have hI : IM τ φ none B kd ig95 rg := by rw [eig95]; exact hI.pdr2 (Or.inr rfl) nW q4
            have wf : WFr B ig95 288 := by rw [eig95, nw]; exact WFr.uB wf k34 (by omega) (by omega)
            have k3b : (ig95 (B + 54) (34560 + (j + 4))).toInt = 3 := by rw [eig95, up2_c (by decide)]; exact k34
            have fA : (ig95 (B + 55) (34560 + (j + 4))).toInt = (ig29 (B + 55) (34560 + (j + 4))).toInt := by rw [eig95, up2_c (by decide)]
            have fB : 0 ≤ (ig95 (B + 56) (34560 + (j + 4))).toInt ∧ (ig95 (B + 56) (34560 + (j + 4))).toInt < 24 := by rw [eig95, nw, up2_eq]; omega
            have nd : NDr B ig11 ig95 := by rw [eig95]; exact nd.wr (Or.inr (Or.inr ⟨by decide, by decide, by omega, by omega⟩))
            have hU : FXm B σ ig95 lg31 := by rw [eig95]; exact hU.wr (by decide)
            refine lv_aload_n hx hb dX12_stretch_119 rfl (lv_at hl 2 rfl) ?_
            refine r_get C hw (hsh 49 _ rfl) fl_X12_68 (oV_r rfl (hrm (49, 10, 55) (by decide))) dX12_stretch_120 ?_
            refine lv_ldc (v := 34560) hx hb hown (hts _ kc_X12_142) dX12_stretch_123 (ti_c 34560 (by decide) fun z96 hz96 => ?_)
            refine lv_iload_n hx hb dX12_stretch_125 rfl (lv_at hl 1 rfl) ?_
            refine lv_iadd hx hb dX12_stretch_126 (tc_add fun z97 hz97 => ?_)
            first | replace hz97 := hz97 (by omega) | clear hz97
            refine lv_iconst (v := 4) hx hb dX12_stretch_127 (by decide) (ti_c 4 (by decide) fun z98 hz98 => ?_)
            refine lv_iadd hx hb dX12_stretch_128 (tc_add fun z99 hz99 => ?_)
            first | replace hz99 := hz99 (by omega) | clear hz99
            refine lv_dup2_11 hx hb dX12_stretch_129 rfl rfl ?_
            have nw2 : z99.toInt.toNat = 34560 + (j + 4) := by omega
            have nW2 : nEq z99.toInt.toNat (34560 + (j + 4)) := nw2
            refine r_iald C hw (hsh 55 _ rfl) (by omega) (by omega) dX12_stretch_130 (ti_c (ig95 (B + 55) z99.toInt.toNat).toInt rfl fun z100 hz100 => ?_)
            rw [nw2] at hz100
            refine lv_iload hx hb dX12_stretch_131 (lv_at hl 0 rfl) ?_
            refine z_eq (tgt := 140) hx hb dX12_stretch_133 (by decide) (fun c133 => ?_) (fun c133 => ?_)
            · refine lv_iconst (v := 1) hx hb dX12_stretch_140 (by decide) (ti_c 1 (by decide) fun z102 hz102 => ?_)
              refine lv_iadd hx hb dX12_stretch_141 (tc_add fun z103 hz103 => ?_)
              first | replace hz103 := hz103 (by omega) | clear hz103
              refine r_iast C hw (hsh 55 _ rfl) (by omega) (by omega) dX12_stretch_142 (fun H locs hH hw => ?_)
              obtain ⟨ig104, eig104⟩ : ∃ f, f = up2 ig95 (B + 55) z99.toInt.toNat z103 := ⟨_, rfl⟩
              rw [← eig104] at hw
              have hF : Ft B [49, 54, 55, 56, 57, 58, 59, 60, 61, 63, 64, 65, 66, 67, 68, 69, 70, 71, 72, 73, 74, 76, 77, 78] ig lg ig104 lg31 := by rw [eig104]; exact hF.pi (by decide)
              have hI : IM τ φ none B kd ig104 rg := by rw [eig104]; exact hI.pdr2 (Or.inl rfl) nW2 q4
              have wf : WFr B ig104 288 := by rw [eig104, nw2]; exact WFr.uA wf k3b (by omega) fB
              have hwp : WP B ig104 288 := fun _ => wf
              have nd : NDr B ig11 ig104 := by rw [eig104]; exact nd.wr (Or.inr (Or.inr ⟨by decide, by decide, by omega, by omega⟩))
              have hfl : RowF B ig104 288 (x.toInt.toNat : Int) ((fmO (atC σ x.toInt)).set l9 (2, (stp (fmO (atC σ x.toInt)) (l9 : Int)).2.1, (stp (fmO (atC σ x.toInt)) (l9 : Int)).2.2 + (128 * 1 + 1))) := by rw [eig104, eig95]; exact RowF.longer (n := n) (hR1.2.2.1 hk2) (by omega) (by rw [emr]; exact smt) rfl k34 (by rw [f7, f4.2.1, f4.2.2]; exact pw4.1) (by rw [f7]; exact pw4.2) nw nw2 (by omega) (by omega)
              have hux := hW.uz (x := x.toInt) (by omega)
              have hD : RowM B ig104 288 (x.toInt.toNat : Int) (fCl (stL (fmO (atC σ x.toInt)) (l9 : Int) (128 * 1 + 1))) := ⟨⟨by rw [eig104, up2_c (by decide), eig95, up2_c (by decide), hR1.1.1, hk2]; rfl, by rw [eig104, up2_c (by decide), eig95, up2_c (by decide), hR1.1.2, hux.2]; rfl⟩, by unfold RowU; rw [eig104, up2_c (by decide), up2_c (by decide), up2_c (by decide), eig95, up2_c (by decide), up2_c (by decide), up2_c (by decide)]; have q := hR1.2.1; rw [hux.1] at q; exact q, fun _ => by show RowF B _ 288 _ (stL _ _ _); rw [stL_eq smt.2.1]; exact hfl, fun w => absurd rfl w⟩
              have hM := hM9.dr hI0.i120 nd (fun j => by rw [eig104, up2_c (by decide), eig95, up2_c (by decide)]; exact h63 j) (by rw [eig104, up2_c (by decide), eig95, up2_c (by decide)]; exact h19)
              have hU : FXm B σ ig104 lg31 := by rw [eig104]; exact hU.wr (by decide)
              refine lv_aload_n hx hb dX12_stretch_143 rfl (lv_at hl 2 rfl) ?_
              have hI := hI.su (f := (ig104 (B + 49) 19).toInt) rfl
              refine r_callV (As := []) (rest := []) C hw (t_X12_remembersE l B D cA kd ig104 rg lg31 _   hI) sv_X12_342 (hsh 49 _ rfl) rfl hl.1 rfl (Nat.le_of_ble_eq_true rfl) ⟨Nat.le_of_ble_eq_true rfl, Nat.le_of_ble_eq_true rfl⟩ ⟨Nat.le_of_ble_eq_true rfl, Nat.le_of_ble_eq_true rfl⟩ dX12_stretch_144 (fun r109 kd105 ig106 rg107 lg108 H locs hw hH hp110 => ?_)
              obtain ⟨rfl, rfl, hI, hchp110, hrhp110⟩ := hp110
              have hF : Ft B [49, 54, 55, 56, 57, 58, 59, 60, 61, 63, 64, 65, 66, 67, 68, 69, 70, 71, 72, 73, 74, 76, 77, 78] ig lg ig106 lg108 := Ft.tr hF hchp110 (by decide) (by decide)
              obtain ⟨rfl, hvhp110⟩ := hrhp110
              have v09 := hU.1.2
              have rm9 := hvhp110
              have e19 := hI.u
              have hI := hI.nu
              have hM := hM.ft hchp110 (by decide) e19
              have hwp : WP B ig106 288 := WP.ft hwp hchp110 (by decide) (by decide) (by decide) (by decide) (by decide)
              have hD := hD.ft hchp110 (by decide)
              refine lv_aload_n hx hb dX12_stretch_147 rfl (lv_at hl 2 rfl) ?_
              refine lv_iload_n hx hb dX12_stretch_148 rfl (lv_at hl 3 rfl) ?_
              have hst9 : stT σ π x.toInt (upS σ x.toInt.toNat (fCl (stL (fmO (atC σ x.toInt)) (l9 : Int) (128 * 1 + 1)))) (pput π x.toInt.toNat (σ x.toInt.toNat)) y.toInt := (by exfalso; omega)
              refine r_callV (As := [.int x]) (rest := []) C hw (t_X12_putsX l B D cA kd ig106 rg lg108 _ x (by omega) hwp σ π hM _ hD _ (hW.stT hst9) hI) sv_X12_207 (hsh 49 _ rfl) rfl hl.1 rfl (Nat.le_of_ble_eq_true rfl) ⟨Nat.le_of_ble_eq_true rfl, Nat.le_of_ble_eq_true rfl⟩ ⟨Nat.le_of_ble_eq_true rfl, Nat.le_of_ble_eq_true rfl⟩ dX12_stretch_149 (fun r115 kd111 ig112 rg113 lg114 H locs hw hH hp116 => ?_)
              obtain ⟨rfl, rfl, hI, hchp116, hrhp116⟩ := hp116
              have hF : Ft B [49, 54, 55, 56, 57, 58, 59, 60, 61, 63, 64, 65, 66, 67, 68, 69, 70, 71, 72, 73, 74, 76, 77, 78] ig lg ig112 lg114 := Ft.tr hF hchp116 (by decide) (by decide)
              obtain ⟨rfl, hvhp116⟩ := hrhp116
              obtain ⟨hM, hU⟩ := hvhp116
              have rm9 := rm9.ft hchp116
              refine lv_aload_n hx hb dX12_stretch_152 rfl (lv_at hl 2 rfl) ?_
              have hI := hI.su (f := (ig112 (B + 49) 19).toInt) rfl
              refine r_callV (As := []) (rest := []) C hw (t_X12_tellsE l B D cA kd ig112 rg lg114 _   hI) sv_X12_345 (hsh 49 _ rfl) rfl hl.1 rfl (Nat.le_of_ble_eq_true rfl) ⟨Nat.le_of_ble_eq_true rfl, Nat.le_of_ble_eq_true rfl⟩ ⟨Nat.le_of_ble_eq_true rfl, Nat.le_of_ble_eq_true rfl⟩ dX12_stretch_153 (fun r121 kd117 ig118 rg119 lg120 H locs hw hH hp122 => ?_)
              obtain ⟨rfl, rfl, hI, hchp122, hrhp122⟩ := hp122
              have hF : Ft B [49, 54, 55, 56, 57, 58, 59, 60, 61, 63, 64, 65, 66, 67, 68, 69, 70, 71, 72, 73, 74, 76, 77, 78] ig lg ig118 lg120 := Ft.tr hF hchp122 (by decide) (by decide)
              obtain ⟨z123, rfl, hz123⟩ := hrhp122
              have ch9 := RmR.ch v09 rm9 hU.1.2 hz123
              have e19 := hI.u
              have hI := hI.nu
              have hM := hM.ft hchp122 (by decide) e19
              have hU := hU.ft hchp122 (by decide)
              exact r_iret C hw hr hlk rfl (Nat.le_of_ble_eq_true rfl) (Nat.le_of_ble_eq_true rfl) dX12_stretch_156 ⟨rfl, rfl, hI, hF, ⟨_, rfl, (by exfalso; omega)⟩⟩
            · refine lv_iconst (v := 0) hx hb dX12_stretch_136 (by decide) (ti_c 0 (by decide) fun z124 hz124 => ?_)
              refine lv_goto (tgt := 141) hx hb dX12_stretch_137 (by decide) ?_
              refine lv_iadd hx hb dX12_stretch_141 (tc_add fun z125 hz125 => ?_)
              first | replace hz125 := hz125 (by omega) | clear hz125
              refine r_iast C hw (hsh 55 _ rfl) (by omega) (by omega) dX12_stretch_142 (fun H locs hH hw => ?_)
              obtain ⟨ig126, eig126⟩ : ∃ f, f = up2 ig95 (B + 55) z99.toInt.toNat z125 := ⟨_, rfl⟩
              rw [← eig126] at hw
              have hF : Ft B [49, 54, 55, 56, 57, 58, 59, 60, 61, 63, 64, 65, 66, 67, 68, 69, 70, 71, 72, 73, 74, 76, 77, 78] ig lg ig126 lg31 := by rw [eig126]; exact hF.pi (by decide)
              have hI : IM τ φ none B kd ig126 rg := by rw [eig126]; exact hI.pdr2 (Or.inl rfl) nW2 q4
              have wf : WFr B ig126 288 := by rw [eig126, nw2]; exact WFr.uA wf k3b (by omega) fB
              have hwp : WP B ig126 288 := fun _ => wf
              have nd : NDr B ig11 ig126 := by rw [eig126]; exact nd.wr (Or.inr (Or.inr ⟨by decide, by decide, by omega, by omega⟩))
              have hfl : RowF B ig126 288 (x.toInt.toNat : Int) ((fmO (atC σ x.toInt)).set l9 (2, (stp (fmO (atC σ x.toInt)) (l9 : Int)).2.1, (stp (fmO (atC σ x.toInt)) (l9 : Int)).2.2 + (128 * 0 + 1))) := by rw [eig126, eig95]; exact RowF.longer (n := n) (hR1.2.2.1 hk2) (by omega) (by rw [emr]; exact smt) rfl k34 (by rw [f7, f4.2.1, f4.2.2]; exact pw4.1) (by rw [f7]; exact pw4.2) nw nw2 (by omega) (by omega)
              have hux := hW.uz (x := x.toInt) (by omega)
              have hD : RowM B ig126 288 (x.toInt.toNat : Int) (fCl (stL (fmO (atC σ x.toInt)) (l9 : Int) (128 * 0 + 1))) := ⟨⟨by rw [eig126, up2_c (by decide), eig95, up2_c (by decide), hR1.1.1, hk2]; rfl, by rw [eig126, up2_c (by decide), eig95, up2_c (by decide), hR1.1.2, hux.2]; rfl⟩, by unfold RowU; rw [eig126, up2_c (by decide), up2_c (by decide), up2_c (by decide), eig95, up2_c (by decide), up2_c (by decide), up2_c (by decide)]; have q := hR1.2.1; rw [hux.1] at q; exact q, fun _ => by show RowF B _ 288 _ (stL _ _ _); rw [stL_eq smt.2.1]; exact hfl, fun w => absurd rfl w⟩
              have hM := hM9.dr hI0.i120 nd (fun j => by rw [eig126, up2_c (by decide), eig95, up2_c (by decide)]; exact h63 j) (by rw [eig126, up2_c (by decide), eig95, up2_c (by decide)]; exact h19)
              have hU : FXm B σ ig126 lg31 := by rw [eig126]; exact hU.wr (by decide)
              refine lv_aload_n hx hb dX12_stretch_143 rfl (lv_at hl 2 rfl) ?_
              have hI := hI.su (f := (ig126 (B + 49) 19).toInt) rfl
              refine r_callV (As := []) (rest := []) C hw (t_X12_remembersE l B D cA kd ig126 rg lg31 _   hI) sv_X12_342 (hsh 49 _ rfl) rfl hl.1 rfl (Nat.le_of_ble_eq_true rfl) ⟨Nat.le_of_ble_eq_true rfl, Nat.le_of_ble_eq_true rfl⟩ ⟨Nat.le_of_ble_eq_true rfl, Nat.le_of_ble_eq_true rfl⟩ dX12_stretch_144 (fun r131 kd127 ig128 rg129 lg130 H locs hw hH hp132 => ?_)
              obtain ⟨rfl, rfl, hI, hchp132, hrhp132⟩ := hp132
              have hF : Ft B [49, 54, 55, 56, 57, 58, 59, 60, 61, 63, 64, 65, 66, 67, 68, 69, 70, 71, 72, 73, 74, 76, 77, 78] ig lg ig128 lg130 := Ft.tr hF hchp132 (by decide) (by decide)
              obtain ⟨rfl, hvhp132⟩ := hrhp132
              have v09 := hU.1.2
              have rm9 := hvhp132
              have e19 := hI.u
              have hI := hI.nu
              have hM := hM.ft hchp132 (by decide) e19
              have hwp : WP B ig128 288 := WP.ft hwp hchp132 (by decide) (by decide) (by decide) (by decide) (by decide)
              have hD := hD.ft hchp132 (by decide)
              refine lv_aload_n hx hb dX12_stretch_147 rfl (lv_at hl 2 rfl) ?_
              refine lv_iload_n hx hb dX12_stretch_148 rfl (lv_at hl 3 rfl) ?_
              have hst9 : stT σ π x.toInt (upS σ x.toInt.toNat (fCl (stL (fmO (atC σ x.toInt)) (l9 : Int) (128 * 0 + 1)))) (pput π x.toInt.toNat (σ x.toInt.toNat)) y.toInt := (by exfalso; omega)
              refine r_callV (As := [.int x]) (rest := []) C hw (t_X12_putsX l B D cA kd ig128 rg lg130 _ x (by omega) hwp σ π hM _ hD _ (hW.stT hst9) hI) sv_X12_207 (hsh 49 _ rfl) rfl hl.1 rfl (Nat.le_of_ble_eq_true rfl) ⟨Nat.le_of_ble_eq_true rfl, Nat.le_of_ble_eq_true rfl⟩ ⟨Nat.le_of_ble_eq_true rfl, Nat.le_of_ble_eq_true rfl⟩ dX12_stretch_149 (fun r137 kd133 ig134 rg135 lg136 H locs hw hH hp138 => ?_)
              obtain ⟨rfl, rfl, hI, hchp138, hrhp138⟩ := hp138
              have hF : Ft B [49, 54, 55, 56, 57, 58, 59, 60, 61, 63, 64, 65, 66, 67, 68, 69, 70, 71, 72, 73, 74, 76, 77, 78] ig lg ig134 lg136 := Ft.tr hF hchp138 (by decide) (by decide)
              obtain ⟨rfl, hvhp138⟩ := hrhp138
              obtain ⟨hM, hU⟩ := hvhp138
              have rm9 := rm9.ft hchp138
              refine lv_aload_n hx hb dX12_stretch_152 rfl (lv_at hl 2 rfl) ?_
              have hI := hI.su (f := (ig134 (B + 49) 19).toInt) rfl
              refine r_callV (As := []) (rest := []) C hw (t_X12_tellsE l B D cA kd ig134 rg lg136 _   hI) sv_X12_345 (hsh 49 _ rfl) rfl hl.1 rfl (Nat.le_of_ble_eq_true rfl) ⟨Nat.le_of_ble_eq_true rfl, Nat.le_of_ble_eq_true rfl⟩ ⟨Nat.le_of_ble_eq_true rfl, Nat.le_of_ble_eq_true rfl⟩ dX12_stretch_153 (fun r143 kd139 ig140 rg141 lg142 H locs hw hH hp144 => ?_)
              obtain ⟨rfl, rfl, hI, hchp144, hrhp144⟩ := hp144
              have hF : Ft B [49, 54, 55, 56, 57, 58, 59, 60, 61, 63, 64, 65, 66, 67, 68, 69, 70, 71, 72, 73, 74, 76, 77, 78] ig lg ig140 lg142 := Ft.tr hF hchp144 (by decide) (by decide)
              obtain ⟨z145, rfl, hz145⟩ := hrhp144
              have ch9 := RmR.ch v09 rm9 hU.1.2 hz145
              have e19 := hI.u
              have hI := hI.nu
              have hM := hM.ft hchp144 (by decide) e19
              have hU := hU.ft hchp144 (by decide)
              exact r_iret C hw hr hlk rfl (Nat.le_of_ble_eq_true rfl) (Nat.le_of_ble_eq_true rfl) dX12_stretch_156 ⟨rfl, rfl, hI, hF, ⟨_, rfl, (by exfalso; omega)⟩⟩
        · refine lv_aload_n hx hb dX12_stretch_68 rfl (lv_at hl 2 rfl) ?_
          refine lv_iload_n hx hb dX12_stretch_69 rfl (lv_at hl 3 rfl) ?_
          refine lv_bipush (v := 120) hx hb dX12_stretch_70 (by decide) (ti_c 120 (by decide) fun z146 hz146 => ?_)
          refine lv_iload_n hx hb dX12_stretch_72 rfl (lv_at hl 3 rfl) ?_
          refine lv_imul hx hb dX12_stretch_73 (tc_mulL 120 hz146 fun z147 hz147 => ?_)
          first | replace hz147 := hz147 (by omega) | clear hz147
          refine lv_iload_n hx hb dX12_stretch_74 rfl (lv_at hl 1 rfl) ?_
          refine lv_iadd hx hb dX12_stretch_75 (tc_add fun z148 hz148 => ?_)
          first | replace hz148 := hz148 (by omega) | clear hz148
          refine lv_iconst (v := 2) hx hb dX12_stretch_76 (by decide) (ti_c 2 (by decide) fun z149 hz149 => ?_)
          refine lv_iadd hx hb dX12_stretch_77 (tc_add fun z150 hz150 => ?_)
          first | replace hz150 := hz150 (by omega) | clear hz150
          refine lv_iconst (v := 0) hx hb dX12_stretch_78 (by decide) (ti_c 0 (by decide) fun z151 hz151 => ?_)
          refine r_callV (As := [.int x, .int z150, .int z151]) (rest := []) C hw (t_X12_shortByE l B D cA kd ig11 rg lg12 _ x z150 z151 (by omega) (by omega) (by omega) (by rw [show z150.toInt.toNat + 2 = (120 * x.toInt.toNat + (j + 2)) + 2 by omega]; exact rg4) σ π hM hU.1.1 hI) sv_X12_320 (hsh 49 _ rfl) rfl hl.1 rfl (Nat.le_of_ble_eq_true rfl) ⟨Nat.le_of_ble_eq_true rfl, Nat.le_of_ble_eq_true rfl⟩ ⟨Nat.le_of_ble_eq_true rfl, Nat.le_of_ble_eq_true rfl⟩ dX12_stretch_79 (fun r156 kd152 ig153 rg154 lg155 H locs hw hH hp157 => ?_)
          obtain ⟨rfl, rfl, rfl, rfl, hzhp157, hrhp157⟩ := hp157
          obtain ⟨z158, rfl, hz158⟩ := hrhp157
          rw [show z150.toInt.toNat = 120 * x.toInt.toNat + (j + 2) by omega] at hz158
          have sr9 := sh_x (hz158.2 (by omega)) (by omega)
          replace sr9 : hid _ := sr9
          refine z_ge (tgt := 87) hx hb dX12_stretch_82 (by decide) (fun c82 => ?_) (fun c82 => ?_)
          · have qd := ((show (_ → _) ∧ (_ → ¬ _) from sr9).1 (by omega)).2.1
            refine lv_aload_n hx hb dX12_stretch_87 rfl (lv_at hl 2 rfl) ?_
            refine lv_iload_n hx hb dX12_stretch_88 rfl (lv_at hl 3 rfl) ?_
            refine lv_sipush (v := 288) hx hb dX12_stretch_89 (by decide) (ti_c 288 (by decide) fun z159 hz159 => ?_)
            refine r_callV (As := [.int x, .int z159]) (rest := []) C hw (t_X12_copyRowE l B D cA kd ig11 rg lg12 _ x z159 (by omega) (by omega) (i32_ne (by omega)) (hI.wp (by omega) (by omega)) hI) sv_X12_191 (hsh 49 _ rfl) rfl hl.1 rfl (Nat.le_of_ble_eq_true rfl) ⟨Nat.le_of_ble_eq_true rfl, Nat.le_of_ble_eq_true rfl⟩ ⟨Nat.le_of_ble_eq_true rfl, Nat.le_of_ble_eq_true rfl⟩ dX12_stretch_92 (fun r164 kd160 ig161 rg162 lg163 H locs hw hH hp165 => ?_)
            obtain ⟨rfl, rfl, hI, hchp165, hrhp165⟩ := hp165
            have hF : Ft B [49, 54, 55, 56, 57, 58, 59, 60, 61, 63, 64, 65, 66, 67, 68, 69, 70, 71, 72, 73, 74, 76, 77, 78] ig lg ig161 lg163 := Ft.tr hF hchp165 (by decide) (by decide)
            obtain ⟨rfl, hvhp165⟩ := hrhp165
            have hcx := CRx.toY (y := 288) hvhp165 (by omega)
            have hcr := hcx.1
            have nd : NDr B ig11 ig161 := NDr.cr hcx
            have h63 : ∀ j, ig161 (B + 63) j = ig11 (B + 63) j := fun j => hchp165.i 63 j (by decide)
            have h19 := congrArg Int32.toInt (hchp165.i 49 19 (by decide))
            have hR1 := hcx.row hrow
            have wf : WFr B ig161 288 := (hI0.row (p := x.toInt.toNat) (by omega) (by omega) hkd).copy hcr
            have f4 := CRw.f4 (q := j + 4) hcr (by omega)
            have f7 := congrArg Int32.toInt (hcr.2.2.2.1 57 (j + 4) (by decide) (by decide) (by omega))
            rw [show 120 * x.toInt.toNat + (j + 4) = (120 * x.toInt.toNat + (j + 2)) + 2 by omega] at f4 f7
            have f7 : (ig161 (B + 57) (34560 + (j + 4))).toInt = (ig11 (B + 57) (120 * x.toInt.toNat + (j + 2) + 2)).toInt := f7
            have q4 : j + 4 < 120 := by omega
            have emr : mR B ig161 (x.toInt.toNat : Int) 288 = mR B ig11 (x.toInt.toNat : Int) x.toInt.toNat := mR.ag hcr.2.1 (fun c k a b hk => hcr.2.2.2.1 c k a b hk)
            have k34 : (ig161 (B + 54) (34560 + (j + 4))).toInt = 3 := by rw [f4.1]; exact r4.1
            have e58 := congrArg Int32.toInt hcr.2.1
            have pw4 := r4.2.2.2.2
            have hU := hU.ft hchp165 (by decide)
            refine lv_aload_n hx hb dX12_stretch_95 rfl (lv_at hl 2 rfl) ?_
            refine r_get C hw (hsh 49 _ rfl) fl_X12_71 (oV_r rfl (hrm (49, 11, 56) (by decide))) dX12_stretch_96 ?_
            refine lv_ldc (v := 34560) hx hb hown (hts _ kc_X12_142) dX12_stretch_99 (ti_c 34560 (by decide) fun z166 hz166 => ?_)
            refine lv_iload_n hx hb dX12_stretch_101 rfl (lv_at hl 1 rfl) ?_
            refine lv_iadd hx hb dX12_stretch_102 (tc_add fun z167 hz167 => ?_)
            first | replace hz167 := hz167 (by omega) | clear hz167
            refine lv_iconst (v := 4) hx hb dX12_stretch_103 (by decide) (ti_c 4 (by decide) fun z168 hz168 => ?_)
            refine lv_iadd hx hb dX12_stretch_104 (tc_add fun z169 hz169 => ?_)
            first | replace hz169 := hz169 (by omega) | clear hz169
            refine lv_dup2_11 hx hb dX12_stretch_105 rfl rfl ?_
            have nw : z169.toInt.toNat = 34560 + (j + 4) := by omega
            have nW : nEq z169.toInt.toNat (34560 + (j + 4)) := nw
            refine r_iald C hw (hsh 56 _ rfl) (by omega) (by omega) dX12_stretch_106 (ti_c (ig161 (B + 56) z169.toInt.toNat).toInt rfl fun z170 hz170 => ?_)
            rw [nw] at hz170
            refine lv_iload hx hb dX12_stretch_107 (lv_at hl 0 rfl) ?_
            refine z_eq (tgt := 116) hx hb dX12_stretch_109 (by decide) (fun c109 => ?_) (fun c109 => ?_)
            · refine lv_iconst (v := 0) hx hb dX12_stretch_116 (by decide) (ti_c 0 (by decide) fun z172 hz172 => ?_)
              refine lv_iadd hx hb dX12_stretch_117 (tc_add fun z173 hz173 => ?_)
              first | replace hz173 := hz173 (by omega) | clear hz173
              refine r_iast C hw (hsh 56 _ rfl) (by omega) (by omega) dX12_stretch_118 (fun H locs hH hw => ?_)
              obtain ⟨ig174, eig174⟩ : ∃ f, f = up2 ig161 (B + 56) z169.toInt.toNat z173 := ⟨_, rfl⟩
              rw [← eig174] at hw
              have hF : Ft B [49, 54, 55, 56, 57, 58, 59, 60, 61, 63, 64, 65, 66, 67, 68, 69, 70, 71, 72, 73, 74, 76, 77, 78] ig lg ig174 lg163 := by rw [eig174]; exact hF.pi (by decide)
              have hI : IM τ φ none B kd ig174 rg := by rw [eig174]; exact hI.pdr2 (Or.inr rfl) nW q4
              have wf : WFr B ig174 288 := by rw [eig174, nw]; exact WFr.uB wf k34 (by omega) (by omega)
              have k3b : (ig174 (B + 54) (34560 + (j + 4))).toInt = 3 := by rw [eig174, up2_c (by decide)]; exact k34
              have fA : (ig174 (B + 55) (34560 + (j + 4))).toInt = (ig161 (B + 55) (34560 + (j + 4))).toInt := by rw [eig174, up2_c (by decide)]
              have fB : 0 ≤ (ig174 (B + 56) (34560 + (j + 4))).toInt ∧ (ig174 (B + 56) (34560 + (j + 4))).toInt < 24 := by rw [eig174, nw, up2_eq]; omega
              have nd : NDr B ig11 ig174 := by rw [eig174]; exact nd.wr (Or.inr (Or.inr ⟨by decide, by decide, by omega, by omega⟩))
              have hU : FXm B σ ig174 lg163 := by rw [eig174]; exact hU.wr (by decide)
              refine lv_aload_n hx hb dX12_stretch_119 rfl (lv_at hl 2 rfl) ?_
              refine r_get C hw (hsh 49 _ rfl) fl_X12_68 (oV_r rfl (hrm (49, 10, 55) (by decide))) dX12_stretch_120 ?_
              refine lv_ldc (v := 34560) hx hb hown (hts _ kc_X12_142) dX12_stretch_123 (ti_c 34560 (by decide) fun z175 hz175 => ?_)
              refine lv_iload_n hx hb dX12_stretch_125 rfl (lv_at hl 1 rfl) ?_
              refine lv_iadd hx hb dX12_stretch_126 (tc_add fun z176 hz176 => ?_)
              first | replace hz176 := hz176 (by omega) | clear hz176
              refine lv_iconst (v := 4) hx hb dX12_stretch_127 (by decide) (ti_c 4 (by decide) fun z177 hz177 => ?_)
              refine lv_iadd hx hb dX12_stretch_128 (tc_add fun z178 hz178 => ?_)
              first | replace hz178 := hz178 (by omega) | clear hz178
              refine lv_dup2_11 hx hb dX12_stretch_129 rfl rfl ?_
              have nw2 : z178.toInt.toNat = 34560 + (j + 4) := by omega
              have nW2 : nEq z178.toInt.toNat (34560 + (j + 4)) := nw2
              refine r_iald C hw (hsh 55 _ rfl) (by omega) (by omega) dX12_stretch_130 (ti_c (ig174 (B + 55) z178.toInt.toNat).toInt rfl fun z179 hz179 => ?_)
              rw [nw2] at hz179
              refine lv_iload hx hb dX12_stretch_131 (lv_at hl 0 rfl) ?_
              refine z_eq (tgt := 140) hx hb dX12_stretch_133 (by decide) (fun c133 => ?_) (fun c133 => ?_)
              · refine lv_iconst (v := 1) hx hb dX12_stretch_140 (by decide) (ti_c 1 (by decide) fun z181 hz181 => ?_)
                refine lv_iadd hx hb dX12_stretch_141 (tc_add fun z182 hz182 => ?_)
                first | replace hz182 := hz182 (by omega) | clear hz182
                refine r_iast C hw (hsh 55 _ rfl) (by omega) (by omega) dX12_stretch_142 (fun H locs hH hw => ?_)
                obtain ⟨ig183, eig183⟩ : ∃ f, f = up2 ig174 (B + 55) z178.toInt.toNat z182 := ⟨_, rfl⟩
                rw [← eig183] at hw
                have hF : Ft B [49, 54, 55, 56, 57, 58, 59, 60, 61, 63, 64, 65, 66, 67, 68, 69, 70, 71, 72, 73, 74, 76, 77, 78] ig lg ig183 lg163 := by rw [eig183]; exact hF.pi (by decide)
                have hI : IM τ φ none B kd ig183 rg := by rw [eig183]; exact hI.pdr2 (Or.inl rfl) nW2 q4
                have wf : WFr B ig183 288 := by rw [eig183, nw2]; exact WFr.uA wf k3b (by omega) fB
                have hwp : WP B ig183 288 := fun _ => wf
                have nd : NDr B ig11 ig183 := by rw [eig183]; exact nd.wr (Or.inr (Or.inr ⟨by decide, by decide, by omega, by omega⟩))
                have hfl : RowF B ig183 288 (x.toInt.toNat : Int) ((fmO (atC σ x.toInt)).set l9 (2, (stp (fmO (atC σ x.toInt)) (l9 : Int)).2.1, (stp (fmO (atC σ x.toInt)) (l9 : Int)).2.2 + (128 * 1 + 0))) := by rw [eig183, eig174]; exact RowF.longer (n := n) (hR1.2.2.1 hk2) (by omega) (by rw [emr]; exact smt) rfl k34 (by rw [f7, f4.2.1, f4.2.2]; exact pw4.1) (by rw [f7]; exact pw4.2) nw nw2 (by omega) (by omega)
                have hux := hW.uz (x := x.toInt) (by omega)
                have hD : RowM B ig183 288 (x.toInt.toNat : Int) (fCl (stL (fmO (atC σ x.toInt)) (l9 : Int) (128 * 1 + 0))) := ⟨⟨by rw [eig183, up2_c (by decide), eig174, up2_c (by decide), hR1.1.1, hk2]; rfl, by rw [eig183, up2_c (by decide), eig174, up2_c (by decide), hR1.1.2, hux.2]; rfl⟩, by unfold RowU; rw [eig183, up2_c (by decide), up2_c (by decide), up2_c (by decide), eig174, up2_c (by decide), up2_c (by decide), up2_c (by decide)]; have q := hR1.2.1; rw [hux.1] at q; exact q, fun _ => by show RowF B _ 288 _ (stL _ _ _); rw [stL_eq smt.2.1]; exact hfl, fun w => absurd rfl w⟩
                have hM := hM9.dr hI0.i120 nd (fun j => by rw [eig183, up2_c (by decide), eig174, up2_c (by decide)]; exact h63 j) (by rw [eig183, up2_c (by decide), eig174, up2_c (by decide)]; exact h19)
                have hU : FXm B σ ig183 lg163 := by rw [eig183]; exact hU.wr (by decide)
                refine lv_aload_n hx hb dX12_stretch_143 rfl (lv_at hl 2 rfl) ?_
                have hI := hI.su (f := (ig183 (B + 49) 19).toInt) rfl
                refine r_callV (As := []) (rest := []) C hw (t_X12_remembersE l B D cA kd ig183 rg lg163 _   hI) sv_X12_342 (hsh 49 _ rfl) rfl hl.1 rfl (Nat.le_of_ble_eq_true rfl) ⟨Nat.le_of_ble_eq_true rfl, Nat.le_of_ble_eq_true rfl⟩ ⟨Nat.le_of_ble_eq_true rfl, Nat.le_of_ble_eq_true rfl⟩ dX12_stretch_144 (fun r188 kd184 ig185 rg186 lg187 H locs hw hH hp189 => ?_)
                obtain ⟨rfl, rfl, hI, hchp189, hrhp189⟩ := hp189
                have hF : Ft B [49, 54, 55, 56, 57, 58, 59, 60, 61, 63, 64, 65, 66, 67, 68, 69, 70, 71, 72, 73, 74, 76, 77, 78] ig lg ig185 lg187 := Ft.tr hF hchp189 (by decide) (by decide)
                obtain ⟨rfl, hvhp189⟩ := hrhp189
                have v09 := hU.1.2
                have rm9 := hvhp189
                have e19 := hI.u
                have hI := hI.nu
                have hM := hM.ft hchp189 (by decide) e19
                have hwp : WP B ig185 288 := WP.ft hwp hchp189 (by decide) (by decide) (by decide) (by decide) (by decide)
                have hD := hD.ft hchp189 (by decide)
                refine lv_aload_n hx hb dX12_stretch_147 rfl (lv_at hl 2 rfl) ?_
                refine lv_iload_n hx hb dX12_stretch_148 rfl (lv_at hl 3 rfl) ?_
                have hst9 : stT σ π x.toInt (upS σ x.toInt.toNat (fCl (stL (fmO (atC σ x.toInt)) (l9 : Int) (128 * 1 + 0)))) (pput π x.toInt.toNat (σ x.toInt.toNat)) y.toInt := ⟨some (stL (fmO (atC σ x.toInt)) (l9 : Int) (128 * 1 + 0)), Or.inr ⟨hk2, _, (l9 : Int), hU9.far, hsl, Or.inr (Or.inl ⟨fun w => (show (_ → _) ∧ (_ → ¬ _) from sd9).2 (by omega) (Iff.mp iB w), Iff.mpr iR ((show (_ → _) ∧ (_ → ¬ _) from sr9).1 (by omega)), rfl⟩)⟩, Or.inr ⟨_, rfl, rfl, rfl⟩⟩
                refine r_callV (As := [.int x]) (rest := []) C hw (t_X12_putsX l B D cA kd ig185 rg lg187 _ x (by omega) hwp σ π hM _ hD _ (hW.stT hst9) hI) sv_X12_207 (hsh 49 _ rfl) rfl hl.1 rfl (Nat.le_of_ble_eq_true rfl) ⟨Nat.le_of_ble_eq_true rfl, Nat.le_of_ble_eq_true rfl⟩ ⟨Nat.le_of_ble_eq_true rfl, Nat.le_of_ble_eq_true rfl⟩ dX12_stretch_149 (fun r194 kd190 ig191 rg192 lg193 H locs hw hH hp195 => ?_)
                obtain ⟨rfl, rfl, hI, hchp195, hrhp195⟩ := hp195
                have hF : Ft B [49, 54, 55, 56, 57, 58, 59, 60, 61, 63, 64, 65, 66, 67, 68, 69, 70, 71, 72, 73, 74, 76, 77, 78] ig lg ig191 lg193 := Ft.tr hF hchp195 (by decide) (by decide)
                obtain ⟨rfl, hvhp195⟩ := hrhp195
                obtain ⟨hM, hU⟩ := hvhp195
                have rm9 := rm9.ft hchp195
                refine lv_aload_n hx hb dX12_stretch_152 rfl (lv_at hl 2 rfl) ?_
                have hI := hI.su (f := (ig191 (B + 49) 19).toInt) rfl
                refine r_callV (As := []) (rest := []) C hw (t_X12_tellsE l B D cA kd ig191 rg lg193 _   hI) sv_X12_345 (hsh 49 _ rfl) rfl hl.1 rfl (Nat.le_of_ble_eq_true rfl) ⟨Nat.le_of_ble_eq_true rfl, Nat.le_of_ble_eq_true rfl⟩ ⟨Nat.le_of_ble_eq_true rfl, Nat.le_of_ble_eq_true rfl⟩ dX12_stretch_153 (fun r200 kd196 ig197 rg198 lg199 H locs hw hH hp201 => ?_)
                obtain ⟨rfl, rfl, hI, hchp201, hrhp201⟩ := hp201
                have hF : Ft B [49, 54, 55, 56, 57, 58, 59, 60, 61, 63, 64, 65, 66, 67, 68, 69, 70, 71, 72, 73, 74, 76, 77, 78] ig lg ig197 lg199 := Ft.tr hF hchp201 (by decide) (by decide)
                obtain ⟨z202, rfl, hz202⟩ := hrhp201
                have ch9 := RmR.ch v09 rm9 hU.1.2 hz202
                have e19 := hI.u
                have hI := hI.nu
                have hM := hM.ft hchp201 (by decide) e19
                have hU := hU.ft hchp201 (by decide)
                exact r_iret C hw hr hlk rfl (Nat.le_of_ble_eq_true rfl) (Nat.le_of_ble_eq_true rfl) dX12_stretch_156 ⟨rfl, rfl, hI, hF, ⟨_, rfl, ⟨_, _, hM, hU, ⟨some (stL (fmO (atC σ x.toInt)) (l9 : Int) (128 * 1 + 0)), Or.inr ⟨hk2, _, (l9 : Int), hU9.far, hsl, Or.inr (Or.inl ⟨fun w => (show (_ → _) ∧ (_ → ¬ _) from sd9).2 (by omega) (Iff.mp iB w), Iff.mpr iR ((show (_ → _) ∧ (_ → ¬ _) from sr9).1 (by omega)), rfl⟩)⟩, Or.inr ⟨_, rfl, ⟨rfl, rfl⟩, ch9⟩⟩⟩⟩⟩
              · refine lv_iconst (v := 0) hx hb dX12_stretch_136 (by decide) (ti_c 0 (by decide) fun z203 hz203 => ?_)
                refine lv_goto (tgt := 141) hx hb dX12_stretch_137 (by decide) ?_
                refine lv_iadd hx hb dX12_stretch_141 (tc_add fun z204 hz204 => ?_)
                first | replace hz204 := hz204 (by omega) | clear hz204
                refine r_iast C hw (hsh 55 _ rfl) (by omega) (by omega) dX12_stretch_142 (fun H locs hH hw => ?_)
                obtain ⟨ig205, eig205⟩ : ∃ f, f = up2 ig174 (B + 55) z178.toInt.toNat z204 := ⟨_, rfl⟩
                rw [← eig205] at hw
                have hF : Ft B [49, 54, 55, 56, 57, 58, 59, 60, 61, 63, 64, 65, 66, 67, 68, 69, 70, 71, 72, 73, 74, 76, 77, 78] ig lg ig205 lg163 := by rw [eig205]; exact hF.pi (by decide)
                have hI : IM τ φ none B kd ig205 rg := by rw [eig205]; exact hI.pdr2 (Or.inl rfl) nW2 q4
                have wf : WFr B ig205 288 := by rw [eig205, nw2]; exact WFr.uA wf k3b (by omega) fB
                have hwp : WP B ig205 288 := fun _ => wf
                have nd : NDr B ig11 ig205 := by rw [eig205]; exact nd.wr (Or.inr (Or.inr ⟨by decide, by decide, by omega, by omega⟩))
                have hfl : RowF B ig205 288 (x.toInt.toNat : Int) ((fmO (atC σ x.toInt)).set l9 (2, (stp (fmO (atC σ x.toInt)) (l9 : Int)).2.1, (stp (fmO (atC σ x.toInt)) (l9 : Int)).2.2 + (128 * 0 + 0))) := by rw [eig205, eig174]; exact RowF.longer (n := n) (hR1.2.2.1 hk2) (by omega) (by rw [emr]; exact smt) rfl k34 (by rw [f7, f4.2.1, f4.2.2]; exact pw4.1) (by rw [f7]; exact pw4.2) nw nw2 (by omega) (by omega)
                have hux := hW.uz (x := x.toInt) (by omega)
                have hD : RowM B ig205 288 (x.toInt.toNat : Int) (fCl (stL (fmO (atC σ x.toInt)) (l9 : Int) (128 * 0 + 0))) := ⟨⟨by rw [eig205, up2_c (by decide), eig174, up2_c (by decide), hR1.1.1, hk2]; rfl, by rw [eig205, up2_c (by decide), eig174, up2_c (by decide), hR1.1.2, hux.2]; rfl⟩, by unfold RowU; rw [eig205, up2_c (by decide), up2_c (by decide), up2_c (by decide), eig174, up2_c (by decide), up2_c (by decide), up2_c (by decide)]; have q := hR1.2.1; rw [hux.1] at q; exact q, fun _ => by show RowF B _ 288 _ (stL _ _ _); rw [stL_eq smt.2.1]; exact hfl, fun w => absurd rfl w⟩
                have hM := hM9.dr hI0.i120 nd (fun j => by rw [eig205, up2_c (by decide), eig174, up2_c (by decide)]; exact h63 j) (by rw [eig205, up2_c (by decide), eig174, up2_c (by decide)]; exact h19)
                have hU : FXm B σ ig205 lg163 := by rw [eig205]; exact hU.wr (by decide)
                refine lv_aload_n hx hb dX12_stretch_143 rfl (lv_at hl 2 rfl) ?_
                have hI := hI.su (f := (ig205 (B + 49) 19).toInt) rfl
                refine r_callV (As := []) (rest := []) C hw (t_X12_remembersE l B D cA kd ig205 rg lg163 _   hI) sv_X12_342 (hsh 49 _ rfl) rfl hl.1 rfl (Nat.le_of_ble_eq_true rfl) ⟨Nat.le_of_ble_eq_true rfl, Nat.le_of_ble_eq_true rfl⟩ ⟨Nat.le_of_ble_eq_true rfl, Nat.le_of_ble_eq_true rfl⟩ dX12_stretch_144 (fun r210 kd206 ig207 rg208 lg209 H locs hw hH hp211 => ?_)
                obtain ⟨rfl, rfl, hI, hchp211, hrhp211⟩ := hp211
                have hF : Ft B [49, 54, 55, 56, 57, 58, 59, 60, 61, 63, 64, 65, 66, 67, 68, 69, 70, 71, 72, 73, 74, 76, 77, 78] ig lg ig207 lg209 := Ft.tr hF hchp211 (by decide) (by decide)
                obtain ⟨rfl, hvhp211⟩ := hrhp211
                have v09 := hU.1.2
                have rm9 := hvhp211
                have e19 := hI.u
                have hI := hI.nu
                have hM := hM.ft hchp211 (by decide) e19
                have hwp : WP B ig207 288 := WP.ft hwp hchp211 (by decide) (by decide) (by decide) (by decide) (by decide)
                have hD := hD.ft hchp211 (by decide)
                refine lv_aload_n hx hb dX12_stretch_147 rfl (lv_at hl 2 rfl) ?_
                refine lv_iload_n hx hb dX12_stretch_148 rfl (lv_at hl 3 rfl) ?_
                have hst9 : stT σ π x.toInt (upS σ x.toInt.toNat (fCl (stL (fmO (atC σ x.toInt)) (l9 : Int) (128 * 0 + 0)))) (pput π x.toInt.toNat (σ x.toInt.toNat)) y.toInt := (by exfalso; omega)
                refine r_callV (As := [.int x]) (rest := []) C hw (t_X12_putsX l B D cA kd ig207 rg lg209 _ x (by omega) hwp σ π hM _ hD _ (hW.stT hst9) hI) sv_X12_207 (hsh 49 _ rfl) rfl hl.1 rfl (Nat.le_of_ble_eq_true rfl) ⟨Nat.le_of_ble_eq_true rfl, Nat.le_of_ble_eq_true rfl⟩ ⟨Nat.le_of_ble_eq_true rfl, Nat.le_of_ble_eq_true rfl⟩ dX12_stretch_149 (fun r216 kd212 ig213 rg214 lg215 H locs hw hH hp217 => ?_)
                obtain ⟨rfl, rfl, hI, hchp217, hrhp217⟩ := hp217
                have hF : Ft B [49, 54, 55, 56, 57, 58, 59, 60, 61, 63, 64, 65, 66, 67, 68, 69, 70, 71, 72, 73, 74, 76, 77, 78] ig lg ig213 lg215 := Ft.tr hF hchp217 (by decide) (by decide)
                obtain ⟨rfl, hvhp217⟩ := hrhp217
                obtain ⟨hM, hU⟩ := hvhp217
                have rm9 := rm9.ft hchp217
                refine lv_aload_n hx hb dX12_stretch_152 rfl (lv_at hl 2 rfl) ?_
                have hI := hI.su (f := (ig213 (B + 49) 19).toInt) rfl
                refine r_callV (As := []) (rest := []) C hw (t_X12_tellsE l B D cA kd ig213 rg lg215 _   hI) sv_X12_345 (hsh 49 _ rfl) rfl hl.1 rfl (Nat.le_of_ble_eq_true rfl) ⟨Nat.le_of_ble_eq_true rfl, Nat.le_of_ble_eq_true rfl⟩ ⟨Nat.le_of_ble_eq_true rfl, Nat.le_of_ble_eq_true rfl⟩ dX12_stretch_153 (fun r222 kd218 ig219 rg220 lg221 H locs hw hH hp223 => ?_)
                obtain ⟨rfl, rfl, hI, hchp223, hrhp223⟩ := hp223
                have hF : Ft B [49, 54, 55, 56, 57, 58, 59, 60, 61, 63, 64, 65, 66, 67, 68, 69, 70, 71, 72, 73, 74, 76, 77, 78] ig lg ig219 lg221 := Ft.tr hF hchp223 (by decide) (by decide)
                obtain ⟨z224, rfl, hz224⟩ := hrhp223
                have ch9 := RmR.ch v09 rm9 hU.1.2 hz224
                have e19 := hI.u
                have hI := hI.nu
                have hM := hM.ft hchp223 (by decide) e19
                have hU := hU.ft hchp223 (by decide)
                exact r_iret C hw hr hlk rfl (Nat.le_of_ble_eq_true rfl) (Nat.le_of_ble_eq_true rfl) dX12_stretch_156 ⟨rfl, rfl, hI, hF, ⟨_, rfl, (by exfalso; omega)⟩⟩
            · refine lv_iconst (v := 1) hx hb dX12_stretch_112 (by decide) (ti_c 1 (by decide) fun z225 hz225 => ?_)
              refine lv_goto (tgt := 117) hx hb dX12_stretch_113 (by decide) ?_
              refine lv_iadd hx hb dX12_stretch_117 (tc_add fun z226 hz226 => ?_)
              first | replace hz226 := hz226 (by omega) | clear hz226
              refine r_iast C hw (hsh 56 _ rfl) (by omega) (by omega) dX12_stretch_118 (fun H locs hH hw => ?_)
              obtain ⟨ig227, eig227⟩ : ∃ f, f = up2 ig161 (B + 56) z169.toInt.toNat z226 := ⟨_, rfl⟩
              rw [← eig227] at hw
              have hF : Ft B [49, 54, 55, 56, 57, 58, 59, 60, 61, 63, 64, 65, 66, 67, 68, 69, 70, 71, 72, 73, 74, 76, 77, 78] ig lg ig227 lg163 := by rw [eig227]; exact hF.pi (by decide)
              have hI : IM τ φ none B kd ig227 rg := by rw [eig227]; exact hI.pdr2 (Or.inr rfl) nW q4
              have wf : WFr B ig227 288 := by rw [eig227, nw]; exact WFr.uB wf k34 (by omega) (by omega)
              have k3b : (ig227 (B + 54) (34560 + (j + 4))).toInt = 3 := by rw [eig227, up2_c (by decide)]; exact k34
              have fA : (ig227 (B + 55) (34560 + (j + 4))).toInt = (ig161 (B + 55) (34560 + (j + 4))).toInt := by rw [eig227, up2_c (by decide)]
              have fB : 0 ≤ (ig227 (B + 56) (34560 + (j + 4))).toInt ∧ (ig227 (B + 56) (34560 + (j + 4))).toInt < 24 := by rw [eig227, nw, up2_eq]; omega
              have nd : NDr B ig11 ig227 := by rw [eig227]; exact nd.wr (Or.inr (Or.inr ⟨by decide, by decide, by omega, by omega⟩))
              have hU : FXm B σ ig227 lg163 := by rw [eig227]; exact hU.wr (by decide)
              refine lv_aload_n hx hb dX12_stretch_119 rfl (lv_at hl 2 rfl) ?_
              refine r_get C hw (hsh 49 _ rfl) fl_X12_68 (oV_r rfl (hrm (49, 10, 55) (by decide))) dX12_stretch_120 ?_
              refine lv_ldc (v := 34560) hx hb hown (hts _ kc_X12_142) dX12_stretch_123 (ti_c 34560 (by decide) fun z228 hz228 => ?_)
              refine lv_iload_n hx hb dX12_stretch_125 rfl (lv_at hl 1 rfl) ?_
              refine lv_iadd hx hb dX12_stretch_126 (tc_add fun z229 hz229 => ?_)
              first | replace hz229 := hz229 (by omega) | clear hz229
              refine lv_iconst (v := 4) hx hb dX12_stretch_127 (by decide) (ti_c 4 (by decide) fun z230 hz230 => ?_)
              refine lv_iadd hx hb dX12_stretch_128 (tc_add fun z231 hz231 => ?_)
              first | replace hz231 := hz231 (by omega) | clear hz231
              refine lv_dup2_11 hx hb dX12_stretch_129 rfl rfl ?_
              have nw2 : z231.toInt.toNat = 34560 + (j + 4) := by omega
              have nW2 : nEq z231.toInt.toNat (34560 + (j + 4)) := nw2
              refine r_iald C hw (hsh 55 _ rfl) (by omega) (by omega) dX12_stretch_130 (ti_c (ig227 (B + 55) z231.toInt.toNat).toInt rfl fun z232 hz232 => ?_)
              rw [nw2] at hz232
              refine lv_iload hx hb dX12_stretch_131 (lv_at hl 0 rfl) ?_
              refine z_eq (tgt := 140) hx hb dX12_stretch_133 (by decide) (fun c133 => ?_) (fun c133 => ?_)
              · refine lv_iconst (v := 1) hx hb dX12_stretch_140 (by decide) (ti_c 1 (by decide) fun z234 hz234 => ?_)
                refine lv_iadd hx hb dX12_stretch_141 (tc_add fun z235 hz235 => ?_)
                first | replace hz235 := hz235 (by omega) | clear hz235
                refine r_iast C hw (hsh 55 _ rfl) (by omega) (by omega) dX12_stretch_142 (fun H locs hH hw => ?_)
                obtain ⟨ig236, eig236⟩ : ∃ f, f = up2 ig227 (B + 55) z231.toInt.toNat z235 := ⟨_, rfl⟩
                rw [← eig236] at hw
                have hF : Ft B [49, 54, 55, 56, 57, 58, 59, 60, 61, 63, 64, 65, 66, 67, 68, 69, 70, 71, 72, 73, 74, 76, 77, 78] ig lg ig236 lg163 := by rw [eig236]; exact hF.pi (by decide)
                have hI : IM τ φ none B kd ig236 rg := by rw [eig236]; exact hI.pdr2 (Or.inl rfl) nW2 q4
                have wf : WFr B ig236 288 := by rw [eig236, nw2]; exact WFr.uA wf k3b (by omega) fB
                have hwp : WP B ig236 288 := fun _ => wf
                have nd : NDr B ig11 ig236 := by rw [eig236]; exact nd.wr (Or.inr (Or.inr ⟨by decide, by decide, by omega, by omega⟩))
                have hfl : RowF B ig236 288 (x.toInt.toNat : Int) ((fmO (atC σ x.toInt)).set l9 (2, (stp (fmO (atC σ x.toInt)) (l9 : Int)).2.1, (stp (fmO (atC σ x.toInt)) (l9 : Int)).2.2 + (128 * 1 + 1))) := by rw [eig236, eig227]; exact RowF.longer (n := n) (hR1.2.2.1 hk2) (by omega) (by rw [emr]; exact smt) rfl k34 (by rw [f7, f4.2.1, f4.2.2]; exact pw4.1) (by rw [f7]; exact pw4.2) nw nw2 (by omega) (by omega)
                have hux := hW.uz (x := x.toInt) (by omega)
                have hD : RowM B ig236 288 (x.toInt.toNat : Int) (fCl (stL (fmO (atC σ x.toInt)) (l9 : Int) (128 * 1 + 1))) := ⟨⟨by rw [eig236, up2_c (by decide), eig227, up2_c (by decide), hR1.1.1, hk2]; rfl, by rw [eig236, up2_c (by decide), eig227, up2_c (by decide), hR1.1.2, hux.2]; rfl⟩, by unfold RowU; rw [eig236, up2_c (by decide), up2_c (by decide), up2_c (by decide), eig227, up2_c (by decide), up2_c (by decide), up2_c (by decide)]; have q := hR1.2.1; rw [hux.1] at q; exact q, fun _ => by show RowF B _ 288 _ (stL _ _ _); rw [stL_eq smt.2.1]; exact hfl, fun w => absurd rfl w⟩
                have hM := hM9.dr hI0.i120 nd (fun j => by rw [eig236, up2_c (by decide), eig227, up2_c (by decide)]; exact h63 j) (by rw [eig236, up2_c (by decide), eig227, up2_c (by decide)]; exact h19)
                have hU : FXm B σ ig236 lg163 := by rw [eig236]; exact hU.wr (by decide)
                refine lv_aload_n hx hb dX12_stretch_143 rfl (lv_at hl 2 rfl) ?_
                have hI := hI.su (f := (ig236 (B + 49) 19).toInt) rfl
                refine r_callV (As := []) (rest := []) C hw (t_X12_remembersE l B D cA kd ig236 rg lg163 _   hI) sv_X12_342 (hsh 49 _ rfl) rfl hl.1 rfl (Nat.le_of_ble_eq_true rfl) ⟨Nat.le_of_ble_eq_true rfl, Nat.le_of_ble_eq_true rfl⟩ ⟨Nat.le_of_ble_eq_true rfl, Nat.le_of_ble_eq_true rfl⟩ dX12_stretch_144 (fun r241 kd237 ig238 rg239 lg240 H locs hw hH hp242 => ?_)
                obtain ⟨rfl, rfl, hI, hchp242, hrhp242⟩ := hp242
                have hF : Ft B [49, 54, 55, 56, 57, 58, 59, 60, 61, 63, 64, 65, 66, 67, 68, 69, 70, 71, 72, 73, 74, 76, 77, 78] ig lg ig238 lg240 := Ft.tr hF hchp242 (by decide) (by decide)
                obtain ⟨rfl, hvhp242⟩ := hrhp242
                have v09 := hU.1.2
                have rm9 := hvhp242
                have e19 := hI.u
                have hI := hI.nu
                have hM := hM.ft hchp242 (by decide) e19
                have hwp : WP B ig238 288 := WP.ft hwp hchp242 (by decide) (by decide) (by decide) (by decide) (by decide)
                have hD := hD.ft hchp242 (by decide)
                refine lv_aload_n hx hb dX12_stretch_147 rfl (lv_at hl 2 rfl) ?_
                refine lv_iload_n hx hb dX12_stretch_148 rfl (lv_at hl 3 rfl) ?_
                have hst9 : stT σ π x.toInt (upS σ x.toInt.toNat (fCl (stL (fmO (atC σ x.toInt)) (l9 : Int) (128 * 1 + 1)))) (pput π x.toInt.toNat (σ x.toInt.toNat)) y.toInt := (by exfalso; omega)
                refine r_callV (As := [.int x]) (rest := []) C hw (t_X12_putsX l B D cA kd ig238 rg lg240 _ x (by omega) hwp σ π hM _ hD _ (hW.stT hst9) hI) sv_X12_207 (hsh 49 _ rfl) rfl hl.1 rfl (Nat.le_of_ble_eq_true rfl) ⟨Nat.le_of_ble_eq_true rfl, Nat.le_of_ble_eq_true rfl⟩ ⟨Nat.le_of_ble_eq_true rfl, Nat.le_of_ble_eq_true rfl⟩ dX12_stretch_149 (fun r247 kd243 ig244 rg245 lg246 H locs hw hH hp248 => ?_)
                obtain ⟨rfl, rfl, hI, hchp248, hrhp248⟩ := hp248
                have hF : Ft B [49, 54, 55, 56, 57, 58, 59, 60, 61, 63, 64, 65, 66, 67, 68, 69, 70, 71, 72, 73, 74, 76, 77, 78] ig lg ig244 lg246 := Ft.tr hF hchp248 (by decide) (by decide)
                obtain ⟨rfl, hvhp248⟩ := hrhp248
                obtain ⟨hM, hU⟩ := hvhp248
                have rm9 := rm9.ft hchp248
                refine lv_aload_n hx hb dX12_stretch_152 rfl (lv_at hl 2 rfl) ?_
                have hI := hI.su (f := (ig244 (B + 49) 19).toInt) rfl
                refine r_callV (As := []) (rest := []) C hw (t_X12_tellsE l B D cA kd ig244 rg lg246 _   hI) sv_X12_345 (hsh 49 _ rfl) rfl hl.1 rfl (Nat.le_of_ble_eq_true rfl) ⟨Nat.le_of_ble_eq_true rfl, Nat.le_of_ble_eq_true rfl⟩ ⟨Nat.le_of_ble_eq_true rfl, Nat.le_of_ble_eq_true rfl⟩ dX12_stretch_153 (fun r253 kd249 ig250 rg251 lg252 H locs hw hH hp254 => ?_)
                obtain ⟨rfl, rfl, hI, hchp254, hrhp254⟩ := hp254
                have hF : Ft B [49, 54, 55, 56, 57, 58, 59, 60, 61, 63, 64, 65, 66, 67, 68, 69, 70, 71, 72, 73, 74, 76, 77, 78] ig lg ig250 lg252 := Ft.tr hF hchp254 (by decide) (by decide)
                obtain ⟨z255, rfl, hz255⟩ := hrhp254
                have ch9 := RmR.ch v09 rm9 hU.1.2 hz255
                have e19 := hI.u
                have hI := hI.nu
                have hM := hM.ft hchp254 (by decide) e19
                have hU := hU.ft hchp254 (by decide)
                exact r_iret C hw hr hlk rfl (Nat.le_of_ble_eq_true rfl) (Nat.le_of_ble_eq_true rfl) dX12_stretch_156 ⟨rfl, rfl, hI, hF, ⟨_, rfl, (by exfalso; omega)⟩⟩
              · refine lv_iconst (v := 0) hx hb dX12_stretch_136 (by decide) (ti_c 0 (by decide) fun z256 hz256 => ?_)
                refine lv_goto (tgt := 141) hx hb dX12_stretch_137 (by decide) ?_
                refine lv_iadd hx hb dX12_stretch_141 (tc_add fun z257 hz257 => ?_)
                first | replace hz257 := hz257 (by omega) | clear hz257
                refine r_iast C hw (hsh 55 _ rfl) (by omega) (by omega) dX12_stretch_142 (fun H locs hH hw => ?_)
                obtain ⟨ig258, eig258⟩ : ∃ f, f = up2 ig227 (B + 55) z231.toInt.toNat z257 := ⟨_, rfl⟩
                rw [← eig258] at hw
                have hF : Ft B [49, 54, 55, 56, 57, 58, 59, 60, 61, 63, 64, 65, 66, 67, 68, 69, 70, 71, 72, 73, 74, 76, 77, 78] ig lg ig258 lg163 := by rw [eig258]; exact hF.pi (by decide)
                have hI : IM τ φ none B kd ig258 rg := by rw [eig258]; exact hI.pdr2 (Or.inl rfl) nW2 q4
                have wf : WFr B ig258 288 := by rw [eig258, nw2]; exact WFr.uA wf k3b (by omega) fB
                have hwp : WP B ig258 288 := fun _ => wf
                have nd : NDr B ig11 ig258 := by rw [eig258]; exact nd.wr (Or.inr (Or.inr ⟨by decide, by decide, by omega, by omega⟩))
                have hfl : RowF B ig258 288 (x.toInt.toNat : Int) ((fmO (atC σ x.toInt)).set l9 (2, (stp (fmO (atC σ x.toInt)) (l9 : Int)).2.1, (stp (fmO (atC σ x.toInt)) (l9 : Int)).2.2 + (128 * 0 + 1))) := by rw [eig258, eig227]; exact RowF.longer (n := n) (hR1.2.2.1 hk2) (by omega) (by rw [emr]; exact smt) rfl k34 (by rw [f7, f4.2.1, f4.2.2]; exact pw4.1) (by rw [f7]; exact pw4.2) nw nw2 (by omega) (by omega)
                have hux := hW.uz (x := x.toInt) (by omega)
                have hD : RowM B ig258 288 (x.toInt.toNat : Int) (fCl (stL (fmO (atC σ x.toInt)) (l9 : Int) (128 * 0 + 1))) := ⟨⟨by rw [eig258, up2_c (by decide), eig227, up2_c (by decide), hR1.1.1, hk2]; rfl, by rw [eig258, up2_c (by decide), eig227, up2_c (by decide), hR1.1.2, hux.2]; rfl⟩, by unfold RowU; rw [eig258, up2_c (by decide), up2_c (by decide), up2_c (by decide), eig227, up2_c (by decide), up2_c (by decide), up2_c (by decide)]; have q := hR1.2.1; rw [hux.1] at q; exact q, fun _ => by show RowF B _ 288 _ (stL _ _ _); rw [stL_eq smt.2.1]; exact hfl, fun w => absurd rfl w⟩
                have hM := hM9.dr hI0.i120 nd (fun j => by rw [eig258, up2_c (by decide), eig227, up2_c (by decide)]; exact h63 j) (by rw [eig258, up2_c (by decide), eig227, up2_c (by decide)]; exact h19)
                have hU : FXm B σ ig258 lg163 := by rw [eig258]; exact hU.wr (by decide)
                refine lv_aload_n hx hb dX12_stretch_143 rfl (lv_at hl 2 rfl) ?_
                have hI := hI.su (f := (ig258 (B + 49) 19).toInt) rfl
                refine r_callV (As := []) (rest := []) C hw (t_X12_remembersE l B D cA kd ig258 rg lg163 _   hI) sv_X12_342 (hsh 49 _ rfl) rfl hl.1 rfl (Nat.le_of_ble_eq_true rfl) ⟨Nat.le_of_ble_eq_true rfl, Nat.le_of_ble_eq_true rfl⟩ ⟨Nat.le_of_ble_eq_true rfl, Nat.le_of_ble_eq_true rfl⟩ dX12_stretch_144 (fun r263 kd259 ig260 rg261 lg262 H locs hw hH hp264 => ?_)
                obtain ⟨rfl, rfl, hI, hchp264, hrhp264⟩ := hp264
                have hF : Ft B [49, 54, 55, 56, 57, 58, 59, 60, 61, 63, 64, 65, 66, 67, 68, 69, 70, 71, 72, 73, 74, 76, 77, 78] ig lg ig260 lg262 := Ft.tr hF hchp264 (by decide) (by decide)
                obtain ⟨rfl, hvhp264⟩ := hrhp264
                have v09 := hU.1.2
                have rm9 := hvhp264
                have e19 := hI.u
                have hI := hI.nu
                have hM := hM.ft hchp264 (by decide) e19
                have hwp : WP B ig260 288 := WP.ft hwp hchp264 (by decide) (by decide) (by decide) (by decide) (by decide)
                have hD := hD.ft hchp264 (by decide)
                refine lv_aload_n hx hb dX12_stretch_147 rfl (lv_at hl 2 rfl) ?_
                refine lv_iload_n hx hb dX12_stretch_148 rfl (lv_at hl 3 rfl) ?_
                have hst9 : stT σ π x.toInt (upS σ x.toInt.toNat (fCl (stL (fmO (atC σ x.toInt)) (l9 : Int) (128 * 0 + 1)))) (pput π x.toInt.toNat (σ x.toInt.toNat)) y.toInt := (by exfalso; omega)
                refine r_callV (As := [.int x]) (rest := []) C hw (t_X12_putsX l B D cA kd ig260 rg lg262 _ x (by omega) hwp σ π hM _ hD _ (hW.stT hst9) hI) sv_X12_207 (hsh 49 _ rfl) rfl hl.1 rfl (Nat.le_of_ble_eq_true rfl) ⟨Nat.le_of_ble_eq_true rfl, Nat.le_of_ble_eq_true rfl⟩ ⟨Nat.le_of_ble_eq_true rfl, Nat.le_of_ble_eq_true rfl⟩ dX12_stretch_149 (fun r269 kd265 ig266 rg267 lg268 H locs hw hH hp270 => ?_)
                obtain ⟨rfl, rfl, hI, hchp270, hrhp270⟩ := hp270
                have hF : Ft B [49, 54, 55, 56, 57, 58, 59, 60, 61, 63, 64, 65, 66, 67, 68, 69, 70, 71, 72, 73, 74, 76, 77, 78] ig lg ig266 lg268 := Ft.tr hF hchp270 (by decide) (by decide)
                obtain ⟨rfl, hvhp270⟩ := hrhp270
                obtain ⟨hM, hU⟩ := hvhp270
                have rm9 := rm9.ft hchp270
                refine lv_aload_n hx hb dX12_stretch_152 rfl (lv_at hl 2 rfl) ?_
                have hI := hI.su (f := (ig266 (B + 49) 19).toInt) rfl
                refine r_callV (As := []) (rest := []) C hw (t_X12_tellsE l B D cA kd ig266 rg lg268 _   hI) sv_X12_345 (hsh 49 _ rfl) rfl hl.1 rfl (Nat.le_of_ble_eq_true rfl) ⟨Nat.le_of_ble_eq_true rfl, Nat.le_of_ble_eq_true rfl⟩ ⟨Nat.le_of_ble_eq_true rfl, Nat.le_of_ble_eq_true rfl⟩ dX12_stretch_153 (fun r275 kd271 ig272 rg273 lg274 H locs hw hH hp276 => ?_)
                obtain ⟨rfl, rfl, hI, hchp276, hrhp276⟩ := hp276
                have hF : Ft B [49, 54, 55, 56, 57, 58, 59, 60, 61, 63, 64, 65, 66, 67, 68, 69, 70, 71, 72, 73, 74, 76, 77, 78] ig lg ig272 lg274 := Ft.tr hF hchp276 (by decide) (by decide)
                obtain ⟨z277, rfl, hz277⟩ := hrhp276
                have ch9 := RmR.ch v09 rm9 hU.1.2 hz277
                have e19 := hI.u
                have hI := hI.nu
                have hM := hM.ft hchp276 (by decide) e19
                have hU := hU.ft hchp276 (by decide)
                exact r_iret C hw hr hlk rfl (Nat.le_of_ble_eq_true rfl) (Nat.le_of_ble_eq_true rfl) dX12_stretch_156 ⟨rfl, rfl, hI, hF, ⟨_, rfl, (by exfalso; omega)⟩⟩
          · refine lv_iconst (v := (-1)) hx hb dX12_stretch_85 (by decide) (ti_c (-1) (by decide) fun z278 hz278 => ?_)
            exact r_iret C hw hr hlk rfl (Nat.le_of_ble_eq_true rfl) (Nat.le_of_ble_eq_true rfl) dX12_stretch_86 ⟨rfl, rfl, hI, hF, ⟨_, rfl, ⟨_, _, hM, hU, ⟨none, Or.inr ⟨hk2, _, (l9 : Int), hU9.far, hsl, Or.inr (Or.inr ⟨fun w => (show (_ → _) ∧ (_ → ¬ _) from sd9).2 (by omega) (Iff.mp iB w), fun w => (show (_ → _) ∧ (_ → ¬ _) from sr9).2 (by omega) (Iff.mp iR w), rfl⟩)⟩, Or.inl ⟨rfl, ⟨rfl, rfl⟩, by omega⟩⟩⟩⟩⟩
      · refine lv_iconst (v := 1) hx hb dX12_stretch_56 (by decide) (ti_c 1 (by decide) fun z279 hz279 => ?_)
        refine lv_goto (tgt := 61) hx hb dX12_stretch_57 (by decide) ?_
        refine lv_istore (lv' := [(4, .int z279), (3, .int u10), (0, .ref (B + 49)), (1, .int x)]) hx hb dX12_stretch_61 hl (by decide) rfl (fun ls hl => ?_)
        refine lv_iload hx hb dX12_stretch_63 (lv_at hl 0 rfl) ?_
        refine z_ne (tgt := 87) hx hb dX12_stretch_65 (by decide) (fun c65 => ?_) (fun c65 => ?_)
        · have qd := ((show (_ → _) ∧ (_ → ¬ _) from sd9).1 (by omega)).2.1
          refine lv_aload_n hx hb dX12_stretch_87 rfl (lv_at hl 2 rfl) ?_
          refine lv_iload_n hx hb dX12_stretch_88 rfl (lv_at hl 3 rfl) ?_
          refine lv_sipush (v := 288) hx hb dX12_stretch_89 (by decide) (ti_c 288 (by decide) fun z280 hz280 => ?_)
          refine r_callV (As := [.int x, .int z280]) (rest := []) C hw (t_X12_copyRowE l B D cA kd ig11 rg lg12 _ x z280 (by omega) (by omega) (i32_ne (by omega)) (hI.wp (by omega) (by omega)) hI) sv_X12_191 (hsh 49 _ rfl) rfl hl.1 rfl (Nat.le_of_ble_eq_true rfl) ⟨Nat.le_of_ble_eq_true rfl, Nat.le_of_ble_eq_true rfl⟩ ⟨Nat.le_of_ble_eq_true rfl, Nat.le_of_ble_eq_true rfl⟩ dX12_stretch_92 (fun r285 kd281 ig282 rg283 lg284 H locs hw hH hp286 => ?_)
          obtain ⟨rfl, rfl, hI, hchp286, hrhp286⟩ := hp286
          have hF : Ft B [49, 54, 55, 56, 57, 58, 59, 60, 61, 63, 64, 65, 66, 67, 68, 69, 70, 71, 72, 73, 74, 76, 77, 78] ig lg ig282 lg284 := Ft.tr hF hchp286 (by decide) (by decide)
          obtain ⟨rfl, hvhp286⟩ := hrhp286
          have hcx := CRx.toY (y := 288) hvhp286 (by omega)
          have hcr := hcx.1
          have nd : NDr B ig11 ig282 := NDr.cr hcx
          have h63 : ∀ j, ig282 (B + 63) j = ig11 (B + 63) j := fun j => hchp286.i 63 j (by decide)
          have h19 := congrArg Int32.toInt (hchp286.i 49 19 (by decide))
          have hR1 := hcx.row hrow
          have wf : WFr B ig282 288 := (hI0.row (p := x.toInt.toNat) (by omega) (by omega) hkd).copy hcr
          have f4 := CRw.f4 (q := j + 4) hcr (by omega)
          have f7 := congrArg Int32.toInt (hcr.2.2.2.1 57 (j + 4) (by decide) (by decide) (by omega))
          rw [show 120 * x.toInt.toNat + (j + 4) = (120 * x.toInt.toNat + (j + 2)) + 2 by omega] at f4 f7
          have f7 : (ig282 (B + 57) (34560 + (j + 4))).toInt = (ig11 (B + 57) (120 * x.toInt.toNat + (j + 2) + 2)).toInt := f7
          have q4 : j + 4 < 120 := by omega
          have emr : mR B ig282 (x.toInt.toNat : Int) 288 = mR B ig11 (x.toInt.toNat : Int) x.toInt.toNat := mR.ag hcr.2.1 (fun c k a b hk => hcr.2.2.2.1 c k a b hk)
          have k34 : (ig282 (B + 54) (34560 + (j + 4))).toInt = 3 := by rw [f4.1]; exact r4.1
          have e58 := congrArg Int32.toInt hcr.2.1
          have pw4 := r4.2.2.2.2
          have hU := hU.ft hchp286 (by decide)
          refine lv_aload_n hx hb dX12_stretch_95 rfl (lv_at hl 2 rfl) ?_
          refine r_get C hw (hsh 49 _ rfl) fl_X12_71 (oV_r rfl (hrm (49, 11, 56) (by decide))) dX12_stretch_96 ?_
          refine lv_ldc (v := 34560) hx hb hown (hts _ kc_X12_142) dX12_stretch_99 (ti_c 34560 (by decide) fun z287 hz287 => ?_)
          refine lv_iload_n hx hb dX12_stretch_101 rfl (lv_at hl 1 rfl) ?_
          refine lv_iadd hx hb dX12_stretch_102 (tc_add fun z288 hz288 => ?_)
          first | replace hz288 := hz288 (by omega) | clear hz288
          refine lv_iconst (v := 4) hx hb dX12_stretch_103 (by decide) (ti_c 4 (by decide) fun z289 hz289 => ?_)
          refine lv_iadd hx hb dX12_stretch_104 (tc_add fun z290 hz290 => ?_)
          first | replace hz290 := hz290 (by omega) | clear hz290
          refine lv_dup2_11 hx hb dX12_stretch_105 rfl rfl ?_
          have nw : z290.toInt.toNat = 34560 + (j + 4) := by omega
          have nW : nEq z290.toInt.toNat (34560 + (j + 4)) := nw
          refine r_iald C hw (hsh 56 _ rfl) (by omega) (by omega) dX12_stretch_106 (ti_c (ig282 (B + 56) z290.toInt.toNat).toInt rfl fun z291 hz291 => ?_)
          rw [nw] at hz291
          refine lv_iload hx hb dX12_stretch_107 (lv_at hl 0 rfl) ?_
          refine z_eq (tgt := 116) hx hb dX12_stretch_109 (by decide) (fun c109 => ?_) (fun c109 => ?_)
          · refine lv_iconst (v := 0) hx hb dX12_stretch_116 (by decide) (ti_c 0 (by decide) fun z293 hz293 => ?_)
            refine lv_iadd hx hb dX12_stretch_117 (tc_add fun z294 hz294 => ?_)
            first | replace hz294 := hz294 (by omega) | clear hz294
            refine r_iast C hw (hsh 56 _ rfl) (by omega) (by omega) dX12_stretch_118 (fun H locs hH hw => ?_)
            obtain ⟨ig295, eig295⟩ : ∃ f, f = up2 ig282 (B + 56) z290.toInt.toNat z294 := ⟨_, rfl⟩
            rw [← eig295] at hw
            have hF : Ft B [49, 54, 55, 56, 57, 58, 59, 60, 61, 63, 64, 65, 66, 67, 68, 69, 70, 71, 72, 73, 74, 76, 77, 78] ig lg ig295 lg284 := by rw [eig295]; exact hF.pi (by decide)
            have hI : IM τ φ none B kd ig295 rg := by rw [eig295]; exact hI.pdr2 (Or.inr rfl) nW q4
            have wf : WFr B ig295 288 := by rw [eig295, nw]; exact WFr.uB wf k34 (by omega) (by omega)
            have k3b : (ig295 (B + 54) (34560 + (j + 4))).toInt = 3 := by rw [eig295, up2_c (by decide)]; exact k34
            have fA : (ig295 (B + 55) (34560 + (j + 4))).toInt = (ig282 (B + 55) (34560 + (j + 4))).toInt := by rw [eig295, up2_c (by decide)]
            have fB : 0 ≤ (ig295 (B + 56) (34560 + (j + 4))).toInt ∧ (ig295 (B + 56) (34560 + (j + 4))).toInt < 24 := by rw [eig295, nw, up2_eq]; omega
            have nd : NDr B ig11 ig295 := by rw [eig295]; exact nd.wr (Or.inr (Or.inr ⟨by decide, by decide, by omega, by omega⟩))
            have hU : FXm B σ ig295 lg284 := by rw [eig295]; exact hU.wr (by decide)
            refine lv_aload_n hx hb dX12_stretch_119 rfl (lv_at hl 2 rfl) ?_
            refine r_get C hw (hsh 49 _ rfl) fl_X12_68 (oV_r rfl (hrm (49, 10, 55) (by decide))) dX12_stretch_120 ?_
            refine lv_ldc (v := 34560) hx hb hown (hts _ kc_X12_142) dX12_stretch_123 (ti_c 34560 (by decide) fun z296 hz296 => ?_)
            refine lv_iload_n hx hb dX12_stretch_125 rfl (lv_at hl 1 rfl) ?_
            refine lv_iadd hx hb dX12_stretch_126 (tc_add fun z297 hz297 => ?_)
            first | replace hz297 := hz297 (by omega) | clear hz297
            refine lv_iconst (v := 4) hx hb dX12_stretch_127 (by decide) (ti_c 4 (by decide) fun z298 hz298 => ?_)
            refine lv_iadd hx hb dX12_stretch_128 (tc_add fun z299 hz299 => ?_)
            first | replace hz299 := hz299 (by omega) | clear hz299
            refine lv_dup2_11 hx hb dX12_stretch_129 rfl rfl ?_
            have nw2 : z299.toInt.toNat = 34560 + (j + 4) := by omega
            have nW2 : nEq z299.toInt.toNat (34560 + (j + 4)) := nw2
            refine r_iald C hw (hsh 55 _ rfl) (by omega) (by omega) dX12_stretch_130 (ti_c (ig295 (B + 55) z299.toInt.toNat).toInt rfl fun z300 hz300 => ?_)
            rw [nw2] at hz300
            refine lv_iload hx hb dX12_stretch_131 (lv_at hl 0 rfl) ?_
            refine z_eq (tgt := 140) hx hb dX12_stretch_133 (by decide) (fun c133 => ?_) (fun c133 => ?_)
            · refine lv_iconst (v := 1) hx hb dX12_stretch_140 (by decide) (ti_c 1 (by decide) fun z302 hz302 => ?_)
              refine lv_iadd hx hb dX12_stretch_141 (tc_add fun z303 hz303 => ?_)
              first | replace hz303 := hz303 (by omega) | clear hz303
              refine r_iast C hw (hsh 55 _ rfl) (by omega) (by omega) dX12_stretch_142 (fun H locs hH hw => ?_)
              obtain ⟨ig304, eig304⟩ : ∃ f, f = up2 ig295 (B + 55) z299.toInt.toNat z303 := ⟨_, rfl⟩
              rw [← eig304] at hw
              have hF : Ft B [49, 54, 55, 56, 57, 58, 59, 60, 61, 63, 64, 65, 66, 67, 68, 69, 70, 71, 72, 73, 74, 76, 77, 78] ig lg ig304 lg284 := by rw [eig304]; exact hF.pi (by decide)
              have hI : IM τ φ none B kd ig304 rg := by rw [eig304]; exact hI.pdr2 (Or.inl rfl) nW2 q4
              have wf : WFr B ig304 288 := by rw [eig304, nw2]; exact WFr.uA wf k3b (by omega) fB
              have hwp : WP B ig304 288 := fun _ => wf
              have nd : NDr B ig11 ig304 := by rw [eig304]; exact nd.wr (Or.inr (Or.inr ⟨by decide, by decide, by omega, by omega⟩))
              have hfl : RowF B ig304 288 (x.toInt.toNat : Int) ((fmO (atC σ x.toInt)).set l9 (2, (stp (fmO (atC σ x.toInt)) (l9 : Int)).2.1, (stp (fmO (atC σ x.toInt)) (l9 : Int)).2.2 + (128 * 1 + 0))) := by rw [eig304, eig295]; exact RowF.longer (n := n) (hR1.2.2.1 hk2) (by omega) (by rw [emr]; exact smt) rfl k34 (by rw [f7, f4.2.1, f4.2.2]; exact pw4.1) (by rw [f7]; exact pw4.2) nw nw2 (by omega) (by omega)
              have hux := hW.uz (x := x.toInt) (by omega)
              have hD : RowM B ig304 288 (x.toInt.toNat : Int) (fCl (stL (fmO (atC σ x.toInt)) (l9 : Int) (128 * 1 + 0))) := ⟨⟨by rw [eig304, up2_c (by decide), eig295, up2_c (by decide), hR1.1.1, hk2]; rfl, by rw [eig304, up2_c (by decide), eig295, up2_c (by decide), hR1.1.2, hux.2]; rfl⟩, by unfold RowU; rw [eig304, up2_c (by decide), up2_c (by decide), up2_c (by decide), eig295, up2_c (by decide), up2_c (by decide), up2_c (by decide)]; have q := hR1.2.1; rw [hux.1] at q; exact q, fun _ => by show RowF B _ 288 _ (stL _ _ _); rw [stL_eq smt.2.1]; exact hfl, fun w => absurd rfl w⟩
              have hM := hM9.dr hI0.i120 nd (fun j => by rw [eig304, up2_c (by decide), eig295, up2_c (by decide)]; exact h63 j) (by rw [eig304, up2_c (by decide), eig295, up2_c (by decide)]; exact h19)
              have hU : FXm B σ ig304 lg284 := by rw [eig304]; exact hU.wr (by decide)
              refine lv_aload_n hx hb dX12_stretch_143 rfl (lv_at hl 2 rfl) ?_
              have hI := hI.su (f := (ig304 (B + 49) 19).toInt) rfl
              refine r_callV (As := []) (rest := []) C hw (t_X12_remembersE l B D cA kd ig304 rg lg284 _   hI) sv_X12_342 (hsh 49 _ rfl) rfl hl.1 rfl (Nat.le_of_ble_eq_true rfl) ⟨Nat.le_of_ble_eq_true rfl, Nat.le_of_ble_eq_true rfl⟩ ⟨Nat.le_of_ble_eq_true rfl, Nat.le_of_ble_eq_true rfl⟩ dX12_stretch_144 (fun r309 kd305 ig306 rg307 lg308 H locs hw hH hp310 => ?_)
              obtain ⟨rfl, rfl, hI, hchp310, hrhp310⟩ := hp310
              have hF : Ft B [49, 54, 55, 56, 57, 58, 59, 60, 61, 63, 64, 65, 66, 67, 68, 69, 70, 71, 72, 73, 74, 76, 77, 78] ig lg ig306 lg308 := Ft.tr hF hchp310 (by decide) (by decide)
              obtain ⟨rfl, hvhp310⟩ := hrhp310
              have v09 := hU.1.2
              have rm9 := hvhp310
              have e19 := hI.u
              have hI := hI.nu
              have hM := hM.ft hchp310 (by decide) e19
              have hwp : WP B ig306 288 := WP.ft hwp hchp310 (by decide) (by decide) (by decide) (by decide) (by decide)
              have hD := hD.ft hchp310 (by decide)
              refine lv_aload_n hx hb dX12_stretch_147 rfl (lv_at hl 2 rfl) ?_
              refine lv_iload_n hx hb dX12_stretch_148 rfl (lv_at hl 3 rfl) ?_
              have hst9 : stT σ π x.toInt (upS σ x.toInt.toNat (fCl (stL (fmO (atC σ x.toInt)) (l9 : Int) (128 * 1 + 0)))) (pput π x.toInt.toNat (σ x.toInt.toNat)) y.toInt := (by exfalso; omega)
              refine r_callV (As := [.int x]) (rest := []) C hw (t_X12_putsX l B D cA kd ig306 rg lg308 _ x (by omega) hwp σ π hM _ hD _ (hW.stT hst9) hI) sv_X12_207 (hsh 49 _ rfl) rfl hl.1 rfl (Nat.le_of_ble_eq_true rfl) ⟨Nat.le_of_ble_eq_true rfl, Nat.le_of_ble_eq_true rfl⟩ ⟨Nat.le_of_ble_eq_true rfl, Nat.le_of_ble_eq_true rfl⟩ dX12_stretch_149 (fun r315 kd311 ig312 rg313 lg314 H locs hw hH hp316 => ?_)
              obtain ⟨rfl, rfl, hI, hchp316, hrhp316⟩ := hp316
              have hF : Ft B [49, 54, 55, 56, 57, 58, 59, 60, 61, 63, 64, 65, 66, 67, 68, 69, 70, 71, 72, 73, 74, 76, 77, 78] ig lg ig312 lg314 := Ft.tr hF hchp316 (by decide) (by decide)
              obtain ⟨rfl, hvhp316⟩ := hrhp316
              obtain ⟨hM, hU⟩ := hvhp316
              have rm9 := rm9.ft hchp316
              refine lv_aload_n hx hb dX12_stretch_152 rfl (lv_at hl 2 rfl) ?_
              have hI := hI.su (f := (ig312 (B + 49) 19).toInt) rfl
              refine r_callV (As := []) (rest := []) C hw (t_X12_tellsE l B D cA kd ig312 rg lg314 _   hI) sv_X12_345 (hsh 49 _ rfl) rfl hl.1 rfl (Nat.le_of_ble_eq_true rfl) ⟨Nat.le_of_ble_eq_true rfl, Nat.le_of_ble_eq_true rfl⟩ ⟨Nat.le_of_ble_eq_true rfl, Nat.le_of_ble_eq_true rfl⟩ dX12_stretch_153 (fun r321 kd317 ig318 rg319 lg320 H locs hw hH hp322 => ?_)
              obtain ⟨rfl, rfl, hI, hchp322, hrhp322⟩ := hp322
              have hF : Ft B [49, 54, 55, 56, 57, 58, 59, 60, 61, 63, 64, 65, 66, 67, 68, 69, 70, 71, 72, 73, 74, 76, 77, 78] ig lg ig318 lg320 := Ft.tr hF hchp322 (by decide) (by decide)
              obtain ⟨z323, rfl, hz323⟩ := hrhp322
              have ch9 := RmR.ch v09 rm9 hU.1.2 hz323
              have e19 := hI.u
              have hI := hI.nu
              have hM := hM.ft hchp322 (by decide) e19
              have hU := hU.ft hchp322 (by decide)
              exact r_iret C hw hr hlk rfl (Nat.le_of_ble_eq_true rfl) (Nat.le_of_ble_eq_true rfl) dX12_stretch_156 ⟨rfl, rfl, hI, hF, ⟨_, rfl, (by exfalso; omega)⟩⟩
            · refine lv_iconst (v := 0) hx hb dX12_stretch_136 (by decide) (ti_c 0 (by decide) fun z324 hz324 => ?_)
              refine lv_goto (tgt := 141) hx hb dX12_stretch_137 (by decide) ?_
              refine lv_iadd hx hb dX12_stretch_141 (tc_add fun z325 hz325 => ?_)
              first | replace hz325 := hz325 (by omega) | clear hz325
              refine r_iast C hw (hsh 55 _ rfl) (by omega) (by omega) dX12_stretch_142 (fun H locs hH hw => ?_)
              obtain ⟨ig326, eig326⟩ : ∃ f, f = up2 ig295 (B + 55) z299.toInt.toNat z325 := ⟨_, rfl⟩
              rw [← eig326] at hw
              have hF : Ft B [49, 54, 55, 56, 57, 58, 59, 60, 61, 63, 64, 65, 66, 67, 68, 69, 70, 71, 72, 73, 74, 76, 77, 78] ig lg ig326 lg284 := by rw [eig326]; exact hF.pi (by decide)
              have hI : IM τ φ none B kd ig326 rg := by rw [eig326]; exact hI.pdr2 (Or.inl rfl) nW2 q4
              have wf : WFr B ig326 288 := by rw [eig326, nw2]; exact WFr.uA wf k3b (by omega) fB
              have hwp : WP B ig326 288 := fun _ => wf
              have nd : NDr B ig11 ig326 := by rw [eig326]; exact nd.wr (Or.inr (Or.inr ⟨by decide, by decide, by omega, by omega⟩))
              have hfl : RowF B ig326 288 (x.toInt.toNat : Int) ((fmO (atC σ x.toInt)).set l9 (2, (stp (fmO (atC σ x.toInt)) (l9 : Int)).2.1, (stp (fmO (atC σ x.toInt)) (l9 : Int)).2.2 + (128 * 0 + 0))) := by rw [eig326, eig295]; exact RowF.longer (n := n) (hR1.2.2.1 hk2) (by omega) (by rw [emr]; exact smt) rfl k34 (by rw [f7, f4.2.1, f4.2.2]; exact pw4.1) (by rw [f7]; exact pw4.2) nw nw2 (by omega) (by omega)
              have hux := hW.uz (x := x.toInt) (by omega)
              have hD : RowM B ig326 288 (x.toInt.toNat : Int) (fCl (stL (fmO (atC σ x.toInt)) (l9 : Int) (128 * 0 + 0))) := ⟨⟨by rw [eig326, up2_c (by decide), eig295, up2_c (by decide), hR1.1.1, hk2]; rfl, by rw [eig326, up2_c (by decide), eig295, up2_c (by decide), hR1.1.2, hux.2]; rfl⟩, by unfold RowU; rw [eig326, up2_c (by decide), up2_c (by decide), up2_c (by decide), eig295, up2_c (by decide), up2_c (by decide), up2_c (by decide)]; have q := hR1.2.1; rw [hux.1] at q; exact q, fun _ => by show RowF B _ 288 _ (stL _ _ _); rw [stL_eq smt.2.1]; exact hfl, fun w => absurd rfl w⟩
              have hM := hM9.dr hI0.i120 nd (fun j => by rw [eig326, up2_c (by decide), eig295, up2_c (by decide)]; exact h63 j) (by rw [eig326, up2_c (by decide), eig295, up2_c (by decide)]; exact h19)
              have hU : FXm B σ ig326 lg284 := by rw [eig326]; exact hU.wr (by decide)
              refine lv_aload_n hx hb dX12_stretch_143 rfl (lv_at hl 2 rfl) ?_
              have hI := hI.su (f := (ig326 (B + 49) 19).toInt) rfl
              refine r_callV (As := []) (rest := []) C hw (t_X12_remembersE l B D cA kd ig326 rg lg284 _   hI) sv_X12_342 (hsh 49 _ rfl) rfl hl.1 rfl (Nat.le_of_ble_eq_true rfl) ⟨Nat.le_of_ble_eq_true rfl, Nat.le_of_ble_eq_true rfl⟩ ⟨Nat.le_of_ble_eq_true rfl, Nat.le_of_ble_eq_true rfl⟩ dX12_stretch_144 (fun r331 kd327 ig328 rg329 lg330 H locs hw hH hp332 => ?_)
              obtain ⟨rfl, rfl, hI, hchp332, hrhp332⟩ := hp332
              have hF : Ft B [49, 54, 55, 56, 57, 58, 59, 60, 61, 63, 64, 65, 66, 67, 68, 69, 70, 71, 72, 73, 74, 76, 77, 78] ig lg ig328 lg330 := Ft.tr hF hchp332 (by decide) (by decide)
              obtain ⟨rfl, hvhp332⟩ := hrhp332
              have v09 := hU.1.2
              have rm9 := hvhp332
              have e19 := hI.u
              have hI := hI.nu
              have hM := hM.ft hchp332 (by decide) e19
              have hwp : WP B ig328 288 := WP.ft hwp hchp332 (by decide) (by decide) (by decide) (by decide) (by decide)
              have hD := hD.ft hchp332 (by decide)
              refine lv_aload_n hx hb dX12_stretch_147 rfl (lv_at hl 2 rfl) ?_
              refine lv_iload_n hx hb dX12_stretch_148 rfl (lv_at hl 3 rfl) ?_
              have hst9 : stT σ π x.toInt (upS σ x.toInt.toNat (fCl (stL (fmO (atC σ x.toInt)) (l9 : Int) (128 * 0 + 0)))) (pput π x.toInt.toNat (σ x.toInt.toNat)) y.toInt := (by exfalso; omega)
              refine r_callV (As := [.int x]) (rest := []) C hw (t_X12_putsX l B D cA kd ig328 rg lg330 _ x (by omega) hwp σ π hM _ hD _ (hW.stT hst9) hI) sv_X12_207 (hsh 49 _ rfl) rfl hl.1 rfl (Nat.le_of_ble_eq_true rfl) ⟨Nat.le_of_ble_eq_true rfl, Nat.le_of_ble_eq_true rfl⟩ ⟨Nat.le_of_ble_eq_true rfl, Nat.le_of_ble_eq_true rfl⟩ dX12_stretch_149 (fun r337 kd333 ig334 rg335 lg336 H locs hw hH hp338 => ?_)
              obtain ⟨rfl, rfl, hI, hchp338, hrhp338⟩ := hp338
              have hF : Ft B [49, 54, 55, 56, 57, 58, 59, 60, 61, 63, 64, 65, 66, 67, 68, 69, 70, 71, 72, 73, 74, 76, 77, 78] ig lg ig334 lg336 := Ft.tr hF hchp338 (by decide) (by decide)
              obtain ⟨rfl, hvhp338⟩ := hrhp338
              obtain ⟨hM, hU⟩ := hvhp338
              have rm9 := rm9.ft hchp338
              refine lv_aload_n hx hb dX12_stretch_152 rfl (lv_at hl 2 rfl) ?_
              have hI := hI.su (f := (ig334 (B + 49) 19).toInt) rfl
              refine r_callV (As := []) (rest := []) C hw (t_X12_tellsE l B D cA kd ig334 rg lg336 _   hI) sv_X12_345 (hsh 49 _ rfl) rfl hl.1 rfl (Nat.le_of_ble_eq_true rfl) ⟨Nat.le_of_ble_eq_true rfl, Nat.le_of_ble_eq_true rfl⟩ ⟨Nat.le_of_ble_eq_true rfl, Nat.le_of_ble_eq_true rfl⟩ dX12_stretch_153 (fun r343 kd339 ig340 rg341 lg342 H locs hw hH hp344 => ?_)
              obtain ⟨rfl, rfl, hI, hchp344, hrhp344⟩ := hp344
              have hF : Ft B [49, 54, 55, 56, 57, 58, 59, 60, 61, 63, 64, 65, 66, 67, 68, 69, 70, 71, 72, 73, 74, 76, 77, 78] ig lg ig340 lg342 := Ft.tr hF hchp344 (by decide) (by decide)
              obtain ⟨z345, rfl, hz345⟩ := hrhp344
              have ch9 := RmR.ch v09 rm9 hU.1.2 hz345
              have e19 := hI.u
              have hI := hI.nu
              have hM := hM.ft hchp344 (by decide) e19
              have hU := hU.ft hchp344 (by decide)
              exact r_iret C hw hr hlk rfl (Nat.le_of_ble_eq_true rfl) (Nat.le_of_ble_eq_true rfl) dX12_stretch_156 ⟨rfl, rfl, hI, hF, ⟨_, rfl, (by exfalso; omega)⟩⟩
          · refine lv_iconst (v := 1) hx hb dX12_stretch_112 (by decide) (ti_c 1 (by decide) fun z346 hz346 => ?_)
            refine lv_goto (tgt := 117) hx hb dX12_stretch_113 (by decide) ?_
            refine lv_iadd hx hb dX12_stretch_117 (tc_add fun z347 hz347 => ?_)
            first | replace hz347 := hz347 (by omega) | clear hz347
            refine r_iast C hw (hsh 56 _ rfl) (by omega) (by omega) dX12_stretch_118 (fun H locs hH hw => ?_)
            obtain ⟨ig348, eig348⟩ : ∃ f, f = up2 ig282 (B + 56) z290.toInt.toNat z347 := ⟨_, rfl⟩
            rw [← eig348] at hw
            have hF : Ft B [49, 54, 55, 56, 57, 58, 59, 60, 61, 63, 64, 65, 66, 67, 68, 69, 70, 71, 72, 73, 74, 76, 77, 78] ig lg ig348 lg284 := by rw [eig348]; exact hF.pi (by decide)
            have hI : IM τ φ none B kd ig348 rg := by rw [eig348]; exact hI.pdr2 (Or.inr rfl) nW q4
            have wf : WFr B ig348 288 := by rw [eig348, nw]; exact WFr.uB wf k34 (by omega) (by omega)
            have k3b : (ig348 (B + 54) (34560 + (j + 4))).toInt = 3 := by rw [eig348, up2_c (by decide)]; exact k34
            have fA : (ig348 (B + 55) (34560 + (j + 4))).toInt = (ig282 (B + 55) (34560 + (j + 4))).toInt := by rw [eig348, up2_c (by decide)]
            have fB : 0 ≤ (ig348 (B + 56) (34560 + (j + 4))).toInt ∧ (ig348 (B + 56) (34560 + (j + 4))).toInt < 24 := by rw [eig348, nw, up2_eq]; omega
            have nd : NDr B ig11 ig348 := by rw [eig348]; exact nd.wr (Or.inr (Or.inr ⟨by decide, by decide, by omega, by omega⟩))
            have hU : FXm B σ ig348 lg284 := by rw [eig348]; exact hU.wr (by decide)
            refine lv_aload_n hx hb dX12_stretch_119 rfl (lv_at hl 2 rfl) ?_
            refine r_get C hw (hsh 49 _ rfl) fl_X12_68 (oV_r rfl (hrm (49, 10, 55) (by decide))) dX12_stretch_120 ?_
            refine lv_ldc (v := 34560) hx hb hown (hts _ kc_X12_142) dX12_stretch_123 (ti_c 34560 (by decide) fun z349 hz349 => ?_)
            refine lv_iload_n hx hb dX12_stretch_125 rfl (lv_at hl 1 rfl) ?_
            refine lv_iadd hx hb dX12_stretch_126 (tc_add fun z350 hz350 => ?_)
            first | replace hz350 := hz350 (by omega) | clear hz350
            refine lv_iconst (v := 4) hx hb dX12_stretch_127 (by decide) (ti_c 4 (by decide) fun z351 hz351 => ?_)
            refine lv_iadd hx hb dX12_stretch_128 (tc_add fun z352 hz352 => ?_)
            first | replace hz352 := hz352 (by omega) | clear hz352
            refine lv_dup2_11 hx hb dX12_stretch_129 rfl rfl ?_
            have nw2 : z352.toInt.toNat = 34560 + (j + 4) := by omega
            have nW2 : nEq z352.toInt.toNat (34560 + (j + 4)) := nw2
            refine r_iald C hw (hsh 55 _ rfl) (by omega) (by omega) dX12_stretch_130 (ti_c (ig348 (B + 55) z352.toInt.toNat).toInt rfl fun z353 hz353 => ?_)
            rw [nw2] at hz353
            refine lv_iload hx hb dX12_stretch_131 (lv_at hl 0 rfl) ?_
            refine z_eq (tgt := 140) hx hb dX12_stretch_133 (by decide) (fun c133 => ?_) (fun c133 => ?_)
            · refine lv_iconst (v := 1) hx hb dX12_stretch_140 (by decide) (ti_c 1 (by decide) fun z355 hz355 => ?_)
              refine lv_iadd hx hb dX12_stretch_141 (tc_add fun z356 hz356 => ?_)
              first | replace hz356 := hz356 (by omega) | clear hz356
              refine r_iast C hw (hsh 55 _ rfl) (by omega) (by omega) dX12_stretch_142 (fun H locs hH hw => ?_)
              obtain ⟨ig357, eig357⟩ : ∃ f, f = up2 ig348 (B + 55) z352.toInt.toNat z356 := ⟨_, rfl⟩
              rw [← eig357] at hw
              have hF : Ft B [49, 54, 55, 56, 57, 58, 59, 60, 61, 63, 64, 65, 66, 67, 68, 69, 70, 71, 72, 73, 74, 76, 77, 78] ig lg ig357 lg284 := by rw [eig357]; exact hF.pi (by decide)
              have hI : IM τ φ none B kd ig357 rg := by rw [eig357]; exact hI.pdr2 (Or.inl rfl) nW2 q4
              have wf : WFr B ig357 288 := by rw [eig357, nw2]; exact WFr.uA wf k3b (by omega) fB
              have hwp : WP B ig357 288 := fun _ => wf
              have nd : NDr B ig11 ig357 := by rw [eig357]; exact nd.wr (Or.inr (Or.inr ⟨by decide, by decide, by omega, by omega⟩))
              have hfl : RowF B ig357 288 (x.toInt.toNat : Int) ((fmO (atC σ x.toInt)).set l9 (2, (stp (fmO (atC σ x.toInt)) (l9 : Int)).2.1, (stp (fmO (atC σ x.toInt)) (l9 : Int)).2.2 + (128 * 1 + 1))) := by rw [eig357, eig348]; exact RowF.longer (n := n) (hR1.2.2.1 hk2) (by omega) (by rw [emr]; exact smt) rfl k34 (by rw [f7, f4.2.1, f4.2.2]; exact pw4.1) (by rw [f7]; exact pw4.2) nw nw2 (by omega) (by omega)
              have hux := hW.uz (x := x.toInt) (by omega)
              have hD : RowM B ig357 288 (x.toInt.toNat : Int) (fCl (stL (fmO (atC σ x.toInt)) (l9 : Int) (128 * 1 + 1))) := ⟨⟨by rw [eig357, up2_c (by decide), eig348, up2_c (by decide), hR1.1.1, hk2]; rfl, by rw [eig357, up2_c (by decide), eig348, up2_c (by decide), hR1.1.2, hux.2]; rfl⟩, by unfold RowU; rw [eig357, up2_c (by decide), up2_c (by decide), up2_c (by decide), eig348, up2_c (by decide), up2_c (by decide), up2_c (by decide)]; have q := hR1.2.1; rw [hux.1] at q; exact q, fun _ => by show RowF B _ 288 _ (stL _ _ _); rw [stL_eq smt.2.1]; exact hfl, fun w => absurd rfl w⟩
              have hM := hM9.dr hI0.i120 nd (fun j => by rw [eig357, up2_c (by decide), eig348, up2_c (by decide)]; exact h63 j) (by rw [eig357, up2_c (by decide), eig348, up2_c (by decide)]; exact h19)
              have hU : FXm B σ ig357 lg284 := by rw [eig357]; exact hU.wr (by decide)
              refine lv_aload_n hx hb dX12_stretch_143 rfl (lv_at hl 2 rfl) ?_
              have hI := hI.su (f := (ig357 (B + 49) 19).toInt) rfl
              refine r_callV (As := []) (rest := []) C hw (t_X12_remembersE l B D cA kd ig357 rg lg284 _   hI) sv_X12_342 (hsh 49 _ rfl) rfl hl.1 rfl (Nat.le_of_ble_eq_true rfl) ⟨Nat.le_of_ble_eq_true rfl, Nat.le_of_ble_eq_true rfl⟩ ⟨Nat.le_of_ble_eq_true rfl, Nat.le_of_ble_eq_true rfl⟩ dX12_stretch_144 (fun r362 kd358 ig359 rg360 lg361 H locs hw hH hp363 => ?_)
              obtain ⟨rfl, rfl, hI, hchp363, hrhp363⟩ := hp363
              have hF : Ft B [49, 54, 55, 56, 57, 58, 59, 60, 61, 63, 64, 65, 66, 67, 68, 69, 70, 71, 72, 73, 74, 76, 77, 78] ig lg ig359 lg361 := Ft.tr hF hchp363 (by decide) (by decide)
              obtain ⟨rfl, hvhp363⟩ := hrhp363
              have v09 := hU.1.2
              have rm9 := hvhp363
              have e19 := hI.u
              have hI := hI.nu
              have hM := hM.ft hchp363 (by decide) e19
              have hwp : WP B ig359 288 := WP.ft hwp hchp363 (by decide) (by decide) (by decide) (by decide) (by decide)
              have hD := hD.ft hchp363 (by decide)
              refine lv_aload_n hx hb dX12_stretch_147 rfl (lv_at hl 2 rfl) ?_
              refine lv_iload_n hx hb dX12_stretch_148 rfl (lv_at hl 3 rfl) ?_
              have hst9 : stT σ π x.toInt (upS σ x.toInt.toNat (fCl (stL (fmO (atC σ x.toInt)) (l9 : Int) (128 * 1 + 1)))) (pput π x.toInt.toNat (σ x.toInt.toNat)) y.toInt := (by exfalso; omega)
              refine r_callV (As := [.int x]) (rest := []) C hw (t_X12_putsX l B D cA kd ig359 rg lg361 _ x (by omega) hwp σ π hM _ hD _ (hW.stT hst9) hI) sv_X12_207 (hsh 49 _ rfl) rfl hl.1 rfl (Nat.le_of_ble_eq_true rfl) ⟨Nat.le_of_ble_eq_true rfl, Nat.le_of_ble_eq_true rfl⟩ ⟨Nat.le_of_ble_eq_true rfl, Nat.le_of_ble_eq_true rfl⟩ dX12_stretch_149 (fun r368 kd364 ig365 rg366 lg367 H locs hw hH hp369 => ?_)
              obtain ⟨rfl, rfl, hI, hchp369, hrhp369⟩ := hp369
              have hF : Ft B [49, 54, 55, 56, 57, 58, 59, 60, 61, 63, 64, 65, 66, 67, 68, 69, 70, 71, 72, 73, 74, 76, 77, 78] ig lg ig365 lg367 := Ft.tr hF hchp369 (by decide) (by decide)
              obtain ⟨rfl, hvhp369⟩ := hrhp369
              obtain ⟨hM, hU⟩ := hvhp369
              have rm9 := rm9.ft hchp369
              refine lv_aload_n hx hb dX12_stretch_152 rfl (lv_at hl 2 rfl) ?_
              have hI := hI.su (f := (ig365 (B + 49) 19).toInt) rfl
              refine r_callV (As := []) (rest := []) C hw (t_X12_tellsE l B D cA kd ig365 rg lg367 _   hI) sv_X12_345 (hsh 49 _ rfl) rfl hl.1 rfl (Nat.le_of_ble_eq_true rfl) ⟨Nat.le_of_ble_eq_true rfl, Nat.le_of_ble_eq_true rfl⟩ ⟨Nat.le_of_ble_eq_true rfl, Nat.le_of_ble_eq_true rfl⟩ dX12_stretch_153 (fun r374 kd370 ig371 rg372 lg373 H locs hw hH hp375 => ?_)
              obtain ⟨rfl, rfl, hI, hchp375, hrhp375⟩ := hp375
              have hF : Ft B [49, 54, 55, 56, 57, 58, 59, 60, 61, 63, 64, 65, 66, 67, 68, 69, 70, 71, 72, 73, 74, 76, 77, 78] ig lg ig371 lg373 := Ft.tr hF hchp375 (by decide) (by decide)
              obtain ⟨z376, rfl, hz376⟩ := hrhp375
              have ch9 := RmR.ch v09 rm9 hU.1.2 hz376
              have e19 := hI.u
              have hI := hI.nu
              have hM := hM.ft hchp375 (by decide) e19
              have hU := hU.ft hchp375 (by decide)
              exact r_iret C hw hr hlk rfl (Nat.le_of_ble_eq_true rfl) (Nat.le_of_ble_eq_true rfl) dX12_stretch_156 ⟨rfl, rfl, hI, hF, ⟨_, rfl, (by exfalso; omega)⟩⟩
            · refine lv_iconst (v := 0) hx hb dX12_stretch_136 (by decide) (ti_c 0 (by decide) fun z377 hz377 => ?_)
              refine lv_goto (tgt := 141) hx hb dX12_stretch_137 (by decide) ?_
              refine lv_iadd hx hb dX12_stretch_141 (tc_add fun z378 hz378 => ?_)
              first | replace hz378 := hz378 (by omega) | clear hz378
              refine r_iast C hw (hsh 55 _ rfl) (by omega) (by omega) dX12_stretch_142 (fun H locs hH hw => ?_)
              obtain ⟨ig379, eig379⟩ : ∃ f, f = up2 ig348 (B + 55) z352.toInt.toNat z378 := ⟨_, rfl⟩
              rw [← eig379] at hw
              have hF : Ft B [49, 54, 55, 56, 57, 58, 59, 60, 61, 63, 64, 65, 66, 67, 68, 69, 70, 71, 72, 73, 74, 76, 77, 78] ig lg ig379 lg284 := by rw [eig379]; exact hF.pi (by decide)
              have hI : IM τ φ none B kd ig379 rg := by rw [eig379]; exact hI.pdr2 (Or.inl rfl) nW2 q4
              have wf : WFr B ig379 288 := by rw [eig379, nw2]; exact WFr.uA wf k3b (by omega) fB
              have hwp : WP B ig379 288 := fun _ => wf
              have nd : NDr B ig11 ig379 := by rw [eig379]; exact nd.wr (Or.inr (Or.inr ⟨by decide, by decide, by omega, by omega⟩))
              have hfl : RowF B ig379 288 (x.toInt.toNat : Int) ((fmO (atC σ x.toInt)).set l9 (2, (stp (fmO (atC σ x.toInt)) (l9 : Int)).2.1, (stp (fmO (atC σ x.toInt)) (l9 : Int)).2.2 + (128 * 0 + 1))) := by rw [eig379, eig348]; exact RowF.longer (n := n) (hR1.2.2.1 hk2) (by omega) (by rw [emr]; exact smt) rfl k34 (by rw [f7, f4.2.1, f4.2.2]; exact pw4.1) (by rw [f7]; exact pw4.2) nw nw2 (by omega) (by omega)
              have hux := hW.uz (x := x.toInt) (by omega)
              have hD : RowM B ig379 288 (x.toInt.toNat : Int) (fCl (stL (fmO (atC σ x.toInt)) (l9 : Int) (128 * 0 + 1))) := ⟨⟨by rw [eig379, up2_c (by decide), eig348, up2_c (by decide), hR1.1.1, hk2]; rfl, by rw [eig379, up2_c (by decide), eig348, up2_c (by decide), hR1.1.2, hux.2]; rfl⟩, by unfold RowU; rw [eig379, up2_c (by decide), up2_c (by decide), up2_c (by decide), eig348, up2_c (by decide), up2_c (by decide), up2_c (by decide)]; have q := hR1.2.1; rw [hux.1] at q; exact q, fun _ => by show RowF B _ 288 _ (stL _ _ _); rw [stL_eq smt.2.1]; exact hfl, fun w => absurd rfl w⟩
              have hM := hM9.dr hI0.i120 nd (fun j => by rw [eig379, up2_c (by decide), eig348, up2_c (by decide)]; exact h63 j) (by rw [eig379, up2_c (by decide), eig348, up2_c (by decide)]; exact h19)
              have hU : FXm B σ ig379 lg284 := by rw [eig379]; exact hU.wr (by decide)
              refine lv_aload_n hx hb dX12_stretch_143 rfl (lv_at hl 2 rfl) ?_
              have hI := hI.su (f := (ig379 (B + 49) 19).toInt) rfl
              refine r_callV (As := []) (rest := []) C hw (t_X12_remembersE l B D cA kd ig379 rg lg284 _   hI) sv_X12_342 (hsh 49 _ rfl) rfl hl.1 rfl (Nat.le_of_ble_eq_true rfl) ⟨Nat.le_of_ble_eq_true rfl, Nat.le_of_ble_eq_true rfl⟩ ⟨Nat.le_of_ble_eq_true rfl, Nat.le_of_ble_eq_true rfl⟩ dX12_stretch_144 (fun r384 kd380 ig381 rg382 lg383 H locs hw hH hp385 => ?_)
              obtain ⟨rfl, rfl, hI, hchp385, hrhp385⟩ := hp385
              have hF : Ft B [49, 54, 55, 56, 57, 58, 59, 60, 61, 63, 64, 65, 66, 67, 68, 69, 70, 71, 72, 73, 74, 76, 77, 78] ig lg ig381 lg383 := Ft.tr hF hchp385 (by decide) (by decide)
              obtain ⟨rfl, hvhp385⟩ := hrhp385
              have v09 := hU.1.2
              have rm9 := hvhp385
              have e19 := hI.u
              have hI := hI.nu
              have hM := hM.ft hchp385 (by decide) e19
              have hwp : WP B ig381 288 := WP.ft hwp hchp385 (by decide) (by decide) (by decide) (by decide) (by decide)
              have hD := hD.ft hchp385 (by decide)
              refine lv_aload_n hx hb dX12_stretch_147 rfl (lv_at hl 2 rfl) ?_
              refine lv_iload_n hx hb dX12_stretch_148 rfl (lv_at hl 3 rfl) ?_
              have hst9 : stT σ π x.toInt (upS σ x.toInt.toNat (fCl (stL (fmO (atC σ x.toInt)) (l9 : Int) (128 * 0 + 1)))) (pput π x.toInt.toNat (σ x.toInt.toNat)) y.toInt := ⟨some (stL (fmO (atC σ x.toInt)) (l9 : Int) (128 * 0 + 1)), Or.inr ⟨hk2, _, (l9 : Int), hU9.far, hsl, Or.inl ⟨Iff.mpr iB ((show (_ → _) ∧ (_ → ¬ _) from sd9).1 (by omega)), rfl⟩⟩, Or.inr ⟨_, rfl, rfl, rfl⟩⟩
              refine r_callV (As := [.int x]) (rest := []) C hw (t_X12_putsX l B D cA kd ig381 rg lg383 _ x (by omega) hwp σ π hM _ hD _ (hW.stT hst9) hI) sv_X12_207 (hsh 49 _ rfl) rfl hl.1 rfl (Nat.le_of_ble_eq_true rfl) ⟨Nat.le_of_ble_eq_true rfl, Nat.le_of_ble_eq_true rfl⟩ ⟨Nat.le_of_ble_eq_true rfl, Nat.le_of_ble_eq_true rfl⟩ dX12_stretch_149 (fun r390 kd386 ig387 rg388 lg389 H locs hw hH hp391 => ?_)
              obtain ⟨rfl, rfl, hI, hchp391, hrhp391⟩ := hp391
              have hF : Ft B [49, 54, 55, 56, 57, 58, 59, 60, 61, 63, 64, 65, 66, 67, 68, 69, 70, 71, 72, 73, 74, 76, 77, 78] ig lg ig387 lg389 := Ft.tr hF hchp391 (by decide) (by decide)
              obtain ⟨rfl, hvhp391⟩ := hrhp391
              obtain ⟨hM, hU⟩ := hvhp391
              have rm9 := rm9.ft hchp391
              refine lv_aload_n hx hb dX12_stretch_152 rfl (lv_at hl 2 rfl) ?_
              have hI := hI.su (f := (ig387 (B + 49) 19).toInt) rfl
              refine r_callV (As := []) (rest := []) C hw (t_X12_tellsE l B D cA kd ig387 rg lg389 _   hI) sv_X12_345 (hsh 49 _ rfl) rfl hl.1 rfl (Nat.le_of_ble_eq_true rfl) ⟨Nat.le_of_ble_eq_true rfl, Nat.le_of_ble_eq_true rfl⟩ ⟨Nat.le_of_ble_eq_true rfl, Nat.le_of_ble_eq_true rfl⟩ dX12_stretch_153 (fun r396 kd392 ig393 rg394 lg395 H locs hw hH hp397 => ?_)
              obtain ⟨rfl, rfl, hI, hchp397, hrhp397⟩ := hp397
              have hF : Ft B [49, 54, 55, 56, 57, 58, 59, 60, 61, 63, 64, 65, 66, 67, 68, 69, 70, 71, 72, 73, 74, 76, 77, 78] ig lg ig393 lg395 := Ft.tr hF hchp397 (by decide) (by decide)
              obtain ⟨z398, rfl, hz398⟩ := hrhp397
              have ch9 := RmR.ch v09 rm9 hU.1.2 hz398
              have e19 := hI.u
              have hI := hI.nu
              have hM := hM.ft hchp397 (by decide) e19
              have hU := hU.ft hchp397 (by decide)
              exact r_iret C hw hr hlk rfl (Nat.le_of_ble_eq_true rfl) (Nat.le_of_ble_eq_true rfl) dX12_stretch_156 ⟨rfl, rfl, hI, hF, ⟨_, rfl, ⟨_, _, hM, hU, ⟨some (stL (fmO (atC σ x.toInt)) (l9 : Int) (128 * 0 + 1)), Or.inr ⟨hk2, _, (l9 : Int), hU9.far, hsl, Or.inl ⟨Iff.mpr iB ((show (_ → _) ∧ (_ → ¬ _) from sd9).1 (by omega)), rfl⟩⟩, Or.inr ⟨_, rfl, ⟨rfl, rfl⟩, ch9⟩⟩⟩⟩⟩
        · refine lv_aload_n hx hb dX12_stretch_68 rfl (lv_at hl 2 rfl) ?_
          refine lv_iload_n hx hb dX12_stretch_69 rfl (lv_at hl 3 rfl) ?_
          refine lv_bipush (v := 120) hx hb dX12_stretch_70 (by decide) (ti_c 120 (by decide) fun z399 hz399 => ?_)
          refine lv_iload_n hx hb dX12_stretch_72 rfl (lv_at hl 3 rfl) ?_
          refine lv_imul hx hb dX12_stretch_73 (tc_mulL 120 hz399 fun z400 hz400 => ?_)
          first | replace hz400 := hz400 (by omega) | clear hz400
          refine lv_iload_n hx hb dX12_stretch_74 rfl (lv_at hl 1 rfl) ?_
          refine lv_iadd hx hb dX12_stretch_75 (tc_add fun z401 hz401 => ?_)
          first | replace hz401 := hz401 (by omega) | clear hz401
          refine lv_iconst (v := 2) hx hb dX12_stretch_76 (by decide) (ti_c 2 (by decide) fun z402 hz402 => ?_)
          refine lv_iadd hx hb dX12_stretch_77 (tc_add fun z403 hz403 => ?_)
          first | replace hz403 := hz403 (by omega) | clear hz403
          refine lv_iconst (v := 0) hx hb dX12_stretch_78 (by decide) (ti_c 0 (by decide) fun z404 hz404 => ?_)
          refine r_callV (As := [.int x, .int z403, .int z404]) (rest := []) C hw (t_X12_shortByE l B D cA kd ig11 rg lg12 _ x z403 z404 (by omega) (by omega) (by omega) (by rw [show z403.toInt.toNat + 2 = (120 * x.toInt.toNat + (j + 2)) + 2 by omega]; exact rg4) σ π hM hU.1.1 hI) sv_X12_320 (hsh 49 _ rfl) rfl hl.1 rfl (Nat.le_of_ble_eq_true rfl) ⟨Nat.le_of_ble_eq_true rfl, Nat.le_of_ble_eq_true rfl⟩ ⟨Nat.le_of_ble_eq_true rfl, Nat.le_of_ble_eq_true rfl⟩ dX12_stretch_79 (fun r409 kd405 ig406 rg407 lg408 H locs hw hH hp410 => ?_)
          obtain ⟨rfl, rfl, rfl, rfl, hzhp410, hrhp410⟩ := hp410
          obtain ⟨z411, rfl, hz411⟩ := hrhp410
          rw [show z403.toInt.toNat = 120 * x.toInt.toNat + (j + 2) by omega] at hz411
          have sr9 := sh_x (hz411.2 (by omega)) (by omega)
          replace sr9 : hid _ := sr9
          refine z_ge (tgt := 87) hx hb dX12_stretch_82 (by decide) (fun c82 => ?_) (fun c82 => ?_)
          · have qd := ((show (_ → _) ∧ (_ → ¬ _) from sd9).1 (by omega)).2.1
            refine lv_aload_n hx hb dX12_stretch_87 rfl (lv_at hl 2 rfl) ?_
            refine lv_iload_n hx hb dX12_stretch_88 rfl (lv_at hl 3 rfl) ?_
            refine lv_sipush (v := 288) hx hb dX12_stretch_89 (by decide) (ti_c 288 (by decide) fun z412 hz412 => ?_)
            refine r_callV (As := [.int x, .int z412]) (rest := []) C hw (t_X12_copyRowE l B D cA kd ig11 rg lg12 _ x z412 (by omega) (by omega) (i32_ne (by omega)) (hI.wp (by omega) (by omega)) hI) sv_X12_191 (hsh 49 _ rfl) rfl hl.1 rfl (Nat.le_of_ble_eq_true rfl) ⟨Nat.le_of_ble_eq_true rfl, Nat.le_of_ble_eq_true rfl⟩ ⟨Nat.le_of_ble_eq_true rfl, Nat.le_of_ble_eq_true rfl⟩ dX12_stretch_92 (fun r417 kd413 ig414 rg415 lg416 H locs hw hH hp418 => ?_)
            obtain ⟨rfl, rfl, hI, hchp418, hrhp418⟩ := hp418
            have hF : Ft B [49, 54, 55, 56, 57, 58, 59, 60, 61, 63, 64, 65, 66, 67, 68, 69, 70, 71, 72, 73, 74, 76, 77, 78] ig lg ig414 lg416 := Ft.tr hF hchp418 (by decide) (by decide)
            obtain ⟨rfl, hvhp418⟩ := hrhp418
            have hcx := CRx.toY (y := 288) hvhp418 (by omega)
            have hcr := hcx.1
            have nd : NDr B ig11 ig414 := NDr.cr hcx
            have h63 : ∀ j, ig414 (B + 63) j = ig11 (B + 63) j := fun j => hchp418.i 63 j (by decide)
            have h19 := congrArg Int32.toInt (hchp418.i 49 19 (by decide))
            have hR1 := hcx.row hrow
            have wf : WFr B ig414 288 := (hI0.row (p := x.toInt.toNat) (by omega) (by omega) hkd).copy hcr
            have f4 := CRw.f4 (q := j + 4) hcr (by omega)
            have f7 := congrArg Int32.toInt (hcr.2.2.2.1 57 (j + 4) (by decide) (by decide) (by omega))
            rw [show 120 * x.toInt.toNat + (j + 4) = (120 * x.toInt.toNat + (j + 2)) + 2 by omega] at f4 f7
            have f7 : (ig414 (B + 57) (34560 + (j + 4))).toInt = (ig11 (B + 57) (120 * x.toInt.toNat + (j + 2) + 2)).toInt := f7
            have q4 : j + 4 < 120 := by omega
            have emr : mR B ig414 (x.toInt.toNat : Int) 288 = mR B ig11 (x.toInt.toNat : Int) x.toInt.toNat := mR.ag hcr.2.1 (fun c k a b hk => hcr.2.2.2.1 c k a b hk)
            have k34 : (ig414 (B + 54) (34560 + (j + 4))).toInt = 3 := by rw [f4.1]; exact r4.1
            have e58 := congrArg Int32.toInt hcr.2.1
            have pw4 := r4.2.2.2.2
            have hU := hU.ft hchp418 (by decide)
            refine lv_aload_n hx hb dX12_stretch_95 rfl (lv_at hl 2 rfl) ?_
            refine r_get C hw (hsh 49 _ rfl) fl_X12_71 (oV_r rfl (hrm (49, 11, 56) (by decide))) dX12_stretch_96 ?_
            refine lv_ldc (v := 34560) hx hb hown (hts _ kc_X12_142) dX12_stretch_99 (ti_c 34560 (by decide) fun z419 hz419 => ?_)
            refine lv_iload_n hx hb dX12_stretch_101 rfl (lv_at hl 1 rfl) ?_
            refine lv_iadd hx hb dX12_stretch_102 (tc_add fun z420 hz420 => ?_)
            first | replace hz420 := hz420 (by omega) | clear hz420
            refine lv_iconst (v := 4) hx hb dX12_stretch_103 (by decide) (ti_c 4 (by decide) fun z421 hz421 => ?_)
            refine lv_iadd hx hb dX12_stretch_104 (tc_add fun z422 hz422 => ?_)
            first | replace hz422 := hz422 (by omega) | clear hz422
            refine lv_dup2_11 hx hb dX12_stretch_105 rfl rfl ?_
            have nw : z422.toInt.toNat = 34560 + (j + 4) := by omega
            have nW : nEq z422.toInt.toNat (34560 + (j + 4)) := nw
            refine r_iald C hw (hsh 56 _ rfl) (by omega) (by omega) dX12_stretch_106 (ti_c (ig414 (B + 56) z422.toInt.toNat).toInt rfl fun z423 hz423 => ?_)
            rw [nw] at hz423
            refine lv_iload hx hb dX12_stretch_107 (lv_at hl 0 rfl) ?_
            refine z_eq (tgt := 116) hx hb dX12_stretch_109 (by decide) (fun c109 => ?_) (fun c109 => ?_)
            · refine lv_iconst (v := 0) hx hb dX12_stretch_116 (by decide) (ti_c 0 (by decide) fun z425 hz425 => ?_)
              refine lv_iadd hx hb dX12_stretch_117 (tc_add fun z426 hz426 => ?_)
              first | replace hz426 := hz426 (by omega) | clear hz426
              refine r_iast C hw (hsh 56 _ rfl) (by omega) (by omega) dX12_stretch_118 (fun H locs hH hw => ?_)
              obtain ⟨ig427, eig427⟩ : ∃ f, f = up2 ig414 (B + 56) z422.toInt.toNat z426 := ⟨_, rfl⟩
              rw [← eig427] at hw
              have hF : Ft B [49, 54, 55, 56, 57, 58, 59, 60, 61, 63, 64, 65, 66, 67, 68, 69, 70, 71, 72, 73, 74, 76, 77, 78] ig lg ig427 lg416 := by rw [eig427]; exact hF.pi (by decide)
              have hI : IM τ φ none B kd ig427 rg := by rw [eig427]; exact hI.pdr2 (Or.inr rfl) nW q4
              have wf : WFr B ig427 288 := by rw [eig427, nw]; exact WFr.uB wf k34 (by omega) (by omega)
              have k3b : (ig427 (B + 54) (34560 + (j + 4))).toInt = 3 := by rw [eig427, up2_c (by decide)]; exact k34
              have fA : (ig427 (B + 55) (34560 + (j + 4))).toInt = (ig414 (B + 55) (34560 + (j + 4))).toInt := by rw [eig427, up2_c (by decide)]
              have fB : 0 ≤ (ig427 (B + 56) (34560 + (j + 4))).toInt ∧ (ig427 (B + 56) (34560 + (j + 4))).toInt < 24 := by rw [eig427, nw, up2_eq]; omega
              have nd : NDr B ig11 ig427 := by rw [eig427]; exact nd.wr (Or.inr (Or.inr ⟨by decide, by decide, by omega, by omega⟩))
              have hU : FXm B σ ig427 lg416 := by rw [eig427]; exact hU.wr (by decide)
              refine lv_aload_n hx hb dX12_stretch_119 rfl (lv_at hl 2 rfl) ?_
              refine r_get C hw (hsh 49 _ rfl) fl_X12_68 (oV_r rfl (hrm (49, 10, 55) (by decide))) dX12_stretch_120 ?_
              refine lv_ldc (v := 34560) hx hb hown (hts _ kc_X12_142) dX12_stretch_123 (ti_c 34560 (by decide) fun z428 hz428 => ?_)
              refine lv_iload_n hx hb dX12_stretch_125 rfl (lv_at hl 1 rfl) ?_
              refine lv_iadd hx hb dX12_stretch_126 (tc_add fun z429 hz429 => ?_)
              first | replace hz429 := hz429 (by omega) | clear hz429
              refine lv_iconst (v := 4) hx hb dX12_stretch_127 (by decide) (ti_c 4 (by decide) fun z430 hz430 => ?_)
              refine lv_iadd hx hb dX12_stretch_128 (tc_add fun z431 hz431 => ?_)
              first | replace hz431 := hz431 (by omega) | clear hz431
              refine lv_dup2_11 hx hb dX12_stretch_129 rfl rfl ?_
              have nw2 : z431.toInt.toNat = 34560 + (j + 4) := by omega
              have nW2 : nEq z431.toInt.toNat (34560 + (j + 4)) := nw2
              refine r_iald C hw (hsh 55 _ rfl) (by omega) (by omega) dX12_stretch_130 (ti_c (ig427 (B + 55) z431.toInt.toNat).toInt rfl fun z432 hz432 => ?_)
              rw [nw2] at hz432
              refine lv_iload hx hb dX12_stretch_131 (lv_at hl 0 rfl) ?_
              refine z_eq (tgt := 140) hx hb dX12_stretch_133 (by decide) (fun c133 => ?_) (fun c133 => ?_)
              · refine lv_iconst (v := 1) hx hb dX12_stretch_140 (by decide) (ti_c 1 (by decide) fun z434 hz434 => ?_)
                refine lv_iadd hx hb dX12_stretch_141 (tc_add fun z435 hz435 => ?_)
                first | replace hz435 := hz435 (by omega) | clear hz435
                refine r_iast C hw (hsh 55 _ rfl) (by omega) (by omega) dX12_stretch_142 (fun H locs hH hw => ?_)
                obtain ⟨ig436, eig436⟩ : ∃ f, f = up2 ig427 (B + 55) z431.toInt.toNat z435 := ⟨_, rfl⟩
                rw [← eig436] at hw
                have hF : Ft B [49, 54, 55, 56, 57, 58, 59, 60, 61, 63, 64, 65, 66, 67, 68, 69, 70, 71, 72, 73, 74, 76, 77, 78] ig lg ig436 lg416 := by rw [eig436]; exact hF.pi (by decide)
                have hI : IM τ φ none B kd ig436 rg := by rw [eig436]; exact hI.pdr2 (Or.inl rfl) nW2 q4
                have wf : WFr B ig436 288 := by rw [eig436, nw2]; exact WFr.uA wf k3b (by omega) fB
                have hwp : WP B ig436 288 := fun _ => wf
                have nd : NDr B ig11 ig436 := by rw [eig436]; exact nd.wr (Or.inr (Or.inr ⟨by decide, by decide, by omega, by omega⟩))
                have hfl : RowF B ig436 288 (x.toInt.toNat : Int) ((fmO (atC σ x.toInt)).set l9 (2, (stp (fmO (atC σ x.toInt)) (l9 : Int)).2.1, (stp (fmO (atC σ x.toInt)) (l9 : Int)).2.2 + (128 * 1 + 0))) := by rw [eig436, eig427]; exact RowF.longer (n := n) (hR1.2.2.1 hk2) (by omega) (by rw [emr]; exact smt) rfl k34 (by rw [f7, f4.2.1, f4.2.2]; exact pw4.1) (by rw [f7]; exact pw4.2) nw nw2 (by omega) (by omega)
                have hux := hW.uz (x := x.toInt) (by omega)
                have hD : RowM B ig436 288 (x.toInt.toNat : Int) (fCl (stL (fmO (atC σ x.toInt)) (l9 : Int) (128 * 1 + 0))) := ⟨⟨by rw [eig436, up2_c (by decide), eig427, up2_c (by decide), hR1.1.1, hk2]; rfl, by rw [eig436, up2_c (by decide), eig427, up2_c (by decide), hR1.1.2, hux.2]; rfl⟩, by unfold RowU; rw [eig436, up2_c (by decide), up2_c (by decide), up2_c (by decide), eig427, up2_c (by decide), up2_c (by decide), up2_c (by decide)]; have q := hR1.2.1; rw [hux.1] at q; exact q, fun _ => by show RowF B _ 288 _ (stL _ _ _); rw [stL_eq smt.2.1]; exact hfl, fun w => absurd rfl w⟩
                have hM := hM9.dr hI0.i120 nd (fun j => by rw [eig436, up2_c (by decide), eig427, up2_c (by decide)]; exact h63 j) (by rw [eig436, up2_c (by decide), eig427, up2_c (by decide)]; exact h19)
                have hU : FXm B σ ig436 lg416 := by rw [eig436]; exact hU.wr (by decide)
                refine lv_aload_n hx hb dX12_stretch_143 rfl (lv_at hl 2 rfl) ?_
                have hI := hI.su (f := (ig436 (B + 49) 19).toInt) rfl
                refine r_callV (As := []) (rest := []) C hw (t_X12_remembersE l B D cA kd ig436 rg lg416 _   hI) sv_X12_342 (hsh 49 _ rfl) rfl hl.1 rfl (Nat.le_of_ble_eq_true rfl) ⟨Nat.le_of_ble_eq_true rfl, Nat.le_of_ble_eq_true rfl⟩ ⟨Nat.le_of_ble_eq_true rfl, Nat.le_of_ble_eq_true rfl⟩ dX12_stretch_144 (fun r441 kd437 ig438 rg439 lg440 H locs hw hH hp442 => ?_)
                obtain ⟨rfl, rfl, hI, hchp442, hrhp442⟩ := hp442
                have hF : Ft B [49, 54, 55, 56, 57, 58, 59, 60, 61, 63, 64, 65, 66, 67, 68, 69, 70, 71, 72, 73, 74, 76, 77, 78] ig lg ig438 lg440 := Ft.tr hF hchp442 (by decide) (by decide)
                obtain ⟨rfl, hvhp442⟩ := hrhp442
                have v09 := hU.1.2
                have rm9 := hvhp442
                have e19 := hI.u
                have hI := hI.nu
                have hM := hM.ft hchp442 (by decide) e19
                have hwp : WP B ig438 288 := WP.ft hwp hchp442 (by decide) (by decide) (by decide) (by decide) (by decide)
                have hD := hD.ft hchp442 (by decide)
                refine lv_aload_n hx hb dX12_stretch_147 rfl (lv_at hl 2 rfl) ?_
                refine lv_iload_n hx hb dX12_stretch_148 rfl (lv_at hl 3 rfl) ?_
                have hst9 : stT σ π x.toInt (upS σ x.toInt.toNat (fCl (stL (fmO (atC σ x.toInt)) (l9 : Int) (128 * 1 + 0)))) (pput π x.toInt.toNat (σ x.toInt.toNat)) y.toInt := (by exfalso; omega)
                refine r_callV (As := [.int x]) (rest := []) C hw (t_X12_putsX l B D cA kd ig438 rg lg440 _ x (by omega) hwp σ π hM _ hD _ (hW.stT hst9) hI) sv_X12_207 (hsh 49 _ rfl) rfl hl.1 rfl (Nat.le_of_ble_eq_true rfl) ⟨Nat.le_of_ble_eq_true rfl, Nat.le_of_ble_eq_true rfl⟩ ⟨Nat.le_of_ble_eq_true rfl, Nat.le_of_ble_eq_true rfl⟩ dX12_stretch_149 (fun r447 kd443 ig444 rg445 lg446 H locs hw hH hp448 => ?_)
                obtain ⟨rfl, rfl, hI, hchp448, hrhp448⟩ := hp448
                have hF : Ft B [49, 54, 55, 56, 57, 58, 59, 60, 61, 63, 64, 65, 66, 67, 68, 69, 70, 71, 72, 73, 74, 76, 77, 78] ig lg ig444 lg446 := Ft.tr hF hchp448 (by decide) (by decide)
                obtain ⟨rfl, hvhp448⟩ := hrhp448
                obtain ⟨hM, hU⟩ := hvhp448
                have rm9 := rm9.ft hchp448
                refine lv_aload_n hx hb dX12_stretch_152 rfl (lv_at hl 2 rfl) ?_
                have hI := hI.su (f := (ig444 (B + 49) 19).toInt) rfl
                refine r_callV (As := []) (rest := []) C hw (t_X12_tellsE l B D cA kd ig444 rg lg446 _   hI) sv_X12_345 (hsh 49 _ rfl) rfl hl.1 rfl (Nat.le_of_ble_eq_true rfl) ⟨Nat.le_of_ble_eq_true rfl, Nat.le_of_ble_eq_true rfl⟩ ⟨Nat.le_of_ble_eq_true rfl, Nat.le_of_ble_eq_true rfl⟩ dX12_stretch_153 (fun r453 kd449 ig450 rg451 lg452 H locs hw hH hp454 => ?_)
                obtain ⟨rfl, rfl, hI, hchp454, hrhp454⟩ := hp454
                have hF : Ft B [49, 54, 55, 56, 57, 58, 59, 60, 61, 63, 64, 65, 66, 67, 68, 69, 70, 71, 72, 73, 74, 76, 77, 78] ig lg ig450 lg452 := Ft.tr hF hchp454 (by decide) (by decide)
                obtain ⟨z455, rfl, hz455⟩ := hrhp454
                have ch9 := RmR.ch v09 rm9 hU.1.2 hz455
                have e19 := hI.u
                have hI := hI.nu
                have hM := hM.ft hchp454 (by decide) e19
                have hU := hU.ft hchp454 (by decide)
                exact r_iret C hw hr hlk rfl (Nat.le_of_ble_eq_true rfl) (Nat.le_of_ble_eq_true rfl) dX12_stretch_156 ⟨rfl, rfl, hI, hF, ⟨_, rfl, (by exfalso; omega)⟩⟩
              · refine lv_iconst (v := 0) hx hb dX12_stretch_136 (by decide) (ti_c 0 (by decide) fun z456 hz456 => ?_)
                refine lv_goto (tgt := 141) hx hb dX12_stretch_137 (by decide) ?_
                refine lv_iadd hx hb dX12_stretch_141 (tc_add fun z457 hz457 => ?_)
                first | replace hz457 := hz457 (by omega) | clear hz457
                refine r_iast C hw (hsh 55 _ rfl) (by omega) (by omega) dX12_stretch_142 (fun H locs hH hw => ?_)
                obtain ⟨ig458, eig458⟩ : ∃ f, f = up2 ig427 (B + 55) z431.toInt.toNat z457 := ⟨_, rfl⟩
                rw [← eig458] at hw
                have hF : Ft B [49, 54, 55, 56, 57, 58, 59, 60, 61, 63, 64, 65, 66, 67, 68, 69, 70, 71, 72, 73, 74, 76, 77, 78] ig lg ig458 lg416 := by rw [eig458]; exact hF.pi (by decide)
                have hI : IM τ φ none B kd ig458 rg := by rw [eig458]; exact hI.pdr2 (Or.inl rfl) nW2 q4
                have wf : WFr B ig458 288 := by rw [eig458, nw2]; exact WFr.uA wf k3b (by omega) fB
                have hwp : WP B ig458 288 := fun _ => wf
                have nd : NDr B ig11 ig458 := by rw [eig458]; exact nd.wr (Or.inr (Or.inr ⟨by decide, by decide, by omega, by omega⟩))
                have hfl : RowF B ig458 288 (x.toInt.toNat : Int) ((fmO (atC σ x.toInt)).set l9 (2, (stp (fmO (atC σ x.toInt)) (l9 : Int)).2.1, (stp (fmO (atC σ x.toInt)) (l9 : Int)).2.2 + (128 * 0 + 0))) := by rw [eig458, eig427]; exact RowF.longer (n := n) (hR1.2.2.1 hk2) (by omega) (by rw [emr]; exact smt) rfl k34 (by rw [f7, f4.2.1, f4.2.2]; exact pw4.1) (by rw [f7]; exact pw4.2) nw nw2 (by omega) (by omega)
                have hux := hW.uz (x := x.toInt) (by omega)
                have hD : RowM B ig458 288 (x.toInt.toNat : Int) (fCl (stL (fmO (atC σ x.toInt)) (l9 : Int) (128 * 0 + 0))) := ⟨⟨by rw [eig458, up2_c (by decide), eig427, up2_c (by decide), hR1.1.1, hk2]; rfl, by rw [eig458, up2_c (by decide), eig427, up2_c (by decide), hR1.1.2, hux.2]; rfl⟩, by unfold RowU; rw [eig458, up2_c (by decide), up2_c (by decide), up2_c (by decide), eig427, up2_c (by decide), up2_c (by decide), up2_c (by decide)]; have q := hR1.2.1; rw [hux.1] at q; exact q, fun _ => by show RowF B _ 288 _ (stL _ _ _); rw [stL_eq smt.2.1]; exact hfl, fun w => absurd rfl w⟩
                have hM := hM9.dr hI0.i120 nd (fun j => by rw [eig458, up2_c (by decide), eig427, up2_c (by decide)]; exact h63 j) (by rw [eig458, up2_c (by decide), eig427, up2_c (by decide)]; exact h19)
                have hU : FXm B σ ig458 lg416 := by rw [eig458]; exact hU.wr (by decide)
                refine lv_aload_n hx hb dX12_stretch_143 rfl (lv_at hl 2 rfl) ?_
                have hI := hI.su (f := (ig458 (B + 49) 19).toInt) rfl
                refine r_callV (As := []) (rest := []) C hw (t_X12_remembersE l B D cA kd ig458 rg lg416 _   hI) sv_X12_342 (hsh 49 _ rfl) rfl hl.1 rfl (Nat.le_of_ble_eq_true rfl) ⟨Nat.le_of_ble_eq_true rfl, Nat.le_of_ble_eq_true rfl⟩ ⟨Nat.le_of_ble_eq_true rfl, Nat.le_of_ble_eq_true rfl⟩ dX12_stretch_144 (fun r463 kd459 ig460 rg461 lg462 H locs hw hH hp464 => ?_)
                obtain ⟨rfl, rfl, hI, hchp464, hrhp464⟩ := hp464
                have hF : Ft B [49, 54, 55, 56, 57, 58, 59, 60, 61, 63, 64, 65, 66, 67, 68, 69, 70, 71, 72, 73, 74, 76, 77, 78] ig lg ig460 lg462 := Ft.tr hF hchp464 (by decide) (by decide)
                obtain ⟨rfl, hvhp464⟩ := hrhp464
                have v09 := hU.1.2
                have rm9 := hvhp464
                have e19 := hI.u
                have hI := hI.nu
                have hM := hM.ft hchp464 (by decide) e19
                have hwp : WP B ig460 288 := WP.ft hwp hchp464 (by decide) (by decide) (by decide) (by decide) (by decide)
                have hD := hD.ft hchp464 (by decide)
                refine lv_aload_n hx hb dX12_stretch_147 rfl (lv_at hl 2 rfl) ?_
                refine lv_iload_n hx hb dX12_stretch_148 rfl (lv_at hl 3 rfl) ?_
                have hst9 : stT σ π x.toInt (upS σ x.toInt.toNat (fCl (stL (fmO (atC σ x.toInt)) (l9 : Int) (128 * 0 + 0)))) (pput π x.toInt.toNat (σ x.toInt.toNat)) y.toInt := (by exfalso; omega)
                refine r_callV (As := [.int x]) (rest := []) C hw (t_X12_putsX l B D cA kd ig460 rg lg462 _ x (by omega) hwp σ π hM _ hD _ (hW.stT hst9) hI) sv_X12_207 (hsh 49 _ rfl) rfl hl.1 rfl (Nat.le_of_ble_eq_true rfl) ⟨Nat.le_of_ble_eq_true rfl, Nat.le_of_ble_eq_true rfl⟩ ⟨Nat.le_of_ble_eq_true rfl, Nat.le_of_ble_eq_true rfl⟩ dX12_stretch_149 (fun r469 kd465 ig466 rg467 lg468 H locs hw hH hp470 => ?_)
                obtain ⟨rfl, rfl, hI, hchp470, hrhp470⟩ := hp470
                have hF : Ft B [49, 54, 55, 56, 57, 58, 59, 60, 61, 63, 64, 65, 66, 67, 68, 69, 70, 71, 72, 73, 74, 76, 77, 78] ig lg ig466 lg468 := Ft.tr hF hchp470 (by decide) (by decide)
                obtain ⟨rfl, hvhp470⟩ := hrhp470
                obtain ⟨hM, hU⟩ := hvhp470
                have rm9 := rm9.ft hchp470
                refine lv_aload_n hx hb dX12_stretch_152 rfl (lv_at hl 2 rfl) ?_
                have hI := hI.su (f := (ig466 (B + 49) 19).toInt) rfl
                refine r_callV (As := []) (rest := []) C hw (t_X12_tellsE l B D cA kd ig466 rg lg468 _   hI) sv_X12_345 (hsh 49 _ rfl) rfl hl.1 rfl (Nat.le_of_ble_eq_true rfl) ⟨Nat.le_of_ble_eq_true rfl, Nat.le_of_ble_eq_true rfl⟩ ⟨Nat.le_of_ble_eq_true rfl, Nat.le_of_ble_eq_true rfl⟩ dX12_stretch_153 (fun r475 kd471 ig472 rg473 lg474 H locs hw hH hp476 => ?_)
                obtain ⟨rfl, rfl, hI, hchp476, hrhp476⟩ := hp476
                have hF : Ft B [49, 54, 55, 56, 57, 58, 59, 60, 61, 63, 64, 65, 66, 67, 68, 69, 70, 71, 72, 73, 74, 76, 77, 78] ig lg ig472 lg474 := Ft.tr hF hchp476 (by decide) (by decide)
                obtain ⟨z477, rfl, hz477⟩ := hrhp476
                have ch9 := RmR.ch v09 rm9 hU.1.2 hz477
                have e19 := hI.u
                have hI := hI.nu
                have hM := hM.ft hchp476 (by decide) e19
                have hU := hU.ft hchp476 (by decide)
                exact r_iret C hw hr hlk rfl (Nat.le_of_ble_eq_true rfl) (Nat.le_of_ble_eq_true rfl) dX12_stretch_156 ⟨rfl, rfl, hI, hF, ⟨_, rfl, (by exfalso; omega)⟩⟩
            · refine lv_iconst (v := 1) hx hb dX12_stretch_112 (by decide) (ti_c 1 (by decide) fun z478 hz478 => ?_)
              refine lv_goto (tgt := 117) hx hb dX12_stretch_113 (by decide) ?_
              refine lv_iadd hx hb dX12_stretch_117 (tc_add fun z479 hz479 => ?_)
              first | replace hz479 := hz479 (by omega) | clear hz479
              refine r_iast C hw (hsh 56 _ rfl) (by omega) (by omega) dX12_stretch_118 (fun H locs hH hw => ?_)
              obtain ⟨ig480, eig480⟩ : ∃ f, f = up2 ig414 (B + 56) z422.toInt.toNat z479 := ⟨_, rfl⟩
              rw [← eig480] at hw
              have hF : Ft B [49, 54, 55, 56, 57, 58, 59, 60, 61, 63, 64, 65, 66, 67, 68, 69, 70, 71, 72, 73, 74, 76, 77, 78] ig lg ig480 lg416 := by rw [eig480]; exact hF.pi (by decide)
              have hI : IM τ φ none B kd ig480 rg := by rw [eig480]; exact hI.pdr2 (Or.inr rfl) nW q4
              have wf : WFr B ig480 288 := by rw [eig480, nw]; exact WFr.uB wf k34 (by omega) (by omega)
              have k3b : (ig480 (B + 54) (34560 + (j + 4))).toInt = 3 := by rw [eig480, up2_c (by decide)]; exact k34
              have fA : (ig480 (B + 55) (34560 + (j + 4))).toInt = (ig414 (B + 55) (34560 + (j + 4))).toInt := by rw [eig480, up2_c (by decide)]
              have fB : 0 ≤ (ig480 (B + 56) (34560 + (j + 4))).toInt ∧ (ig480 (B + 56) (34560 + (j + 4))).toInt < 24 := by rw [eig480, nw, up2_eq]; omega
              have nd : NDr B ig11 ig480 := by rw [eig480]; exact nd.wr (Or.inr (Or.inr ⟨by decide, by decide, by omega, by omega⟩))
              have hU : FXm B σ ig480 lg416 := by rw [eig480]; exact hU.wr (by decide)
              refine lv_aload_n hx hb dX12_stretch_119 rfl (lv_at hl 2 rfl) ?_
              refine r_get C hw (hsh 49 _ rfl) fl_X12_68 (oV_r rfl (hrm (49, 10, 55) (by decide))) dX12_stretch_120 ?_
              refine lv_ldc (v := 34560) hx hb hown (hts _ kc_X12_142) dX12_stretch_123 (ti_c 34560 (by decide) fun z481 hz481 => ?_)
              refine lv_iload_n hx hb dX12_stretch_125 rfl (lv_at hl 1 rfl) ?_
              refine lv_iadd hx hb dX12_stretch_126 (tc_add fun z482 hz482 => ?_)
              first | replace hz482 := hz482 (by omega) | clear hz482
              refine lv_iconst (v := 4) hx hb dX12_stretch_127 (by decide) (ti_c 4 (by decide) fun z483 hz483 => ?_)
              refine lv_iadd hx hb dX12_stretch_128 (tc_add fun z484 hz484 => ?_)
              first | replace hz484 := hz484 (by omega) | clear hz484
              refine lv_dup2_11 hx hb dX12_stretch_129 rfl rfl ?_
              have nw2 : z484.toInt.toNat = 34560 + (j + 4) := by omega
              have nW2 : nEq z484.toInt.toNat (34560 + (j + 4)) := nw2
              refine r_iald C hw (hsh 55 _ rfl) (by omega) (by omega) dX12_stretch_130 (ti_c (ig480 (B + 55) z484.toInt.toNat).toInt rfl fun z485 hz485 => ?_)
              rw [nw2] at hz485
              refine lv_iload hx hb dX12_stretch_131 (lv_at hl 0 rfl) ?_
              refine z_eq (tgt := 140) hx hb dX12_stretch_133 (by decide) (fun c133 => ?_) (fun c133 => ?_)
              · refine lv_iconst (v := 1) hx hb dX12_stretch_140 (by decide) (ti_c 1 (by decide) fun z487 hz487 => ?_)
                refine lv_iadd hx hb dX12_stretch_141 (tc_add fun z488 hz488 => ?_)
                first | replace hz488 := hz488 (by omega) | clear hz488
                refine r_iast C hw (hsh 55 _ rfl) (by omega) (by omega) dX12_stretch_142 (fun H locs hH hw => ?_)
                obtain ⟨ig489, eig489⟩ : ∃ f, f = up2 ig480 (B + 55) z484.toInt.toNat z488 := ⟨_, rfl⟩
                rw [← eig489] at hw
                have hF : Ft B [49, 54, 55, 56, 57, 58, 59, 60, 61, 63, 64, 65, 66, 67, 68, 69, 70, 71, 72, 73, 74, 76, 77, 78] ig lg ig489 lg416 := by rw [eig489]; exact hF.pi (by decide)
                have hI : IM τ φ none B kd ig489 rg := by rw [eig489]; exact hI.pdr2 (Or.inl rfl) nW2 q4
                have wf : WFr B ig489 288 := by rw [eig489, nw2]; exact WFr.uA wf k3b (by omega) fB
                have hwp : WP B ig489 288 := fun _ => wf
                have nd : NDr B ig11 ig489 := by rw [eig489]; exact nd.wr (Or.inr (Or.inr ⟨by decide, by decide, by omega, by omega⟩))
                have hfl : RowF B ig489 288 (x.toInt.toNat : Int) ((fmO (atC σ x.toInt)).set l9 (2, (stp (fmO (atC σ x.toInt)) (l9 : Int)).2.1, (stp (fmO (atC σ x.toInt)) (l9 : Int)).2.2 + (128 * 1 + 1))) := by rw [eig489, eig480]; exact RowF.longer (n := n) (hR1.2.2.1 hk2) (by omega) (by rw [emr]; exact smt) rfl k34 (by rw [f7, f4.2.1, f4.2.2]; exact pw4.1) (by rw [f7]; exact pw4.2) nw nw2 (by omega) (by omega)
                have hux := hW.uz (x := x.toInt) (by omega)
                have hD : RowM B ig489 288 (x.toInt.toNat : Int) (fCl (stL (fmO (atC σ x.toInt)) (l9 : Int) (128 * 1 + 1))) := ⟨⟨by rw [eig489, up2_c (by decide), eig480, up2_c (by decide), hR1.1.1, hk2]; rfl, by rw [eig489, up2_c (by decide), eig480, up2_c (by decide), hR1.1.2, hux.2]; rfl⟩, by unfold RowU; rw [eig489, up2_c (by decide), up2_c (by decide), up2_c (by decide), eig480, up2_c (by decide), up2_c (by decide), up2_c (by decide)]; have q := hR1.2.1; rw [hux.1] at q; exact q, fun _ => by show RowF B _ 288 _ (stL _ _ _); rw [stL_eq smt.2.1]; exact hfl, fun w => absurd rfl w⟩
                have hM := hM9.dr hI0.i120 nd (fun j => by rw [eig489, up2_c (by decide), eig480, up2_c (by decide)]; exact h63 j) (by rw [eig489, up2_c (by decide), eig480, up2_c (by decide)]; exact h19)
                have hU : FXm B σ ig489 lg416 := by rw [eig489]; exact hU.wr (by decide)
                refine lv_aload_n hx hb dX12_stretch_143 rfl (lv_at hl 2 rfl) ?_
                have hI := hI.su (f := (ig489 (B + 49) 19).toInt) rfl
                refine r_callV (As := []) (rest := []) C hw (t_X12_remembersE l B D cA kd ig489 rg lg416 _   hI) sv_X12_342 (hsh 49 _ rfl) rfl hl.1 rfl (Nat.le_of_ble_eq_true rfl) ⟨Nat.le_of_ble_eq_true rfl, Nat.le_of_ble_eq_true rfl⟩ ⟨Nat.le_of_ble_eq_true rfl, Nat.le_of_ble_eq_true rfl⟩ dX12_stretch_144 (fun r494 kd490 ig491 rg492 lg493 H locs hw hH hp495 => ?_)
                obtain ⟨rfl, rfl, hI, hchp495, hrhp495⟩ := hp495
                have hF : Ft B [49, 54, 55, 56, 57, 58, 59, 60, 61, 63, 64, 65, 66, 67, 68, 69, 70, 71, 72, 73, 74, 76, 77, 78] ig lg ig491 lg493 := Ft.tr hF hchp495 (by decide) (by decide)
                obtain ⟨rfl, hvhp495⟩ := hrhp495
                have v09 := hU.1.2
                have rm9 := hvhp495
                have e19 := hI.u
                have hI := hI.nu
                have hM := hM.ft hchp495 (by decide) e19
                have hwp : WP B ig491 288 := WP.ft hwp hchp495 (by decide) (by decide) (by decide) (by decide) (by decide)
                have hD := hD.ft hchp495 (by decide)
                refine lv_aload_n hx hb dX12_stretch_147 rfl (lv_at hl 2 rfl) ?_
                refine lv_iload_n hx hb dX12_stretch_148 rfl (lv_at hl 3 rfl) ?_
                have hst9 : stT σ π x.toInt (upS σ x.toInt.toNat (fCl (stL (fmO (atC σ x.toInt)) (l9 : Int) (128 * 1 + 1)))) (pput π x.toInt.toNat (σ x.toInt.toNat)) y.toInt := (by exfalso; omega)
                refine r_callV (As := [.int x]) (rest := []) C hw (t_X12_putsX l B D cA kd ig491 rg lg493 _ x (by omega) hwp σ π hM _ hD _ (hW.stT hst9) hI) sv_X12_207 (hsh 49 _ rfl) rfl hl.1 rfl (Nat.le_of_ble_eq_true rfl) ⟨Nat.le_of_ble_eq_true rfl, Nat.le_of_ble_eq_true rfl⟩ ⟨Nat.le_of_ble_eq_true rfl, Nat.le_of_ble_eq_true rfl⟩ dX12_stretch_149 (fun r500 kd496 ig497 rg498 lg499 H locs hw hH hp501 => ?_)
                obtain ⟨rfl, rfl, hI, hchp501, hrhp501⟩ := hp501
                have hF : Ft B [49, 54, 55, 56, 57, 58, 59, 60, 61, 63, 64, 65, 66, 67, 68, 69, 70, 71, 72, 73, 74, 76, 77, 78] ig lg ig497 lg499 := Ft.tr hF hchp501 (by decide) (by decide)
                obtain ⟨rfl, hvhp501⟩ := hrhp501
                obtain ⟨hM, hU⟩ := hvhp501
                have rm9 := rm9.ft hchp501
                refine lv_aload_n hx hb dX12_stretch_152 rfl (lv_at hl 2 rfl) ?_
                have hI := hI.su (f := (ig497 (B + 49) 19).toInt) rfl
                refine r_callV (As := []) (rest := []) C hw (t_X12_tellsE l B D cA kd ig497 rg lg499 _   hI) sv_X12_345 (hsh 49 _ rfl) rfl hl.1 rfl (Nat.le_of_ble_eq_true rfl) ⟨Nat.le_of_ble_eq_true rfl, Nat.le_of_ble_eq_true rfl⟩ ⟨Nat.le_of_ble_eq_true rfl, Nat.le_of_ble_eq_true rfl⟩ dX12_stretch_153 (fun r506 kd502 ig503 rg504 lg505 H locs hw hH hp507 => ?_)
                obtain ⟨rfl, rfl, hI, hchp507, hrhp507⟩ := hp507
                have hF : Ft B [49, 54, 55, 56, 57, 58, 59, 60, 61, 63, 64, 65, 66, 67, 68, 69, 70, 71, 72, 73, 74, 76, 77, 78] ig lg ig503 lg505 := Ft.tr hF hchp507 (by decide) (by decide)
                obtain ⟨z508, rfl, hz508⟩ := hrhp507
                have ch9 := RmR.ch v09 rm9 hU.1.2 hz508
                have e19 := hI.u
                have hI := hI.nu
                have hM := hM.ft hchp507 (by decide) e19
                have hU := hU.ft hchp507 (by decide)
                exact r_iret C hw hr hlk rfl (Nat.le_of_ble_eq_true rfl) (Nat.le_of_ble_eq_true rfl) dX12_stretch_156 ⟨rfl, rfl, hI, hF, ⟨_, rfl, (by exfalso; omega)⟩⟩
              · refine lv_iconst (v := 0) hx hb dX12_stretch_136 (by decide) (ti_c 0 (by decide) fun z509 hz509 => ?_)
                refine lv_goto (tgt := 141) hx hb dX12_stretch_137 (by decide) ?_
                refine lv_iadd hx hb dX12_stretch_141 (tc_add fun z510 hz510 => ?_)
                first | replace hz510 := hz510 (by omega) | clear hz510
                refine r_iast C hw (hsh 55 _ rfl) (by omega) (by omega) dX12_stretch_142 (fun H locs hH hw => ?_)
                obtain ⟨ig511, eig511⟩ : ∃ f, f = up2 ig480 (B + 55) z484.toInt.toNat z510 := ⟨_, rfl⟩
                rw [← eig511] at hw
                have hF : Ft B [49, 54, 55, 56, 57, 58, 59, 60, 61, 63, 64, 65, 66, 67, 68, 69, 70, 71, 72, 73, 74, 76, 77, 78] ig lg ig511 lg416 := by rw [eig511]; exact hF.pi (by decide)
                have hI : IM τ φ none B kd ig511 rg := by rw [eig511]; exact hI.pdr2 (Or.inl rfl) nW2 q4
                have wf : WFr B ig511 288 := by rw [eig511, nw2]; exact WFr.uA wf k3b (by omega) fB
                have hwp : WP B ig511 288 := fun _ => wf
                have nd : NDr B ig11 ig511 := by rw [eig511]; exact nd.wr (Or.inr (Or.inr ⟨by decide, by decide, by omega, by omega⟩))
                have hfl : RowF B ig511 288 (x.toInt.toNat : Int) ((fmO (atC σ x.toInt)).set l9 (2, (stp (fmO (atC σ x.toInt)) (l9 : Int)).2.1, (stp (fmO (atC σ x.toInt)) (l9 : Int)).2.2 + (128 * 0 + 1))) := by rw [eig511, eig480]; exact RowF.longer (n := n) (hR1.2.2.1 hk2) (by omega) (by rw [emr]; exact smt) rfl k34 (by rw [f7, f4.2.1, f4.2.2]; exact pw4.1) (by rw [f7]; exact pw4.2) nw nw2 (by omega) (by omega)
                have hux := hW.uz (x := x.toInt) (by omega)
                have hD : RowM B ig511 288 (x.toInt.toNat : Int) (fCl (stL (fmO (atC σ x.toInt)) (l9 : Int) (128 * 0 + 1))) := ⟨⟨by rw [eig511, up2_c (by decide), eig480, up2_c (by decide), hR1.1.1, hk2]; rfl, by rw [eig511, up2_c (by decide), eig480, up2_c (by decide), hR1.1.2, hux.2]; rfl⟩, by unfold RowU; rw [eig511, up2_c (by decide), up2_c (by decide), up2_c (by decide), eig480, up2_c (by decide), up2_c (by decide), up2_c (by decide)]; have q := hR1.2.1; rw [hux.1] at q; exact q, fun _ => by show RowF B _ 288 _ (stL _ _ _); rw [stL_eq smt.2.1]; exact hfl, fun w => absurd rfl w⟩
                have hM := hM9.dr hI0.i120 nd (fun j => by rw [eig511, up2_c (by decide), eig480, up2_c (by decide)]; exact h63 j) (by rw [eig511, up2_c (by decide), eig480, up2_c (by decide)]; exact h19)
                have hU : FXm B σ ig511 lg416 := by rw [eig511]; exact hU.wr (by decide)
                refine lv_aload_n hx hb dX12_stretch_143 rfl (lv_at hl 2 rfl) ?_
                have hI := hI.su (f := (ig511 (B + 49) 19).toInt) rfl
                refine r_callV (As := []) (rest := []) C hw (t_X12_remembersE l B D cA kd ig511 rg lg416 _   hI) sv_X12_342 (hsh 49 _ rfl) rfl hl.1 rfl (Nat.le_of_ble_eq_true rfl) ⟨Nat.le_of_ble_eq_true rfl, Nat.le_of_ble_eq_true rfl⟩ ⟨Nat.le_of_ble_eq_true rfl, Nat.le_of_ble_eq_true rfl⟩ dX12_stretch_144 (fun r516 kd512 ig513 rg514 lg515 H locs hw hH hp517 => ?_)
                obtain ⟨rfl, rfl, hI, hchp517, hrhp517⟩ := hp517
                have hF : Ft B [49, 54, 55, 56, 57, 58, 59, 60, 61, 63, 64, 65, 66, 67, 68, 69, 70, 71, 72, 73, 74, 76, 77, 78] ig lg ig513 lg515 := Ft.tr hF hchp517 (by decide) (by decide)
                obtain ⟨rfl, hvhp517⟩ := hrhp517
                have v09 := hU.1.2
                have rm9 := hvhp517
                have e19 := hI.u
                have hI := hI.nu
                have hM := hM.ft hchp517 (by decide) e19
                have hwp : WP B ig513 288 := WP.ft hwp hchp517 (by decide) (by decide) (by decide) (by decide) (by decide)
                have hD := hD.ft hchp517 (by decide)
                refine lv_aload_n hx hb dX12_stretch_147 rfl (lv_at hl 2 rfl) ?_
                refine lv_iload_n hx hb dX12_stretch_148 rfl (lv_at hl 3 rfl) ?_
                have hst9 : stT σ π x.toInt (upS σ x.toInt.toNat (fCl (stL (fmO (atC σ x.toInt)) (l9 : Int) (128 * 0 + 1)))) (pput π x.toInt.toNat (σ x.toInt.toNat)) y.toInt := ⟨some (stL (fmO (atC σ x.toInt)) (l9 : Int) (128 * 0 + 1)), Or.inr ⟨hk2, _, (l9 : Int), hU9.far, hsl, Or.inl ⟨Iff.mpr iB ((show (_ → _) ∧ (_ → ¬ _) from sd9).1 (by omega)), rfl⟩⟩, Or.inr ⟨_, rfl, rfl, rfl⟩⟩
                refine r_callV (As := [.int x]) (rest := []) C hw (t_X12_putsX l B D cA kd ig513 rg lg515 _ x (by omega) hwp σ π hM _ hD _ (hW.stT hst9) hI) sv_X12_207 (hsh 49 _ rfl) rfl hl.1 rfl (Nat.le_of_ble_eq_true rfl) ⟨Nat.le_of_ble_eq_true rfl, Nat.le_of_ble_eq_true rfl⟩ ⟨Nat.le_of_ble_eq_true rfl, Nat.le_of_ble_eq_true rfl⟩ dX12_stretch_149 (fun r522 kd518 ig519 rg520 lg521 H locs hw hH hp523 => ?_)
                obtain ⟨rfl, rfl, hI, hchp523, hrhp523⟩ := hp523
                have hF : Ft B [49, 54, 55, 56, 57, 58, 59, 60, 61, 63, 64, 65, 66, 67, 68, 69, 70, 71, 72, 73, 74, 76, 77, 78] ig lg ig519 lg521 := Ft.tr hF hchp523 (by decide) (by decide)
                obtain ⟨rfl, hvhp523⟩ := hrhp523
                obtain ⟨hM, hU⟩ := hvhp523
                have rm9 := rm9.ft hchp523
                refine lv_aload_n hx hb dX12_stretch_152 rfl (lv_at hl 2 rfl) ?_
                have hI := hI.su (f := (ig519 (B + 49) 19).toInt) rfl
                refine r_callV (As := []) (rest := []) C hw (t_X12_tellsE l B D cA kd ig519 rg lg521 _   hI) sv_X12_345 (hsh 49 _ rfl) rfl hl.1 rfl (Nat.le_of_ble_eq_true rfl) ⟨Nat.le_of_ble_eq_true rfl, Nat.le_of_ble_eq_true rfl⟩ ⟨Nat.le_of_ble_eq_true rfl, Nat.le_of_ble_eq_true rfl⟩ dX12_stretch_153 (fun r528 kd524 ig525 rg526 lg527 H locs hw hH hp529 => ?_)
                obtain ⟨rfl, rfl, hI, hchp529, hrhp529⟩ := hp529
                have hF : Ft B [49, 54, 55, 56, 57, 58, 59, 60, 61, 63, 64, 65, 66, 67, 68, 69, 70, 71, 72, 73, 74, 76, 77, 78] ig lg ig525 lg527 := Ft.tr hF hchp529 (by decide) (by decide)
                obtain ⟨z530, rfl, hz530⟩ := hrhp529
                have ch9 := RmR.ch v09 rm9 hU.1.2 hz530
                have e19 := hI.u
                have hI := hI.nu
                have hM := hM.ft hchp529 (by decide) e19
                have hU := hU.ft hchp529 (by decide)
                exact r_iret C hw hr hlk rfl (Nat.le_of_ble_eq_true rfl) (Nat.le_of_ble_eq_true rfl) dX12_stretch_156 ⟨rfl, rfl, hI, hF, ⟨_, rfl, ⟨_, _, hM, hU, ⟨some (stL (fmO (atC σ x.toInt)) (l9 : Int) (128 * 0 + 1)), Or.inr ⟨hk2, _, (l9 : Int), hU9.far, hsl, Or.inl ⟨Iff.mpr iB ((show (_ → _) ∧ (_ → ¬ _) from sd9).1 (by omega)), rfl⟩⟩, Or.inr ⟨_, rfl, ⟨rfl, rfl⟩, ch9⟩⟩⟩⟩⟩
          · refine lv_iconst (v := (-1)) hx hb dX12_stretch_85 (by decide) (ti_c (-1) (by decide) fun z531 hz531 => ?_)
            exact r_iret C hw hr hlk rfl (Nat.le_of_ble_eq_true rfl) (Nat.le_of_ble_eq_true rfl) dX12_stretch_86 ⟨rfl, rfl, hI, hF, ⟨_, rfl, (by exfalso; omega)⟩⟩
    · refine lv_iconst (v := (-1)) hx hb dX12_stretch_37 (by decide) (ti_c (-1) (by decide) fun z532 hz532 => ?_)
      exact r_iret C hw hr hlk rfl (Nat.le_of_ble_eq_true rfl) (Nat.le_of_ble_eq_true rfl) dX12_stretch_38 ⟨rfl, rfl, hI, hF, ⟨_, rfl, ⟨_, _, hM, hU, (by rcases js with ⟨-, w⟩ | ⟨hon, hk2, n, hn, hsi⟩; exact ⟨none, Or.inl ⟨w, rfl⟩, Or.inl ⟨rfl, ⟨rfl, rfl⟩, by omega⟩⟩; (have zm := hsi.neg (by omega); have hrow := hM.1 x.toInt.toNat (by omega); rw [← atC_on (σ := σ) (x := x.toInt) (by omega)] at hrow; obtain ⟨n2, q1, q2, q3⟩ := (hrow.2.2.1 hk2).1; rw [show n = n2 by omega] at hsi; rcases sum_match q3 hsi with ⟨-, w⟩ | ⟨j, l, w, -⟩; exact ⟨none, Or.inr ⟨hk2, _, -1, hU.far, w, Or.inr (Or.inr ⟨shB.no stp_m1, shR.no stp_m1, rfl⟩)⟩, Or.inl ⟨rfl, ⟨rfl, rfl⟩, by omega⟩⟩; omega))⟩⟩⟩
  refine z_eq (tgt := 31) hx hb dX12_stretch_9 (by decide) (fun c9 => ?_) (fun c9 => ?_)
  · refine lv_iconst (v := (-1)) hx hb dX12_stretch_31 (by decide) (ti_c (-1) (by decide) fun z533 hz533 => ?_)
    exact J32 ls H locs ig2 lg z533 (lv_sub hl [0, 1] rfl) hw hI hF (hM) (hU) (Or.inl ⟨by omega, by rw [atC_off (by omega)]; decide⟩)
  · refine lv_aload_n hx hb dX12_stretch_12 rfl (lv_at hl 0 rfl) ?_
    refine r_get C hw (hsh 49 _ rfl) fl_X12_80 (oV_r rfl (hrm (49, 15, 59) (by decide))) dX12_stretch_13 ?_
    refine lv_iload_n hx hb dX12_stretch_16 rfl (lv_at hl 1 rfl) ?_
    refine r_iald C hw (hsh 59 _ rfl) (by omega) (by omega) dX12_stretch_17 (ti_c (ig2 (B + 59) x.toInt.toNat).toInt rfl fun z534 hz534 => ?_)
    have kd9 : z534.toInt = kdO (atC σ x.toInt) := by rw [hz534]; first | exact hM.kdx (x := x.toInt) (by omega) | exact hM0.kdx (x := x.toInt) (by omega)
    refine lv_iconst (v := 2) hx hb dX12_stretch_18 (by decide) (ti_c 2 (by decide) fun z536 hz536 => ?_)
    refine b_ne (tgt := 31) hx hb dX12_stretch_19 (by decide) (fun c19 => ?_) (fun c19 => ?_)
    · refine lv_iconst (v := (-1)) hx hb dX12_stretch_31 (by decide) (ti_c (-1) (by decide) fun z537 hz537 => ?_)
      exact J32 ls H locs ig2 lg z537 (lv_sub hl [0, 1] rfl) hw hI hF (hM) (hU) (Or.inl ⟨by omega, by omega⟩)
    · have kk9 : kdO (atC σ x.toInt) = 2 := by omega
      obtain ⟨n9, hn9⟩ : ∃ n : Nat, (ig2 (B + 58) x.toInt.toNat).toInt = (n : Int) := ⟨(ig2 (B + 58) x.toInt.toNat).toInt.toNat, by have q := hI.its (j := x.toInt.toNat) (by omega); omega⟩
      refine lv_aload_n hx hb dX12_stretch_22 rfl (lv_at hl 0 rfl) ?_
      refine lv_iload_n hx hb dX12_stretch_23 rfl (lv_at hl 1 rfl) ?_
      refine lv_iload_n hx hb dX12_stretch_24 rfl (lv_at hl 2 rfl) ?_
      refine r_callV (As := [.int x, .int y]) (rest := []) C hw (t_X12_sumAtE l B D cA kd ig2 rg lg _ x y (by omega) n9 hn9 hI) sv_X12_348 (hsh 49 _ rfl) rfl hl.1 rfl (Nat.le_of_ble_eq_true rfl) ⟨Nat.le_of_ble_eq_true rfl, Nat.le_of_ble_eq_true rfl⟩ ⟨Nat.le_of_ble_eq_true rfl, Nat.le_of_ble_eq_true rfl⟩ dX12_stretch_25 (fun r542 kd538 ig539 rg540 lg541 H locs hw hH hp543 => ?_)
      obtain ⟨rfl, rfl, rfl, rfl, hzhp543, hrhp543⟩ := hp543
      obtain ⟨z544, rfl, hz544⟩ := hrhp543
      have sm9 := hz544
      refine lv_goto (tgt := 32) hx hb dX12_stretch_28 (by decide) ?_
      exact J32 ls H locs ig2 lg z544 (lv_sub hl [0, 1] rfl) hw hI hF (hM) (hU) (Or.inr ⟨by omega, kk9, n9, hn9, sm9⟩)

set_option maxHeartbeats 4000000 in
set_option maxRecDepth 100000 in
theorem t_X12_formulaX {τ : Tp} (l : Launch) (B : Nat) (D : va_G) (cA : Nat → ClassId) (kd : sK) (ig : sI) (rg : sR) (lg : sG) (sz : Nat) (x : Int32) (σ : Sg) (π : Ps) (hM : SM B σ π ig) (hW : WS σ π) (hU : FXm B σ ig lg) (hT : onS x.toInt → pTop (tK τ) (tV τ) (tS τ) 0 → ∃ L, tTop τ x.toInt.toNat L ∧ fitW x.toInt.toNat L) (hI : IM τ none none B kd ig rg) : MC l B D cA yX12_formula cX12_formula 2 (some .int) (rL 33 0 0) [.ref (B + 49), .int x] kd ig rg lg sz (PM [] none none B [49, 51, 52, 53, 54, 55, 56, 57, 58, 59, 60, 61, 63, 64, 65, 66, 67, 68, 69, 70, 71, 72, 73, 74] kd ig rg lg (fun r ig' lg' => ∃ z : Int32, r = some (.int z) ∧ (∃ σ' π', SM B σ' π' ig' ∧ FXm B σ' ig' lg' ∧ stF τ σ π x.toInt z.toInt σ' π'))) := by
  refine MC.of (own := RX12) (by decide +kernel) rfl (Nat.le_of_ble_eq_true rfl) ?_
  intro p e s m args below meth c ls C hr hlk hnm hw hsz hl
  have hx := C.1.1
  have hb := C.1.2.1
  have hown := C.1.2.2.2.1
  have hts := C.1.2.2.2.2
  have hl : lv_has ls 2 [(0, .ref (B + 49)), (1, .int x)] := hl
  have hF : Ft B [49, 51, 52, 53, 54, 55, 56, 57, 58, 59, 60, 61, 63, 64, 65, 66, 67, 68, 69, 70, 71, 72, 73, 74] ig lg ig lg := Ft.rf
  have hsh := hI.sh
  have hrm := hI.rm
  refine lv_aload_n hx hb dX12_formula_0 rfl (lv_at hl 0 rfl) ?_
  refine lv_iconst (v := 0) hx hb dX12_formula_1 (by decide) (ti_c 0 (by decide) fun z1 hz1 => ?_)
  refine r_puti C hw (hsh 49 _ rfl) fl_X12_1 rfl rfl rfl dX12_formula_2 (fun H locs hH hw => ?_)
  obtain ⟨ig2, eig2⟩ : ∃ f, f = up2 ig (B + 49) 0 z1 := ⟨_, rfl⟩
  rw [← eig2] at hw
  have hF : Ft B [49, 51, 52, 53, 54, 55, 56, 57, 58, 59, 60, 61, 63, 64, 65, 66, 67, 68, 69, 70, 71, 72, 73, 74] ig lg ig2 lg := by rw [eig2]; exact hF.pi (by decide)
  have hI : IM τ none none B kd ig2 rg := by rw [eig2]; exact hI.pi (by decide) (show okR none _ from trivial)
  have wig2_49_7 : (ig2 (B + 49) 7).toInt = (ig (B + 49) 7).toInt := by rw [eig2, up2_j (by decide)]
  have wig2_49_8 : (ig2 (B + 49) 8).toInt = (ig (B + 49) 8).toInt := by rw [eig2, up2_j (by decide)]
  have wig2_49_14 : (ig2 (B + 49) 14).toInt = (ig (B + 49) 14).toInt := by rw [eig2, up2_j (by decide)]
  have hM : SM B σ π ig2 := by rw [eig2]; exact hM.wr (by decide)
  have hU := FXm.wrE eig2 hU (by decide)
  refine lv_iload_n hx hb dX12_formula_5 rfl (lv_at hl 1 rfl) ?_
  refine r_callS (As := [.int x]) (rest := []) C hw (t_X12_isPlace l B D cA kd ig2 rg lg _ x  hI) ss_X12_198 rfl hl.1 rfl (Nat.le_of_ble_eq_true rfl) ⟨Nat.le_of_ble_eq_true rfl, Nat.le_of_ble_eq_true rfl⟩ ⟨Nat.le_of_ble_eq_true rfl, Nat.le_of_ble_eq_true rfl⟩ dX12_formula_6 (fun r7 kd3 ig4 rg5 lg6 H locs hw hH hp8 => ?_)
  obtain ⟨rfl, rfl, rfl, rfl, hzhp8, hrhp8⟩ := hp8
  obtain ⟨z9, rfl, hz9⟩ := hrhp8
  refine z_ne (tgt := 19) hx hb dX12_formula_9 (by decide) (fun c9 => ?_) (fun c9 => ?_)
  · refine lv_aload_n hx hb dX12_formula_19 rfl (lv_at hl 0 rfl) ?_
    have hI := hI.su (f := (ig2 (B + 49) 19).toInt) rfl
    refine r_callV (As := []) (rest := []) C hw (t_X12_cutAll l B D cA kd ig2 rg lg _   hI) sv_X12_201 (hsh 49 _ rfl) rfl hl.1 rfl (Nat.le_of_ble_eq_true rfl) ⟨Nat.le_of_ble_eq_true rfl, Nat.le_of_ble_eq_true rfl⟩ ⟨Nat.le_of_ble_eq_true rfl, Nat.le_of_ble_eq_true rfl⟩ dX12_formula_20 (fun r14 kd10 ig11 rg12 lg13 H locs hw hH hp15 => ?_)
    obtain ⟨rfl, rfl, hI, hchp15, hrhp15⟩ := hp15
    have hF : Ft B [49, 51, 52, 53, 54, 55, 56, 57, 58, 59, 60, 61, 63, 64, 65, 66, 67, 68, 69, 70, 71, 72, 73, 74] ig lg ig11 lg13 := Ft.tr hF hchp15 (by decide) (by decide)
    obtain ⟨rfl, hvhp15⟩ := hrhp15
    have e19 := hI.u
    have hI := hI.nu
    obtain ⟨N, ps, a0, f0, mt⟩ := hvhp15
    have hM := hM.ft hchp15 (by decide) e19
    have hU := hU.ft hchp15 (by decide)
    refine lv_aload_n hx hb dX12_formula_23 rfl (lv_at hl 0 rfl) ?_
    refine lv_iconst (v := 2) hx hb dX12_formula_24 (by decide) (ti_c 2 (by decide) fun z16 hz16 => ?_)
    refine lv_iconst (v := 0) hx hb dX12_formula_25 (by decide) (ti_c 0 (by decide) fun z17 hz17 => ?_)
    have hIc := hI
    refine r_callV (As := [.int z16, .int z17]) (rest := []) C hw (t_X12_clearDraftE l B D cA kd ig11 rg lg13 _ z16 z17  hI) sv_X12_204 (hsh 49 _ rfl) rfl hl.1 rfl (Nat.le_of_ble_eq_true rfl) ⟨Nat.le_of_ble_eq_true rfl, Nat.le_of_ble_eq_true rfl⟩ ⟨Nat.le_of_ble_eq_true rfl, Nat.le_of_ble_eq_true rfl⟩ dX12_formula_26 (fun r22 kd18 ig19 rg20 lg21 H locs hw hH hp23 => ?_)
    obtain ⟨rfl, rfl, hI, hchp23, hrhp23⟩ := hp23
    have hF : Ft B [49, 51, 52, 53, 54, 55, 56, 57, 58, 59, 60, 61, 63, 64, 65, 66, 67, 68, 69, 70, 71, 72, 73, 74] ig lg ig19 lg21 := Ft.tr hF hchp23 (by decide) (by decide)
    obtain ⟨rfl, hvhp23⟩ := hrhp23
    obtain ⟨⟨⟨k59, k60⟩, k58⟩, ku, kk⟩ := hvhp23
    have hM := hM.dr hIc.i120 (fun c j a b q => kk c j ⟨a, b⟩ (fun w => q (by unfold drp; omega))) (fun j => hchp23.i 63 j (by decide)) (congrArg Int32.toInt (hchp23.i 49 19 (by decide)))
    have hU := hU.ft hchp23 (by decide)
    have ps := PSt.ft ps hchp23 (by decide) (by decide)
    have mt := MT.ft mt hchp23 (by decide)
    have c7 := congrArg Int32.toInt (hchp23.i 49 7 (by decide))
    have c8 := congrArg Int32.toInt (hchp23.i 49 8 (by decide))
    have hN := ps.1
    have k59 : (ig19 (B + 59) 288).toInt = 2 := by rw [k59]; omega
    have k60 : (ig19 (B + 60) 288).toInt = 0 := by rw [k60]; omega
    refine lv_aload_n hx hb dX12_formula_29 rfl (lv_at hl 0 rfl) ?_
    refine lv_iconst (v := 0) hx hb dX12_formula_30 (by decide) (ti_c 0 (by decide) fun z24 hz24 => ?_)
    refine r_puti C hw (hsh 49 _ rfl) fl_X12_174 rfl rfl rfl dX12_formula_31 (fun H locs hH hw => ?_)
    obtain ⟨ig25, eig25⟩ : ∃ f, f = up2 ig19 (B + 49) 14 z24 := ⟨_, rfl⟩
    rw [← eig25] at hw
    have hF : Ft B [49, 51, 52, 53, 54, 55, 56, 57, 58, 59, 60, 61, 63, 64, 65, 66, 67, 68, 69, 70, 71, 72, 73, 74] ig lg ig25 lg21 := by rw [eig25]; exact hF.pi (by decide)
    have hI : IM [] none none B kd ig25 rg := by rw [eig25]; exact hI.pi (by decide) (show okR none _ from trivial)
    have wig25_49_7 : (ig25 (B + 49) 7).toInt = (ig19 (B + 49) 7).toInt := by rw [eig25, up2_j (by decide)]
    have wig25_49_8 : (ig25 (B + 49) 8).toInt = (ig19 (B + 49) 8).toInt := by rw [eig25, up2_j (by decide)]
    have wig25 : (ig25 (B + 49) 14).toInt = z24.toInt := by rw [eig25, up2_eq]
    have i58 : (ig25 (B + 58) 288).toInt = 0 := by rw [eig25, up2_c (by decide)]; exact k58
    have pv : PV B N ig25 := ⟨by rw [eig25]; exact ps.wr (by decide), ⟨by omega, by omega⟩, by omega, ⟨by omega, by omega⟩, hN⟩
    have dp0 : (ig25 (B + 49) 14).toInt = 0 := by rw [eig25, up2_eq]; omega
    have mt : MT B N τ ig25 lg21 := by rw [eig25]; exact mt.wr (by decide)
    have hM : SM B σ π ig25 := by rw [eig25]; exact hM.wr (by decide)
    have hU := FXm.wrE eig25 hU (by decide)
    have k59 : (ig25 (B + 59) 288).toInt = 2 := by rw [eig25, up2_c (by decide)]; exact k59
    have k60 : (ig25 (B + 60) 288).toInt = 0 := by rw [eig25, up2_c (by decide)]; exact k60
    have ku : RowU B ig25 288 (0, 0, 0) := by unfold RowU; rw [eig25, up2_c (by decide), up2_c (by decide), up2_c (by decide)]; exact ku
    have hIr := hI
    have tri : TRI B τ x.toInt.toNat ig25 := TRI.z i58 (by omega)
    refine lv_aload_n hx hb dX12_formula_34 rfl (lv_at hl 0 rfl) ?_
    have hI := hI.su (f := (ig25 (B + 49) 19).toInt) rfl
    refine r_callV (As := []) (rest := []) C hw ((t_X12_readE_all l B D cA 8).2.2 kd ig25 rg lg21 _  N pv mt (by omega) hI) sv_X12_180 (hsh 49 _ rfl) rfl hl.1 rfl (Nat.le_of_ble_eq_true rfl) ⟨Nat.le_of_ble_eq_true rfl, Nat.le_of_ble_eq_true rfl⟩ ⟨Nat.le_of_ble_eq_true rfl, Nat.le_of_ble_eq_true rfl⟩ dX12_formula_35 (fun r30 kd26 ig27 rg28 lg29 H locs hw hH hp31 => ?_)
    obtain ⟨rfl, rfl, hI, hchp31, hrhp31⟩ := hp31
    have hF : Ft B [49, 51, 52, 53, 54, 55, 56, 57, 58, 59, 60, 61, 63, 64, 65, 66, 67, 68, 69, 70, 71, 72, 73, 74] ig lg ig27 lg29 := Ft.tr hF hchp31 (by decide) (by decide)
    obtain ⟨rfl, hvhp31⟩ := hrhp31
    have e19 := hI.u
    have hI := hI.nu
    obtain ⟨pv, p1, q1, fs1, tk⟩ := hvhp31
    have mt := MT.ft mt hchp31 (by decide)
    have ki := hI.its (j := 288) (by decide)
    have fq : FQ B ig27 := fun q => by
      have w := q1 q
      rw [show (ig25 (B + 58) 288).toInt.toNat = 0 by omega] at w
      exact QN.wp w (by omega) (by omega)
    have pvn := pv
    obtain ⟨hps, hat, hfa, hit, hN⟩ := pvn
    have pz1 : (ig25 (B + 49) 8).toInt = 0 ∧ (ig25 (B + 49) 7).toInt = 0 := ⟨by omega, by omega⟩
    have hM := hM.dr hIr.i120 tk.2 (fun j => hchp31.i 63 j (by decide)) e19
    have hU := hU.ft hchp31 (by decide)
    have tri := tk.1 _ tri
    have k59 : (ig27 (B + 59) 288).toInt = 2 := by rw [hchp31.i 59 _ (by decide)]; exact k59
    have k60 : (ig27 (B + 60) 288).toInt = 0 := by rw [hchp31.i 60 _ (by decide)]; exact k60
    have ku : RowU B ig27 288 (0, 0, 0) := by unfold RowU; rw [hchp31.i 61 _ (by decide), hchp31.i 61 _ (by decide), hchp31.i 61 _ (by decide)]; exact ku
    refine lv_aload_n hx hb dX12_formula_38 rfl (lv_at hl 0 rfl) ?_
    refine r_get C hw (hsh 49 _ rfl) fl_X12_52 (oV_i rfl) dX12_formula_39 (ti_c (ig27 (B + 49) 8).toInt rfl fun z32 hz32 => ?_)
    have J62 : ∀ (ls : Array Slot) (H : Heap) (locs : List Loc) (ig33 : sI) (lg34 : sG) , lv_has ls 2 [(0, .ref (B + 49)), (1, .int x)] → WD B D cA s.heap kd ig33 rg lg34 H locs → IM [] none none B kd ig33 rg → Ft B [49, 51, 52, 53, 54, 55, 56, 57, 58, 59, 60, 61, 63, 64, 65, 66, 67, 68, 69, 70, 71, 72, 73, 74] ig lg ig33 lg34 → (FQ B ig33) → (0 ≤ x.toInt) → (x.toInt < 288) → (pTop (tK τ) (tV τ) (tS τ) (ig33 (B + 49) 8).toInt) → (SM B σ π ig33) → (FXm B σ ig33 lg34) → ((ig33 (B + 49) 8).toInt = 0 → DRF B τ x.toInt.toNat ig33) → W p l e (rL 33 0 0) s m args below meth c H locs 0 0 (MQ below (QcW B D cA (PM [] none none B [49, 51, 52, 53, 54, 55, 56, 57, 58, 59, 60, 61, 63, 64, 65, 66, 67, 68, 69, 70, 71, 72, 73, 74] kd ig rg lg (fun r ig' lg' => ∃ z : Int32, r = some (.int z) ∧ (∃ σ' π', SM B σ' π' ig' ∧ FXm B σ' ig' lg' ∧ stF τ σ π x.toInt z.toInt σ' π')))) args s 0 0 (fun q => B ≤ q)) (F0 m 62 ls []) := by
      intro ls H locs ig33 lg34 hl hw hI hF g62_0 g62_1 g62_2 g62_3 g62_4 g62_5 g62_6
      have fq := g62_0
      have pt := g62_3
      have hM := g62_4
      have hU := g62_5
      have drf := g62_6
      refine lv_aload_n hx hb dX12_formula_62 rfl (lv_at hl 0 rfl) ?_
      refine r_get C hw (hsh 49 _ rfl) fl_X12_52 (oV_i rfl) dX12_formula_63 (ti_c (ig33 (B + 49) 8).toInt rfl fun z35 hz35 => ?_)
      refine z_ne (tgt := 74) hx hb dX12_formula_66 (by decide) (fun c66 => ?_) (fun c66 => ?_)
      · refine lv_aload_n hx hb dX12_formula_74 rfl (lv_at hl 0 rfl) ?_
        refine r_get C hw (hsh 49 _ rfl) fl_X12_52 (oV_i rfl) dX12_formula_75 (ti_c (ig33 (B + 49) 8).toInt rfl fun z36 hz36 => ?_)
        exact r_iret C hw hr hlk rfl (Nat.le_of_ble_eq_true rfl) (Nat.le_of_ble_eq_true rfl) dX12_formula_78 ⟨rfl, rfl, hI, hF, ⟨_, rfl, ⟨_, _, hM, hU, Or.inr ⟨by unfold onS; omega, Or.inl ⟨by omega, by rw [hz36]; exact pt, rfl, rfl⟩⟩⟩⟩⟩
      · refine lv_aload_n hx hb dX12_formula_69 rfl (lv_at hl 0 rfl) ?_
        refine lv_iload_n hx hb dX12_formula_70 rfl (lv_at hl 1 rfl) ?_
        have f7 : (ig33 (B + 49) 8).toInt = 0 := by omega
        have hon : onS x.toInt := by unfold onS; omega
        obtain ⟨L, tt, fw9⟩ := hT hon (by have w := pt; rw [f7] at w; exact w)
        have hD := drf f7 L tt
        have hwp := fq f7
        have hI := hI.so (f := 0) f7
        refine r_callV (As := [.int x]) (rest := []) C hw (t_X12_putsX l B D cA kd ig33 rg lg34 _ x (by omega) hwp σ π hM _ hD _ (hW.up (by omega) ⟨fun _ => fw9, fun _ => ⟨rfl, rfl⟩⟩) hI) sv_X12_207 (hsh 49 _ rfl) rfl hl.1 rfl (Nat.le_of_ble_eq_true rfl) ⟨Nat.le_of_ble_eq_true rfl, Nat.le_of_ble_eq_true rfl⟩ ⟨Nat.le_of_ble_eq_true rfl, Nat.le_of_ble_eq_true rfl⟩ dX12_formula_71 (fun r41 kd37 ig38 rg39 lg40 H locs hw hH hp42 => ?_)
        obtain ⟨rfl, rfl, hI, hchp42, hrhp42⟩ := hp42
        have hF : Ft B [49, 51, 52, 53, 54, 55, 56, 57, 58, 59, 60, 61, 63, 64, 65, 66, 67, 68, 69, 70, 71, 72, 73, 74] ig lg ig38 lg40 := Ft.tr hF hchp42 (by decide) (by decide)
        obtain ⟨rfl, hvhp42⟩ := hrhp42
        obtain ⟨hM, hU⟩ := hvhp42
        have f8 := hI.f
        have hI := hI.no
        refine lv_aload_n hx hb dX12_formula_74 rfl (lv_at hl 0 rfl) ?_
        refine r_get C hw (hsh 49 _ rfl) fl_X12_52 (oV_i rfl) dX12_formula_75 (ti_c (ig38 (B + 49) 8).toInt rfl fun z43 hz43 => ?_)
        exact r_iret C hw hr hlk rfl (Nat.le_of_ble_eq_true rfl) (Nat.le_of_ble_eq_true rfl) dX12_formula_78 ⟨rfl, rfl, hI, hF, ⟨_, rfl, ⟨_, _, hM, hU, Or.inr ⟨hon, Or.inr ⟨by rw [hz43]; exact f8, by have w := pt; rw [f7] at w; exact w, L, tt, fw9, rfl, rfl⟩⟩⟩⟩⟩
    refine z_ne (tgt := 62) hx hb dX12_formula_42 (by decide) (fun c42 => ?_) (fun c42 => ?_)
    · exact J62 ls H locs ig27 lg29 (lv_sub hl [0, 1] rfl) hw hI hF (fq) (by omega) (by omega) (PT.f fs1 pz1 (by omega)) (hM) (hU) (fun q => absurd q (by omega))
    · refine lv_aload_n hx hb dX12_formula_45 rfl (lv_at hl 0 rfl) ?_
      refine r_get C hw (hsh 49 _ rfl) fl_X12_32 (oV_r rfl (hrm (49, 4, 51) (by decide))) dX12_formula_46 ?_
      refine lv_aload_n hx hb dX12_formula_49 rfl (lv_at hl 0 rfl) ?_
      refine r_get C hw (hsh 49 _ rfl) fl_X12_49 (oV_i rfl) dX12_formula_50 (ti_c (ig27 (B + 49) 7).toInt rfl fun z44 hz44 => ?_)
      have ezz44 : nEq z44.toInt.toNat (ig27 (B + 49) 7).toInt.toNat := by show _ = _; omega
      refine r_iald C hw (hsh 51 _ rfl) (by omega) (by omega) dX12_formula_53 (ti_c (ig27 (B + 51) z44.toInt.toNat).toInt rfl fun z45 hz45 => ?_)
      rw [nEq.e ezz44] at hz45
      refine z_eq (tgt := 62) hx hb dX12_formula_54 (by decide) (fun c54 => ?_) (fun c54 => ?_)
      · exact J62 ls H locs ig27 lg29 (lv_sub hl [0, 1] rfl) hw hI hF (fq) (by omega) (by omega) (PT.e fs1 pz1 (by omega) ((mt_end mt hat).mp (by omega))) (hM) (hU) (fun q => DRF.of tri q ((mt_end mt hat).mp (by omega)) ki k59 k60 ku)
      · refine lv_aload_n hx hb dX12_formula_57 rfl (lv_at hl 0 rfl) ?_
        refine lv_iconst (v := 1) hx hb dX12_formula_58 (by decide) (ti_c 1 (by decide) fun z47 hz47 => ?_)
        have hI := hI.su (f := (ig27 (B + 49) 19).toInt) rfl
        refine r_callV (As := [.int z47]) (rest := []) C hw (t_X12_wrong l B D cA kd ig27 rg lg29 _ z47 N pv mt (by omega) hI) sv_X12_147 (hsh 49 _ rfl) rfl hl.1 rfl (Nat.le_of_ble_eq_true rfl) ⟨Nat.le_of_ble_eq_true rfl, Nat.le_of_ble_eq_true rfl⟩ ⟨Nat.le_of_ble_eq_true rfl, Nat.le_of_ble_eq_true rfl⟩ dX12_formula_59 (fun r52 kd48 ig49 rg50 lg51 H locs hw hH hp53 => ?_)
        obtain ⟨rfl, rfl, hI, hchp53, hrhp53⟩ := hp53
        have hF : Ft B [49, 51, 52, 53, 54, 55, 56, 57, 58, 59, 60, 61, 63, 64, 65, 66, 67, 68, 69, 70, 71, 72, 73, 74] ig lg ig49 lg51 := Ft.tr hF hchp53 (by decide) (by decide)
        obtain ⟨rfl, hvhp53⟩ := hrhp53
        have e19 := hI.u
        have hI := hI.nu
        obtain ⟨pv, p2, w3, w4, w5, w6⟩ := hvhp53
        have fq : FQ B ig49 := fun q => absurd q (by omega)
        have hM := hM.ft hchp53 (by decide) e19
        have hU := hU.ft hchp53 (by decide)
        exact J62 ls H locs ig49 lg51 (lv_sub hl [0, 1] rfl) hw hI hF (fq) (by omega) (by omega) (PT.w fs1 pz1 (by omega) (fun e9 => absurd ((mt_end mt hat).mpr e9) (by omega)) (by rw [w4 (by omega)]; unfold fw; omega)) (hM) (hU) (fun q => absurd q (by omega))
  · refine lv_aload_n hx hb dX12_formula_12 rfl (lv_at hl 0 rfl) ?_
    refine lv_iconst (v := 0) hx hb dX12_formula_13 (by decide) (ti_c 0 (by decide) fun z54 hz54 => ?_)
    refine r_puti C hw (hsh 49 _ rfl) fl_X12_11 rfl rfl rfl dX12_formula_14 (fun H locs hH hw => ?_)
    obtain ⟨ig55, eig55⟩ : ∃ f, f = up2 ig2 (B + 49) 2 z54 := ⟨_, rfl⟩
    rw [← eig55] at hw
    have hF : Ft B [49, 51, 52, 53, 54, 55, 56, 57, 58, 59, 60, 61, 63, 64, 65, 66, 67, 68, 69, 70, 71, 72, 73, 74] ig lg ig55 lg := by rw [eig55]; exact hF.pi (by decide)
    have hI : IM [] none none B kd ig55 rg := by rw [eig55]; exact hI.clr (by omega)
    have wig55_49_7 : (ig55 (B + 49) 7).toInt = (ig2 (B + 49) 7).toInt := by rw [eig55, up2_j (by decide)]
    have wig55_49_8 : (ig55 (B + 49) 8).toInt = (ig2 (B + 49) 8).toInt := by rw [eig55, up2_j (by decide)]
    have wig55_49_14 : (ig55 (B + 49) 14).toInt = (ig2 (B + 49) 14).toInt := by rw [eig55, up2_j (by decide)]
    have hM : SM B σ π ig55 := by rw [eig55]; exact hM.wr (by decide)
    have hU := FXm.wrE eig55 hU (by decide)
    refine lv_iconst (v := (-1)) hx hb dX12_formula_17 (by decide) (ti_c (-1) (by decide) fun z56 hz56 => ?_)
    exact r_iret C hw hr hlk rfl (Nat.le_of_ble_eq_true rfl) (Nat.le_of_ble_eq_true rfl) dX12_formula_18 ⟨rfl, rfl, hI, hF, ⟨_, rfl, ⟨_, _, hM, hU, Or.inl ⟨by unfold onS; omega, by omega, rfl, rfl⟩⟩⟩⟩
