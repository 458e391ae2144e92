/-! the model's sheet through its steps -/
section MPUT
variable {τ : Tp} {φ : Option Int} {B p : Nat} {ig ig' : sI} {lg lg' : sG} {c : Cl} {σ : Sg} {π : Ps} {v w u : Int32} {T : List Nat} {h : Int}
theorem RowM.dr (r : RowM B ig p h c) (hp : p ≠ 288) (h120 : (ig (B + 58) p).toInt ≤ 120) (e : ∀ c j, 54 ≤ c → c ≤ 61 → ¬ drp c j → ig' (B + c) j = ig (B + c) j) : RowM B ig' p h c := by
  unfold drp at e
  exact r.tr (e _ _ (by decide) (by decide) (by omega)) (e _ _ (by decide) (by decide) (by omega)) (fun u hu => e _ _ (by decide) (by decide) (by omega)) (e _ _ (by decide) (by decide) (by omega)) (fun c k a b hk => e _ _ a (by omega) (by omega))
theorem SM.dr (s : SM B σ π ig) (hi : I120 B ig) (e : ∀ c j, 54 ≤ c → c ≤ 61 → ¬ drp c j → ig' (B + c) j = ig (B + c) j) (e63 : ∀ j, ig' (B + 63) j = ig (B + 63) j) (e19 : (ig' (B + 49) 19).toInt = (ig (B + 49) 19).toInt) : SM B σ π ig' :=
  ⟨fun p hp => (s.1 p hp).dr (by omega) (hi p (by omega)) e, by rw [e19]; exact s.2.1, fun i hi2 => ⟨by rw [e63]; exact (s.2.2 i hi2).1, (s.2.2 i hi2).2.1, (s.2.2 i hi2).2.2.dr (by omega) (hi _ (by have := s.2.1.2; omega)) e⟩⟩
theorem SM.wr {cc j : Nat} (s : SM B σ π ig) (hc : (cc ≠ 49 ∨ j ≠ 19) ∧ ¬ (54 ≤ cc ∧ cc ≤ 61) ∧ cc ≠ 63) : SM B σ π (up2 ig (B + cc) j v) := s.ag (fun c j hc2 => up2_c (by omega)) (by rw [up2_n (by omega)])
theorem FMm.wr {cc j : Nat} (s : FMm B σ ig) (hc : cc ≠ 71) : FMm B σ (up2 ig (B + cc) j v) := fun p hp => by rw [up2_c (by omega)]; exact s p hp
theorem sfp_len2 {k : Nat} : (sfp π k).length = π.length := sfp_len
theorem RowM.nof (h1 : (ig (B + 59) p).toInt = kdO c) (h2 : (ig (B + 60) p).toInt = c.1.2) (hu : RowU B ig p c.2.1) (hk : kdO c ≠ 2) (h8 : (ig (B + 58) p).toInt = 0) : RowM B ig p h c := ⟨⟨h1, h2⟩, hu, fun w => (hk w).elim, fun _ => h8⟩
/-- the units of a number -/
theorem SM.unit (s : SM B σ π ig) (hp : p < 288) (hk : kdO (σ p) = 1) (hi : I120 B ig) {i1 i2 i3 : Nat} (e1 : i1 = 3 * p) (e2 : i2 = 3 * p + 1) (e3 : i3 = 3 * p + 2) : SM B (upS σ p (uCl (σ p).1.2 u.toInt v.toInt w.toInt)) π (up2 (up2 (up2 ig (B + 61) i1 u) (B + 61) i2 v) (B + 61) i3 w) := by
  subst e1 e2 e3
  have k : ∀ q h c, q ≠ p → RowM B ig q h c → RowM B (up2 (up2 (up2 ig (B + 61) (3 * p) u) (B + 61) (3 * p + 1) v) (B + 61) (3 * p + 2) w) q h c := fun q h c hq r => r.tr (by rw [up2_c (by decide), up2_c (by decide), up2_c (by decide)]) (by rw [up2_c (by decide), up2_c (by decide), up2_c (by decide)]) (fun u hu => by rw [up2_j (by omega), up2_j (by omega), up2_j (by omega)]) (by rw [up2_c (by decide), up2_c (by decide), up2_c (by decide)]) (fun c k a b hk => by rw [up2_c (by omega), up2_c (by omega), up2_c (by omega)])
  refine ⟨fun q hq => ?_, by rw [up2_c (by decide), up2_c (by decide), up2_c (by decide)]; exact s.2.1, fun i hi2 => ⟨by rw [up2_c (by decide), up2_c (by decide), up2_c (by decide)]; exact (s.2.2 i hi2).1, (s.2.2 i hi2).2.1, k _ _ _ (by omega) (s.2.2 i hi2).2.2⟩⟩
  by_cases e : q = p
  · subst e
    rw [upS_eq]
    have r := s.1 q hq
    refine RowM.nof ?_ ?_ ⟨?_, ?_, ?_⟩ (by show ¬ (1 : Int) = 2; decide) (by rw [up2_c (by decide), up2_c (by decide), up2_c (by decide)]; exact r.2.2.2 (by rw [hk]; decide))
    · rw [up2_c (by decide), up2_c (by decide), up2_c (by decide), r.1.1, hk]; rfl
    · rw [up2_c (by decide), up2_c (by decide), up2_c (by decide), r.1.2]; rfl
    · rw [up2_j (by omega), up2_j (by omega), up2_eq]; rfl
    · rw [up2_j (by omega), up2_eq]; rfl
    · rw [up2_eq]; rfl
  · rw [upS_ne e]
    exact k _ _ _ e (s.1 q hq)
theorem FMm.eq {σ' : Sg} (s : FMm B σ ig) (e : σ' = σ) : FMm B σ' ig := e ▸ s
theorem sfp_tail {k : Nat} (hk : k = π.length - 1) : ∀ i (h : i < π.tail.length), π.tail[i] = (sfp π k)[i]'(by rw [sfp_len]; rw [List.length_tail] at h; omega) := fun i h => by
  have h2 := h
  rw [List.length_tail] at h2
  rw [sfp_get, if_pos (by omega), sfp_e h]
theorem ptl_t (h : π.length = 20) : ptl π = π.tail := by unfold ptl; rw [if_pos h]
theorem ptl_n (h : π.length ≠ 20) : ptl π = π := by unfold ptl; rw [if_neg h]
end MPUT

set_option maxHeartbeats 4000000 in
set_option maxRecDepth 100000 in
theorem t_X12_putsE {τ : Tp} {φ : Option Int} (l : Launch) (B : Nat) (D : va_G) (cA : Nat → ClassId) (kd : sK) (ig : sI) (rg : sR) (lg : sG) (sz : Nat) (x : Int32) (hx0 : 0 ≤ x.toInt ∧ x.toInt < 288) (hwp : WP B ig 288) (σ : Sg) (π : Ps) (hM : SM B σ π ig) (dc : Cl) (hD : RowM B ig 288 (x.toInt.toNat : Int) dc) (hI : IM τ φ none B kd ig rg) : MC l B D cA yX12_puts cX12_puts 3 none (rL 32 0 0) [.ref (B + 49), .int x] kd ig rg lg sz (PM τ φ none B [49, 54, 55, 56, 57, 58, 59, 60, 61, 63, 64, 65, 66, 67, 68, 69, 70, 71, 72, 73, 74] kd ig rg lg (fun r ig' lg' => (r = none ∧ (SM B (upS σ x.toInt.toNat dc) (pput π x.toInt.toNat (σ x.toInt.toNat)) ig' ∧ FMm B (upS σ x.toInt.toNat dc) ig')))) := by
  refine MC.of (own := RX12) (by decide +kernel) rfl (Nat.le_of_ble_eq_true rfl) ?_
  intro p e s m args below meth c ls C hr hlk hnm hw hsz hl
  have hx := C.1.1
  have hb := C.1.2.1
  have hown := C.1.2.2.2.1
  have hts := C.1.2.2.2.2
  have hl : lv_has ls 3 [(0, .ref (B + 49)), (1, .int x)] := hl
  have hF : Ft B [49, 54, 55, 56, 57, 58, 59, 60, 61, 63, 64, 65, 66, 67, 68, 69, 70, 71, 72, 73, 74] ig lg ig lg := Ft.rf
  have hsh := hI.sh
  have hrm := hI.rm
  have hl9 := hM.len
  have hpl := ptl_len hl9.2
  refine lv_aload_n hx hb dX12_puts_0 rfl (lv_at hl 0 rfl) ?_
  refine r_get C hw (hsh 49 _ rfl) fl_X12_188 (oV_i rfl) dX12_puts_1 (ti_c (ig (B + 49) 19).toInt rfl fun z1 hz1 => ?_)
  have k2 : 0 ≤ (ig (B + 49) 19).toInt ∧ (ig (B + 49) 19).toInt ≤ 20 := hI.i 49 19 (by decide) (by decide)
  refine lv_bipush (v := 20) hx hb dX12_puts_4 (by decide) (ti_c 20 (by decide) fun z3 hz3 => ?_)
  have J61 : ∀ (ls : Array Slot) (H : Heap) (locs : List Loc) (ig4 : sI) (lg5 : sG) , lv_has ls 3 [(0, .ref (B + 49)), (1, .int x)] → WD B D cA s.heap kd ig4 rg lg5 H locs → IM τ φ none B kd ig4 rg → Ft B [49, 54, 55, 56, 57, 58, 59, 60, 61, 63, 64, 65, 66, 67, 68, 69, 70, 71, 72, 73, 74] ig lg ig4 lg5 → (SM B σ (ptl π) ig4) → (WP B ig4 288) → (RowM B ig4 288 (x.toInt.toNat : Int) dc) → W p l e (rL 32 0 0) s m args below meth c H locs 0 0 (MQ below (QcW B D cA (PM τ φ none B [49, 54, 55, 56, 57, 58, 59, 60, 61, 63, 64, 65, 66, 67, 68, 69, 70, 71, 72, 73, 74] kd ig rg lg (fun r ig' lg' => (r = none ∧ (SM B (upS σ x.toInt.toNat dc) (pput π x.toInt.toNat (σ x.toInt.toNat)) ig' ∧ FMm B (upS σ x.toInt.toNat dc) ig'))))) args s 0 0 (fun q => B ≤ q)) (F0 m 61 ls []) := by
    intro ls H locs ig4 lg5 hl hw hI hF g61_0 g61_1 g61_2
    have hM := g61_0
    have hwp := g61_1
    have hD := g61_2
    have hl8 := hM.len
    refine lv_aload_n hx hb dX12_puts_61 rfl (lv_at hl 0 rfl) ?_
    refine lv_iload_n hx hb dX12_puts_62 rfl (lv_at hl 1 rfl) ?_
    refine lv_sipush (v := 289) hx hb dX12_puts_63 (by decide) (ti_c 289 (by decide) fun z6 hz6 => ?_)
    refine lv_aload_n hx hb dX12_puts_66 rfl (lv_at hl 0 rfl) ?_
    refine r_get C hw (hsh 49 _ rfl) fl_X12_188 (oV_i rfl) dX12_puts_67 (ti_c (ig4 (B + 49) 19).toInt rfl fun z7 hz7 => ?_)
    have k8 : 0 ≤ (ig4 (B + 49) 19).toInt ∧ (ig4 (B + 49) 19).toInt ≤ 20 := hI.i 49 19 (by decide) (by decide)
    refine lv_iadd hx hb dX12_puts_70 (tc_add fun z9 hz9 => ?_)
    first | replace hz9 := hz9 (by omega) | clear hz9
    have hI61 := hI
    refine r_callV (As := [.int x, .int z9]) (rest := []) C hw (t_X12_copyRowE l B D cA kd ig4 rg lg5 _ x z9 (by omega) (by omega) (i32_ne (by omega)) (hI.wp (by omega) (by omega)) hI) sv_X12_191 (hsh 49 _ rfl) rfl hl.1 rfl (Nat.le_of_ble_eq_true rfl) ⟨Nat.le_of_ble_eq_true rfl, Nat.le_of_ble_eq_true rfl⟩ ⟨Nat.le_of_ble_eq_true rfl, Nat.le_of_ble_eq_true rfl⟩ dX12_puts_71 (fun r14 kd10 ig11 rg12 lg13 H locs hw hH hp15 => ?_)
    obtain ⟨rfl, rfl, hI, hchp15, hrhp15⟩ := hp15
    have hF : Ft B [49, 54, 55, 56, 57, 58, 59, 60, 61, 63, 64, 65, 66, 67, 68, 69, 70, 71, 72, 73, 74] ig lg ig11 lg13 := Ft.tr hF hchp15 (by decide) (by decide)
    obtain ⟨rfl, hvhp15⟩ := hrhp15
    have hcx : CRx B x.toInt.toNat (289 + (ptl π).length) ig4 ig11 := CRx.toY hvhp15 (by omega)
    have hwp : WP B ig11 288 := WP.keep hwp hcx.1 (by omega)
    have hD := hcx.oth hD (by omega) (hI61.its (j := 288) (by decide)).2
    have h63 : ∀ j, ig11 (B + 63) j = ig4 (B + 63) j := fun j => hchp15.i 63 j (by decide)
    have h19i := congrArg Int32.toInt (hchp15.i 49 19 (by decide))
    refine lv_aload_n hx hb dX12_puts_74 rfl (lv_at hl 0 rfl) ?_
    refine r_get C hw (hsh 49 _ rfl) fl_X12_93 (oV_r rfl (hrm (49, 20, 63) (by decide))) dX12_puts_75 ?_
    refine lv_aload_n hx hb dX12_puts_78 rfl (lv_at hl 0 rfl) ?_
    refine r_get C hw (hsh 49 _ rfl) fl_X12_188 (oV_i rfl) dX12_puts_79 (ti_c (ig11 (B + 49) 19).toInt rfl fun z16 hz16 => ?_)
    have k17 : 0 ≤ (ig11 (B + 49) 19).toInt ∧ (ig11 (B + 49) 19).toInt ≤ 20 := hI.i 49 19 (by decide) (by decide)
    refine lv_iload_n hx hb dX12_puts_82 rfl (lv_at hl 1 rfl) ?_
    refine r_iast C hw (hsh 63 _ rfl) (by omega) (by omega) dX12_puts_83 (fun H locs hH hw => ?_)
    obtain ⟨ig18, eig18⟩ : ∃ f, f = up2 ig11 (B + 63) z16.toInt.toNat x := ⟨_, rfl⟩
    rw [← eig18] at hw
    have hF : Ft B [49, 54, 55, 56, 57, 58, 59, 60, 61, 63, 64, 65, 66, 67, 68, 69, 70, 71, 72, 73, 74] ig lg ig18 lg13 := by rw [eig18]; exact hF.pi (by decide)
    have hI : IM τ φ none B kd ig18 rg := by rw [eig18]; exact hI.pi (by decide) (show okR (some (0, 287)) _ from ⟨by show (0 : Int) ≤ _; omega, by show _ ≤ (287 : Int); omega⟩)
    have wig18_49_19 : (ig18 (B + 49) 19).toInt = (ig11 (B + 49) 19).toInt := by rw [eig18, up2_a (by omega)]
    have hwp : WP B ig18 288 := by rw [eig18]; exact WP.u hwp (by decide)
    have hD : RowM B ig18 288 (x.toInt.toNat : Int) dc := by rw [eig18]; exact hD.wr (by omega)
    refine lv_aload_n hx hb dX12_puts_84 rfl (lv_at hl 0 rfl) ?_
    refine lv_dup hx hb dX12_puts_85 rfl ?_
    refine r_get C hw (hsh 49 _ rfl) fl_X12_188 (oV_i rfl) dX12_puts_86 (ti_c (ig18 (B + 49) 19).toInt rfl fun z19 hz19 => ?_)
    have k20 : 0 ≤ (ig18 (B + 49) 19).toInt ∧ (ig18 (B + 49) 19).toInt ≤ 20 := hI.i 49 19 (by decide) (by decide)
    refine lv_iconst (v := 1) hx hb dX12_puts_89 (by decide) (ti_c 1 (by decide) fun z21 hz21 => ?_)
    refine lv_iadd hx hb dX12_puts_90 (tc_add fun z22 hz22 => ?_)
    first | replace hz22 := hz22 (by omega) | clear hz22
    refine r_puti C hw (hsh 49 _ rfl) fl_X12_188 rfl rfl rfl dX12_puts_91 (fun H locs hH hw => ?_)
    obtain ⟨ig23, eig23⟩ : ∃ f, f = up2 ig18 (B + 49) 19 z22 := ⟨_, rfl⟩
    rw [← eig23] at hw
    have hF : Ft B [49, 54, 55, 56, 57, 58, 59, 60, 61, 63, 64, 65, 66, 67, 68, 69, 70, 71, 72, 73, 74] ig lg ig23 lg13 := by rw [eig23]; exact hF.pi (by decide)
    have hI : IM τ φ none B kd ig23 rg := by rw [eig23]; exact hI.pi (by decide) (show okR (some (0, 20)) _ from ⟨by show (0 : Int) ≤ _; omega, by show _ ≤ (20 : Int); omega⟩)
    have wig23 : (ig23 (B + 49) 19).toInt = z22.toInt := by rw [eig23, up2_eq]
    have hwp : WP B ig23 288 := by rw [eig23]; exact WP.u hwp (by decide)
    have hD : RowM B ig23 288 (x.toInt.toNat : Int) dc := by rw [eig23]; exact hD.wr (by omega)
    have hM : SM B σ (pput π x.toInt.toNat (σ x.toInt.toNat)) ig23 := by rw [eig23, eig18]; exact SM.push hM (by omega) (by omega) hcx hI61.i120 h63 (n := z16.toInt.toNat) (by omega) (by omega) (by omega)
    have hI91 := hI
    refine lv_aload_n hx hb dX12_puts_94 rfl (lv_at hl 0 rfl) ?_
    refine lv_sipush (v := 288) hx hb dX12_puts_95 (by decide) (ti_c 288 (by decide) fun z24 hz24 => ?_)
    refine lv_iload_n hx hb dX12_puts_98 rfl (lv_at hl 1 rfl) ?_
    refine r_callV (As := [.int z24, .int x]) (rest := []) C hw (t_X12_copyRowE l B D cA kd ig23 rg lg13 _ z24 x (by omega) (by omega) (i32_ne (by omega)) (by rw [show z24.toInt.toNat = 288 by omega]; exact hwp) hI) sv_X12_191 (hsh 49 _ rfl) rfl hl.1 rfl (Nat.le_of_ble_eq_true rfl) ⟨Nat.le_of_ble_eq_true rfl, Nat.le_of_ble_eq_true rfl⟩ ⟨Nat.le_of_ble_eq_true rfl, Nat.le_of_ble_eq_true rfl⟩ dX12_puts_99 (fun r29 kd25 ig26 rg27 lg28 H locs hw hH hp30 => ?_)
    obtain ⟨rfl, rfl, hI, hchp30, hrhp30⟩ := hp30
    have hF : Ft B [49, 54, 55, 56, 57, 58, 59, 60, 61, 63, 64, 65, 66, 67, 68, 69, 70, 71, 72, 73, 74] ig lg ig26 lg28 := Ft.tr hF hchp30 (by decide) (by decide)
    obtain ⟨rfl, hvhp30⟩ := hrhp30
    have hcy : CRx B 288 x.toInt.toNat ig23 ig26 := CRx.toX hvhp30 (by omega)
    have hM : SM B (upS σ x.toInt.toNat dc) (pput π x.toInt.toNat (σ x.toInt.toNat)) ig26 := SM.cell hM hcy (by omega) hD hI91.i120 (fun j => hchp30.i 63 j (by decide)) (hchp30.i 49 19 (by decide))
    refine lv_aload_n hx hb dX12_puts_102 rfl (lv_at hl 0 rfl) ?_
    have hI := hI.su (f := (ig26 (B + 49) 19).toInt) rfl
    refine r_callV (As := []) (rest := []) C hw (t_X12_worksE l B D cA kd ig26 rg lg28 _  _ hM.1 hI) sv_X12_195 (hsh 49 _ rfl) rfl hl.1 rfl (Nat.le_of_ble_eq_true rfl) ⟨Nat.le_of_ble_eq_true rfl, Nat.le_of_ble_eq_true rfl⟩ ⟨Nat.le_of_ble_eq_true rfl, Nat.le_of_ble_eq_true rfl⟩ dX12_puts_103 (fun r35 kd31 ig32 rg33 lg34 H locs hw hH hp36 => ?_)
    obtain ⟨rfl, rfl, hI, hchp36, hrhp36⟩ := hp36
    have hF : Ft B [49, 54, 55, 56, 57, 58, 59, 60, 61, 63, 64, 65, 66, 67, 68, 69, 70, 71, 72, 73, 74] ig lg ig32 lg34 := Ft.tr hF hchp36 (by decide) (by decide)
    obtain ⟨rfl, hvhp36⟩ := hrhp36
    have e19 := hI.u
    have hI := hI.nu
    have hM := hM.ft hchp36 (by decide) e19
    exact r_vret C hw hr hlk (Nat.le_of_ble_eq_true rfl) (Nat.le_of_ble_eq_true rfl) dX12_puts_106 ⟨rfl, rfl, hI, hF, ⟨rfl, ⟨hM, hvhp36⟩⟩⟩
  refine b_ne (tgt := 61) hx hb dX12_puts_6 (by decide) (fun c6 => ?_) (fun c6 => ?_)
  · exact J61 ls s.heap [] ig lg (lv_sub hl [0, 1] rfl) hw hI hF (by rw [ptl_n (by omega)]; exact hM) (hwp) (hD)
  · have hl20 : π.length = 20 := by omega
    refine lv_iconst (v := 1) hx hb dX12_puts_9 (by decide) (ti_c 1 (by decide) fun z37 hz37 => ?_)
    refine lv_istore_n (lv' := [(2, .int z37), (0, .ref (B + 49)), (1, .int x)]) hx hb dX12_puts_10 rfl hl (by decide) rfl (fun ls hl => ?_)
    have L11 : ∀ (n : Nat) (ls : Array Slot) (H : Heap) (locs : List Loc) (ig39 : sI) (lg40 : sG) (v38 : Int32), lv_has ls 3 [(2, .int v38), (0, .ref (B + 49)), (1, .int x)] → WD B D cA s.heap kd ig39 rg lg40 H locs → IM τ φ none B kd ig39 rg → Ft B [49, 54, 55, 56, 57, 58, 59, 60, 61, 63, 64, 65, 66, 67, 68, 69, 70, 71, 72, 73, 74] ig lg ig39 lg40 → (1 ≤ v38.toInt) → (v38.toInt ≤ 20) → ((ig39 (B + 49) 19).toInt = 20) → (WP B ig39 288) → (SM B σ (sfp π (v38.toInt.toNat - 1)) ig39) → (RowM B ig39 288 (x.toInt.toNat : Int) dc) → 20 - v38.toInt < (n : Int) → W p l e (rL 32 0 0) s m args below meth c H locs 0 0 (MQ below (QcW B D cA (PM τ φ none B [49, 54, 55, 56, 57, 58, 59, 60, 61, 63, 64, 65, 66, 67, 68, 69, 70, 71, 72, 73, 74] kd ig rg lg (fun r ig' lg' => (r = none ∧ (SM B (upS σ x.toInt.toNat dc) (pput π x.toInt.toNat (σ x.toInt.toNat)) ig' ∧ FMm B (upS σ x.toInt.toNat dc) ig'))))) args s 0 0 (fun q => B ≤ q)) (F0 m 11 ls []) := by
      intro n11
      induction n11 with
      | zero => intro ls H locs ig39 lg40 v38 hl hw hI hF g11_0 g11_1 g11_2 g11_3 g11_4 g11_5 hmu; exact absurd hmu (by omega)
      | succ n11 ih11 =>
        intro ls H locs ig39 lg40 v38 hl hw hI hF g11_0 g11_1 g11_2 g11_3 g11_4 g11_5 hmu
        have hwp := g11_3
        have hM := g11_4
        have hD := g11_5
        refine lv_iload_n hx hb dX12_puts_11 rfl (lv_at hl 0 rfl) ?_
        refine lv_bipush (v := 20) hx hb dX12_puts_12 (by decide) (ti_c 20 (by decide) fun z41 hz41 => ?_)
        refine b_ge (tgt := 51) hx hb dX12_puts_14 (by decide) (fun c14 => ?_) (fun c14 => ?_)
        · have hM : SM B σ (sfp π 19) ig39 := by have q := g11_4; rw [show v38.toInt.toNat - 1 = 19 by omega] at q; exact q
          refine lv_aload_n hx hb dX12_puts_51 rfl (lv_at hl 1 rfl) ?_
          refine lv_dup hx hb dX12_puts_52 rfl ?_
          refine r_get C hw (hsh 49 _ rfl) fl_X12_188 (oV_i rfl) dX12_puts_53 (ti_c (ig39 (B + 49) 19).toInt rfl fun z42 hz42 => ?_)
          have k43 : 0 ≤ (ig39 (B + 49) 19).toInt ∧ (ig39 (B + 49) 19).toInt ≤ 20 := hI.i 49 19 (by decide) (by decide)
          refine lv_iconst (v := 1) hx hb dX12_puts_56 (by decide) (ti_c 1 (by decide) fun z44 hz44 => ?_)
          refine lv_isub hx hb dX12_puts_57 (tc_sub fun z45 hz45 => ?_)
          first | replace hz45 := hz45 (by omega) | clear hz45
          refine r_puti C hw (hsh 49 _ rfl) fl_X12_188 rfl rfl rfl dX12_puts_58 (fun H locs hH hw => ?_)
          obtain ⟨ig46, eig46⟩ : ∃ f, f = up2 ig39 (B + 49) 19 z45 := ⟨_, rfl⟩
          rw [← eig46] at hw
          have hF : Ft B [49, 54, 55, 56, 57, 58, 59, 60, 61, 63, 64, 65, 66, 67, 68, 69, 70, 71, 72, 73, 74] ig lg ig46 lg40 := by rw [eig46]; exact hF.pi (by decide)
          have hI : IM τ φ none B kd ig46 rg := by rw [eig46]; exact hI.pi (by decide) (show okR (some (0, 20)) _ from ⟨by show (0 : Int) ≤ _; omega, by show _ ≤ (20 : Int); omega⟩)
          have wig46 : (ig46 (B + 49) 19).toInt = z45.toInt := by rw [eig46, up2_eq]
          have hM : SM B σ (ptl π) ig46 := by rw [ptl_t hl20, eig46]; exact SM.dep hM (by rw [List.length_tail]; omega) (by rw [List.length_tail, sfp_len]; omega) (sfp_tail (by omega))
          have hwp : WP B ig46 288 := by rw [eig46]; exact WP.u hwp (by decide)
          have hD : RowM B ig46 288 (x.toInt.toNat : Int) dc := by rw [eig46]; exact hD.wr (by omega)
          exact J61 ls H locs ig46 lg40 (lv_sub hl [1, 2] rfl) hw hI hF (hM) (hwp) (hD)
        · have hI0 := hI
          refine lv_aload_n hx hb dX12_puts_17 rfl (lv_at hl 1 rfl) ?_
          refine lv_sipush (v := 289) hx hb dX12_puts_18 (by decide) (ti_c 289 (by decide) fun z47 hz47 => ?_)
          refine lv_iload_n hx hb dX12_puts_21 rfl (lv_at hl 0 rfl) ?_
          refine lv_iadd hx hb dX12_puts_22 (tc_add fun z48 hz48 => ?_)
          first | replace hz48 := hz48 (by omega) | clear hz48
          refine lv_sipush (v := 288) hx hb dX12_puts_23 (by decide) (ti_c 288 (by decide) fun z49 hz49 => ?_)
          refine lv_iload_n hx hb dX12_puts_26 rfl (lv_at hl 0 rfl) ?_
          refine lv_iadd hx hb dX12_puts_27 (tc_add fun z50 hz50 => ?_)
          first | replace hz50 := hz50 (by omega) | clear hz50
          refine r_callV (As := [.int z48, .int z50]) (rest := []) C hw (t_X12_copyRowE l B D cA kd ig39 rg lg40 _ z48 z50 (by omega) (by omega) (i32_ne (by omega)) (hI.wp (by omega) (by omega)) hI) sv_X12_191 (hsh 49 _ rfl) rfl hl.1 rfl (Nat.le_of_ble_eq_true rfl) ⟨Nat.le_of_ble_eq_true rfl, Nat.le_of_ble_eq_true rfl⟩ ⟨Nat.le_of_ble_eq_true rfl, Nat.le_of_ble_eq_true rfl⟩ dX12_puts_28 (fun r55 kd51 ig52 rg53 lg54 H locs hw hH hp56 => ?_)
          obtain ⟨rfl, rfl, hI, hchp56, hrhp56⟩ := hp56
          have hF : Ft B [49, 54, 55, 56, 57, 58, 59, 60, 61, 63, 64, 65, 66, 67, 68, 69, 70, 71, 72, 73, 74] ig lg ig52 lg54 := Ft.tr hF hchp56 (by decide) (by decide)
          obtain ⟨rfl, hvhp56⟩ := hrhp56
          have hcx : CRx B (289 + v38.toInt.toNat) (288 + v38.toInt.toNat) ig39 ig52 := CRx.toX (CRx.toY hvhp56 (by omega)) (by omega)
          have hwp : WP B ig52 288 := WP.keep hwp hcx.1 (by omega)
          have hD := hcx.oth hD (by omega) (hI0.its (j := 288) (by decide)).2
          have h63 : ∀ j, ig52 (B + 63) j = ig39 (B + 63) j := fun j => hchp56.i 63 j (by decide)
          have h19 : ig52 (B + 49) 19 = ig39 (B + 49) 19 := hchp56.i 49 19 (by decide)
          have h19i := congrArg Int32.toInt h19
          refine lv_aload_n hx hb dX12_puts_31 rfl (lv_at hl 1 rfl) ?_
          refine r_get C hw (hsh 49 _ rfl) fl_X12_93 (oV_r rfl (hrm (49, 20, 63) (by decide))) dX12_puts_32 ?_
          refine lv_iload_n hx hb dX12_puts_35 rfl (lv_at hl 0 rfl) ?_
          refine lv_iconst (v := 1) hx hb dX12_puts_36 (by decide) (ti_c 1 (by decide) fun z57 hz57 => ?_)
          refine lv_isub hx hb dX12_puts_37 (tc_sub fun z58 hz58 => ?_)
          first | replace hz58 := hz58 (by omega) | clear hz58
          refine lv_aload_n hx hb dX12_puts_38 rfl (lv_at hl 1 rfl) ?_
          refine r_get C hw (hsh 49 _ rfl) fl_X12_93 (oV_r rfl (hrm (49, 20, 63) (by decide))) dX12_puts_39 ?_
          refine lv_iload_n hx hb dX12_puts_42 rfl (lv_at hl 0 rfl) ?_
          refine r_iald C hw (hsh 63 _ rfl) (by omega) (by omega) dX12_puts_43 (ti_c (ig52 (B + 63) v38.toInt.toNat).toInt rfl fun z59 hz59 => ?_)
          have k60 : 0 ≤ (ig52 (B + 63) (v38.toInt.toNat)).toInt ∧ (ig52 (B + 63) (v38.toInt.toNat)).toInt ≤ 287 := hI.i 63 (v38.toInt.toNat) (by decide) (by decide)
          refine r_iast C hw (hsh 63 _ rfl) (by omega) (by omega) dX12_puts_44 (fun H locs hH hw => ?_)
          obtain ⟨ig61, eig61⟩ : ∃ f, f = up2 ig52 (B + 63) z58.toInt.toNat z59 := ⟨_, rfl⟩
          rw [← eig61] at hw
          have hF : Ft B [49, 54, 55, 56, 57, 58, 59, 60, 61, 63, 64, 65, 66, 67, 68, 69, 70, 71, 72, 73, 74] ig lg ig61 lg54 := by rw [eig61]; exact hF.pi (by decide)
          have hI : IM τ φ none B kd ig61 rg := by rw [eig61]; exact hI.pi (by decide) (show okR (some (0, 287)) _ from ⟨by show (0 : Int) ≤ _; omega, by show _ ≤ (287 : Int); omega⟩)
          have wig61_49_19 : (ig61 (B + 49) 19).toInt = (ig52 (B + 49) 19).toInt := by rw [eig61, up2_a (by omega)]
          have hM : SM B σ (sfp π v38.toInt.toNat) ig61 := by rw [eig61]; exact (SM.down hM (k := v38.toInt.toNat) (by rw [sfp_len]; omega) hcx hI0.i120 h63 h19 (n := z58.toInt.toNat) (by omega) (i32_inj (by rw [hz59, h63]))).eq rfl (by rw [sfp_at (by omega), sfp_down (by omega)])
          have hwp : WP B ig61 288 := by rw [eig61]; exact WP.u hwp (by decide)
          have hD : RowM B ig61 288 (x.toInt.toNat : Int) dc := by rw [eig61]; exact hD.wr (by omega)
          refine tc_inc hx hb dX12_puts_45 hl (k := 0) rfl (by decide) (by decide) (fun z62 hz62 ls hl => ?_)
          first | replace hz62 := hz62 (by omega) | clear hz62
          have hl : lv_has ls 3 [(2, .int z62), (0, .ref (B + 49)), (1, .int x)] := hl
          refine lv_goto (tgt := 11) hx hb dX12_puts_48 (by decide) ?_
          exact ih11 ls H locs ig61 lg54 z62 (lv_sub hl [0, 1, 2] rfl) hw hI hF (by omega) (by omega) (by omega) (hwp) (by rw [show z62.toInt.toNat - 1 = v38.toInt.toNat by omega]; exact hM) (hD) (by omega)
    exact L11 ((20 - z37.toInt) + 1).toNat ls s.heap [] ig lg z37 (lv_sub hl [0, 1, 2] rfl) hw hI hF (by omega) (by omega) (by omega) (hwp) (by rw [show z37.toInt.toNat - 1 = 0 by omega, sfp_0]; exact hM) (hD) (by omega)

set_option maxHeartbeats 4000000 in
set_option maxRecDepth 100000 in
theorem t_X12_numberE {τ : Tp} {φ : Option Int} (l : Launch) (B : Nat) (D : va_G) (cA : Nat → ClassId) (kd : sK) (ig : sI) (rg : sR) (lg : sG) (sz : Nat) (x : Int32) (y : Int32) (σ : Sg) (π : Ps) (hM : SM B σ π ig) (hU : FMm B σ ig) (hI : IM τ φ none B kd ig rg) : MC l B D cA yX12_number cX12_number 3 (some .boolean) (rL 33 0 0) [.ref (B + 49), .int x, .int y] kd ig rg lg sz (PM τ φ none B [49, 54, 55, 56, 57, 58, 59, 60, 61, 63, 64, 65, 66, 67, 68, 69, 70, 71, 72, 73, 74] kd ig rg lg (fun r ig' lg' => ∃ z : Int32, r = some (.int z) ∧ (∃ σ' π', SM B σ' π' ig' ∧ FMm B σ' ig' ∧ stN σ π x.toInt y.toInt z.toInt σ' π'))) := by
  refine MC.of (own := RX12) (by decide +kernel) rfl (Nat.le_of_ble_eq_true rfl) ?_
  intro p e s m args below meth c ls C hr hlk hnm hw hsz hl
  have hx := C.1.1
  have hb := C.1.2.1
  have hown := C.1.2.2.2.1
  have hts := C.1.2.2.2.2
  have hl : lv_has ls 3 [(0, .ref (B + 49)), (1, .int x), (2, .int y)] := hl
  have hF : Ft B [49, 54, 55, 56, 57, 58, 59, 60, 61, 63, 64, 65, 66, 67, 68, 69, 70, 71, 72, 73, 74] ig lg ig lg := Ft.rf
  have hsh := hI.sh
  have hrm := hI.rm
  refine lv_aload_n hx hb dX12_number_0 rfl (lv_at hl 0 rfl) ?_
  refine lv_iconst (v := 0) hx hb dX12_number_1 (by decide) (ti_c 0 (by decide) fun z1 hz1 => ?_)
  refine r_puti C hw (hsh 49 _ rfl) fl_X12_1 rfl rfl rfl dX12_number_2 (fun H locs hH hw => ?_)
  obtain ⟨ig2, eig2⟩ : ∃ f, f = up2 ig (B + 49) 0 z1 := ⟨_, rfl⟩
  rw [← eig2] at hw
  have hF : Ft B [49, 54, 55, 56, 57, 58, 59, 60, 61, 63, 64, 65, 66, 67, 68, 69, 70, 71, 72, 73, 74] ig lg ig2 lg := by rw [eig2]; exact hF.pi (by decide)
  have hI : IM τ φ none B kd ig2 rg := by rw [eig2]; exact hI.pi (by decide) (show okR none _ from trivial)
  have hM : SM B σ π ig2 := by rw [eig2]; exact hM.wr (by decide)
  have hU : FMm B σ ig2 := by rw [eig2]; exact hU.wr (by decide)
  refine lv_iload_n hx hb dX12_number_5 rfl (lv_at hl 1 rfl) ?_
  refine r_callS (As := [.int x]) (rest := []) C hw (t_X12_isPlace l B D cA kd ig2 rg lg _ x  hI) ss_X12_198 rfl hl.1 rfl (Nat.le_of_ble_eq_true rfl) ⟨Nat.le_of_ble_eq_true rfl, Nat.le_of_ble_eq_true rfl⟩ ⟨Nat.le_of_ble_eq_true rfl, Nat.le_of_ble_eq_true rfl⟩ dX12_number_6 (fun r7 kd3 ig4 rg5 lg6 H locs hw hH hp8 => ?_)
  obtain ⟨rfl, rfl, rfl, rfl, hzhp8, hrhp8⟩ := hp8
  obtain ⟨z9, rfl, hz9⟩ := hrhp8
  refine z_ne (tgt := 14) hx hb dX12_number_9 (by decide) (fun c9 => ?_) (fun c9 => ?_)
  · refine lv_aload_n hx hb dX12_number_14 rfl (lv_at hl 0 rfl) ?_
    refine lv_iconst (v := 1) hx hb dX12_number_15 (by decide) (ti_c 1 (by decide) fun z10 hz10 => ?_)
    refine lv_iload_n hx hb dX12_number_16 rfl (lv_at hl 2 rfl) ?_
    have hIc := hI
    refine r_callV (As := [.int z10, .int y]) (rest := []) C hw (t_X12_clearDraftE l B D cA kd ig2 rg lg _ z10 y  hI) sv_X12_204 (hsh 49 _ rfl) rfl hl.1 rfl (Nat.le_of_ble_eq_true rfl) ⟨Nat.le_of_ble_eq_true rfl, Nat.le_of_ble_eq_true rfl⟩ ⟨Nat.le_of_ble_eq_true rfl, Nat.le_of_ble_eq_true rfl⟩ dX12_number_17 (fun r15 kd11 ig12 rg13 lg14 H locs hw hH hp16 => ?_)
    obtain ⟨rfl, rfl, hI, hchp16, hrhp16⟩ := hp16
    have hF : Ft B [49, 54, 55, 56, 57, 58, 59, 60, 61, 63, 64, 65, 66, 67, 68, 69, 70, 71, 72, 73, 74] ig lg ig12 lg14 := Ft.tr hF hchp16 (by decide) (by decide)
    obtain ⟨rfl, hvhp16⟩ := hrhp16
    obtain ⟨⟨⟨k59, k60⟩, k58⟩, ku, kk⟩ := hvhp16
    have hD : RowM B ig12 288 (x.toInt.toNat : Int) (nCl y.toInt) := RowM.nof (by rw [k59]; exact hz10) (by rw [k60]; rfl) ku (by show ¬ (1 : Int) = 2; decide) k58
    have hwp : WP B ig12 288 := WP.no (k59.trans (by omega : _ = (1 : Int))) (by decide)
    have hM := hM.dr hIc.i120 (fun c j a b q => kk c j ⟨a, b⟩ (fun w => q (by unfold drp; omega))) (fun j => hchp16.i 63 j (by decide)) (congrArg Int32.toInt (hchp16.i 49 19 (by decide)))
    refine lv_aload_n hx hb dX12_number_20 rfl (lv_at hl 0 rfl) ?_
    refine lv_iload_n hx hb dX12_number_21 rfl (lv_at hl 1 rfl) ?_
    refine r_callV (As := [.int x]) (rest := []) C hw (t_X12_putsE l B D cA kd ig12 rg lg14 _ x (by omega) hwp σ π hM _ hD hI) sv_X12_207 (hsh 49 _ rfl) rfl hl.1 rfl (Nat.le_of_ble_eq_true rfl) ⟨Nat.le_of_ble_eq_true rfl, Nat.le_of_ble_eq_true rfl⟩ ⟨Nat.le_of_ble_eq_true rfl, Nat.le_of_ble_eq_true rfl⟩ dX12_number_22 (fun r21 kd17 ig18 rg19 lg20 H locs hw hH hp22 => ?_)
    obtain ⟨rfl, rfl, hI, hchp22, hrhp22⟩ := hp22
    have hF : Ft B [49, 54, 55, 56, 57, 58, 59, 60, 61, 63, 64, 65, 66, 67, 68, 69, 70, 71, 72, 73, 74] ig lg ig18 lg20 := Ft.tr hF hchp22 (by decide) (by decide)
    obtain ⟨rfl, hvhp22⟩ := hrhp22
    obtain ⟨hM, hU⟩ := hvhp22
    refine lv_iconst (v := 1) hx hb dX12_number_25 (by decide) (ti_c 1 (by decide) fun z23 hz23 => ?_)
    exact r_iret C hw hr hlk (nar_b (by omega)) (Nat.le_of_ble_eq_true rfl) (Nat.le_of_ble_eq_true rfl) dX12_number_26 ⟨rfl, rfl, hI, hF, ⟨_, rfl, ⟨_, _, hM, hU, Or.inr ⟨by unfold onS; omega, by omega, rfl, rfl⟩⟩⟩⟩
  · refine lv_iconst (v := 0) hx hb dX12_number_12 (by decide) (ti_c 0 (by decide) fun z24 hz24 => ?_)
    exact r_iret C hw hr hlk (nar_b (by omega)) (Nat.le_of_ble_eq_true rfl) (Nat.le_of_ble_eq_true rfl) dX12_number_13 ⟨rfl, rfl, hI, hF, ⟨_, rfl, ⟨_, _, hM, hU, Or.inl ⟨by unfold onS; omega, by omega, rfl, rfl⟩⟩⟩⟩

set_option maxHeartbeats 4000000 in
set_option maxRecDepth 100000 in
theorem t_X12_emptyE {τ : Tp} {φ : Option Int} (l : Launch) (B : Nat) (D : va_G) (cA : Nat → ClassId) (kd : sK) (ig : sI) (rg : sR) (lg : sG) (sz : Nat) (x : Int32) (σ : Sg) (π : Ps) (hM : SM B σ π ig) (hU : FMm B σ ig) (hI : IM τ φ none B kd ig rg) : MC l B D cA yX12_empty cX12_empty 2 (some .boolean) (rL 33 0 0) [.ref (B + 49), .int x] kd ig rg lg sz (PM τ φ none B [49, 54, 55, 56, 57, 58, 59, 60, 61, 63, 64, 65, 66, 67, 68, 69, 70, 71, 72, 73, 74] kd ig rg lg (fun r ig' lg' => ∃ z : Int32, r = some (.int z) ∧ (∃ σ' π', SM B σ' π' ig' ∧ FMm B σ' ig' ∧ stE σ π x.toInt z.toInt σ' π'))) := by
  refine MC.of (own := RX12) (by decide +kernel) rfl (Nat.le_of_ble_eq_true rfl) ?_
  intro p e s m args below meth c ls C hr hlk hnm hw hsz hl
  have hx := C.1.1
  have hb := C.1.2.1
  have hown := C.1.2.2.2.1
  have hts := C.1.2.2.2.2
  have hl : lv_has ls 2 [(0, .ref (B + 49)), (1, .int x)] := hl
  have hF : Ft B [49, 54, 55, 56, 57, 58, 59, 60, 61, 63, 64, 65, 66, 67, 68, 69, 70, 71, 72, 73, 74] ig lg ig lg := Ft.rf
  have hsh := hI.sh
  have hrm := hI.rm
  refine lv_aload_n hx hb dX12_empty_0 rfl (lv_at hl 0 rfl) ?_
  refine lv_iconst (v := 0) hx hb dX12_empty_1 (by decide) (ti_c 0 (by decide) fun z1 hz1 => ?_)
  refine r_puti C hw (hsh 49 _ rfl) fl_X12_1 rfl rfl rfl dX12_empty_2 (fun H locs hH hw => ?_)
  obtain ⟨ig2, eig2⟩ : ∃ f, f = up2 ig (B + 49) 0 z1 := ⟨_, rfl⟩
  rw [← eig2] at hw
  have hF : Ft B [49, 54, 55, 56, 57, 58, 59, 60, 61, 63, 64, 65, 66, 67, 68, 69, 70, 71, 72, 73, 74] ig lg ig2 lg := by rw [eig2]; exact hF.pi (by decide)
  have hI : IM τ φ none B kd ig2 rg := by rw [eig2]; exact hI.pi (by decide) (show okR none _ from trivial)
  have hM : SM B σ π ig2 := by rw [eig2]; exact hM.wr (by decide)
  have hU : FMm B σ ig2 := by rw [eig2]; exact hU.wr (by decide)
  refine lv_iload_n hx hb dX12_empty_5 rfl (lv_at hl 1 rfl) ?_
  refine r_callS (As := [.int x]) (rest := []) C hw (t_X12_isPlace l B D cA kd ig2 rg lg _ x  hI) ss_X12_198 rfl hl.1 rfl (Nat.le_of_ble_eq_true rfl) ⟨Nat.le_of_ble_eq_true rfl, Nat.le_of_ble_eq_true rfl⟩ ⟨Nat.le_of_ble_eq_true rfl, Nat.le_of_ble_eq_true rfl⟩ dX12_empty_6 (fun r7 kd3 ig4 rg5 lg6 H locs hw hH hp8 => ?_)
  obtain ⟨rfl, rfl, rfl, rfl, hzhp8, hrhp8⟩ := hp8
  obtain ⟨z9, rfl, hz9⟩ := hrhp8
  refine z_ne (tgt := 14) hx hb dX12_empty_9 (by decide) (fun c9 => ?_) (fun c9 => ?_)
  · refine lv_aload_n hx hb dX12_empty_14 rfl (lv_at hl 0 rfl) ?_
    refine lv_iconst (v := 0) hx hb dX12_empty_15 (by decide) (ti_c 0 (by decide) fun z10 hz10 => ?_)
    refine lv_iconst (v := 0) hx hb dX12_empty_16 (by decide) (ti_c 0 (by decide) fun z11 hz11 => ?_)
    have hIc := hI
    refine r_callV (As := [.int z10, .int z11]) (rest := []) C hw (t_X12_clearDraftE l B D cA kd ig2 rg lg _ z10 z11  hI) sv_X12_204 (hsh 49 _ rfl) rfl hl.1 rfl (Nat.le_of_ble_eq_true rfl) ⟨Nat.le_of_ble_eq_true rfl, Nat.le_of_ble_eq_true rfl⟩ ⟨Nat.le_of_ble_eq_true rfl, Nat.le_of_ble_eq_true rfl⟩ dX12_empty_17 (fun r16 kd12 ig13 rg14 lg15 H locs hw hH hp17 => ?_)
    obtain ⟨rfl, rfl, hI, hchp17, hrhp17⟩ := hp17
    have hF : Ft B [49, 54, 55, 56, 57, 58, 59, 60, 61, 63, 64, 65, 66, 67, 68, 69, 70, 71, 72, 73, 74] ig lg ig13 lg15 := Ft.tr hF hchp17 (by decide) (by decide)
    obtain ⟨rfl, hvhp17⟩ := hrhp17
    obtain ⟨⟨⟨k59, k60⟩, k58⟩, ku, kk⟩ := hvhp17
    have hD : RowM B ig13 288 (x.toInt.toNat : Int) blk := RowM.nof (by rw [k59]; exact hz10) (by rw [k60]; exact hz11) ku (by show ¬ (0 : Int) = 2; decide) k58
    have hwp : WP B ig13 288 := WP.no (k59.trans (by omega : _ = (0 : Int))) (by decide)
    have hM := hM.dr hIc.i120 (fun c j a b q => kk c j ⟨a, b⟩ (fun w => q (by unfold drp; omega))) (fun j => hchp17.i 63 j (by decide)) (congrArg Int32.toInt (hchp17.i 49 19 (by decide)))
    refine lv_aload_n hx hb dX12_empty_20 rfl (lv_at hl 0 rfl) ?_
    refine lv_iload_n hx hb dX12_empty_21 rfl (lv_at hl 1 rfl) ?_
    refine r_callV (As := [.int x]) (rest := []) C hw (t_X12_putsE l B D cA kd ig13 rg lg15 _ x (by omega) hwp σ π hM _ hD hI) sv_X12_207 (hsh 49 _ rfl) rfl hl.1 rfl (Nat.le_of_ble_eq_true rfl) ⟨Nat.le_of_ble_eq_true rfl, Nat.le_of_ble_eq_true rfl⟩ ⟨Nat.le_of_ble_eq_true rfl, Nat.le_of_ble_eq_true rfl⟩ dX12_empty_22 (fun r22 kd18 ig19 rg20 lg21 H locs hw hH hp23 => ?_)
    obtain ⟨rfl, rfl, hI, hchp23, hrhp23⟩ := hp23
    have hF : Ft B [49, 54, 55, 56, 57, 58, 59, 60, 61, 63, 64, 65, 66, 67, 68, 69, 70, 71, 72, 73, 74] ig lg ig19 lg21 := Ft.tr hF hchp23 (by decide) (by decide)
    obtain ⟨rfl, hvhp23⟩ := hrhp23
    obtain ⟨hM, hU⟩ := hvhp23
    refine lv_iconst (v := 1) hx hb dX12_empty_25 (by decide) (ti_c 1 (by decide) fun z24 hz24 => ?_)
    exact r_iret C hw hr hlk (nar_b (by omega)) (Nat.le_of_ble_eq_true rfl) (Nat.le_of_ble_eq_true rfl) dX12_empty_26 ⟨rfl, rfl, hI, hF, ⟨_, rfl, ⟨_, _, hM, hU, Or.inr ⟨by unfold onS; omega, by omega, rfl, rfl⟩⟩⟩⟩
  · refine lv_iconst (v := 0) hx hb dX12_empty_12 (by decide) (ti_c 0 (by decide) fun z25 hz25 => ?_)
    exact r_iret C hw hr hlk (nar_b (by omega)) (Nat.le_of_ble_eq_true rfl) (Nat.le_of_ble_eq_true rfl) dX12_empty_13 ⟨rfl, rfl, hI, hF, ⟨_, rfl, ⟨_, _, hM, hU, Or.inl ⟨by unfold onS; omega, by omega, rfl, rfl⟩⟩⟩⟩

set_option maxHeartbeats 4000000 in
set_option maxRecDepth 100000 in
theorem t_X12_unitS {τ : Tp} {φ : Option Int} (l : Launch) (B : Nat) (D : va_G) (cA : Nat → ClassId) (kd : sK) (ig : sI) (rg : sR) (lg : sG) (sz : Nat) (x : Int32) (y : Int32) (u : Int32) (w : Int32) (σ : Sg) (π : Ps) (hM : SM B σ π ig) (hU : FMm B σ ig) (hI : IM τ φ none B kd ig rg) : MC l B D cA yX12_unit cX12_unit 5 (some .boolean) (rL 32 0 0) [.ref (B + 49), .int x, .int y, .int u, .int w] kd ig rg lg sz (PM τ φ none B [49, 61, 64, 65, 66, 67, 68, 69, 70, 71, 72, 73, 74] kd ig rg lg (fun r ig' lg' => ∃ z : Int32, r = some (.int z) ∧ (∃ σ' π', SM B σ' π' ig' ∧ FMm B σ' ig' ∧ stU σ π x.toInt z.toInt σ' π' y.toInt u.toInt w.toInt))) := by
  refine MC.of (own := RX12) (by decide +kernel) rfl (Nat.le_of_ble_eq_true rfl) ?_
  intro p e s m args below meth c ls C hr hlk hnm hw hsz hl
  have hx := C.1.1
  have hb := C.1.2.1
  have hown := C.1.2.2.2.1
  have hts := C.1.2.2.2.2
  have hl : lv_has ls 5 [(0, .ref (B + 49)), (1, .int x), (2, .int y), (3, .int u), (4, .int w)] := hl
  have hF : Ft B [49, 61, 64, 65, 66, 67, 68, 69, 70, 71, 72, 73, 74] ig lg ig lg := Ft.rf
  have hsh := hI.sh
  have hrm := hI.rm
  have hM0 := hM
  refine lv_aload_n hx hb dX12_unit_0 rfl (lv_at hl 0 rfl) ?_
  refine lv_iconst (v := 0) hx hb dX12_unit_1 (by decide) (ti_c 0 (by decide) fun z1 hz1 => ?_)
  refine r_puti C hw (hsh 49 _ rfl) fl_X12_1 rfl rfl rfl dX12_unit_2 (fun H locs hH hw => ?_)
  obtain ⟨ig2, eig2⟩ : ∃ f, f = up2 ig (B + 49) 0 z1 := ⟨_, rfl⟩
  rw [← eig2] at hw
  have hF : Ft B [49, 61, 64, 65, 66, 67, 68, 69, 70, 71, 72, 73, 74] ig lg ig2 lg := by rw [eig2]; exact hF.pi (by decide)
  have hI : IM τ φ none B kd ig2 rg := by rw [eig2]; exact hI.pi (by decide) (show okR none _ from trivial)
  have hM : SM B σ π ig2 := by rw [eig2]; exact hM.wr (by decide)
  have hU : FMm B σ ig2 := by rw [eig2]; exact hU.wr (by decide)
  refine lv_iload_n hx hb dX12_unit_5 rfl (lv_at hl 1 rfl) ?_
  refine r_callS (As := [.int x]) (rest := []) C hw (t_X12_isPlace l B D cA kd ig2 rg lg _ x  hI) ss_X12_198 rfl hl.1 rfl (Nat.le_of_ble_eq_true rfl) ⟨Nat.le_of_ble_eq_true rfl, Nat.le_of_ble_eq_true rfl⟩ ⟨Nat.le_of_ble_eq_true rfl, Nat.le_of_ble_eq_true rfl⟩ dX12_unit_6 (fun r7 kd3 ig4 rg5 lg6 H locs hw hH hp8 => ?_)
  obtain ⟨rfl, rfl, rfl, rfl, hzhp8, hrhp8⟩ := hp8
  obtain ⟨z9, rfl, hz9⟩ := hrhp8
  refine z_eq (tgt := 57) hx hb dX12_unit_9 (by decide) (fun c9 => ?_) (fun c9 => ?_)
  · refine lv_iconst (v := 0) hx hb dX12_unit_57 (by decide) (ti_c 0 (by decide) fun z10 hz10 => ?_)
    exact r_iret C hw hr hlk (nar_b (by omega)) (Nat.le_of_ble_eq_true rfl) (Nat.le_of_ble_eq_true rfl) dX12_unit_58 ⟨rfl, rfl, hI, hF, ⟨_, rfl, ⟨_, _, hM, hU, Or.inl ⟨fun q => by have q1 := atC_k (σ := σ) (x := x.toInt) (by rw [q.1]; decide); omega, by omega, rfl, rfl⟩⟩⟩⟩
  · refine lv_aload_n hx hb dX12_unit_12 rfl (lv_at hl 0 rfl) ?_
    refine r_get C hw (hsh 49 _ rfl) fl_X12_80 (oV_r rfl (hrm (49, 15, 59) (by decide))) dX12_unit_13 ?_
    refine lv_iload_n hx hb dX12_unit_16 rfl (lv_at hl 1 rfl) ?_
    refine r_iald C hw (hsh 59 _ rfl) (by omega) (by omega) dX12_unit_17 (ti_c (ig2 (B + 59) x.toInt.toNat).toInt rfl fun z11 hz11 => ?_)
    rw [Ft.i hF 59 _ (by decide)] at hz11
    have kd9 : z11.toInt = kdO (atC σ x.toInt) := by rw [hz11]; first | exact hM.kdx (x := x.toInt) (by omega) | exact hM0.kdx (x := x.toInt) (by omega)
    refine lv_iconst (v := 1) hx hb dX12_unit_18 (by decide) (ti_c 1 (by decide) fun z13 hz13 => ?_)
    refine b_ne (tgt := 57) hx hb dX12_unit_19 (by decide) (fun c19 => ?_) (fun c19 => ?_)
    · refine lv_iconst (v := 0) hx hb dX12_unit_57 (by decide) (ti_c 0 (by decide) fun z14 hz14 => ?_)
      exact r_iret C hw hr hlk (nar_b (by omega)) (Nat.le_of_ble_eq_true rfl) (Nat.le_of_ble_eq_true rfl) dX12_unit_58 ⟨rfl, rfl, hI, hF, ⟨_, rfl, ⟨_, _, hM, hU, Or.inl ⟨fun q => by unfold unO at q; omega, by omega, rfl, rfl⟩⟩⟩⟩
    · refine lv_iload_n hx hb dX12_unit_22 rfl (lv_at hl 2 rfl) ?_
      refine lv_bipush (v := (-4)) hx hb dX12_unit_23 (by decide) (ti_c (-4) (by decide) fun z15 hz15 => ?_)
      refine b_lt (tgt := 57) hx hb dX12_unit_25 (by decide) (fun c25 => ?_) (fun c25 => ?_)
      · refine lv_iconst (v := 0) hx hb dX12_unit_57 (by decide) (ti_c 0 (by decide) fun z16 hz16 => ?_)
        exact r_iret C hw hr hlk (nar_b (by omega)) (Nat.le_of_ble_eq_true rfl) (Nat.le_of_ble_eq_true rfl) dX12_unit_58 ⟨rfl, rfl, hI, hF, ⟨_, rfl, ⟨_, _, hM, hU, Or.inl ⟨fun q => by unfold unO at q; omega, by omega, rfl, rfl⟩⟩⟩⟩
      · refine lv_iload_n hx hb dX12_unit_28 rfl (lv_at hl 2 rfl) ?_
        refine lv_iconst (v := 4) hx hb dX12_unit_29 (by decide) (ti_c 4 (by decide) fun z17 hz17 => ?_)
        refine b_gt (tgt := 57) hx hb dX12_unit_30 (by decide) (fun c30 => ?_) (fun c30 => ?_)
        · refine lv_iconst (v := 0) hx hb dX12_unit_57 (by decide) (ti_c 0 (by decide) fun z18 hz18 => ?_)
          exact r_iret C hw hr hlk (nar_b (by omega)) (Nat.le_of_ble_eq_true rfl) (Nat.le_of_ble_eq_true rfl) dX12_unit_58 ⟨rfl, rfl, hI, hF, ⟨_, rfl, ⟨_, _, hM, hU, Or.inl ⟨fun q => by unfold unO at q; omega, by omega, rfl, rfl⟩⟩⟩⟩
        · refine lv_iload_n hx hb dX12_unit_33 rfl (lv_at hl 3 rfl) ?_
          refine lv_bipush (v := (-4)) hx hb dX12_unit_34 (by decide) (ti_c (-4) (by decide) fun z19 hz19 => ?_)
          refine b_lt (tgt := 57) hx hb dX12_unit_36 (by decide) (fun c36 => ?_) (fun c36 => ?_)
          · refine lv_iconst (v := 0) hx hb dX12_unit_57 (by decide) (ti_c 0 (by decide) fun z20 hz20 => ?_)
            exact r_iret C hw hr hlk (nar_b (by omega)) (Nat.le_of_ble_eq_true rfl) (Nat.le_of_ble_eq_true rfl) dX12_unit_58 ⟨rfl, rfl, hI, hF, ⟨_, rfl, ⟨_, _, hM, hU, Or.inl ⟨fun q => by unfold unO at q; omega, by omega, rfl, rfl⟩⟩⟩⟩
          · refine lv_iload_n hx hb dX12_unit_39 rfl (lv_at hl 3 rfl) ?_
            refine lv_iconst (v := 4) hx hb dX12_unit_40 (by decide) (ti_c 4 (by decide) fun z21 hz21 => ?_)
            refine b_gt (tgt := 57) hx hb dX12_unit_41 (by decide) (fun c41 => ?_) (fun c41 => ?_)
            · refine lv_iconst (v := 0) hx hb dX12_unit_57 (by decide) (ti_c 0 (by decide) fun z22 hz22 => ?_)
              exact r_iret C hw hr hlk (nar_b (by omega)) (Nat.le_of_ble_eq_true rfl) (Nat.le_of_ble_eq_true rfl) dX12_unit_58 ⟨rfl, rfl, hI, hF, ⟨_, rfl, ⟨_, _, hM, hU, Or.inl ⟨fun q => by unfold unO at q; omega, by omega, rfl, rfl⟩⟩⟩⟩
            · refine lv_iload hx hb dX12_unit_44 (lv_at hl 4 rfl) ?_
              refine lv_bipush (v := (-4)) hx hb dX12_unit_46 (by decide) (ti_c (-4) (by decide) fun z23 hz23 => ?_)
              refine b_lt (tgt := 57) hx hb dX12_unit_48 (by decide) (fun c48 => ?_) (fun c48 => ?_)
              · refine lv_iconst (v := 0) hx hb dX12_unit_57 (by decide) (ti_c 0 (by decide) fun z24 hz24 => ?_)
                exact r_iret C hw hr hlk (nar_b (by omega)) (Nat.le_of_ble_eq_true rfl) (Nat.le_of_ble_eq_true rfl) dX12_unit_58 ⟨rfl, rfl, hI, hF, ⟨_, rfl, ⟨_, _, hM, hU, Or.inl ⟨fun q => by unfold unO at q; omega, by omega, rfl, rfl⟩⟩⟩⟩
              · refine lv_iload hx hb dX12_unit_51 (lv_at hl 4 rfl) ?_
                refine lv_iconst (v := 4) hx hb dX12_unit_53 (by decide) (ti_c 4 (by decide) fun z25 hz25 => ?_)
                refine b_le (tgt := 59) hx hb dX12_unit_54 (by decide) (fun c54 => ?_) (fun c54 => ?_)
                · have hIu := hI
                  refine lv_aload_n hx hb dX12_unit_59 rfl (lv_at hl 0 rfl) ?_
                  refine r_get C hw (hsh 49 _ rfl) fl_X12_86 (oV_r rfl (hrm (49, 17, 61) (by decide))) dX12_unit_60 ?_
                  refine lv_iconst (v := 3) hx hb dX12_unit_63 (by decide) (ti_c 3 (by decide) fun z26 hz26 => ?_)
                  refine lv_iload_n hx hb dX12_unit_64 rfl (lv_at hl 1 rfl) ?_
                  refine lv_imul hx hb dX12_unit_65 (tc_mulL 3 hz26 fun z27 hz27 => ?_)
                  first | replace hz27 := hz27 (by omega) | clear hz27
                  refine lv_iload_n hx hb dX12_unit_66 rfl (lv_at hl 2 rfl) ?_
                  refine r_iast C hw (hsh 61 _ rfl) (by omega) (by omega) dX12_unit_67 (fun H locs hH hw => ?_)
                  obtain ⟨ig28, eig28⟩ : ∃ f, f = up2 ig2 (B + 61) z27.toInt.toNat y := ⟨_, rfl⟩
                  rw [← eig28] at hw
                  have hF : Ft B [49, 61, 64, 65, 66, 67, 68, 69, 70, 71, 72, 73, 74] ig lg ig28 lg := by rw [eig28]; exact hF.pi (by decide)
                  have hI : IM τ φ none B kd ig28 rg := by rw [eig28]; exact hI.pi (by decide) (show okR none _ from trivial)
                  refine lv_aload_n hx hb dX12_unit_68 rfl (lv_at hl 0 rfl) ?_
                  refine r_get C hw (hsh 49 _ rfl) fl_X12_86 (oV_r rfl (hrm (49, 17, 61) (by decide))) dX12_unit_69 ?_
                  refine lv_iconst (v := 3) hx hb dX12_unit_72 (by decide) (ti_c 3 (by decide) fun z29 hz29 => ?_)
                  refine lv_iload_n hx hb dX12_unit_73 rfl (lv_at hl 1 rfl) ?_
                  refine lv_imul hx hb dX12_unit_74 (tc_mulL 3 hz29 fun z30 hz30 => ?_)
                  first | replace hz30 := hz30 (by omega) | clear hz30
                  refine lv_iconst (v := 1) hx hb dX12_unit_75 (by decide) (ti_c 1 (by decide) fun z31 hz31 => ?_)
                  refine lv_iadd hx hb dX12_unit_76 (tc_add fun z32 hz32 => ?_)
                  first | replace hz32 := hz32 (by omega) | clear hz32
                  refine lv_iload_n hx hb dX12_unit_77 rfl (lv_at hl 3 rfl) ?_
                  refine r_iast C hw (hsh 61 _ rfl) (by omega) (by omega) dX12_unit_78 (fun H locs hH hw => ?_)
                  obtain ⟨ig33, eig33⟩ : ∃ f, f = up2 ig28 (B + 61) z32.toInt.toNat u := ⟨_, rfl⟩
                  rw [← eig33] at hw
                  have hF : Ft B [49, 61, 64, 65, 66, 67, 68, 69, 70, 71, 72, 73, 74] ig lg ig33 lg := by rw [eig33]; exact hF.pi (by decide)
                  have hI : IM τ φ none B kd ig33 rg := by rw [eig33]; exact hI.pi (by decide) (show okR none _ from trivial)
                  refine lv_aload_n hx hb dX12_unit_79 rfl (lv_at hl 0 rfl) ?_
                  refine r_get C hw (hsh 49 _ rfl) fl_X12_86 (oV_r rfl (hrm (49, 17, 61) (by decide))) dX12_unit_80 ?_
                  refine lv_iconst (v := 3) hx hb dX12_unit_83 (by decide) (ti_c 3 (by decide) fun z34 hz34 => ?_)
                  refine lv_iload_n hx hb dX12_unit_84 rfl (lv_at hl 1 rfl) ?_
                  refine lv_imul hx hb dX12_unit_85 (tc_mulL 3 hz34 fun z35 hz35 => ?_)
                  first | replace hz35 := hz35 (by omega) | clear hz35
                  refine lv_iconst (v := 2) hx hb dX12_unit_86 (by decide) (ti_c 2 (by decide) fun z36 hz36 => ?_)
                  refine lv_iadd hx hb dX12_unit_87 (tc_add fun z37 hz37 => ?_)
                  first | replace hz37 := hz37 (by omega) | clear hz37
                  refine lv_iload hx hb dX12_unit_88 (lv_at hl 4 rfl) ?_
                  refine r_iast C hw (hsh 61 _ rfl) (by omega) (by omega) dX12_unit_90 (fun H locs hH hw => ?_)
                  obtain ⟨ig38, eig38⟩ : ∃ f, f = up2 ig33 (B + 61) z37.toInt.toNat w := ⟨_, rfl⟩
                  rw [← eig38] at hw
                  have hF : Ft B [49, 61, 64, 65, 66, 67, 68, 69, 70, 71, 72, 73, 74] ig lg ig38 lg := by rw [eig38]; exact hF.pi (by decide)
                  have hI : IM τ φ none B kd ig38 rg := by rw [eig38]; exact hI.pi (by decide) (show okR none _ from trivial)
                  have kd8 : kdO (σ x.toInt.toNat) = 1 := by rw [← atC_on (σ := σ) (x := x.toInt) (by omega)]; omega
                  have hM : SM B (upS σ x.toInt.toNat (uCl (σ x.toInt.toNat).1.2 y.toInt u.toInt w.toInt)) π ig38 := by rw [eig38, eig33, eig28]; exact SM.unit hM (by omega) kd8 hIu.i120 (by omega) (by omega) (by omega)
                  refine lv_aload_n hx hb dX12_unit_91 rfl (lv_at hl 0 rfl) ?_
                  have hI := hI.su (f := (ig38 (B + 49) 19).toInt) rfl
                  refine r_callV (As := []) (rest := []) C hw (t_X12_worksE l B D cA kd ig38 rg lg _  _ hM.1 hI) sv_X12_195 (hsh 49 _ rfl) rfl hl.1 rfl (Nat.le_of_ble_eq_true rfl) ⟨Nat.le_of_ble_eq_true rfl, Nat.le_of_ble_eq_true rfl⟩ ⟨Nat.le_of_ble_eq_true rfl, Nat.le_of_ble_eq_true rfl⟩ dX12_unit_92 (fun r43 kd39 ig40 rg41 lg42 H locs hw hH hp44 => ?_)
                  obtain ⟨rfl, rfl, hI, hchp44, hrhp44⟩ := hp44
                  have hF : Ft B [49, 61, 64, 65, 66, 67, 68, 69, 70, 71, 72, 73, 74] ig lg ig40 lg42 := Ft.tr hF hchp44 (by decide) (by decide)
                  obtain ⟨rfl, hvhp44⟩ := hrhp44
                  have e19 := hI.u
                  have hI := hI.nu
                  have hM := hM.ft hchp44 (by decide) e19
                  have hU := hvhp44
                  refine lv_iconst (v := 1) hx hb dX12_unit_95 (by decide) (ti_c 1 (by decide) fun z45 hz45 => ?_)
                  exact r_iret C hw hr hlk (nar_b (by omega)) (Nat.le_of_ble_eq_true rfl) (Nat.le_of_ble_eq_true rfl) dX12_unit_96 ⟨rfl, rfl, hI, hF, ⟨_, rfl, ⟨_, _, hM, hU, Or.inr ⟨⟨by omega, by omega, by omega, by omega⟩, by omega, by rw [atC_on (by omega)], rfl⟩⟩⟩⟩
                · refine lv_iconst (v := 0) hx hb dX12_unit_57 (by decide) (ti_c 0 (by decide) fun z46 hz46 => ?_)
                  exact r_iret C hw hr hlk (nar_b (by omega)) (Nat.le_of_ble_eq_true rfl) (Nat.le_of_ble_eq_true rfl) dX12_unit_58 ⟨rfl, rfl, hI, hF, ⟨_, rfl, ⟨_, _, hM, hU, Or.inl ⟨fun q => by unfold unO at q; omega, by omega, rfl, rfl⟩⟩⟩⟩

set_option maxHeartbeats 4000000 in
set_option maxRecDepth 100000 in
theorem t_X12_undoE {τ : Tp} {φ : Option Int} (l : Launch) (B : Nat) (D : va_G) (cA : Nat → ClassId) (kd : sK) (ig : sI) (rg : sR) (lg : sG) (sz : Nat) (σ : Sg) (π : Ps) (hM : SM B σ π ig) (hU : FMm B σ ig) (hI : IM τ φ none B kd ig rg) : MC l B D cA yX12_undo cX12_undo 1 (some .int) (rL 32 0 0) [.ref (B + 49)] kd ig rg lg sz (PM τ φ none B [49, 54, 55, 56, 57, 58, 59, 60, 61, 64, 65, 66, 67, 68, 69, 70, 71, 72, 73, 74, 76, 77, 78] kd ig rg lg (fun r ig' lg' => ∃ z : Int32, r = some (.int z) ∧ (∃ σ' π', SM B σ' π' ig' ∧ FMm B σ' ig' ∧ stB σ π σ' π'))) := by
  refine MC.of (own := RX12) (by decide +kernel) rfl (Nat.le_of_ble_eq_true rfl) ?_
  intro p e s m args below meth c ls C hr hlk hnm hw hsz hl
  have hx := C.1.1
  have hb := C.1.2.1
  have hown := C.1.2.2.2.1
  have hts := C.1.2.2.2.2
  have hl : lv_has ls 1 [(0, .ref (B + 49))] := hl
  have hF : Ft B [49, 54, 55, 56, 57, 58, 59, 60, 61, 64, 65, 66, 67, 68, 69, 70, 71, 72, 73, 74, 76, 77, 78] ig lg ig lg := Ft.rf
  have hsh := hI.sh
  have hrm := hI.rm
  have hl9 := hM.len
  refine lv_aload_n hx hb dX12_undo_0 rfl (lv_at hl 0 rfl) ?_
  refine lv_iconst (v := 0) hx hb dX12_undo_1 (by decide) (ti_c 0 (by decide) fun z1 hz1 => ?_)
  refine r_puti C hw (hsh 49 _ rfl) fl_X12_1 rfl rfl rfl dX12_undo_2 (fun H locs hH hw => ?_)
  obtain ⟨ig2, eig2⟩ : ∃ f, f = up2 ig (B + 49) 0 z1 := ⟨_, rfl⟩
  rw [← eig2] at hw
  have hF : Ft B [49, 54, 55, 56, 57, 58, 59, 60, 61, 64, 65, 66, 67, 68, 69, 70, 71, 72, 73, 74, 76, 77, 78] ig lg ig2 lg := by rw [eig2]; exact hF.pi (by decide)
  have hI : IM τ φ none B kd ig2 rg := by rw [eig2]; exact hI.pi (by decide) (show okR none _ from trivial)
  have wig2_49_19 : (ig2 (B + 49) 19).toInt = (ig (B + 49) 19).toInt := by rw [eig2, up2_j (by decide)]
  have hM : SM B σ π ig2 := by rw [eig2]; exact hM.wr (by decide)
  have hU : FMm B σ ig2 := by rw [eig2]; exact hU.wr (by decide)
  refine lv_aload_n hx hb dX12_undo_5 rfl (lv_at hl 0 rfl) ?_
  refine r_get C hw (hsh 49 _ rfl) fl_X12_188 (oV_i rfl) dX12_undo_6 (ti_c (ig2 (B + 49) 19).toInt rfl fun z3 hz3 => ?_)
  have k4 : 0 ≤ (ig2 (B + 49) 19).toInt ∧ (ig2 (B + 49) 19).toInt ≤ 20 := hI.i 49 19 (by decide) (by decide)
  refine z_ne (tgt := 14) hx hb dX12_undo_9 (by decide) (fun c9 => ?_) (fun c9 => ?_)
  · obtain ⟨π0, ⟨p0, c0⟩, hπ0⟩ : ∃ π0 e, π = π0 ++ [e] := ⟨π.dropLast, π.getLast (by intro q; rw [q] at hl9; simp at hl9; omega), (List.dropLast_concat_getLast _).symm⟩
    have hM0 := hM
    rw [hπ0] at hM hM0 hl9
    rw [List.length_append, List.length_singleton] at hl9
    refine lv_aload_n hx hb dX12_undo_14 rfl (lv_at hl 0 rfl) ?_
    refine lv_dup hx hb dX12_undo_15 rfl ?_
    refine r_get C hw (hsh 49 _ rfl) fl_X12_188 (oV_i rfl) dX12_undo_16 (ti_c (ig2 (B + 49) 19).toInt rfl fun z5 hz5 => ?_)
    have k6 : 0 ≤ (ig2 (B + 49) 19).toInt ∧ (ig2 (B + 49) 19).toInt ≤ 20 := hI.i 49 19 (by decide) (by decide)
    refine lv_iconst (v := 1) hx hb dX12_undo_19 (by decide) (ti_c 1 (by decide) fun z7 hz7 => ?_)
    refine lv_isub hx hb dX12_undo_20 (tc_sub fun z8 hz8 => ?_)
    first | replace hz8 := hz8 (by omega) | clear hz8
    refine r_puti C hw (hsh 49 _ rfl) fl_X12_188 rfl rfl rfl dX12_undo_21 (fun H locs hH hw => ?_)
    obtain ⟨ig9, eig9⟩ : ∃ f, f = up2 ig2 (B + 49) 19 z8 := ⟨_, rfl⟩
    rw [← eig9] at hw
    have hF : Ft B [49, 54, 55, 56, 57, 58, 59, 60, 61, 64, 65, 66, 67, 68, 69, 70, 71, 72, 73, 74, 76, 77, 78] ig lg ig9 lg := by rw [eig9]; exact hF.pi (by decide)
    have hI : IM τ φ none B kd ig9 rg := by rw [eig9]; exact hI.pi (by decide) (show okR (some (0, 20)) _ from ⟨by show (0 : Int) ≤ _; omega, by show _ ≤ (20 : Int); omega⟩)
    have wig9 : (ig9 (B + 49) 19).toInt = z8.toInt := by rw [eig9, up2_eq]
    have hM : SM B σ π0 ig9 := by rw [eig9]; exact SM.dep hM (by omega) (by rw [List.length_append]; omega) (fun i hi => (List.getElem_append_left hi).symm)
    have la : (ig9 (B + 63) π0.length).toInt = (p0 : Int) ∧ p0 < 288 ∧ RowM B ig9 (289 + π0.length) (p0 : Int) c0 := by
      have q := hM0.2.2 π0.length (by rw [List.length_append, List.length_singleton]; omega)
      rw [List.getElem_append_right (Nat.le_refl _)] at q
      simp only [Nat.sub_self, List.getElem_cons_zero] at q
      exact ⟨by rw [eig9, up2_c (by decide)]; exact q.1, q.2.1, by rw [eig9]; exact q.2.2.wr (by omega)⟩
    refine lv_aload_n hx hb dX12_undo_24 rfl (lv_at hl 0 rfl) ?_
    have hI := hI.su (f := (ig9 (B + 49) 19).toInt) rfl
    refine r_callV (As := []) (rest := []) C hw (t_X12_remembers l B D cA kd ig9 rg lg _   hI) sv_X12_342 (hsh 49 _ rfl) rfl hl.1 rfl (Nat.le_of_ble_eq_true rfl) ⟨Nat.le_of_ble_eq_true rfl, Nat.le_of_ble_eq_true rfl⟩ ⟨Nat.le_of_ble_eq_true rfl, Nat.le_of_ble_eq_true rfl⟩ dX12_undo_25 (fun r14 kd10 ig11 rg12 lg13 H locs hw hH hp15 => ?_)
    obtain ⟨rfl, rfl, hI, hchp15, hrhp15⟩ := hp15
    have hF : Ft B [49, 54, 55, 56, 57, 58, 59, 60, 61, 64, 65, 66, 67, 68, 69, 70, 71, 72, 73, 74, 76, 77, 78] ig lg ig11 lg13 := Ft.tr hF hchp15 (by decide) (by decide)
    obtain rfl := hrhp15
    have e19 := hI.u
    have hI := hI.nu
    have hM := hM.ft hchp15 (by decide) e19
    have la : (ig11 (B + 63) π0.length).toInt = (p0 : Int) ∧ p0 < 288 ∧ RowM B ig11 (289 + π0.length) (p0 : Int) c0 := ⟨by rw [hchp15.i 63 _ (by decide)]; exact la.1, la.2.1, la.2.2.ft hchp15 (by decide)⟩
    have la1 := la.1
    have la2 := la.2.1
    have hI25 := hI
    have hl8 := hM.len
    refine lv_aload_n hx hb dX12_undo_28 rfl (lv_at hl 0 rfl) ?_
    refine lv_sipush (v := 289) hx hb dX12_undo_29 (by decide) (ti_c 289 (by decide) fun z16 hz16 => ?_)
    refine lv_aload_n hx hb dX12_undo_32 rfl (lv_at hl 0 rfl) ?_
    refine r_get C hw (hsh 49 _ rfl) fl_X12_188 (oV_i rfl) dX12_undo_33 (ti_c (ig11 (B + 49) 19).toInt rfl fun z17 hz17 => ?_)
    have k18 : 0 ≤ (ig11 (B + 49) 19).toInt ∧ (ig11 (B + 49) 19).toInt ≤ 20 := hI.i 49 19 (by decide) (by decide)
    refine lv_iadd hx hb dX12_undo_36 (tc_add fun z19 hz19 => ?_)
    first | replace hz19 := hz19 (by omega) | clear hz19
    refine lv_aload_n hx hb dX12_undo_37 rfl (lv_at hl 0 rfl) ?_
    refine r_get C hw (hsh 49 _ rfl) fl_X12_93 (oV_r rfl (hrm (49, 20, 63) (by decide))) dX12_undo_38 ?_
    refine lv_aload_n hx hb dX12_undo_41 rfl (lv_at hl 0 rfl) ?_
    refine r_get C hw (hsh 49 _ rfl) fl_X12_188 (oV_i rfl) dX12_undo_42 (ti_c (ig11 (B + 49) 19).toInt rfl fun z20 hz20 => ?_)
    have k21 : 0 ≤ (ig11 (B + 49) 19).toInt ∧ (ig11 (B + 49) 19).toInt ≤ 20 := hI.i 49 19 (by decide) (by decide)
    refine r_iald C hw (hsh 63 _ rfl) (by omega) (by omega) dX12_undo_45 (ti_c (ig11 (B + 63) z20.toInt.toNat).toInt rfl fun z22 hz22 => ?_)
    have k23 : 0 ≤ (ig11 (B + 63) (z20.toInt.toNat)).toInt ∧ (ig11 (B + 63) (z20.toInt.toNat)).toInt ≤ 287 := hI.i 63 (z20.toInt.toNat) (by decide) (by decide)
    rw [show z20.toInt.toNat = π0.length by omega] at hz22
    refine r_callV (As := [.int z19, .int z22]) (rest := []) C hw (t_X12_copyRowE l B D cA kd ig11 rg lg13 _ z19 z22 (by omega) (by omega) (i32_ne (by omega)) (hI.wp (by omega) (by omega)) hI) sv_X12_191 (hsh 49 _ rfl) rfl hl.1 rfl (Nat.le_of_ble_eq_true rfl) ⟨Nat.le_of_ble_eq_true rfl, Nat.le_of_ble_eq_true rfl⟩ ⟨Nat.le_of_ble_eq_true rfl, Nat.le_of_ble_eq_true rfl⟩ dX12_undo_46 (fun r28 kd24 ig25 rg26 lg27 H locs hw hH hp29 => ?_)
    obtain ⟨rfl, rfl, hI, hchp29, hrhp29⟩ := hp29
    have hF : Ft B [49, 54, 55, 56, 57, 58, 59, 60, 61, 64, 65, 66, 67, 68, 69, 70, 71, 72, 73, 74, 76, 77, 78] ig lg ig25 lg27 := Ft.tr hF hchp29 (by decide) (by decide)
    obtain ⟨rfl, hvhp29⟩ := hrhp29
    have hcx : CRx B (289 + π0.length) p0 ig11 ig25 := CRx.toX (CRx.toY hvhp29 (by omega)) (by omega)
    have hM : SM B (upS σ p0 c0) π0 ig25 := SM.cell hM hcx la2 la.2.2 hI25.i120 (fun j => hchp29.i 63 j (by decide)) (hchp29.i 49 19 (by decide))
    refine lv_aload_n hx hb dX12_undo_49 rfl (lv_at hl 0 rfl) ?_
    have hI := hI.su (f := (ig25 (B + 49) 19).toInt) rfl
    refine r_callV (As := []) (rest := []) C hw (t_X12_worksE l B D cA kd ig25 rg lg27 _  _ hM.1 hI) sv_X12_195 (hsh 49 _ rfl) rfl hl.1 rfl (Nat.le_of_ble_eq_true rfl) ⟨Nat.le_of_ble_eq_true rfl, Nat.le_of_ble_eq_true rfl⟩ ⟨Nat.le_of_ble_eq_true rfl, Nat.le_of_ble_eq_true rfl⟩ dX12_undo_50 (fun r34 kd30 ig31 rg32 lg33 H locs hw hH hp35 => ?_)
    obtain ⟨rfl, rfl, hI, hchp35, hrhp35⟩ := hp35
    have hF : Ft B [49, 54, 55, 56, 57, 58, 59, 60, 61, 64, 65, 66, 67, 68, 69, 70, 71, 72, 73, 74, 76, 77, 78] ig lg ig31 lg33 := Ft.tr hF hchp35 (by decide) (by decide)
    obtain ⟨rfl, hvhp35⟩ := hrhp35
    have e19 := hI.u
    have hI := hI.nu
    have hM := hM.ft hchp35 (by decide) e19
    have hU := hvhp35
    refine lv_aload_n hx hb dX12_undo_53 rfl (lv_at hl 0 rfl) ?_
    have hI := hI.su (f := (ig31 (B + 49) 19).toInt) rfl
    refine r_callV (As := []) (rest := []) C hw (t_X12_tells l B D cA kd ig31 rg lg33 _   hI) sv_X12_345 (hsh 49 _ rfl) rfl hl.1 rfl (Nat.le_of_ble_eq_true rfl) ⟨Nat.le_of_ble_eq_true rfl, Nat.le_of_ble_eq_true rfl⟩ ⟨Nat.le_of_ble_eq_true rfl, Nat.le_of_ble_eq_true rfl⟩ dX12_undo_54 (fun r40 kd36 ig37 rg38 lg39 H locs hw hH hp41 => ?_)
    obtain ⟨rfl, rfl, hI, hchp41, hrhp41⟩ := hp41
    have hF : Ft B [49, 54, 55, 56, 57, 58, 59, 60, 61, 64, 65, 66, 67, 68, 69, 70, 71, 72, 73, 74, 76, 77, 78] ig lg ig37 lg39 := Ft.tr hF hchp41 (by decide) (by decide)
    obtain ⟨z42, rfl, hz42⟩ := hrhp41
    have e19 := hI.u
    have hI := hI.nu
    have hM := hM.ft hchp41 (by decide) e19
    have hU := hU.ft hchp41 (by decide)
    exact r_iret C hw hr hlk rfl (Nat.le_of_ble_eq_true rfl) (Nat.le_of_ble_eq_true rfl) dX12_undo_57 ⟨rfl, rfl, hI, hF, ⟨_, rfl, ⟨_, _, hM, hU, Or.inr ⟨π0, p0, c0, hπ0, rfl, rfl⟩⟩⟩⟩
  · have hπ0 : π = [] := List.length_eq_zero_iff.mp (by omega)
    refine lv_iconst (v := (-1)) hx hb dX12_undo_12 (by decide) (ti_c (-1) (by decide) fun z43 hz43 => ?_)
    exact r_iret C hw hr hlk rfl (Nat.le_of_ble_eq_true rfl) (Nat.le_of_ble_eq_true rfl) dX12_undo_13 ⟨rfl, rfl, hI, hF, ⟨_, rfl, ⟨_, _, hM, hU, Or.inl ⟨hπ0, rfl, rfl⟩⟩⟩⟩
