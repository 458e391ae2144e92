/-- findings as the reference keeps them -/
def FdM (B : Nat) (l : List Fng) (ig : sI) : Prop := (ig (B + 49) 37).toInt = (l.length : Int) ∧ ∀ i (h : i < l.length), i < 300 → (ig (B + 75) (3 * i)).toInt = (l[i]).1 ∧ (ig (B + 75) (3 * i + 1)).toInt = (l[i]).2.1 ∧ (ig (B + 75) (3 * i + 2)).toInt = (l[i]).2.2
section FNM
variable {B i1 i2 i3 : Nat} {l : List Fng} {ig ig' : sI} {a b c w : Int32} {t : Fng}
theorem FdM.zero (h : (ig (B + 49) 37).toInt = 0) : FdM B [] ig := ⟨h, fun i hi => absurd hi (Nat.not_lt_zero i)⟩
theorem FdM.ag (h : FdM B l ig) (e3 : (ig' (B + 49) 37).toInt = (ig (B + 49) 37).toInt) (e : ∀ j, ig' (B + 75) j = ig (B + 75) j) : FdM B l ig' := ⟨e3.trans h.1, fun i hi h3 => by rw [e, e, e]; exact h.2 i hi h3⟩
theorem FdM.add (h : FdM B l ig) (h1 : (i1 : Int) = 3 * (l.length : Int)) (h2 : (i2 : Int) = 3 * (l.length : Int) + 1) (h3 : (i3 : Int) = 3 * (l.length : Int) + 2) (ha : a.toInt = t.1) (hb : b.toInt = t.2.1) (hc : c.toInt = t.2.2) (hw : w.toInt = (l.length : Int) + 1) : FdM B (l ++ [t]) (up2 (up2 (up2 (up2 ig (B + 75) i1 a) (B + 75) i2 b) (B + 75) i3 c) (B + 49) 37 w) := by
  obtain rfl : i1 = 3 * l.length := by omega
  obtain rfl : i2 = 3 * l.length + 1 := by omega
  obtain rfl : i3 = 3 * l.length + 2 := by omega
  have e75 : ∀ j, up2 (up2 (up2 (up2 ig (B + 75) (3 * l.length) a) (B + 75) (3 * l.length + 1) b) (B + 75) (3 * l.length + 2) c) (B + 49) 37 w (B + 75) j = up2 (up2 (up2 ig (B + 75) (3 * l.length) a) (B + 75) (3 * l.length + 1) b) (B + 75) (3 * l.length + 2) c (B + 75) j := fun j => up2_a (by omega)
  refine ⟨by rw [up2_eq, hw, List.length_append, List.length_singleton]; omega, fun i hi h3 => ?_⟩
  rw [List.length_append, List.length_singleton] at hi
  rw [e75, e75, e75]
  by_cases e : i = l.length
  · subst e
    rw [List.getElem_append_right (by omega)]
    simp only [Nat.sub_self, List.getElem_cons_zero]
    rw [up2_eq, up2_j (show 3 * l.length + 1 ≠ 3 * l.length + 2 by omega), up2_eq, up2_j (show 3 * l.length ≠ 3 * l.length + 2 by omega), up2_j (show 3 * l.length ≠ 3 * l.length + 1 by omega), up2_eq]
    exact ⟨ha, hb, hc⟩
  · rw [List.getElem_append_left (by omega), up2_j (by omega), up2_j (by omega), up2_j (by omega), up2_j (by omega), up2_j (by omega), up2_j (by omega), up2_j (by omega), up2_j (by omega), up2_j (by omega)]
    exact h.2 i (by omega) h3
theorem FdM.more (h : FdM B l ig) (hl : 300 ≤ l.length) (hw : w.toInt = (l.length : Int) + 1) : FdM B (l ++ [t]) (up2 ig (B + 49) 37 w) := by
  refine ⟨by rw [up2_eq, hw, List.length_append, List.length_singleton]; omega, fun i hi h3 => ?_⟩
  rw [up2_a (by omega), up2_a (by omega), up2_a (by omega), List.getElem_append_left (by omega)]
  exact h.2 i (by omega) h3
end FNM
theorem FdM.ft {B : Nat} {l : List Fng} {ig ig' : sI} {lg lg' : sG} {T : List Nat} (h : FdM B l ig) (hF : Ft B T ig lg ig' lg') (e : (ig' (B + 49) 37).toInt = (ig (B + 49) 37).toInt) (hT : ∀ q ∈ T, 75 ≠ q := by decide) : FdM B l ig' := h.ag e (fun j => hF.i 75 j hT)
/-! what the reference has kept -/
def KpM (B : Nat) (K : Nat → Prop) (ig : sI) : Prop := ∀ p, p < 288 → ((ig (B + 62) p).toInt = 1 ∧ K p) ∨ ((ig (B + 62) p).toInt = 0 ∧ ¬ K p)
section KPM
variable {B : Nat} {K : Nat → Prop} {ig ig' : sI} {x y : Int} {v : Int32} {lg lg' : sG} {T : List Nat}
theorem KpM.ag (h : KpM B K ig) (e : ∀ p, ig' (B + 62) p = ig (B + 62) p) : KpM B K ig' := fun p hp => by rw [e]; exact h p hp
theorem KpM.ft (h : KpM B K ig) (hF : Ft B T ig lg ig' lg') (hT : ∀ q ∈ T, 62 ≠ q := by decide) : KpM B K ig' := h.ag (fun p => hF.i 62 p hT)
theorem KpM.off (h : KpM B K ig) (hx : ¬ (0 ≤ x ∧ x < 288)) : KpM B (kpU K x y) ig := fun p hp => by
  have e : kpU K x y p ↔ K p := ⟨fun w => w.elim (fun q => absurd q.1 hx) (fun q => q.2), fun w => Or.inr ⟨fun q => hx q.1, w⟩⟩
  rw [e]
  exact h p hp
theorem KpM.set (h : KpM B K ig) (hx : 0 ≤ x ∧ x < 288) (hv : v.toInt = y ∧ (y = 0 ∨ y = 1)) : KpM B (kpU K x y) (up2 ig (B + 62) x.toNat v) := fun p hp => by
  by_cases c : p = x.toNat
  · subst c
    rw [up2_eq]
    rcases hv.2 with e | e
    · exact Or.inr ⟨by omega, fun w => w.elim (fun q => q.2.2 e) (fun q => q.1 ⟨hx, rfl⟩)⟩
    · exact Or.inl ⟨by omega, Or.inl ⟨hx, rfl, by omega⟩⟩
  · have e : kpU K x y p ↔ K p := ⟨fun w => w.elim (fun q => absurd q.2.1 c) (fun q => q.2), fun w => Or.inr ⟨fun q => c q.2, w⟩⟩
    rw [up2_j c, e]
    exact h p hp
end KPM
section SHM
variable {B : Nat} {σ : Sg} {ζ : Nat → Int} {x : Int} {R : Rw} {n i : Nat} {L : Fm} {ig ig' : sI} {l : List Fng}
theorem shDn.ag (e : ∀ c j, c = 55 ∨ c = 56 ∨ c = 71 → ig' (B + c) j = ig (B + c) j) : shDn B ig' σ x i = shDn B ig σ x i := by
  have z : famZ B ig' = famZ B ig := funext fun p => by unfold famZ; rw [e 71 p (Or.inr (Or.inr rfl))]
  unfold shDn
  rw [z, e 55 i (Or.inl rfl), e 55 (i + 2) (Or.inl rfl), e 56 (i + 2) (Or.inr (Or.inl rfl))]
theorem shRt.ag (e : ∀ c j, c = 55 ∨ c = 56 ∨ c = 71 → ig' (B + c) j = ig (B + c) j) : shRt B ig' σ x i = shRt B ig σ x i := by
  have z : famZ B ig' = famZ B ig := funext fun p => by unfold famZ; rw [e 71 p (Or.inr (Or.inr rfl))]
  unfold shRt
  rw [z, e 56 i (Or.inr (Or.inl rfl)), e 55 (i + 2) (Or.inl rfl), e 56 (i + 2) (Or.inr (Or.inl rfl))]
theorem seg_mono : ∀ (m j : Nat), j ≤ m → (seg R 0 j).countP is2i ≤ (seg R 0 m).countP is2i
  | 0, j, h => by
    have : j = 0 := by omega
    rw [this]
    exact Nat.le_refl _
  | m + 1, j, h => by
    by_cases c : j = m + 1
    · rw [c]; exact Nat.le_refl _
    · have q := seg_mono m j (by omega)
      cases e : is2i (R m) with
      | true => rw [cs_t e]; omega
      | false => rw [cs_f e]; exact q
theorem shA.fm (h : iE R 8 0 n L) (hs : shL σ ζ x L ((seg R 0 n).countP is2i) l) : shA σ ζ x L l := by
  have hz : sumI R n (((seg R 0 n).countP is2i : Nat) : Int) (-1) := Or.inr ⟨rfl, fun j hj h2 w => by
    have a := cs_t h2
    have b := seg_mono (R := R) n (j + 1) (by omega)
    omega⟩
  rcases sum_match h hz with ⟨_, w⟩ | ⟨j, k, w, _⟩
  · exact ⟨_, hs, w⟩
  · omega
end SHM
set_option maxHeartbeats 4000000 in
set_option maxRecDepth 100000 in
theorem t_X12_findsE {υ : Option Int} {τ : Tp} {φ : Option Int} (l : Launch) (B : Nat) (D : va_G) (cA : Nat → ClassId) (kd : sK) (ig : sI) (rg : sR) (lg : sG) (sz : Nat) (x : Int32) (y : Int32) (u : Int32) (ff : List Fng) (hF9 : FdM B ff ig) (hs0 : (ff.length : Int) ≤ 99000) (hI : IM τ φ υ B kd ig rg) : MC l B D cA yX12_finds cX12_finds 4 none (rL 0 0 0) [.ref (B + 49), .int x, .int y, .int u] kd ig rg lg sz (PM τ φ υ B [49, 75, 79] kd ig rg lg (fun r ig' lg' => (r = none ∧ (FdM B (ff ++ [(x.toInt, y.toInt, u.toInt)]) ig' ∧ (ig' (B + 49) 19).toInt = (ig (B + 49) 19).toInt)))) := by
  refine MC.of (own := RX12) (by decide +kernel) rfl (Nat.le_of_ble_eq_true rfl) ?_
  intro p e s m args below meth c ls C hr hlk hnm hw hsz hl
  have hx := C.1.1
  have hb := C.1.2.1
  have hown := C.1.2.2.2.1
  have hts := C.1.2.2.2.2
  have hl : lv_has ls 4 [(0, .ref (B + 49)), (1, .int x), (2, .int y), (3, .int u)] := hl
  have hF : Ft B [49, 75, 79] ig lg ig lg := Ft.rf
  have hsh := hI.sh
  have hrm := hI.rm
  have hF1 := hF9.1
  refine lv_aload_n hx hb dX12_finds_0 rfl (lv_at hl 0 rfl) ?_
  refine r_get C hw (hsh 49 _ rfl) fl_X12_314 (oV_i rfl) dX12_finds_1 (ti_c (ig (B + 49) 37).toInt rfl fun z1 hz1 => ?_)
  have k2 : 0 ≤ (ig (B + 49) 37).toInt ∧ (ig (B + 49) 37).toInt ≤ 100000 := hI.i 49 37 (by decide) (by decide)
  refine lv_sipush (v := 300) hx hb dX12_finds_4 (by decide) (ti_c 300 (by decide) fun z3 hz3 => ?_)
  refine b_ge (tgt := 50) hx hb dX12_finds_7 (by decide) (fun c7 => ?_) (fun c7 => ?_)
  · refine lv_aload_n hx hb dX12_finds_50 rfl (lv_at hl 0 rfl) ?_
    refine lv_dup hx hb dX12_finds_51 rfl ?_
    refine r_get C hw (hsh 49 _ rfl) fl_X12_314 (oV_i rfl) dX12_finds_52 (ti_c (ig (B + 49) 37).toInt rfl fun z4 hz4 => ?_)
    have k5 : 0 ≤ (ig (B + 49) 37).toInt ∧ (ig (B + 49) 37).toInt ≤ 100000 := hI.i 49 37 (by decide) (by decide)
    refine lv_iconst (v := 1) hx hb dX12_finds_55 (by decide) (ti_c 1 (by decide) fun z6 hz6 => ?_)
    refine lv_iadd hx hb dX12_finds_56 (tc_add fun z7 hz7 => ?_)
    first | replace hz7 := hz7 (by omega) | clear hz7
    refine r_puti C hw (hsh 49 _ rfl) fl_X12_314 rfl rfl rfl dX12_finds_57 (fun H locs hH hw => ?_)
    obtain ⟨ig8, eig8⟩ : ∃ f, f = up2 ig (B + 49) 37 z7 := ⟨_, rfl⟩
    rw [← eig8] at hw
    have hF : Ft B [49, 75, 79] ig lg ig8 lg := by rw [eig8]; exact hF.pi (by decide)
    have hI : IM τ φ υ B kd ig8 rg := by rw [eig8]; exact hI.pi (by decide) (show okR (some (0, 100000)) _ from ⟨by show (0 : Int) ≤ _; omega, by show _ ≤ (100000 : Int); omega⟩)
    have wig8 : (ig8 (B + 49) 37).toInt = z7.toInt := by rw [eig8, up2_eq]
    have wig8_49_19 : (ig8 (B + 49) 19).toInt = (ig (B + 49) 19).toInt := by rw [eig8, up2_j (by decide)]
    exact r_vret C hw hr hlk (Nat.le_of_ble_eq_true rfl) (Nat.le_of_ble_eq_true rfl) dX12_finds_60 ⟨rfl, rfl, hI, hF, ⟨rfl, ⟨(by rw [eig8]; exact FdM.more hF9 (by omega) (by omega)), by omega⟩⟩⟩
  · refine lv_aload_n hx hb dX12_finds_10 rfl (lv_at hl 0 rfl) ?_
    refine r_get C hw (hsh 49 _ rfl) fl_X12_130 (oV_r rfl (hrm (49, 38, 75) (by decide))) dX12_finds_11 ?_
    refine lv_iconst (v := 3) hx hb dX12_finds_14 (by decide) (ti_c 3 (by decide) fun z9 hz9 => ?_)
    refine lv_aload_n hx hb dX12_finds_15 rfl (lv_at hl 0 rfl) ?_
    refine r_get C hw (hsh 49 _ rfl) fl_X12_314 (oV_i rfl) dX12_finds_16 (ti_c (ig (B + 49) 37).toInt rfl fun z10 hz10 => ?_)
    have k11 : 0 ≤ (ig (B + 49) 37).toInt ∧ (ig (B + 49) 37).toInt ≤ 100000 := hI.i 49 37 (by decide) (by decide)
    refine lv_imul hx hb dX12_finds_19 (tc_mulL 3 hz9 fun z12 hz12 => ?_)
    first | replace hz12 := hz12 (by omega) | clear hz12
    refine lv_iload_n hx hb dX12_finds_20 rfl (lv_at hl 1 rfl) ?_
    refine r_iast C hw (hsh 75 _ rfl) (by omega) (by omega) dX12_finds_21 (fun H locs hH hw => ?_)
    obtain ⟨ig13, eig13⟩ : ∃ f, f = up2 ig (B + 75) z12.toInt.toNat x := ⟨_, rfl⟩
    rw [← eig13] at hw
    have hF : Ft B [49, 75, 79] ig lg ig13 lg := by rw [eig13]; exact hF.pi (by decide)
    have hI : IM τ φ υ B kd ig13 rg := by rw [eig13]; exact hI.pi (by decide) (show okR none _ from trivial)
    have wig13_49_37 : (ig13 (B + 49) 37).toInt = (ig (B + 49) 37).toInt := by rw [eig13, up2_a (by omega)]
    have wig13_49_19 : (ig13 (B + 49) 19).toInt = (ig (B + 49) 19).toInt := by rw [eig13, up2_a (by omega)]
    refine lv_aload_n hx hb dX12_finds_22 rfl (lv_at hl 0 rfl) ?_
    refine r_get C hw (hsh 49 _ rfl) fl_X12_130 (oV_r rfl (hrm (49, 38, 75) (by decide))) dX12_finds_23 ?_
    refine lv_iconst (v := 3) hx hb dX12_finds_26 (by decide) (ti_c 3 (by decide) fun z14 hz14 => ?_)
    refine lv_aload_n hx hb dX12_finds_27 rfl (lv_at hl 0 rfl) ?_
    refine r_get C hw (hsh 49 _ rfl) fl_X12_314 (oV_i rfl) dX12_finds_28 (ti_c (ig13 (B + 49) 37).toInt rfl fun z15 hz15 => ?_)
    have k16 : 0 ≤ (ig13 (B + 49) 37).toInt ∧ (ig13 (B + 49) 37).toInt ≤ 100000 := hI.i 49 37 (by decide) (by decide)
    refine lv_imul hx hb dX12_finds_31 (tc_mulL 3 hz14 fun z17 hz17 => ?_)
    first | replace hz17 := hz17 (by omega) | clear hz17
    refine lv_iconst (v := 1) hx hb dX12_finds_32 (by decide) (ti_c 1 (by decide) fun z18 hz18 => ?_)
    refine lv_iadd hx hb dX12_finds_33 (tc_add fun z19 hz19 => ?_)
    first | replace hz19 := hz19 (by omega) | clear hz19
    refine lv_iload_n hx hb dX12_finds_34 rfl (lv_at hl 2 rfl) ?_
    refine r_iast C hw (hsh 75 _ rfl) (by omega) (by omega) dX12_finds_35 (fun H locs hH hw => ?_)
    obtain ⟨ig20, eig20⟩ : ∃ f, f = up2 ig13 (B + 75) z19.toInt.toNat y := ⟨_, rfl⟩
    rw [← eig20] at hw
    have hF : Ft B [49, 75, 79] ig lg ig20 lg := by rw [eig20]; exact hF.pi (by decide)
    have hI : IM τ φ υ B kd ig20 rg := by rw [eig20]; exact hI.pi (by decide) (show okR none _ from trivial)
    have wig20_49_37 : (ig20 (B + 49) 37).toInt = (ig13 (B + 49) 37).toInt := by rw [eig20, up2_a (by omega)]
    have wig20_49_19 : (ig20 (B + 49) 19).toInt = (ig13 (B + 49) 19).toInt := by rw [eig20, up2_a (by omega)]
    refine lv_aload_n hx hb dX12_finds_36 rfl (lv_at hl 0 rfl) ?_
    refine r_get C hw (hsh 49 _ rfl) fl_X12_130 (oV_r rfl (hrm (49, 38, 75) (by decide))) dX12_finds_37 ?_
    refine lv_iconst (v := 3) hx hb dX12_finds_40 (by decide) (ti_c 3 (by decide) fun z21 hz21 => ?_)
    refine lv_aload_n hx hb dX12_finds_41 rfl (lv_at hl 0 rfl) ?_
    refine r_get C hw (hsh 49 _ rfl) fl_X12_314 (oV_i rfl) dX12_finds_42 (ti_c (ig20 (B + 49) 37).toInt rfl fun z22 hz22 => ?_)
    have k23 : 0 ≤ (ig20 (B + 49) 37).toInt ∧ (ig20 (B + 49) 37).toInt ≤ 100000 := hI.i 49 37 (by decide) (by decide)
    refine lv_imul hx hb dX12_finds_45 (tc_mulL 3 hz21 fun z24 hz24 => ?_)
    first | replace hz24 := hz24 (by omega) | clear hz24
    refine lv_iconst (v := 2) hx hb dX12_finds_46 (by decide) (ti_c 2 (by decide) fun z25 hz25 => ?_)
    refine lv_iadd hx hb dX12_finds_47 (tc_add fun z26 hz26 => ?_)
    first | replace hz26 := hz26 (by omega) | clear hz26
    refine lv_iload_n hx hb dX12_finds_48 rfl (lv_at hl 3 rfl) ?_
    refine r_iast C hw (hsh 75 _ rfl) (by omega) (by omega) dX12_finds_49 (fun H locs hH hw => ?_)
    obtain ⟨ig27, eig27⟩ : ∃ f, f = up2 ig20 (B + 75) z26.toInt.toNat u := ⟨_, rfl⟩
    rw [← eig27] at hw
    have hF : Ft B [49, 75, 79] ig lg ig27 lg := by rw [eig27]; exact hF.pi (by decide)
    have hI : IM τ φ υ B kd ig27 rg := by rw [eig27]; exact hI.pi (by decide) (show okR none _ from trivial)
    have wig27_49_37 : (ig27 (B + 49) 37).toInt = (ig20 (B + 49) 37).toInt := by rw [eig27, up2_a (by omega)]
    have wig27_49_19 : (ig27 (B + 49) 19).toInt = (ig20 (B + 49) 19).toInt := by rw [eig27, up2_a (by omega)]
    refine lv_aload_n hx hb dX12_finds_50 rfl (lv_at hl 0 rfl) ?_
    refine lv_dup hx hb dX12_finds_51 rfl ?_
    refine r_get C hw (hsh 49 _ rfl) fl_X12_314 (oV_i rfl) dX12_finds_52 (ti_c (ig27 (B + 49) 37).toInt rfl fun z28 hz28 => ?_)
    have k29 : 0 ≤ (ig27 (B + 49) 37).toInt ∧ (ig27 (B + 49) 37).toInt ≤ 100000 := hI.i 49 37 (by decide) (by decide)
    refine lv_iconst (v := 1) hx hb dX12_finds_55 (by decide) (ti_c 1 (by decide) fun z30 hz30 => ?_)
    refine lv_iadd hx hb dX12_finds_56 (tc_add fun z31 hz31 => ?_)
    first | replace hz31 := hz31 (by omega) | clear hz31
    refine r_puti C hw (hsh 49 _ rfl) fl_X12_314 rfl rfl rfl dX12_finds_57 (fun H locs hH hw => ?_)
    obtain ⟨ig32, eig32⟩ : ∃ f, f = up2 ig27 (B + 49) 37 z31 := ⟨_, rfl⟩
    rw [← eig32] at hw
    have hF : Ft B [49, 75, 79] ig lg ig32 lg := by rw [eig32]; exact hF.pi (by decide)
    have hI : IM τ φ υ B kd ig32 rg := by rw [eig32]; exact hI.pi (by decide) (show okR (some (0, 100000)) _ from ⟨by show (0 : Int) ≤ _; omega, by show _ ≤ (100000 : Int); omega⟩)
    have wig32 : (ig32 (B + 49) 37).toInt = z31.toInt := by rw [eig32, up2_eq]
    have wig32_49_19 : (ig32 (B + 49) 19).toInt = (ig27 (B + 49) 19).toInt := by rw [eig32, up2_j (by decide)]
    exact r_vret C hw hr hlk (Nat.le_of_ble_eq_true rfl) (Nat.le_of_ble_eq_true rfl) dX12_finds_60 ⟨rfl, rfl, hI, hF, ⟨rfl, ⟨(by rw [eig32, eig27, eig20, eig13]; exact FdM.add hF9 (by omega) (by omega) (by omega) rfl rfl rfl (by omega)), by omega⟩⟩⟩

set_option maxHeartbeats 4000000 in
set_option maxRecDepth 100000 in
theorem t_X12_leastTwiceE {υ : Option Int} {τ : Tp} {φ : Option Int} (l : Launch) (B : Nat) (D : va_G) (cA : Nat → ClassId) (kd : sK) (ig : sI) (rg : sR) (lg : sG) (sz : Nat) (x : Int32) (hx0 : 0 ≤ x.toInt ∧ x.toInt < 288) (hI : IM τ φ υ B kd ig rg) : MC l B D cA yX12_leastTwice cX12_leastTwice 3 (some .int) (rL 0 0 0) [.ref (B + 49), .int x] kd ig rg lg sz (Pu kd ig rg lg sz (fun r => ∃ z : Int32, r = some (.int z) ∧ LtR (wyV B ig) x.toInt.toNat z.toInt)) := by
  refine MC.of (own := RX12) (by decide +kernel) rfl (Nat.le_of_ble_eq_true rfl) ?_
  intro p e s m args below meth c ls C hr hlk hnm hw hsz hl
  have hx := C.1.1
  have hb := C.1.2.1
  have hown := C.1.2.2.2.1
  have hts := C.1.2.2.2.2
  have hl : lv_has ls 3 [(0, .ref (B + 49)), (1, .int x)] := hl
  have hsh := hI.sh
  have hrm := hI.rm
  refine lv_iconst (v := 0) hx hb dX12_leastTwice_0 (by decide) (ti_c 0 (by decide) fun z1 hz1 => ?_)
  refine lv_istore_n (lv' := [(2, .int z1), (0, .ref (B + 49)), (1, .int x)]) hx hb dX12_leastTwice_1 rfl hl (by decide) rfl (fun ls hl => ?_)
  have L2 : ∀ (n : Nat) (ls : Array Slot) (H : Heap) (locs : List Loc) (v2 : Int32), lv_has ls 3 [(2, .int v2), (0, .ref (B + 49)), (1, .int x)] → WD B D cA s.heap kd ig rg lg H locs → H.size = sz → (0 ≤ v2.toInt) → (v2.toInt ≤ 288) → (∀ d : Nat, (d : Int) < v2.toInt → ¬ 2 ≤ wyV B ig x.toInt.toNat d) → 288 - v2.toInt < (n : Int) → W p l e (rL 0 0 0) s m args below meth c H locs 0 0 (MQ below (QcW B D cA (Pu kd ig rg lg sz (fun r => ∃ z : Int32, r = some (.int z) ∧ LtR (wyV B ig) x.toInt.toNat z.toInt))) args s 0 0 (fun q => B ≤ q)) (F0 m 2 ls []) := by
    intro n2
    induction n2 with
    | zero => intro ls H locs v2 hl hw hsz g2_0 g2_1 g2_2 hmu; exact absurd hmu (by omega)
    | succ n2 ih2 =>
      intro ls H locs v2 hl hw hsz g2_0 g2_1 g2_2 hmu
      refine lv_iload_n hx hb dX12_leastTwice_2 rfl (lv_at hl 0 rfl) ?_
      refine lv_sipush (v := 288) hx hb dX12_leastTwice_3 (by decide) (ti_c 288 (by decide) fun z3 hz3 => ?_)
      refine b_ge (tgt := 33) hx hb dX12_leastTwice_6 (by decide) (fun c6 => ?_) (fun c6 => ?_)
      · refine lv_iconst (v := (-1)) hx hb dX12_leastTwice_33 (by decide) (ti_c (-1) (by decide) fun z4 hz4 => ?_)
        exact r_iret C hw hr hlk rfl (Nat.le_of_ble_eq_true rfl) (Nat.le_of_ble_eq_true rfl) dX12_leastTwice_34 ⟨rfl, rfl, rfl, rfl, hsz, ⟨_, rfl, Or.inr ⟨by omega, fun d hd => g2_2 d (by omega)⟩⟩⟩
      · refine lv_aload_n hx hb dX12_leastTwice_9 rfl (lv_at hl 1 rfl) ?_
        refine r_get C hw (hsh 49 _ rfl) fl_X12_121 (oV_r rfl (hrm (49, 29, 72) (by decide))) dX12_leastTwice_10 ?_
        refine lv_sipush (v := 288) hx hb dX12_leastTwice_13 (by decide) (ti_c 288 (by decide) fun z5 hz5 => ?_)
        refine lv_iload_n hx hb dX12_leastTwice_16 rfl (lv_at hl 2 rfl) ?_
        refine lv_imul hx hb dX12_leastTwice_17 (tc_mulL 288 hz5 fun z6 hz6 => ?_)
        first | replace hz6 := hz6 (by omega) | clear hz6
        refine lv_iload_n hx hb dX12_leastTwice_18 rfl (lv_at hl 0 rfl) ?_
        refine lv_iadd hx hb dX12_leastTwice_19 (tc_add fun z7 hz7 => ?_)
        first | replace hz7 := hz7 (by omega) | clear hz7
        refine r_iald C hw (hsh 72 _ rfl) (by omega) (by omega) dX12_leastTwice_20 (ti_c (ig (B + 72) z7.toInt.toNat).toInt rfl fun z8 hz8 => ?_)
        have wv9 : z8.toInt = wyV B ig x.toInt.toNat v2.toInt.toNat := by rw [hz8, show z7.toInt.toNat = 288 * x.toInt.toNat + v2.toInt.toNat by omega]; rfl
        refine lv_iconst (v := 1) hx hb dX12_leastTwice_21 (by decide) (ti_c 1 (by decide) fun z10 hz10 => ?_)
        refine b_le (tgt := 27) hx hb dX12_leastTwice_22 (by decide) (fun c22 => ?_) (fun c22 => ?_)
        · refine tc_inc hx hb dX12_leastTwice_27 hl (k := 0) rfl (by decide) (by decide) (fun z11 hz11 ls hl => ?_)
          first | replace hz11 := hz11 (by omega) | clear hz11
          have hl : lv_has ls 3 [(2, .int z11), (0, .ref (B + 49)), (1, .int x)] := hl
          refine lv_goto (tgt := 2) hx hb dX12_leastTwice_30 (by decide) ?_
          exact ih2 ls H locs z11 (lv_sub hl [0, 1, 2] rfl) hw hsz (by omega) (by omega) (fun d hd => by by_cases e9 : (d : Int) = v2.toInt; (obtain rfl : d = v2.toInt.toNat := by omega); omega; exact g2_2 d (by omega)) (by omega)
        · refine lv_iload_n hx hb dX12_leastTwice_25 rfl (lv_at hl 0 rfl) ?_
          exact r_iret C hw hr hlk rfl (Nat.le_of_ble_eq_true rfl) (Nat.le_of_ble_eq_true rfl) dX12_leastTwice_26 ⟨rfl, rfl, rfl, rfl, hsz, ⟨_, rfl, Or.inl ⟨v2.toInt.toNat, by omega, by omega, by omega, fun d hd => g2_2 d (by omega)⟩⟩⟩
  exact L2 ((288 - z1.toInt) + 1).toNat ls s.heap [] z1 (lv_sub hl [0, 1, 2] rfl) hw hsz (by omega) (by omega) (fun d hd => absurd hd (by omega)) (by omega)

set_option maxHeartbeats 4000000 in
set_option maxRecDepth 100000 in
theorem t_X12_readersE {υ : Option Int} {τ : Tp} {φ : Option Int} (l : Launch) (B : Nat) (D : va_G) (cA : Nat → ClassId) (kd : sK) (ig : sI) (rg : sR) (lg : sG) (sz : Nat) (x : Int32) (hx0 : 0 ≤ x.toInt ∧ x.toInt < 288) (σ : Sg) (hP : RdP B σ 288 lg) (hI : IM τ φ υ B kd ig rg) : MC l B D cA yX12_readers cX12_readers 4 (some .int) (rL 1 0 0) [.ref (B + 49), .int x] kd ig rg lg sz (Pu kd ig rg lg sz (fun r => ∃ z : Int32, r = some (.int z) ∧ CnZ (fun q => Rd σ q x.toInt.toNat) z.toInt)) := by
  refine MC.of (own := RX12) (by decide +kernel) rfl (Nat.le_of_ble_eq_true rfl) ?_
  intro p e s m args below meth c ls C hr hlk hnm hw hsz hl
  have hx := C.1.1
  have hb := C.1.2.1
  have hown := C.1.2.2.2.1
  have hts := C.1.2.2.2.2
  have hl : lv_has ls 4 [(0, .ref (B + 49)), (1, .int x)] := hl
  have hsh := hI.sh
  have hrm := hI.rm
  refine lv_iconst (v := 0) hx hb dX12_readers_0 (by decide) (ti_c 0 (by decide) fun z1 hz1 => ?_)
  refine lv_istore_n (lv' := [(2, .int z1), (0, .ref (B + 49)), (1, .int x)]) hx hb dX12_readers_1 rfl hl (by decide) rfl (fun ls hl => ?_)
  refine lv_iconst (v := 0) hx hb dX12_readers_2 (by decide) (ti_c 0 (by decide) fun z2 hz2 => ?_)
  refine lv_istore_n (lv' := [(3, .int z2), (2, .int z1), (0, .ref (B + 49)), (1, .int x)]) hx hb dX12_readers_3 rfl hl (by decide) rfl (fun ls hl => ?_)
  have L4 : ∀ (n : Nat) (ls : Array Slot) (H : Heap) (locs : List Loc) (v3 : Int32) (v4 : Int32), lv_has ls 4 [(3, .int v3), (2, .int v4), (0, .ref (B + 49)), (1, .int x)] → WD B D cA s.heap kd ig rg lg H locs → H.size = sz → (0 ≤ v3.toInt) → (v3.toInt ≤ 288) → (∃ k : Nat, v4.toInt = (k : Int) ∧ CntIs (fun q => Rd σ q x.toInt.toNat) v3.toInt.toNat k) → (0 ≤ v4.toInt ∧ v4.toInt ≤ v3.toInt) → 288 - v3.toInt < (n : Int) → W p l e (rL 1 0 0) s m args below meth c H locs 0 0 (MQ below (QcW B D cA (Pu kd ig rg lg sz (fun r => ∃ z : Int32, r = some (.int z) ∧ CnZ (fun q => Rd σ q x.toInt.toNat) z.toInt))) args s 0 0 (fun q => B ≤ q)) (F0 m 4 ls []) := by
    intro n4
    induction n4 with
    | zero => intro ls H locs v3 v4 hl hw hsz g4_0 g4_1 g4_2 g4_3 hmu; exact absurd hmu (by omega)
    | succ n4 ih4 =>
      intro ls H locs v3 v4 hl hw hsz g4_0 g4_1 g4_2 g4_3 hmu
      refine lv_iload_n hx hb dX12_readers_4 rfl (lv_at hl 0 rfl) ?_
      refine lv_sipush (v := 288) hx hb dX12_readers_5 (by decide) (ti_c 288 (by decide) fun z5 hz5 => ?_)
      refine b_ge (tgt := 37) hx hb dX12_readers_8 (by decide) (fun c8 => ?_) (fun c8 => ?_)
      · refine lv_iload_n hx hb dX12_readers_37 rfl (lv_at hl 1 rfl) ?_
        exact r_iret C hw hr hlk rfl (Nat.le_of_ble_eq_true rfl) (Nat.le_of_ble_eq_true rfl) dX12_readers_38 ⟨rfl, rfl, rfl, rfl, hsz, ⟨_, rfl, (by have q9 := g4_2; rw [show v3.toInt.toNat = 288 by omega] at q9; exact q9)⟩⟩
      · refine lv_iload_n hx hb dX12_readers_11 rfl (lv_at hl 1 rfl) ?_
        refine lv_aload_n hx hb dX12_readers_12 rfl (lv_at hl 2 rfl) ?_
        refine r_get C hw (hsh 49 _ rfl) fl_X12_96 (oV_r rfl (hrm (49, 21, 64) (by decide))) dX12_readers_13 ?_
        refine lv_iload_n hx hb dX12_readers_16 rfl (lv_at hl 0 rfl) ?_
        refine lv_iload_n hx hb dX12_readers_17 rfl (lv_at hl 3 rfl) ?_
        refine r_callS (As := [.ref (B + 64), .int v3, .int x]) (rest := [.int v4]) C hw (t_X12_hasE l B D cA kd ig rg lg _ 64 (Or.inl rfl) v3 x (by omega) (by omega) hI) ss_X12_222 rfl hl.1 rfl (Nat.le_of_ble_eq_true rfl) ⟨Nat.le_of_ble_eq_true rfl, Nat.le_of_ble_eq_true rfl⟩ ⟨Nat.le_of_ble_eq_true rfl, Nat.le_of_ble_eq_true rfl⟩ dX12_readers_18 (fun r10 kd6 ig7 rg8 lg9 H locs hw hH hp11 => ?_)
        obtain ⟨rfl, rfl, rfl, rfl, hzhp11, hrhp11⟩ := hp11
        have hsz := hzhp11.trans hsz
        obtain ⟨z12, rfl, hz12⟩ := hrhp11
        have hb9 := hz12
        refine z_eq (tgt := 28) hx hb dX12_readers_21 (by decide) (fun c21 => ?_) (fun c21 => ?_)
        · refine lv_iconst (v := 0) hx hb dX12_readers_28 (by decide) (ti_c 0 (by decide) fun z13 hz13 => ?_)
          refine lv_iadd hx hb dX12_readers_29 (tc_add fun z14 hz14 => ?_)
          first | replace hz14 := hz14 (by omega) | clear hz14
          refine lv_istore_n (lv' := [(2, .int z14), (3, .int v3), (0, .ref (B + 49)), (1, .int x)]) hx hb dX12_readers_30 rfl hl (by decide) rfl (fun ls hl => ?_)
          refine tc_inc hx hb dX12_readers_31 hl (k := 1) rfl (by decide) (by decide) (fun z15 hz15 ls hl => ?_)
          first | replace hz15 := hz15 (by omega) | clear hz15
          have hl : lv_has ls 4 [(3, .int z15), (2, .int z14), (0, .ref (B + 49)), (1, .int x)] := hl
          refine lv_goto (tgt := 4) hx hb dX12_readers_34 (by decide) ?_
          exact ih4 ls H locs z15 z14 (lv_sub hl [0, 1, 2, 3] rfl) hw hsz (by omega) (by omega) ((by rw [show z15.toInt.toNat = v3.toInt.toNat + 1 by omega]; obtain ⟨k9, q8, q9⟩ := g4_2; exact ⟨k9, by omega, q9.sn (fun w9 => by0 hb9 (by omega) ((hP _ _ (by omega) (by omega)).mpr ⟨by omega, w9⟩))⟩)) (by omega) (by omega)
        · refine lv_iconst (v := 1) hx hb dX12_readers_24 (by decide) (ti_c 1 (by decide) fun z16 hz16 => ?_)
          refine lv_goto (tgt := 29) hx hb dX12_readers_25 (by decide) ?_
          refine lv_iadd hx hb dX12_readers_29 (tc_add fun z17 hz17 => ?_)
          first | replace hz17 := hz17 (by omega) | clear hz17
          refine lv_istore_n (lv' := [(2, .int z17), (3, .int v3), (0, .ref (B + 49)), (1, .int x)]) hx hb dX12_readers_30 rfl hl (by decide) rfl (fun ls hl => ?_)
          refine tc_inc hx hb dX12_readers_31 hl (k := 1) rfl (by decide) (by decide) (fun z18 hz18 ls hl => ?_)
          first | replace hz18 := hz18 (by omega) | clear hz18
          have hl : lv_has ls 4 [(3, .int z18), (2, .int z17), (0, .ref (B + 49)), (1, .int x)] := hl
          refine lv_goto (tgt := 4) hx hb dX12_readers_34 (by decide) ?_
          exact ih4 ls H locs z18 z17 (lv_sub hl [0, 1, 2, 3] rfl) hw hsz (by omega) (by omega) ((by rw [show z18.toInt.toNat = v3.toInt.toNat + 1 by omega]; obtain ⟨k9, q8, q9⟩ := g4_2; exact ⟨k9 + 1, by omega, q9.sy ((hP _ _ (by omega) (by omega)).mp (by1 hb9 (by omega))).2⟩)) (by omega) (by omega)
  exact L4 ((288 - z2.toInt) + 1).toNat ls s.heap [] z2 z1 (lv_sub hl [0, 1, 2, 3] rfl) hw hsz (by omega) (by omega) (⟨0, by omega, by rw [show z2.toInt.toNat = 0 by omega]; exact CntIs.zero⟩) (by omega) (by omega)

set_option maxHeartbeats 4000000 in
set_option maxRecDepth 100000 in
theorem t_X12_readManyE {υ : Option Int} {τ : Tp} {φ : Option Int} (l : Launch) (B : Nat) (D : va_G) (cA : Nat → ClassId) (kd : sK) (ig : sI) (rg : sR) (lg : sG) (sz : Nat) (x : Int32) (hx0 : 0 ≤ x.toInt ∧ x.toInt < 288) (σ : Sg) (hP : RdP B σ 288 lg) (hI : IM τ φ υ B kd ig rg) : MC l B D cA yX12_readMany cX12_readMany 4 (some .int) (rL 1 0 0) [.ref (B + 49), .int x] kd ig rg lg sz (Pu kd ig rg lg sz (fun r => ∃ z : Int32, r = some (.int z) ∧ CnZ (fun q => Rd σ x.toInt.toNat q) z.toInt)) := by
  refine MC.of (own := RX12) (by decide +kernel) rfl (Nat.le_of_ble_eq_true rfl) ?_
  intro p e s m args below meth c ls C hr hlk hnm hw hsz hl
  have hx := C.1.1
  have hb := C.1.2.1
  have hown := C.1.2.2.2.1
  have hts := C.1.2.2.2.2
  have hl : lv_has ls 4 [(0, .ref (B + 49)), (1, .int x)] := hl
  have hsh := hI.sh
  have hrm := hI.rm
  refine lv_iconst (v := 0) hx hb dX12_readMany_0 (by decide) (ti_c 0 (by decide) fun z1 hz1 => ?_)
  refine lv_istore_n (lv' := [(2, .int z1), (0, .ref (B + 49)), (1, .int x)]) hx hb dX12_readMany_1 rfl hl (by decide) rfl (fun ls hl => ?_)
  refine lv_iconst (v := 0) hx hb dX12_readMany_2 (by decide) (ti_c 0 (by decide) fun z2 hz2 => ?_)
  refine lv_istore_n (lv' := [(3, .int z2), (2, .int z1), (0, .ref (B + 49)), (1, .int x)]) hx hb dX12_readMany_3 rfl hl (by decide) rfl (fun ls hl => ?_)
  have L4 : ∀ (n : Nat) (ls : Array Slot) (H : Heap) (locs : List Loc) (v3 : Int32) (v4 : Int32), lv_has ls 4 [(3, .int v3), (2, .int v4), (0, .ref (B + 49)), (1, .int x)] → WD B D cA s.heap kd ig rg lg H locs → H.size = sz → (0 ≤ v3.toInt) → (v3.toInt ≤ 288) → (∃ k : Nat, v4.toInt = (k : Int) ∧ CntIs (fun q => Rd σ x.toInt.toNat q) v3.toInt.toNat k) → (0 ≤ v4.toInt ∧ v4.toInt ≤ v3.toInt) → 288 - v3.toInt < (n : Int) → W p l e (rL 1 0 0) s m args below meth c H locs 0 0 (MQ below (QcW B D cA (Pu kd ig rg lg sz (fun r => ∃ z : Int32, r = some (.int z) ∧ CnZ (fun q => Rd σ x.toInt.toNat q) z.toInt))) args s 0 0 (fun q => B ≤ q)) (F0 m 4 ls []) := by
    intro n4
    induction n4 with
    | zero => intro ls H locs v3 v4 hl hw hsz g4_0 g4_1 g4_2 g4_3 hmu; exact absurd hmu (by omega)
    | succ n4 ih4 =>
      intro ls H locs v3 v4 hl hw hsz g4_0 g4_1 g4_2 g4_3 hmu
      refine lv_iload_n hx hb dX12_readMany_4 rfl (lv_at hl 0 rfl) ?_
      refine lv_sipush (v := 288) hx hb dX12_readMany_5 (by decide) (ti_c 288 (by decide) fun z5 hz5 => ?_)
      refine b_ge (tgt := 37) hx hb dX12_readMany_8 (by decide) (fun c8 => ?_) (fun c8 => ?_)
      · refine lv_iload_n hx hb dX12_readMany_37 rfl (lv_at hl 1 rfl) ?_
        exact r_iret C hw hr hlk rfl (Nat.le_of_ble_eq_true rfl) (Nat.le_of_ble_eq_true rfl) dX12_readMany_38 ⟨rfl, rfl, rfl, rfl, hsz, ⟨_, rfl, (by have q9 := g4_2; rw [show v3.toInt.toNat = 288 by omega] at q9; exact q9)⟩⟩
      · refine lv_iload_n hx hb dX12_readMany_11 rfl (lv_at hl 1 rfl) ?_
        refine lv_aload_n hx hb dX12_readMany_12 rfl (lv_at hl 2 rfl) ?_
        refine r_get C hw (hsh 49 _ rfl) fl_X12_96 (oV_r rfl (hrm (49, 21, 64) (by decide))) dX12_readMany_13 ?_
        refine lv_iload_n hx hb dX12_readMany_16 rfl (lv_at hl 3 rfl) ?_
        refine lv_iload_n hx hb dX12_readMany_17 rfl (lv_at hl 0 rfl) ?_
        refine r_callS (As := [.ref (B + 64), .int x, .int v3]) (rest := [.int v4]) C hw (t_X12_hasE l B D cA kd ig rg lg _ 64 (Or.inl rfl) x v3 (by omega) (by omega) hI) ss_X12_222 rfl hl.1 rfl (Nat.le_of_ble_eq_true rfl) ⟨Nat.le_of_ble_eq_true rfl, Nat.le_of_ble_eq_true rfl⟩ ⟨Nat.le_of_ble_eq_true rfl, Nat.le_of_ble_eq_true rfl⟩ dX12_readMany_18 (fun r10 kd6 ig7 rg8 lg9 H locs hw hH hp11 => ?_)
        obtain ⟨rfl, rfl, rfl, rfl, hzhp11, hrhp11⟩ := hp11
        have hsz := hzhp11.trans hsz
        obtain ⟨z12, rfl, hz12⟩ := hrhp11
        have hb9 := hz12
        refine z_eq (tgt := 28) hx hb dX12_readMany_21 (by decide) (fun c21 => ?_) (fun c21 => ?_)
        · refine lv_iconst (v := 0) hx hb dX12_readMany_28 (by decide) (ti_c 0 (by decide) fun z13 hz13 => ?_)
          refine lv_iadd hx hb dX12_readMany_29 (tc_add fun z14 hz14 => ?_)
          first | replace hz14 := hz14 (by omega) | clear hz14
          refine lv_istore_n (lv' := [(2, .int z14), (3, .int v3), (0, .ref (B + 49)), (1, .int x)]) hx hb dX12_readMany_30 rfl hl (by decide) rfl (fun ls hl => ?_)
          refine tc_inc hx hb dX12_readMany_31 hl (k := 1) rfl (by decide) (by decide) (fun z15 hz15 ls hl => ?_)
          first | replace hz15 := hz15 (by omega) | clear hz15
          have hl : lv_has ls 4 [(3, .int z15), (2, .int z14), (0, .ref (B + 49)), (1, .int x)] := hl
          refine lv_goto (tgt := 4) hx hb dX12_readMany_34 (by decide) ?_
          exact ih4 ls H locs z15 z14 (lv_sub hl [0, 1, 2, 3] rfl) hw hsz (by omega) (by omega) ((by rw [show z15.toInt.toNat = v3.toInt.toNat + 1 by omega]; obtain ⟨k9, q8, q9⟩ := g4_2; exact ⟨k9, by omega, q9.sn (fun w9 => by0 hb9 (by omega) ((hP _ _ (by omega) (by omega)).mpr ⟨by omega, w9⟩))⟩)) (by omega) (by omega)
        · refine lv_iconst (v := 1) hx hb dX12_readMany_24 (by decide) (ti_c 1 (by decide) fun z16 hz16 => ?_)
          refine lv_goto (tgt := 29) hx hb dX12_readMany_25 (by decide) ?_
          refine lv_iadd hx hb dX12_readMany_29 (tc_add fun z17 hz17 => ?_)
          first | replace hz17 := hz17 (by omega) | clear hz17
          refine lv_istore_n (lv' := [(2, .int z17), (3, .int v3), (0, .ref (B + 49)), (1, .int x)]) hx hb dX12_readMany_30 rfl hl (by decide) rfl (fun ls hl => ?_)
          refine tc_inc hx hb dX12_readMany_31 hl (k := 1) rfl (by decide) (by decide) (fun z18 hz18 ls hl => ?_)
          first | replace hz18 := hz18 (by omega) | clear hz18
          have hl : lv_has ls 4 [(3, .int z18), (2, .int z17), (0, .ref (B + 49)), (1, .int x)] := hl
          refine lv_goto (tgt := 4) hx hb dX12_readMany_34 (by decide) ?_
          exact ih4 ls H locs z18 z17 (lv_sub hl [0, 1, 2, 3] rfl) hw hsz (by omega) (by omega) ((by rw [show z18.toInt.toNat = v3.toInt.toNat + 1 by omega]; obtain ⟨k9, q8, q9⟩ := g4_2; exact ⟨k9 + 1, by omega, q9.sy ((hP _ _ (by omega) (by omega)).mp (by1 hb9 (by omega))).2⟩)) (by omega) (by omega)
  exact L4 ((288 - z2.toInt) + 1).toNat ls s.heap [] z2 z1 (lv_sub hl [0, 1, 2, 3] rfl) hw hsz (by omega) (by omega) (⟨0, by omega, by rw [show z2.toInt.toNat = 0 by omega]; exact CntIs.zero⟩) (by omega) (by omega)

set_option maxHeartbeats 4000000 in
set_option maxRecDepth 100000 in
theorem t_X12_findShortE {υ : Option Int} {τ : Tp} {φ : Option Int} (l : Launch) (B : Nat) (D : va_G) (cA : Nat → ClassId) (kd : sK) (ig : sI) (rg : sR) (lg : sG) (sz : Nat) (x : Int32) (hx0 : 0 ≤ x.toInt ∧ x.toInt < 288) (hkd : (ig (B + 59) x.toInt.toNat).toInt = 2) (σ : Sg) (π : Ps) (hM : SM B σ π ig) (hU : FMm B σ ig) (hk2 : kdO (σ x.toInt.toNat) = 2) (ff : List Fng) (hF9 : FdM B ff ig) (hs0 : (ff.length : Int) ≤ 90000) (hI : IM τ φ υ B kd ig rg) : MC l B D cA yX12_findShort cX12_findShort 6 none (rL 1 0 0) [.ref (B + 49), .int x] kd ig rg lg sz (PM τ φ υ B [49, 75, 79] kd ig rg lg (fun r ig' lg' => (r = none ∧ ((∃ l2 : List Fng, shA σ (famZ B ig) x.toInt (fmO (σ x.toInt.toNat)) l2 ∧ FdM B (ff ++ l2) ig' ∧ l2.length ≤ 240) ∧ (ig' (B + 49) 19).toInt = (ig (B + 49) 19).toInt)))) := by
  refine MC.of (own := RX12) (by decide +kernel) rfl (Nat.le_of_ble_eq_true rfl) ?_
  intro p e s m args below meth c ls C hr hlk hnm hw hsz hl
  have hx := C.1.1
  have hb := C.1.2.1
  have hown := C.1.2.2.2.1
  have hts := C.1.2.2.2.2
  have hl : lv_has ls 6 [(0, .ref (B + 49)), (1, .int x)] := hl
  have hF : Ft B [49, 75, 79] ig lg ig lg := Ft.rf
  have hsh := hI.sh
  have hrm := hI.rm
  have hI0 := hI
  have hrow := hM.1 x.toInt.toNat (by omega)
  have hrf := hrow.2.2.1 hk2
  obtain ⟨n9, hn9, hn12, hie⟩ := hrf.1
  have kit := hI.its (j := x.toInt.toNat) (by omega)
  have ep : ((x.toInt.toNat : Nat) : Int) = x.toInt := by omega
  refine lv_iconst (v := 0) hx hb dX12_findShort_0 (by decide) (ti_c 0 (by decide) fun z1 hz1 => ?_)
  refine lv_istore_n (lv' := [(2, .int z1), (0, .ref (B + 49)), (1, .int x)]) hx hb dX12_findShort_1 rfl hl (by decide) rfl (fun ls hl => ?_)
  have L2 : ∀ (n : Nat) (ls : Array Slot) (H : Heap) (locs : List Loc) (ig3 : sI) (lg4 : sG) (v2 : Int32), lv_has ls 6 [(2, .int v2), (0, .ref (B + 49)), (1, .int x)] → WD B D cA s.heap kd ig3 rg lg4 H locs → IM τ φ υ B kd ig3 rg → Ft B [49, 75, 79] ig lg ig3 lg4 → (0 ≤ v2.toInt) → (v2.toInt ≤ (n9 : Int)) → (∃ l2 : List Fng, shL σ (famZ B ig) x.toInt (fmO (σ x.toInt.toNat)) ((seg (mR B ig (x.toInt.toNat : Int) x.toInt.toNat) 0 v2.toInt.toNat).countP is2i) l2 ∧ FdM B (ff ++ l2) ig3 ∧ (l2.length : Int) ≤ 2 * v2.toInt) → ((ig3 (B + 49) 19).toInt = (ig (B + 49) 19).toInt) → (n9 : Int) - v2.toInt < (n : Int) → W p l e (rL 1 0 0) s m args below meth c H locs 0 0 (MQ below (QcW B D cA (PM τ φ υ B [49, 75, 79] kd ig rg lg (fun r ig' lg' => (r = none ∧ ((∃ l2 : List Fng, shA σ (famZ B ig) x.toInt (fmO (σ x.toInt.toNat)) l2 ∧ FdM B (ff ++ l2) ig' ∧ l2.length ≤ 240) ∧ (ig' (B + 49) 19).toInt = (ig (B + 49) 19).toInt))))) args s 0 0 (fun q => B ≤ q)) (F0 m 2 ls []) := by
    intro n2
    induction n2 with
    | zero => intro ls H locs ig3 lg4 v2 hl hw hI hF g2_0 g2_1 g2_2 g2_3 hmu; exact absurd hmu (by omega)
    | succ n2 ih2 =>
      intro ls H locs ig3 lg4 v2 hl hw hI hF g2_0 g2_1 g2_2 g2_3 hmu
      obtain ⟨l2, sh9, fd9, ln9⟩ := g2_2
      refine lv_iload_n hx hb dX12_findShort_2 rfl (lv_at hl 0 rfl) ?_
      refine lv_aload_n hx hb dX12_findShort_3 rfl (lv_at hl 1 rfl) ?_
      refine r_get C hw (hsh 49 _ rfl) fl_X12_77 (oV_r rfl (hrm (49, 13, 58) (by decide))) dX12_findShort_4 ?_
      refine lv_iload_n hx hb dX12_findShort_7 rfl (lv_at hl 2 rfl) ?_
      refine r_iald C hw (hsh 58 _ rfl) (by omega) (by omega) dX12_findShort_8 (ti_c (ig3 (B + 58) x.toInt.toNat).toInt rfl fun z5 hz5 => ?_)
      have k6 := hI.its (j := (x.toInt.toNat)) (by omega)
      rw [Ft.i hF 58 _ (by decide)] at hz5 k6
      refine b_ge (tgt := 83) hx hb dX12_findShort_9 (by decide) (fun c9 => ?_) (fun c9 => ?_)
      · exact r_vret C hw hr hlk (Nat.le_of_ble_eq_true rfl) (Nat.le_of_ble_eq_true rfl) dX12_findShort_83 ⟨rfl, rfl, hI, hF, ⟨rfl, ⟨⟨l2, shA.fm hie (by have q9 := sh9; rw [show v2.toInt.toNat = n9 by omega] at q9; exact q9), fd9, by omega⟩, by omega⟩⟩⟩
      · refine lv_bipush (v := 120) hx hb dX12_findShort_12 (by decide) (ti_c 120 (by decide) fun z7 hz7 => ?_)
        refine lv_iload_n hx hb dX12_findShort_14 rfl (lv_at hl 2 rfl) ?_
        refine lv_imul hx hb dX12_findShort_15 (tc_mulL 120 hz7 fun z8 hz8 => ?_)
        first | replace hz8 := hz8 (by omega) | clear hz8
        refine lv_iload_n hx hb dX12_findShort_16 rfl (lv_at hl 0 rfl) ?_
        refine lv_iadd hx hb dX12_findShort_17 (tc_add fun z9 hz9 => ?_)
        first | replace hz9 := hz9 (by omega) | clear hz9
        refine lv_istore_n (lv' := [(3, .int z9), (2, .int v2), (0, .ref (B + 49)), (1, .int x)]) hx hb dX12_findShort_18 rfl hl (by decide) rfl (fun ls hl => ?_)
        refine lv_aload_n hx hb dX12_findShort_19 rfl (lv_at hl 2 rfl) ?_
        refine r_get C hw (hsh 49 _ rfl) fl_X12_65 (oV_r rfl (hrm (49, 9, 54) (by decide))) dX12_findShort_20 ?_
        refine lv_iload_n hx hb dX12_findShort_23 rfl (lv_at hl 0 rfl) ?_
        refine r_iald C hw (hsh 54 _ rfl) (by omega) (by omega) dX12_findShort_24 (ti_c (ig3 (B + 54) z9.toInt.toNat).toInt rfl fun z10 hz10 => ?_)
        rw [Ft.i hF 54 _ (by decide)] at hz10
        have m2 := mR_2 (B := B) (ig := ig) (h := (x.toInt.toNat : Int)) (q := x.toInt.toNat) (k := v2.toInt.toNat) (by omega)
        rw [show 120 * x.toInt.toNat + v2.toInt.toNat = z9.toInt.toNat by omega, ← hz10] at m2
        replace m2 : hid _ := m2
        refine lv_iconst (v := 2) hx hb dX12_findShort_25 (by decide) (ti_c 2 (by decide) fun z12 hz12 => ?_)
        refine b_ne (tgt := 77) hx hb dX12_findShort_26 (by decide) (fun c26 => ?_) (fun c26 => ?_)
        · refine tc_inc hx hb dX12_findShort_77 hl (k := 1) rfl (by decide) (by decide) (fun z13 hz13 ls hl => ?_)
          first | replace hz13 := hz13 (by omega) | clear hz13
          have hl : lv_has ls 6 [(2, .int z13), (3, .int z9), (0, .ref (B + 49)), (1, .int x)] := hl
          refine lv_goto (tgt := 2) hx hb dX12_findShort_80 (by decide) ?_
          exact ih2 ls H locs ig3 lg4 z13 (lv_sub hl [0, 2, 3] rfl) hw hI hF (by omega) (by omega) (⟨l2, (by rw [show z13.toInt.toNat = v2.toInt.toNat + 1 by omega, cs_f (by cases e9 : is2i ((mR B ig (x.toInt.toNat : Int) x.toInt.toNat) v2.toInt.toNat) with | false => rfl | true => exact absurd (Iff.mp m2 e9) (by omega))]; exact sh9), fd9, by omega⟩) (by omega) (by omega)
        · have is9 : is2i ((mR B ig (x.toInt.toNat : Int) x.toInt.toNat) v2.toInt.toNat) = true := Iff.mpr m2 (by omega)
          obtain ⟨j, l9, ej, hsl, smt⟩ : ∃ j ff : Nat, ((v2.toInt.toNat : Nat) : Int) = (j : Int) ∧ sumS (fmO (σ x.toInt.toNat)) ((((seg (mR B ig (x.toInt.toNat : Int) x.toInt.toNat) 0 v2.toInt.toNat).countP is2i) : Nat) : Int) (ff : Int) ∧ SMt (mR B ig (x.toInt.toNat : Int) x.toInt.toNat) n9 (fmO (σ x.toInt.toNat)) j ff := (by rcases sum_match hie (show sumI (mR B ig (x.toInt.toNat : Int) x.toInt.toNat) n9 ((((seg (mR B ig (x.toInt.toNat : Int) x.toInt.toNat) 0 v2.toInt.toNat).countP is2i) : Nat) : Int) ((v2.toInt.toNat : Nat) : Int) from Or.inl ⟨v2.toInt.toNat, by omega, rfl, is9, rfl⟩) with ⟨w9, -⟩ | w9; (exfalso; omega); exact w9)
          obtain rfl : j = v2.toInt.toNat := by omega
          have sm3 := smt.2.2.1
          have r2 := rd_ref smt.2.2.2.2.1 (by omega) rfl (hrf.2 (v2.toInt.toNat + 2) (by omega)) (hI0.at (p := x.toInt.toNat) (k := v2.toInt.toNat + 2) (by omega) (by omega) hkd (by omega)).2 (by omega)
          have r4 := rd_ref smt.2.2.2.2.2.1 (by omega) rfl (hrf.2 (v2.toInt.toNat + 4) (by omega)) (hI0.at (p := x.toInt.toNat) (k := v2.toInt.toNat + 4) (by omega) (by omega) hkd (by omega)).2 (by omega)
          rw [show 120 * x.toInt.toNat + (v2.toInt.toNat + 4) = (120 * x.toInt.toNat + (v2.toInt.toNat + 2)) + 2 by omega] at r4
          have rc2 := r2.2.1
          have rr2 := r2.2.2.1
          have rc4 := r4.2.1
          have rr4 := r4.2.2.1
          rw [ep] at rc2 rr2 rc4 rr4
          have rg4 := r4.2.2.2.1
          have iB := shDn.iff (B := B) (ig := ig) (σ := σ) (x := x.toInt) (i := 120 * x.toInt.toNat + (v2.toInt.toNat + 2)) smt.2.1 rc2 rc4 rr4 rg4.2.2
          have iR := shRt.iff (B := B) (ig := ig) (σ := σ) (x := x.toInt) (i := 120 * x.toInt.toNat + (v2.toInt.toNat + 2)) smt.2.1 rr2 rc4 rr4 rg4.1.2
          replace iB : hid _ := iB
          replace iR : hid _ := iR
          replace m2 : hid _ := m2
          refine lv_aload_n hx hb dX12_findShort_29 rfl (lv_at hl 2 rfl) ?_
          refine lv_iload_n hx hb dX12_findShort_30 rfl (lv_at hl 3 rfl) ?_
          refine lv_iload_n hx hb dX12_findShort_31 rfl (lv_at hl 0 rfl) ?_
          refine lv_iconst (v := 2) hx hb dX12_findShort_32 (by decide) (ti_c 2 (by decide) fun z14 hz14 => ?_)
          refine lv_iadd hx hb dX12_findShort_33 (tc_add fun z15 hz15 => ?_)
          first | replace hz15 := hz15 (by omega) | clear hz15
          refine lv_iconst (v := 1) hx hb dX12_findShort_34 (by decide) (ti_c 1 (by decide) fun z16 hz16 => ?_)
          refine r_callV (As := [.int x, .int z15, .int z16]) (rest := []) C hw (t_X12_shortByE l B D cA kd ig3 rg lg4 _ x z15 z16 (by omega) (by omega) (by omega) (by rw [show z15.toInt.toNat + 2 = (120 * x.toInt.toNat + (v2.toInt.toNat + 2)) + 2 by omega, Ft.i hF 55 _ (by decide), Ft.i hF 56 _ (by decide)]; exact rg4) σ π (hM.ft hF (by decide) (by omega)) (hU.ft hF (by decide)) hI.nu) sv_X12_320 (hsh 49 _ rfl) rfl hl.1 rfl (Nat.le_of_ble_eq_true rfl) ⟨Nat.le_of_ble_eq_true rfl, Nat.le_of_ble_eq_true rfl⟩ ⟨Nat.le_of_ble_eq_true rfl, Nat.le_of_ble_eq_true rfl⟩ dX12_findShort_35 (fun r21 kd17 ig18 rg19 lg20 H locs hw hH hp22 => ?_)
          obtain ⟨rfl, rfl, rfl, rfl, hzhp22, hrhp22⟩ := hp22
          obtain ⟨z23, rfl, hz23⟩ := hrhp22
          rw [show z15.toInt.toNat = 120 * x.toInt.toNat + (v2.toInt.toNat + 2) by omega, shDn.ag (fun c j hc => hF.i c j (by rcases hc with rfl | rfl | rfl <;> decide)), shRt.ag (fun c j hc => hF.i c j (by rcases hc with rfl | rfl | rfl <;> decide)), Ft.i hF 55 _ (by decide), Ft.i hF 56 _ (by decide)] at hz23
          have sd9 : (shB σ (famZ B ig) x.toInt (stp (fmO (σ x.toInt.toNat)) (l9 : Int)) ∧ z23.toInt = lstP (stp (fmO (σ x.toInt.toNat)) (l9 : Int)) x.toInt + 12) ∨ (¬ shB σ (famZ B ig) x.toInt (stp (fmO (σ x.toInt.toNat)) (l9 : Int)) ∧ z23.toInt = -1) := (by rcases hz23.1 (by omega) with ⟨q8, q9⟩ | ⟨q8, q9⟩; (exact Or.inl ⟨Iff.mpr iB q8, by unfold lstP; omega⟩); (exact Or.inr ⟨fun w9 => q8 (Iff.mp iB w9), q9⟩))
          refine lv_istore (lv' := [(4, .int z23), (3, .int z9), (2, .int v2), (0, .ref (B + 49)), (1, .int x)]) hx hb dX12_findShort_38 hl (by decide) rfl (fun ls hl => ?_)
          refine lv_iload hx hb dX12_findShort_40 (lv_at hl 0 rfl) ?_
          have J53 : ∀ (ls : Array Slot) (H : Heap) (locs : List Loc) (ig24 : sI) (lg25 : sG) , lv_has ls 6 [(3, .int z9), (2, .int v2), (0, .ref (B + 49)), (1, .int x)] → WD B D cA s.heap kd ig24 rg lg25 H locs → IM τ φ υ B kd ig24 rg → Ft B [49, 75, 79] ig lg ig24 lg25 → (∃ b : List Fng, Op1 (shB σ (famZ B ig) x.toInt (stp (fmO (σ x.toInt.toNat)) (l9 : Int))) (3, x.toInt, lstP (stp (fmO (σ x.toInt.toNat)) (l9 : Int)) x.toInt + 12) b ∧ FdM B (ff ++ l2 ++ b) ig24 ∧ b.length ≤ 1) → ((ig24 (B + 49) 19).toInt = (ig (B + 49) 19).toInt) → W p l e (rL 1 0 0) s m args below meth c H locs 0 0 (MQ below (QcW B D cA (PM τ φ υ B [49, 75, 79] kd ig rg lg (fun r ig' lg' => (r = none ∧ ((∃ l2 : List Fng, shA σ (famZ B ig) x.toInt (fmO (σ x.toInt.toNat)) l2 ∧ FdM B (ff ++ l2) ig' ∧ l2.length ≤ 240) ∧ (ig' (B + 49) 19).toInt = (ig (B + 49) 19).toInt))))) args s 0 0 (fun q => B ≤ q)) (F0 m 53 ls []) := by
            intro ls H locs ig24 lg25 hl hw hI hF g53_0 g53_1
            obtain ⟨b, ob9, fdb, lb9⟩ := g53_0
            refine lv_aload_n hx hb dX12_findShort_53 rfl (lv_at hl 2 rfl) ?_
            refine lv_iload_n hx hb dX12_findShort_54 rfl (lv_at hl 3 rfl) ?_
            refine lv_iload_n hx hb dX12_findShort_55 rfl (lv_at hl 0 rfl) ?_
            refine lv_iconst (v := 2) hx hb dX12_findShort_56 (by decide) (ti_c 2 (by decide) fun z26 hz26 => ?_)
            refine lv_iadd hx hb dX12_findShort_57 (tc_add fun z27 hz27 => ?_)
            first | replace hz27 := hz27 (by omega) | clear hz27
            refine lv_iconst (v := 0) hx hb dX12_findShort_58 (by decide) (ti_c 0 (by decide) fun z28 hz28 => ?_)
            refine r_callV (As := [.int x, .int z27, .int z28]) (rest := []) C hw (t_X12_shortByE l B D cA kd ig24 rg lg25 _ x z27 z28 (by omega) (by omega) (by omega) (by rw [show z27.toInt.toNat + 2 = (120 * x.toInt.toNat + (v2.toInt.toNat + 2)) + 2 by omega, Ft.i hF 55 _ (by decide), Ft.i hF 56 _ (by decide)]; exact rg4) σ π (hM.ft hF (by decide) (by omega)) (hU.ft hF (by decide)) hI.nu) sv_X12_320 (hsh 49 _ rfl) rfl hl.1 rfl (Nat.le_of_ble_eq_true rfl) ⟨Nat.le_of_ble_eq_true rfl, Nat.le_of_ble_eq_true rfl⟩ ⟨Nat.le_of_ble_eq_true rfl, Nat.le_of_ble_eq_true rfl⟩ dX12_findShort_59 (fun r33 kd29 ig30 rg31 lg32 H locs hw hH hp34 => ?_)
            obtain ⟨rfl, rfl, rfl, rfl, hzhp34, hrhp34⟩ := hp34
            obtain ⟨z35, rfl, hz35⟩ := hrhp34
            rw [show z27.toInt.toNat = 120 * x.toInt.toNat + (v2.toInt.toNat + 2) by omega, shDn.ag (fun c j hc => hF.i c j (by rcases hc with rfl | rfl | rfl <;> decide)), shRt.ag (fun c j hc => hF.i c j (by rcases hc with rfl | rfl | rfl <;> decide)), Ft.i hF 55 _ (by decide), Ft.i hF 56 _ (by decide)] at hz35
            have sr9 : (shR σ (famZ B ig) x.toInt (stp (fmO (σ x.toInt.toNat)) (l9 : Int)) ∧ z35.toInt = lstP (stp (fmO (σ x.toInt.toNat)) (l9 : Int)) x.toInt + 1) ∨ (¬ shR σ (famZ B ig) x.toInt (stp (fmO (σ x.toInt.toNat)) (l9 : Int)) ∧ z35.toInt = -1) := (by rcases hz35.2 (by omega) with ⟨q8, q9⟩ | ⟨q8, q9⟩; (exact Or.inl ⟨Iff.mpr iR q8, by unfold lstP; omega⟩); (exact Or.inr ⟨fun w9 => q8 (Iff.mp iR w9), q9⟩))
            refine lv_istore (lv' := [(5, .int z35), (3, .int z9), (2, .int v2), (0, .ref (B + 49)), (1, .int x)]) hx hb dX12_findShort_62 hl (by decide) rfl (fun ls hl => ?_)
            refine lv_iload hx hb dX12_findShort_64 (lv_at hl 0 rfl) ?_
            refine z_lt (tgt := 77) hx hb dX12_findShort_66 (by decide) (fun c66 => ?_) (fun c66 => ?_)
            · refine tc_inc hx hb dX12_findShort_77 hl (k := 2) rfl (by decide) (by decide) (fun z36 hz36 ls hl => ?_)
              first | replace hz36 := hz36 (by omega) | clear hz36
              have hl : lv_has ls 6 [(2, .int z36), (5, .int z35), (3, .int z9), (0, .ref (B + 49)), (1, .int x)] := hl
              refine lv_goto (tgt := 2) hx hb dX12_findShort_80 (by decide) ?_
              exact ih2 ls H locs ig24 lg25 z36 (lv_sub hl [0, 3, 4] rfl) hw hI hF (by omega) (by omega) ((by obtain ⟨r, or9, fdr, lr9⟩ := (show ∃ r : List Fng, Op1 (shR σ (famZ B ig) x.toInt (stp (fmO (σ x.toInt.toNat)) (l9 : Int))) (3, x.toInt, lstP (stp (fmO (σ x.toInt.toNat)) (l9 : Int)) x.toInt + 1) r ∧ FdM B (ff ++ l2 ++ b ++ r) ig24 ∧ r.length ≤ 1 from ⟨[], Op1.n (by rcases sr9 with ⟨q8, q9⟩ | ⟨q9, -⟩; (have q7 := shR.on q8; omega); exact q9), (by rw [List.append_nil]; exact fdb), by simp⟩); exact ⟨l2 ++ (b ++ r), (by rw [show z36.toInt.toNat = v2.toInt.toNat + 1 by omega, cs_t is9]; exact ⟨l2, b, r, l9, sh9, hsl, ob9, or9, rfl⟩), (by have q9 := fdr; rw [List.append_assoc, List.append_assoc] at q9; exact q9), (by rw [List.length_append, List.length_append]; omega)⟩)) (by omega) (by omega)
            · refine lv_aload_n hx hb dX12_findShort_69 rfl (lv_at hl 3 rfl) ?_
              refine lv_iconst (v := 3) hx hb dX12_findShort_70 (by decide) (ti_c 3 (by decide) fun z37 hz37 => ?_)
              refine lv_iload_n hx hb dX12_findShort_71 rfl (lv_at hl 4 rfl) ?_
              refine lv_iload hx hb dX12_findShort_72 (lv_at hl 0 rfl) ?_
              refine r_callV (As := [.int z37, .int x, .int z35]) (rest := []) C hw (t_X12_findsE l B D cA kd ig24 rg lg25 _ z37 x z35 _ fdb (by rw [List.length_append, List.length_append]; omega) hI) sv_X12_324 (hsh 49 _ rfl) rfl hl.1 rfl (Nat.le_of_ble_eq_true rfl) ⟨Nat.le_of_ble_eq_true rfl, Nat.le_of_ble_eq_true rfl⟩ ⟨Nat.le_of_ble_eq_true rfl, Nat.le_of_ble_eq_true rfl⟩ dX12_findShort_74 (fun r42 kd38 ig39 rg40 lg41 H locs hw hH hp43 => ?_)
              obtain ⟨rfl, rfl, hI, hchp43, hrhp43⟩ := hp43
              have hF : Ft B [49, 75, 79] ig lg ig39 lg41 := Ft.tr hF hchp43 (by decide) (by decide)
              obtain ⟨rfl, hvhp43⟩ := hrhp43
              have fdn := hvhp43.1
              have kpn := hvhp43.2
              refine tc_inc hx hb dX12_findShort_77 hl (k := 2) rfl (by decide) (by decide) (fun z44 hz44 ls hl => ?_)
              first | replace hz44 := hz44 (by omega) | clear hz44
              have hl : lv_has ls 6 [(2, .int z44), (5, .int z35), (3, .int z9), (0, .ref (B + 49)), (1, .int x)] := hl
              refine lv_goto (tgt := 2) hx hb dX12_findShort_80 (by decide) ?_
              exact ih2 ls H locs ig39 lg41 z44 (lv_sub hl [0, 3, 4] rfl) hw hI hF (by omega) (by omega) ((by obtain ⟨r, or9, fdr, lr9⟩ := (show ∃ r : List Fng, Op1 (shR σ (famZ B ig) x.toInt (stp (fmO (σ x.toInt.toNat)) (l9 : Int))) (3, x.toInt, lstP (stp (fmO (σ x.toInt.toNat)) (l9 : Int)) x.toInt + 1) r ∧ FdM B (ff ++ l2 ++ b ++ r) ig39 ∧ r.length ≤ 1 from ⟨_, Op1.y (by rcases sr9 with ⟨q9, -⟩ | ⟨-, q9⟩; exact q9; omega) (show (z37.toInt, x.toInt, z35.toInt) = (3, x.toInt, lstP (stp (fmO (σ x.toInt.toNat)) (l9 : Int)) x.toInt + 1) by rw [hz37]; exact (by rcases sr9 with ⟨-, q9⟩ | ⟨-, q9⟩; (rw [q9]); omega)), fdn, by simp⟩); exact ⟨l2 ++ (b ++ r), (by rw [show z44.toInt.toNat = v2.toInt.toNat + 1 by omega, cs_t is9]; exact ⟨l2, b, r, l9, sh9, hsl, ob9, or9, rfl⟩), (by have q9 := fdr; rw [List.append_assoc, List.append_assoc] at q9; exact q9), (by rw [List.length_append, List.length_append]; omega)⟩)) (by omega) (by omega)
          refine z_lt (tgt := 53) hx hb dX12_findShort_42 (by decide) (fun c42 => ?_) (fun c42 => ?_)
          · exact J53 ls H locs ig3 lg4 (lv_sub hl [1, 2, 3, 4] rfl) hw hI hF (⟨[], Op1.n (by rcases sd9 with ⟨q8, q9⟩ | ⟨q9, -⟩; (have q7 := shB.on q8; omega); exact q9), (by rw [List.append_nil]; exact fd9), by simp⟩) (by omega)
          · refine lv_aload_n hx hb dX12_findShort_45 rfl (lv_at hl 3 rfl) ?_
            refine lv_iconst (v := 3) hx hb dX12_findShort_46 (by decide) (ti_c 3 (by decide) fun z45 hz45 => ?_)
            refine lv_iload_n hx hb dX12_findShort_47 rfl (lv_at hl 4 rfl) ?_
            refine lv_iload hx hb dX12_findShort_48 (lv_at hl 0 rfl) ?_
            refine r_callV (As := [.int z45, .int x, .int z23]) (rest := []) C hw (t_X12_findsE l B D cA kd ig3 rg lg4 _ z45 x z23 _ fd9 (by rw [List.length_append]; omega) hI) sv_X12_324 (hsh 49 _ rfl) rfl hl.1 rfl (Nat.le_of_ble_eq_true rfl) ⟨Nat.le_of_ble_eq_true rfl, Nat.le_of_ble_eq_true rfl⟩ ⟨Nat.le_of_ble_eq_true rfl, Nat.le_of_ble_eq_true rfl⟩ dX12_findShort_50 (fun r50 kd46 ig47 rg48 lg49 H locs hw hH hp51 => ?_)
            obtain ⟨rfl, rfl, hI, hchp51, hrhp51⟩ := hp51
            have hF : Ft B [49, 75, 79] ig lg ig47 lg49 := Ft.tr hF hchp51 (by decide) (by decide)
            obtain ⟨rfl, hvhp51⟩ := hrhp51
            have fdn := hvhp51.1
            have kpn := hvhp51.2
            exact J53 ls H locs ig47 lg49 (lv_sub hl [1, 2, 3, 4] rfl) hw hI hF (⟨_, Op1.y (by rcases sd9 with ⟨q9, -⟩ | ⟨-, q9⟩; exact q9; omega) (show (z45.toInt, x.toInt, z23.toInt) = (3, x.toInt, lstP (stp (fmO (σ x.toInt.toNat)) (l9 : Int)) x.toInt + 12) by rw [hz45]; exact (by rcases sd9 with ⟨-, q9⟩ | ⟨-, q9⟩; (rw [q9]); omega)), fdn, by simp⟩) (by omega)
  exact L2 (((n9 : Int) - z1.toInt) + 1).toNat ls s.heap [] ig lg z1 (lv_sub hl [0, 1, 2] rfl) hw hI hF (by omega) (by omega) (⟨[], (by rw [show z1.toInt.toNat = 0 by omega, seg_nil, List.countP_nil]; rfl), (by rw [List.append_nil]; exact hF9), by simp; omega⟩) (by omega) (by omega)

set_option maxHeartbeats 4000000 in
set_option maxRecDepth 100000 in
theorem t_X12_checkE {υ : Option Int} {τ : Tp} {φ : Option Int} (l : Launch) (B : Nat) (D : va_G) (cA : Nat → ClassId) (kd : sK) (ig : sI) (rg : sR) (lg : sG) (sz : Nat) (σ : Sg) (π : Ps) (hM : SM B σ π ig) (hU : FXm B σ ig lg) (hW : WS σ π) (K : Nat → Prop) (hK : KpM B K ig) (hI : IM τ φ υ B kd ig rg) : MC l B D cA yX12_check cX12_check 3 (some .int) (rL 2 0 0) [.ref (B + 49)] kd ig rg lg sz (PM τ φ υ B [49, 75, 79] kd ig rg lg (fun r ig' lg' => ∃ z : Int32, r = some (.int z) ∧ ((∃ ff : List Fng, FdL σ (famZ B ig) (wyV B ig) (clM B ig) K 288 ff ∧ FdM B ff ig' ∧ z.toInt = (ff.length : Int)) ∧ (ig' (B + 49) 19).toInt = (ig (B + 49) 19).toInt))) := by
  refine MC.of (own := RX12) (by decide +kernel) rfl (Nat.le_of_ble_eq_true rfl) ?_
  intro p e s m args below meth c ls C hr hlk hnm hw hsz hl
  have hx := C.1.1
  have hb := C.1.2.1
  have hown := C.1.2.2.2.1
  have hts := C.1.2.2.2.2
  have hl : lv_has ls 3 [(0, .ref (B + 49))] := hl
  have hF : Ft B [49, 75, 79] ig lg ig lg := Ft.rf
  have hsh := hI.sh
  have hrm := hI.rm
  refine lv_aload_n hx hb dX12_check_0 rfl (lv_at hl 0 rfl) ?_
  refine lv_iconst (v := 0) hx hb dX12_check_1 (by decide) (ti_c 0 (by decide) fun z1 hz1 => ?_)
  refine r_puti C hw (hsh 49 _ rfl) fl_X12_1 rfl rfl rfl dX12_check_2 (fun H locs hH hw => ?_)
  obtain ⟨ig2, eig2⟩ : ∃ f, f = up2 ig (B + 49) 0 z1 := ⟨_, rfl⟩
  rw [← eig2] at hw
  have hF : Ft B [49, 75, 79] ig lg ig2 lg := by rw [eig2]; exact hF.pi (by decide)
  have hI : IM τ φ υ B kd ig2 rg := by rw [eig2]; exact hI.pi (by decide) (show okR none _ from trivial)
  have wig2_49_37 : (ig2 (B + 49) 37).toInt = (ig (B + 49) 37).toInt := by rw [eig2, up2_j (by decide)]
  have wig2_49_19 : (ig2 (B + 49) 19).toInt = (ig (B + 49) 19).toInt := by rw [eig2, up2_j (by decide)]
  refine lv_aload_n hx hb dX12_check_5 rfl (lv_at hl 0 rfl) ?_
  refine lv_iconst (v := 0) hx hb dX12_check_6 (by decide) (ti_c 0 (by decide) fun z3 hz3 => ?_)
  refine r_puti C hw (hsh 49 _ rfl) fl_X12_314 rfl rfl rfl dX12_check_7 (fun H locs hH hw => ?_)
  obtain ⟨ig4, eig4⟩ : ∃ f, f = up2 ig2 (B + 49) 37 z3 := ⟨_, rfl⟩
  rw [← eig4] at hw
  have hF : Ft B [49, 75, 79] ig lg ig4 lg := by rw [eig4]; exact hF.pi (by decide)
  have hI : IM τ φ υ B kd ig4 rg := by rw [eig4]; exact hI.pi (by decide) (show okR (some (0, 100000)) _ from ⟨by show (0 : Int) ≤ _; omega, by show _ ≤ (100000 : Int); omega⟩)
  have wig4 : (ig4 (B + 49) 37).toInt = z3.toInt := by rw [eig4, up2_eq]
  have wig4_49_19 : (ig4 (B + 49) 19).toInt = (ig2 (B + 49) 19).toInt := by rw [eig4, up2_j (by decide)]
  refine lv_iconst (v := 0) hx hb dX12_check_10 (by decide) (ti_c 0 (by decide) fun z5 hz5 => ?_)
  refine lv_istore_n (lv' := [(1, .int z5), (0, .ref (B + 49))]) hx hb dX12_check_11 rfl hl (by decide) rfl (fun ls hl => ?_)
  have L12 : ∀ (n : Nat) (ls : Array Slot) (H : Heap) (locs : List Loc) (ig7 : sI) (lg8 : sG) (v6 : Int32), lv_has ls 3 [(1, .int v6), (0, .ref (B + 49))] → WD B D cA s.heap kd ig7 rg lg8 H locs → IM τ φ υ B kd ig7 rg → Ft B [49, 75, 79] ig lg ig7 lg8 → (0 ≤ v6.toInt) → (v6.toInt ≤ 288) → (∃ ff : List Fng, FdL σ (famZ B ig) (wyV B ig) (clM B ig) K v6.toInt.toNat ff ∧ FdM B ff ig7 ∧ (ff.length : Int) ≤ 244 * v6.toInt) → ((ig7 (B + 49) 19).toInt = (ig (B + 49) 19).toInt) → 288 - v6.toInt < (n : Int) → W p l e (rL 2 0 0) s m args below meth c H locs 0 0 (MQ below (QcW B D cA (PM τ φ υ B [49, 75, 79] kd ig rg lg (fun r ig' lg' => ∃ z : Int32, r = some (.int z) ∧ ((∃ ff : List Fng, FdL σ (famZ B ig) (wyV B ig) (clM B ig) K 288 ff ∧ FdM B ff ig' ∧ z.toInt = (ff.length : Int)) ∧ (ig' (B + 49) 19).toInt = (ig (B + 49) 19).toInt)))) args s 0 0 (fun q => B ≤ q)) (F0 m 12 ls []) := by
    intro n12
    induction n12 with
    | zero => intro ls H locs ig7 lg8 v6 hl hw hI hF g12_0 g12_1 g12_2 g12_3 hmu; exact absurd hmu (by omega)
    | succ n12 ih12 =>
      intro ls H locs ig7 lg8 v6 hl hw hI hF g12_0 g12_1 g12_2 g12_3 hmu
      obtain ⟨ff, fl9, fd9, ln9⟩ := g12_2
      refine lv_iload_n hx hb dX12_check_12 rfl (lv_at hl 0 rfl) ?_
      refine lv_sipush (v := 288) hx hb dX12_check_13 (by decide) (ti_c 288 (by decide) fun z9 hz9 => ?_)
      refine b_ge (tgt := 149) hx hb dX12_check_16 (by decide) (fun c16 => ?_) (fun c16 => ?_)
      · refine lv_aload_n hx hb dX12_check_149 rfl (lv_at hl 1 rfl) ?_
        refine r_get C hw (hsh 49 _ rfl) fl_X12_314 (oV_i rfl) dX12_check_150 (ti_c (ig7 (B + 49) 37).toInt rfl fun z10 hz10 => ?_)
        have k11 : 0 ≤ (ig7 (B + 49) 37).toInt ∧ (ig7 (B + 49) 37).toInt ≤ 100000 := hI.i 49 37 (by decide) (by decide)
        exact r_iret C hw hr hlk rfl (Nat.le_of_ble_eq_true rfl) (Nat.le_of_ble_eq_true rfl) dX12_check_153 ⟨rfl, rfl, hI, hF, ⟨_, rfl, ⟨⟨ff, (by have q9 := fl9; rw [show v6.toInt.toNat = 288 by omega] at q9; exact q9), fd9, by rw [hz10]; exact fd9.1⟩, by omega⟩⟩⟩
      · refine lv_aload_n hx hb dX12_check_19 rfl (lv_at hl 1 rfl) ?_
        refine lv_iload_n hx hb dX12_check_20 rfl (lv_at hl 0 rfl) ?_
        refine r_callV (As := [.int v6]) (rest := []) C hw (t_X12_oddByE l B D cA kd ig7 rg lg8 _ v6 (by omega) σ π (hM.ft hF (by decide) (by omega)) (hU.1.1.ft hF (by decide)) hI.nu) sv_X12_327 (hsh 49 _ rfl) rfl hl.1 rfl (Nat.le_of_ble_eq_true rfl) ⟨Nat.le_of_ble_eq_true rfl, Nat.le_of_ble_eq_true rfl⟩ ⟨Nat.le_of_ble_eq_true rfl, Nat.le_of_ble_eq_true rfl⟩ dX12_check_21 (fun r16 kd12 ig13 rg14 lg15 H locs hw hH hp17 => ?_)
        obtain ⟨rfl, rfl, rfl, rfl, hzhp17, hrhp17⟩ := hp17
        obtain ⟨z18, rfl, hz18⟩ := hrhp17
        have od9 : OddR σ (famZ B ig) ((v6.toInt.toNat : Nat) : Int) z18.toInt := by rw [show ((v6.toInt.toNat : Nat) : Int) = v6.toInt by omega]; rw [show famZ B ig7 = famZ B ig from funext fun p => by unfold famZ; rw [hF.i 71 p (by decide)]] at hz18; exact hz18
        have ob9 : z18.toInt = -1 ∨ 0 ≤ z18.toInt := (by rcases od9 with ⟨-, q⟩ | ⟨-, ⟨q1, q⟩ | ⟨-, q1, q⟩ | ⟨-, -, q⟩⟩; omega; (have w := q1.2.1.1; omega); (have w := q1.1.1; omega); omega)
        refine lv_istore_n (lv' := [(2, .int z18), (1, .int v6), (0, .ref (B + 49))]) hx hb dX12_check_24 rfl hl (by decide) rfl (fun ls hl => ?_)
        refine lv_iload_n hx hb dX12_check_25 rfl (lv_at hl 0 rfl) ?_
        have J50 : ∀ (ls : Array Slot) (H : Heap) (locs : List Loc) (ig19 : sI) (lg20 : sG) , lv_has ls 3 [(1, .int v6), (0, .ref (B + 49))] → WD B D cA s.heap kd ig19 rg lg20 H locs → IM τ φ υ B kd ig19 rg → Ft B [49, 75, 79] ig lg ig19 lg20 → (∃ l1 : List Fng, Op1 (z18.toInt ≠ -1) (if kdO (σ v6.toInt.toNat) = 2 then 1 else 2, ((v6.toInt.toNat : Nat) : Int), z18.toInt) l1 ∧ FdM B (ff ++ l1) ig19 ∧ l1.length ≤ 1) → ((ig19 (B + 49) 19).toInt = (ig (B + 49) 19).toInt) → W p l e (rL 2 0 0) s m args below meth c H locs 0 0 (MQ below (QcW B D cA (PM τ φ υ B [49, 75, 79] kd ig rg lg (fun r ig' lg' => ∃ z : Int32, r = some (.int z) ∧ ((∃ ff : List Fng, FdL σ (famZ B ig) (wyV B ig) (clM B ig) K 288 ff ∧ FdM B ff ig' ∧ z.toInt = (ff.length : Int)) ∧ (ig' (B + 49) 19).toInt = (ig (B + 49) 19).toInt)))) args s 0 0 (fun q => B ≤ q)) (F0 m 50 ls []) := by
          intro ls H locs ig19 lg20 hl hw hI hF g50_0 g50_1
          obtain ⟨l1, o1, fd1, n1⟩ := g50_0
          refine lv_aload_n hx hb dX12_check_50 rfl (lv_at hl 1 rfl) ?_
          refine r_get C hw (hsh 49 _ rfl) fl_X12_80 (oV_r rfl (hrm (49, 15, 59) (by decide))) dX12_check_51 ?_
          refine lv_iload_n hx hb dX12_check_54 rfl (lv_at hl 0 rfl) ?_
          refine r_iald C hw (hsh 59 _ rfl) (by omega) (by omega) dX12_check_55 (ti_c (ig19 (B + 59) v6.toInt.toNat).toInt rfl fun z21 hz21 => ?_)
          rw [Ft.i hF 59 _ (by decide)] at hz21
          have kd2 : z21.toInt = kdO (σ v6.toInt.toNat) := by rw [hz21]; exact (hM.1 _ (by omega)).1.1
          refine lv_iconst (v := 2) hx hb dX12_check_56 (by decide) (ti_c 2 (by decide) fun z23 hz23 => ?_)
          have J65 : ∀ (ls : Array Slot) (H : Heap) (locs : List Loc) (ig24 : sI) (lg25 : sG) , lv_has ls 3 [(1, .int v6), (0, .ref (B + 49))] → WD B D cA s.heap kd ig24 rg lg25 H locs → IM τ φ υ B kd ig24 rg → Ft B [49, 75, 79] ig lg ig24 lg25 → (∃ l2 : List Fng, ((kdO (σ v6.toInt.toNat) = 2 ∧ shA σ (famZ B ig) ((v6.toInt.toNat : Nat) : Int) (fmO (σ v6.toInt.toNat)) l2) ∨ (kdO (σ v6.toInt.toNat) ≠ 2 ∧ l2 = [])) ∧ FdM B (ff ++ l1 ++ l2) ig24 ∧ l2.length ≤ 240) → ((ig24 (B + 49) 19).toInt = (ig (B + 49) 19).toInt) → W p l e (rL 2 0 0) s m args below meth c H locs 0 0 (MQ below (QcW B D cA (PM τ φ υ B [49, 75, 79] kd ig rg lg (fun r ig' lg' => ∃ z : Int32, r = some (.int z) ∧ ((∃ ff : List Fng, FdL σ (famZ B ig) (wyV B ig) (clM B ig) K 288 ff ∧ FdM B ff ig' ∧ z.toInt = (ff.length : Int)) ∧ (ig' (B + 49) 19).toInt = (ig (B + 49) 19).toInt)))) args s 0 0 (fun q => B ≤ q)) (F0 m 65 ls []) := by
            intro ls H locs ig24 lg25 hl hw hI hF g65_0 g65_1
            obtain ⟨l2, s2, fd2, n2⟩ := g65_0
            refine lv_aload_n hx hb dX12_check_65 rfl (lv_at hl 1 rfl) ?_
            refine r_get C hw (hsh 49 _ rfl) fl_X12_114 (oV_r rfl (hrm (49, 27, 70) (by decide))) dX12_check_66 ?_
            refine lv_iload_n hx hb dX12_check_69 rfl (lv_at hl 0 rfl) ?_
            refine r_zald C hw (hsh 70 _ rfl) (by omega) (by omega) dX12_check_70 (ti_c (ig24 (B + 70) v6.toInt.toNat).toInt rfl fun z26 hz26 => ?_)
            rw [Ft.i hF 70 _ (by decide)] at hz26
            have it9 : (z26.toInt = 1 ∧ isTot σ v6.toInt.toNat) ∨ (z26.toInt = 0 ∧ ¬ isTot σ v6.toInt.toNat) := by rw [hz26]; exact hU.2.1.1 _ (by omega)
            have J93 : ∀ (ls : Array Slot) (H : Heap) (locs : List Loc) (ig28 : sI) (lg29 : sG) , lv_has ls 3 [(1, .int v6), (0, .ref (B + 49))] → WD B D cA s.heap kd ig28 rg lg29 H locs → IM τ φ υ B kd ig28 rg → Ft B [49, 75, 79] ig lg ig28 lg29 → (∃ (t9 : Int) (l3 : List Fng), ((isTot σ v6.toInt.toNat ∧ LtR (wyV B ig) v6.toInt.toNat t9) ∨ (¬ isTot σ v6.toInt.toNat ∧ t9 = -1)) ∧ Op1 (t9 ≠ -1) (4, ((v6.toInt.toNat : Nat) : Int), t9) l3 ∧ FdM B (ff ++ l1 ++ l2 ++ l3) ig28 ∧ l3.length ≤ 1) → ((ig28 (B + 49) 19).toInt = (ig (B + 49) 19).toInt) → W p l e (rL 2 0 0) s m args below meth c H locs 0 0 (MQ below (QcW B D cA (PM τ φ υ B [49, 75, 79] kd ig rg lg (fun r ig' lg' => ∃ z : Int32, r = some (.int z) ∧ ((∃ ff : List Fng, FdL σ (famZ B ig) (wyV B ig) (clM B ig) K 288 ff ∧ FdM B ff ig' ∧ z.toInt = (ff.length : Int)) ∧ (ig' (B + 49) 19).toInt = (ig (B + 49) 19).toInt)))) args s 0 0 (fun q => B ≤ q)) (F0 m 93 ls []) := by
              intro ls H locs ig28 lg29 hl hw hI hF g93_0 g93_1
              obtain ⟨t9, l3, lt9, o3, fd3, n3⟩ := g93_0
              refine lv_aload_n hx hb dX12_check_93 rfl (lv_at hl 1 rfl) ?_
              refine r_get C hw (hsh 49 _ rfl) fl_X12_80 (oV_r rfl (hrm (49, 15, 59) (by decide))) dX12_check_94 ?_
              refine lv_iload_n hx hb dX12_check_97 rfl (lv_at hl 0 rfl) ?_
              refine r_iald C hw (hsh 59 _ rfl) (by omega) (by omega) dX12_check_98 (ti_c (ig28 (B + 59) v6.toInt.toNat).toInt rfl fun z30 hz30 => ?_)
              rw [Ft.i hF 59 _ (by decide)] at hz30
              have kd3 : z30.toInt = kdO (σ v6.toInt.toNat) := by rw [hz30]; exact (hM.1 _ (by omega)).1.1
              have J126 : ∀ (ls : Array Slot) (H : Heap) (locs : List Loc) (ig32 : sI) (lg33 : sG) , lv_has ls 3 [(1, .int v6), (0, .ref (B + 49))] → WD B D cA s.heap kd ig32 rg lg33 H locs → IM τ φ υ B kd ig32 rg → Ft B [49, 75, 79] ig lg ig32 lg33 → (∃ l4 : List Fng, Op1 (kdO (σ v6.toInt.toNat) ≠ 0 ∧ ¬ K v6.toInt.toNat ∧ ∀ q, ¬ Rd σ q v6.toInt.toNat) (5, ((v6.toInt.toNat : Nat) : Int), -1) l4 ∧ FdM B (ff ++ l1 ++ l2 ++ l3 ++ l4) ig32 ∧ l4.length ≤ 1) → ((ig32 (B + 49) 19).toInt = (ig (B + 49) 19).toInt) → W p l e (rL 2 0 0) s m args below meth c H locs 0 0 (MQ below (QcW B D cA (PM τ φ υ B [49, 75, 79] kd ig rg lg (fun r ig' lg' => ∃ z : Int32, r = some (.int z) ∧ ((∃ ff : List Fng, FdL σ (famZ B ig) (wyV B ig) (clM B ig) K 288 ff ∧ FdM B ff ig' ∧ z.toInt = (ff.length : Int)) ∧ (ig' (B + 49) 19).toInt = (ig (B + 49) 19).toInt)))) args s 0 0 (fun q => B ≤ q)) (F0 m 126 ls []) := by
                intro ls H locs ig32 lg33 hl hw hI hF g126_0 g126_1
                obtain ⟨l4, o4, fd4, n4⟩ := g126_0
                refine lv_aload_n hx hb dX12_check_126 rfl (lv_at hl 1 rfl) ?_
                refine r_get C hw (hsh 49 _ rfl) fl_X12_111 (oV_r rfl (hrm (49, 26, 69) (by decide))) dX12_check_127 ?_
                refine lv_iload_n hx hb dX12_check_130 rfl (lv_at hl 0 rfl) ?_
                refine r_zald C hw (hsh 69 _ rfl) (by omega) (by omega) dX12_check_131 (ti_c (ig32 (B + 69) v6.toInt.toNat).toInt rfl fun z34 hz34 => ?_)
                rw [Ft.i hF 69 _ (by decide)] at hz34
                have cl9 : clM B ig v6.toInt.toNat = true ↔ z34.toInt ≠ 0 := by show czB (ig (B + 69) v6.toInt.toNat) = true ↔ _; rw [czB_t, hz34]
                refine z_eq (tgt := 143) hx hb dX12_check_132 (by decide) (fun c132 => ?_) (fun c132 => ?_)
                · refine tc_inc hx hb dX12_check_143 hl (k := 0) rfl (by decide) (by decide) (fun z36 hz36 ls hl => ?_)
                  first | replace hz36 := hz36 (by omega) | clear hz36
                  have hl : lv_has ls 3 [(1, .int z36), (0, .ref (B + 49))] := hl
                  refine lv_goto (tgt := 12) hx hb dX12_check_146 (by decide) ?_
                  exact ih12 ls H locs ig32 lg33 z36 (lv_sub hl [0, 1] rfl) hw hI hF (by omega) (by omega) (⟨ff ++ (l1 ++ (l2 ++ (l3 ++ (l4 ++ ([] : List Fng))))), (by rw [show z36.toInt.toNat = v6.toInt.toNat + 1 by omega]; exact ⟨ff, l1 ++ (l2 ++ (l3 ++ (l4 ++ ([] : List Fng)))), fl9, ⟨z18.toInt, t9, l1, l2, l3, l4, ([] : List Fng), od9, o1, s2, lt9, o3, o4, (Op1.n (fun q9 => absurd (cl9.mp q9) (by omega))), rfl⟩, rfl⟩), (by have q9 := (show FdM B (ff ++ l1 ++ l2 ++ l3 ++ l4 ++ ([] : List Fng)) ig32 from (by rw [List.append_nil]; exact fd4)); simp only [List.append_assoc] at q9 ⊢; exact q9), (by simp only [List.length_append, List.length_cons, List.length_nil]; omega)⟩) (by omega) (by omega)
                · refine lv_aload_n hx hb dX12_check_135 rfl (lv_at hl 1 rfl) ?_
                  refine lv_bipush (v := 6) hx hb dX12_check_136 (by decide) (ti_c 6 (by decide) fun z37 hz37 => ?_)
                  refine lv_iload_n hx hb dX12_check_138 rfl (lv_at hl 0 rfl) ?_
                  refine lv_iconst (v := (-1)) hx hb dX12_check_139 (by decide) (ti_c (-1) (by decide) fun z38 hz38 => ?_)
                  refine r_callV (As := [.int z37, .int v6, .int z38]) (rest := []) C hw (t_X12_findsE l B D cA kd ig32 rg lg33 _ z37 v6 z38 _ fd4 (by rw [List.length_append, List.length_append, List.length_append, List.length_append]; omega) hI) sv_X12_324 (hsh 49 _ rfl) rfl hl.1 rfl (Nat.le_of_ble_eq_true rfl) ⟨Nat.le_of_ble_eq_true rfl, Nat.le_of_ble_eq_true rfl⟩ ⟨Nat.le_of_ble_eq_true rfl, Nat.le_of_ble_eq_true rfl⟩ dX12_check_140 (fun r43 kd39 ig40 rg41 lg42 H locs hw hH hp44 => ?_)
                  obtain ⟨rfl, rfl, hI, hchp44, hrhp44⟩ := hp44
                  have hF : Ft B [49, 75, 79] ig lg ig40 lg42 := Ft.tr hF hchp44 (by decide) (by decide)
                  obtain ⟨rfl, hvhp44⟩ := hrhp44
                  have fdn := hvhp44.1
                  have kpn := hvhp44.2
                  refine tc_inc hx hb dX12_check_143 hl (k := 0) rfl (by decide) (by decide) (fun z45 hz45 ls hl => ?_)
                  first | replace hz45 := hz45 (by omega) | clear hz45
                  have hl : lv_has ls 3 [(1, .int z45), (0, .ref (B + 49))] := hl
                  refine lv_goto (tgt := 12) hx hb dX12_check_146 (by decide) ?_
                  exact ih12 ls H locs ig40 lg42 z45 (lv_sub hl [0, 1] rfl) hw hI hF (by omega) (by omega) (⟨ff ++ (l1 ++ (l2 ++ (l3 ++ (l4 ++ [(z37.toInt, v6.toInt, z38.toInt)])))), (by rw [show z45.toInt.toNat = v6.toInt.toNat + 1 by omega]; exact ⟨ff, l1 ++ (l2 ++ (l3 ++ (l4 ++ [(z37.toInt, v6.toInt, z38.toInt)]))), fl9, ⟨z18.toInt, t9, l1, l2, l3, l4, [(z37.toInt, v6.toInt, z38.toInt)], od9, o1, s2, lt9, o3, o4, (Op1.y (cl9.mpr (by omega)) (show (z37.toInt, v6.toInt, z38.toInt) = (6, ((v6.toInt.toNat : Nat) : Int), -1) by rw [hz37, hz38, show ((v6.toInt.toNat : Nat) : Int) = v6.toInt by omega])), rfl⟩, rfl⟩), (by have q9 := (show FdM B (ff ++ l1 ++ l2 ++ l3 ++ l4 ++ [(z37.toInt, v6.toInt, z38.toInt)]) ig40 from fdn); simp only [List.append_assoc] at q9 ⊢; exact q9), (by simp only [List.length_append, List.length_cons, List.length_nil]; omega)⟩) (by omega) (by omega)
              refine z_eq (tgt := 126) hx hb dX12_check_99 (by decide) (fun c99 => ?_) (fun c99 => ?_)
              · exact J126 ls H locs ig28 lg29 (lv_sub hl [0, 1] rfl) hw hI hF (⟨[], Op1.n (fun q9 => q9.1 (by omega)), (by rw [List.append_nil]; exact fd3), by simp⟩) (by omega)
              · refine lv_aload_n hx hb dX12_check_102 rfl (lv_at hl 1 rfl) ?_
                refine lv_iload_n hx hb dX12_check_103 rfl (lv_at hl 0 rfl) ?_
                refine r_callV (As := [.int v6]) (rest := []) C hw (t_X12_readersE l B D cA kd ig28 rg lg29 _ v6 (by omega) σ (hU.2.2.2.ag (fun k9 => hF.l 64 k9 (by decide))) hI) sv_X12_336 (hsh 49 _ rfl) rfl hl.1 rfl (Nat.le_of_ble_eq_true rfl) ⟨Nat.le_of_ble_eq_true rfl, Nat.le_of_ble_eq_true rfl⟩ ⟨Nat.le_of_ble_eq_true rfl, Nat.le_of_ble_eq_true rfl⟩ dX12_check_104 (fun r50 kd46 ig47 rg48 lg49 H locs hw hH hp51 => ?_)
                obtain ⟨rfl, rfl, rfl, rfl, hzhp51, hrhp51⟩ := hp51
                obtain ⟨z52, rfl, hz52⟩ := hrhp51
                have rd9 := hz52
                refine z_ne (tgt := 126) hx hb dX12_check_107 (by decide) (fun c107 => ?_) (fun c107 => ?_)
                · exact J126 ls H locs ig28 lg29 (lv_sub hl [0, 1] rfl) hw hI hF (⟨[], Op1.n (fun q9 => absurd (rd9.none.mpr (fun q8 _ => q9.2.2 q8)) (by omega)), (by rw [List.append_nil]; exact fd3), by simp⟩) (by omega)
                · refine lv_aload_n hx hb dX12_check_110 rfl (lv_at hl 1 rfl) ?_
                  refine r_get C hw (hsh 49 _ rfl) fl_X12_89 (oV_r rfl (hrm (49, 18, 62) (by decide))) dX12_check_111 ?_
                  refine lv_iload_n hx hb dX12_check_114 rfl (lv_at hl 0 rfl) ?_
                  refine r_zald C hw (hsh 62 _ rfl) (by omega) (by omega) dX12_check_115 (ti_c (ig28 (B + 62) v6.toInt.toNat).toInt rfl fun z53 hz53 => ?_)
                  rw [Ft.i hF 62 _ (by decide)] at hz53
                  have kp9 : (z53.toInt = 1 ∧ K v6.toInt.toNat) ∨ (z53.toInt = 0 ∧ ¬ K v6.toInt.toNat) := by rw [hz53]; exact hK _ (by omega)
                  refine z_ne (tgt := 126) hx hb dX12_check_116 (by decide) (fun c116 => ?_) (fun c116 => ?_)
                  · exact J126 ls H locs ig28 lg29 (lv_sub hl [0, 1] rfl) hw hI hF (⟨[], Op1.n (fun q9 => q9.2.1 (by1 kp9 (by omega))), (by rw [List.append_nil]; exact fd3), by simp⟩) (by omega)
                  · refine lv_aload_n hx hb dX12_check_119 rfl (lv_at hl 1 rfl) ?_
                    refine lv_iconst (v := 5) hx hb dX12_check_120 (by decide) (ti_c 5 (by decide) fun z55 hz55 => ?_)
                    refine lv_iload_n hx hb dX12_check_121 rfl (lv_at hl 0 rfl) ?_
                    refine lv_iconst (v := (-1)) hx hb dX12_check_122 (by decide) (ti_c (-1) (by decide) fun z56 hz56 => ?_)
                    refine r_callV (As := [.int z55, .int v6, .int z56]) (rest := []) C hw (t_X12_findsE l B D cA kd ig28 rg lg29 _ z55 v6 z56 _ fd3 (by rw [List.length_append, List.length_append, List.length_append]; omega) hI) sv_X12_324 (hsh 49 _ rfl) rfl hl.1 rfl (Nat.le_of_ble_eq_true rfl) ⟨Nat.le_of_ble_eq_true rfl, Nat.le_of_ble_eq_true rfl⟩ ⟨Nat.le_of_ble_eq_true rfl, Nat.le_of_ble_eq_true rfl⟩ dX12_check_123 (fun r61 kd57 ig58 rg59 lg60 H locs hw hH hp62 => ?_)
                    obtain ⟨rfl, rfl, hI, hchp62, hrhp62⟩ := hp62
                    have hF : Ft B [49, 75, 79] ig lg ig58 lg60 := Ft.tr hF hchp62 (by decide) (by decide)
                    obtain ⟨rfl, hvhp62⟩ := hrhp62
                    have fdn := hvhp62.1
                    have kpn := hvhp62.2
                    exact J126 ls H locs ig58 lg60 (lv_sub hl [0, 1] rfl) hw hI hF (⟨_, Op1.y ⟨by omega, by0 kp9 (by omega), fun q9 r9 => rd9.none.mp (by omega) q9 r9.1 r9⟩ (show (z55.toInt, v6.toInt, z56.toInt) = (5, ((v6.toInt.toNat : Nat) : Int), -1) by rw [hz55, hz56, show ((v6.toInt.toNat : Nat) : Int) = v6.toInt by omega]), fdn, by simp⟩) (by omega)
            refine z_eq (tgt := 93) hx hb dX12_check_71 (by decide) (fun c71 => ?_) (fun c71 => ?_)
            · exact J93 ls H locs ig24 lg25 (lv_sub hl [0, 1] rfl) hw hI hF (⟨-1, [], Or.inr ⟨by0 it9 (by omega), rfl⟩, Op1.n (fun q9 => q9 rfl), (by rw [List.append_nil]; exact fd2), by simp⟩) (by omega)
            · refine lv_aload_n hx hb dX12_check_74 rfl (lv_at hl 1 rfl) ?_
              refine lv_iload_n hx hb dX12_check_75 rfl (lv_at hl 0 rfl) ?_
              refine r_callV (As := [.int v6]) (rest := []) C hw (t_X12_leastTwiceE l B D cA kd ig24 rg lg25 _ v6 (by omega) hI) sv_X12_333 (hsh 49 _ rfl) rfl hl.1 rfl (Nat.le_of_ble_eq_true rfl) ⟨Nat.le_of_ble_eq_true rfl, Nat.le_of_ble_eq_true rfl⟩ ⟨Nat.le_of_ble_eq_true rfl, Nat.le_of_ble_eq_true rfl⟩ dX12_check_76 (fun r67 kd63 ig64 rg65 lg66 H locs hw hH hp68 => ?_)
              obtain ⟨rfl, rfl, rfl, rfl, hzhp68, hrhp68⟩ := hp68
              obtain ⟨z69, rfl, hz69⟩ := hrhp68
              have l1t : LtR (wyV B ig) v6.toInt.toNat z69.toInt := by rw [show wyV B ig24 = wyV B ig from funext fun p => funext fun r => by unfold wyV; rw [hF.i 72 _ (by decide)]] at hz69; exact hz69
              refine z_lt (tgt := 93) hx hb dX12_check_79 (by decide) (fun c79 => ?_) (fun c79 => ?_)
              · exact J93 ls H locs ig24 lg25 (lv_sub hl [0, 1] rfl) hw hI hF (⟨-1, [], Or.inl ⟨by1 it9 (by omega), (by have q9 := l1t; rw [show z69.toInt = -1 from (by rcases q9 with ⟨c9, _, q8, _⟩ | ⟨q8, _⟩; omega; exact q8)] at q9; exact q9)⟩, Op1.n (fun q9 => q9 rfl), (by rw [List.append_nil]; exact fd2), by simp⟩) (by omega)
              · refine lv_aload_n hx hb dX12_check_82 rfl (lv_at hl 1 rfl) ?_
                refine lv_iconst (v := 4) hx hb dX12_check_83 (by decide) (ti_c 4 (by decide) fun z70 hz70 => ?_)
                refine lv_iload_n hx hb dX12_check_84 rfl (lv_at hl 0 rfl) ?_
                refine lv_aload_n hx hb dX12_check_85 rfl (lv_at hl 1 rfl) ?_
                refine lv_iload_n hx hb dX12_check_86 rfl (lv_at hl 0 rfl) ?_
                refine r_callV (As := [.int v6]) (rest := [.int v6, .int z70, .ref (B + 49)]) C hw (t_X12_leastTwiceE l B D cA kd ig24 rg lg25 _ v6 (by omega) hI) sv_X12_333 (hsh 49 _ rfl) rfl hl.1 rfl (Nat.le_of_ble_eq_true rfl) ⟨Nat.le_of_ble_eq_true rfl, Nat.le_of_ble_eq_true rfl⟩ ⟨Nat.le_of_ble_eq_true rfl, Nat.le_of_ble_eq_true rfl⟩ dX12_check_87 (fun r75 kd71 ig72 rg73 lg74 H locs hw hH hp76 => ?_)
                obtain ⟨rfl, rfl, rfl, rfl, hzhp76, hrhp76⟩ := hp76
                obtain ⟨z77, rfl, hz77⟩ := hrhp76
                have l2t : LtR (wyV B ig) v6.toInt.toNat z77.toInt := by rw [show wyV B ig24 = wyV B ig from funext fun p => funext fun r => by unfold wyV; rw [hF.i 72 _ (by decide)]] at hz77; exact hz77
                refine r_callV (As := [.int z70, .int v6, .int z77]) (rest := []) C hw (t_X12_findsE l B D cA kd ig24 rg lg25 _ z70 v6 z77 _ fd2 (by rw [List.length_append, List.length_append]; omega) hI) sv_X12_324 (hsh 49 _ rfl) rfl hl.1 rfl (Nat.le_of_ble_eq_true rfl) ⟨Nat.le_of_ble_eq_true rfl, Nat.le_of_ble_eq_true rfl⟩ ⟨Nat.le_of_ble_eq_true rfl, Nat.le_of_ble_eq_true rfl⟩ dX12_check_90 (fun r82 kd78 ig79 rg80 lg81 H locs hw hH hp83 => ?_)
                obtain ⟨rfl, rfl, hI, hchp83, hrhp83⟩ := hp83
                have hF : Ft B [49, 75, 79] ig lg ig79 lg81 := Ft.tr hF hchp83 (by decide) (by decide)
                obtain ⟨rfl, hvhp83⟩ := hrhp83
                have fdn := hvhp83.1
                have kpn := hvhp83.2
                exact J93 ls H locs ig79 lg81 (lv_sub hl [0, 1] rfl) hw hI hF (⟨z77.toInt, _, Or.inl ⟨by1 it9 (by omega), l2t⟩, Op1.y (by have q9 := LtR.det (fun _ _ => rfl) l1t l2t; omega) (show (z70.toInt, v6.toInt, z77.toInt) = (4, ((v6.toInt.toNat : Nat) : Int), z77.toInt) by rw [hz70, show ((v6.toInt.toNat : Nat) : Int) = v6.toInt by omega]), fdn, by simp⟩) (by omega)
          refine b_ne (tgt := 65) hx hb dX12_check_57 (by decide) (fun c57 => ?_) (fun c57 => ?_)
          · exact J65 ls H locs ig19 lg20 (lv_sub hl [0, 1] rfl) hw hI hF (⟨[], Or.inr ⟨by omega, rfl⟩, (by rw [List.append_nil]; exact fd1), by simp⟩) (by omega)
          · refine lv_aload_n hx hb dX12_check_60 rfl (lv_at hl 1 rfl) ?_
            refine lv_iload_n hx hb dX12_check_61 rfl (lv_at hl 0 rfl) ?_
            have hF62 := hF
            refine r_callV (As := [.int v6]) (rest := []) C hw (t_X12_findShortE l B D cA kd ig19 rg lg20 _ v6 (by omega) (by rw [Ft.i hF 59 _ (by decide)]; rw [(hM.1 _ (by omega)).1.1]; omega) σ π (hM.ft hF (by decide) (by omega)) (hU.1.1.ft hF (by decide)) (by omega) _ fd1 (by rw [List.length_append]; omega) hI) sv_X12_330 (hsh 49 _ rfl) rfl hl.1 rfl (Nat.le_of_ble_eq_true rfl) ⟨Nat.le_of_ble_eq_true rfl, Nat.le_of_ble_eq_true rfl⟩ ⟨Nat.le_of_ble_eq_true rfl, Nat.le_of_ble_eq_true rfl⟩ dX12_check_62 (fun r88 kd84 ig85 rg86 lg87 H locs hw hH hp89 => ?_)
            obtain ⟨rfl, rfl, hI, hchp89, hrhp89⟩ := hp89
            have hF : Ft B [49, 75, 79] ig lg ig85 lg87 := Ft.tr hF hchp89 (by decide) (by decide)
            obtain ⟨rfl, hvhp89⟩ := hrhp89
            have fs9 := hvhp89.1
            have kpn := hvhp89.2
            exact J65 ls H locs ig85 lg87 (lv_sub hl [0, 1] rfl) hw hI hF ((by obtain ⟨q1, q2, q3, q4⟩ := fs9; exact ⟨q1, Or.inl ⟨by omega, (by rw [show ((v6.toInt.toNat : Nat) : Int) = v6.toInt by omega]; rw [show famZ B ig19 = famZ B ig from funext fun p => by unfold famZ; rw [hF62.i 71 p (by decide)]] at q2; exact q2)⟩, q3, q4⟩)) (by omega)
        refine z_lt (tgt := 50) hx hb dX12_check_26 (by decide) (fun c26 => ?_) (fun c26 => ?_)
        · exact J50 ls H locs ig7 lg8 (lv_sub hl [1, 2] rfl) hw hI hF (⟨[], Op1.n (fun q9 => q9 (by omega)), (by rw [List.append_nil]; exact fd9), by simp⟩) (by omega)
        · refine lv_aload_n hx hb dX12_check_29 rfl (lv_at hl 2 rfl) ?_
          refine lv_aload_n hx hb dX12_check_30 rfl (lv_at hl 2 rfl) ?_
          refine r_get C hw (hsh 49 _ rfl) fl_X12_80 (oV_r rfl (hrm (49, 15, 59) (by decide))) dX12_check_31 ?_
          refine lv_iload_n hx hb dX12_check_34 rfl (lv_at hl 1 rfl) ?_
          refine r_iald C hw (hsh 59 _ rfl) (by omega) (by omega) dX12_check_35 (ti_c (ig7 (B + 59) v6.toInt.toNat).toInt rfl fun z90 hz90 => ?_)
          rw [Ft.i hF 59 _ (by decide)] at hz90
          have kd1 : z90.toInt = kdO (σ v6.toInt.toNat) := by rw [hz90]; exact (hM.1 _ (by omega)).1.1
          refine lv_iconst (v := 2) hx hb dX12_check_36 (by decide) (ti_c 2 (by decide) fun z92 hz92 => ?_)
          refine b_ne (tgt := 44) hx hb dX12_check_37 (by decide) (fun c37 => ?_) (fun c37 => ?_)
          · refine lv_iconst (v := 2) hx hb dX12_check_44 (by decide) (ti_c 2 (by decide) fun z93 hz93 => ?_)
            refine lv_iload_n hx hb dX12_check_45 rfl (lv_at hl 1 rfl) ?_
            refine lv_iload_n hx hb dX12_check_46 rfl (lv_at hl 0 rfl) ?_
            have hk42 : z93.toInt = if kdO (σ v6.toInt.toNat) = 2 then 1 else 2 := by split <;> omega
            refine r_callV (As := [.int z93, .int v6, .int z18]) (rest := []) C hw (t_X12_findsE l B D cA kd ig7 rg lg8 _ z93 v6 z18 ff fd9 (by omega) hI) sv_X12_324 (hsh 49 _ rfl) rfl hl.1 rfl (Nat.le_of_ble_eq_true rfl) ⟨Nat.le_of_ble_eq_true rfl, Nat.le_of_ble_eq_true rfl⟩ ⟨Nat.le_of_ble_eq_true rfl, Nat.le_of_ble_eq_true rfl⟩ dX12_check_47 (fun r98 kd94 ig95 rg96 lg97 H locs hw hH hp99 => ?_)
            obtain ⟨rfl, rfl, hI, hchp99, hrhp99⟩ := hp99
            have hF : Ft B [49, 75, 79] ig lg ig95 lg97 := Ft.tr hF hchp99 (by decide) (by decide)
            obtain ⟨rfl, hvhp99⟩ := hrhp99
            have fdn := hvhp99.1
            have kpn := hvhp99.2
            exact J50 ls H locs ig95 lg97 (lv_sub hl [1, 2] rfl) hw hI hF (⟨_, Op1.y (by omega) (show (z93.toInt, v6.toInt, z18.toInt) = (if kdO (σ v6.toInt.toNat) = 2 then 1 else 2, ((v6.toInt.toNat : Nat) : Int), z18.toInt) by rw [hk42, show ((v6.toInt.toNat : Nat) : Int) = v6.toInt by omega]), fdn, by simp⟩) (by omega)
          · refine lv_iconst (v := 1) hx hb dX12_check_40 (by decide) (ti_c 1 (by decide) fun z100 hz100 => ?_)
            refine lv_goto (tgt := 45) hx hb dX12_check_41 (by decide) ?_
            refine lv_iload_n hx hb dX12_check_45 rfl (lv_at hl 1 rfl) ?_
            refine lv_iload_n hx hb dX12_check_46 rfl (lv_at hl 0 rfl) ?_
            have hk42 : z100.toInt = if kdO (σ v6.toInt.toNat) = 2 then 1 else 2 := by split <;> omega
            refine r_callV (As := [.int z100, .int v6, .int z18]) (rest := []) C hw (t_X12_findsE l B D cA kd ig7 rg lg8 _ z100 v6 z18 ff fd9 (by omega) hI) sv_X12_324 (hsh 49 _ rfl) rfl hl.1 rfl (Nat.le_of_ble_eq_true rfl) ⟨Nat.le_of_ble_eq_true rfl, Nat.le_of_ble_eq_true rfl⟩ ⟨Nat.le_of_ble_eq_true rfl, Nat.le_of_ble_eq_true rfl⟩ dX12_check_47 (fun r105 kd101 ig102 rg103 lg104 H locs hw hH hp106 => ?_)
            obtain ⟨rfl, rfl, hI, hchp106, hrhp106⟩ := hp106
            have hF : Ft B [49, 75, 79] ig lg ig102 lg104 := Ft.tr hF hchp106 (by decide) (by decide)
            obtain ⟨rfl, hvhp106⟩ := hrhp106
            have fdn := hvhp106.1
            have kpn := hvhp106.2
            exact J50 ls H locs ig102 lg104 (lv_sub hl [1, 2] rfl) hw hI hF (⟨_, Op1.y (by omega) (show (z100.toInt, v6.toInt, z18.toInt) = (if kdO (σ v6.toInt.toNat) = 2 then 1 else 2, ((v6.toInt.toNat : Nat) : Int), z18.toInt) by rw [hk42, show ((v6.toInt.toNat : Nat) : Int) = v6.toInt by omega]), fdn, by simp⟩) (by omega)
  exact L12 ((288 - z5.toInt) + 1).toNat ls H locs ig4 lg z5 (lv_sub hl [0, 1] rfl) hw hI hF (by omega) (by omega) (⟨[], (by rw [show z5.toInt.toNat = 0 by omega]; rfl), FdM.zero (by omega), by simp; omega⟩) (by omega) (by omega)

set_option maxHeartbeats 4000000 in
set_option maxRecDepth 100000 in
theorem t_X12_findingE {υ : Option Int} {τ : Tp} {φ : Option Int} (l : Launch) (B : Nat) (D : va_G) (cA : Nat → ClassId) (kd : sK) (ig : sI) (rg : sR) (lg : sG) (sz : Nat) (x : Int32) (y : Int32) (ff : List Fng) (hF9 : FdM B ff ig) (hI : IM τ φ υ B kd ig rg) : MC l B D cA yX12_finding cX12_finding 3 (some .int) (rL 0 0 0) [.ref (B + 49), .int x, .int y] kd ig rg lg sz (PM τ φ υ B [49] kd ig rg lg (fun r ig' lg' => ∃ z : Int32, r = some (.int z) ∧ (FgR ff x.toInt y.toInt z.toInt ∧ (ig' (B + 49) 19).toInt = (ig (B + 49) 19).toInt ∧ (ig' (B + 49) 37).toInt = (ig (B + 49) 37).toInt))) := by
  refine MC.of (own := RX12) (by decide +kernel) rfl (Nat.le_of_ble_eq_true rfl) ?_
  intro p e s m args below meth c ls C hr hlk hnm hw hsz hl
  have hx := C.1.1
  have hb := C.1.2.1
  have hown := C.1.2.2.2.1
  have hts := C.1.2.2.2.2
  have hl : lv_has ls 3 [(0, .ref (B + 49)), (1, .int x), (2, .int y)] := hl
  have hF : Ft B [49] ig lg ig lg := Ft.rf
  have hsh := hI.sh
  have hrm := hI.rm
  have hF1 := hF9.1
  refine lv_aload_n hx hb dX12_finding_0 rfl (lv_at hl 0 rfl) ?_
  refine lv_iconst (v := 0) hx hb dX12_finding_1 (by decide) (ti_c 0 (by decide) fun z1 hz1 => ?_)
  refine r_puti C hw (hsh 49 _ rfl) fl_X12_1 rfl rfl rfl dX12_finding_2 (fun H locs hH hw => ?_)
  obtain ⟨ig2, eig2⟩ : ∃ f, f = up2 ig (B + 49) 0 z1 := ⟨_, rfl⟩
  rw [← eig2] at hw
  have hF : Ft B [49] ig lg ig2 lg := by rw [eig2]; exact hF.pi (by decide)
  have hI : IM τ φ υ B kd ig2 rg := by rw [eig2]; exact hI.pi (by decide) (show okR none _ from trivial)
  have wig2_49_37 : (ig2 (B + 49) 37).toInt = (ig (B + 49) 37).toInt := by rw [eig2, up2_j (by decide)]
  have wig2_49_19 : (ig2 (B + 49) 19).toInt = (ig (B + 49) 19).toInt := by rw [eig2, up2_j (by decide)]
  refine lv_iload_n hx hb dX12_finding_5 rfl (lv_at hl 1 rfl) ?_
  refine z_lt (tgt := 33) hx hb dX12_finding_6 (by decide) (fun c6 => ?_) (fun c6 => ?_)
  · refine lv_iconst (v := (-1)) hx hb dX12_finding_33 (by decide) (ti_c (-1) (by decide) fun z3 hz3 => ?_)
    refine lv_goto (tgt := 47) hx hb dX12_finding_34 (by decide) ?_
    exact r_iret C hw hr hlk rfl (Nat.le_of_ble_eq_true rfl) (Nat.le_of_ble_eq_true rfl) dX12_finding_47 ⟨rfl, rfl, hI, hF, ⟨_, rfl, ⟨Or.inr ⟨by omega, by omega⟩, by omega, by omega⟩⟩⟩
  · refine lv_iload_n hx hb dX12_finding_9 rfl (lv_at hl 1 rfl) ?_
    refine lv_aload_n hx hb dX12_finding_10 rfl (lv_at hl 0 rfl) ?_
    refine r_get C hw (hsh 49 _ rfl) fl_X12_314 (oV_i rfl) dX12_finding_11 (ti_c (ig2 (B + 49) 37).toInt rfl fun z4 hz4 => ?_)
    have k5 : 0 ≤ (ig2 (B + 49) 37).toInt ∧ (ig2 (B + 49) 37).toInt ≤ 100000 := hI.i 49 37 (by decide) (by decide)
    refine b_ge (tgt := 33) hx hb dX12_finding_14 (by decide) (fun c14 => ?_) (fun c14 => ?_)
    · refine lv_iconst (v := (-1)) hx hb dX12_finding_33 (by decide) (ti_c (-1) (by decide) fun z6 hz6 => ?_)
      refine lv_goto (tgt := 47) hx hb dX12_finding_34 (by decide) ?_
      exact r_iret C hw hr hlk rfl (Nat.le_of_ble_eq_true rfl) (Nat.le_of_ble_eq_true rfl) dX12_finding_47 ⟨rfl, rfl, hI, hF, ⟨_, rfl, ⟨Or.inr ⟨by omega, by omega⟩, by omega, by omega⟩⟩⟩
    · refine lv_iload_n hx hb dX12_finding_17 rfl (lv_at hl 1 rfl) ?_
      refine lv_sipush (v := 300) hx hb dX12_finding_18 (by decide) (ti_c 300 (by decide) fun z7 hz7 => ?_)
      refine b_ge (tgt := 33) hx hb dX12_finding_21 (by decide) (fun c21 => ?_) (fun c21 => ?_)
      · refine lv_iconst (v := (-1)) hx hb dX12_finding_33 (by decide) (ti_c (-1) (by decide) fun z8 hz8 => ?_)
        refine lv_goto (tgt := 47) hx hb dX12_finding_34 (by decide) ?_
        exact r_iret C hw hr hlk rfl (Nat.le_of_ble_eq_true rfl) (Nat.le_of_ble_eq_true rfl) dX12_finding_47 ⟨rfl, rfl, hI, hF, ⟨_, rfl, ⟨Or.inr ⟨by omega, by omega⟩, by omega, by omega⟩⟩⟩
      · refine lv_iload_n hx hb dX12_finding_24 rfl (lv_at hl 2 rfl) ?_
        refine z_lt (tgt := 33) hx hb dX12_finding_25 (by decide) (fun c25 => ?_) (fun c25 => ?_)
        · refine lv_iconst (v := (-1)) hx hb dX12_finding_33 (by decide) (ti_c (-1) (by decide) fun z9 hz9 => ?_)
          refine lv_goto (tgt := 47) hx hb dX12_finding_34 (by decide) ?_
          exact r_iret C hw hr hlk rfl (Nat.le_of_ble_eq_true rfl) (Nat.le_of_ble_eq_true rfl) dX12_finding_47 ⟨rfl, rfl, hI, hF, ⟨_, rfl, ⟨Or.inr ⟨by omega, by omega⟩, by omega, by omega⟩⟩⟩
        · refine lv_iload_n hx hb dX12_finding_28 rfl (lv_at hl 2 rfl) ?_
          refine lv_iconst (v := 2) hx hb dX12_finding_29 (by decide) (ti_c 2 (by decide) fun z10 hz10 => ?_)
          refine b_le (tgt := 37) hx hb dX12_finding_30 (by decide) (fun c30 => ?_) (fun c30 => ?_)
          · refine lv_aload_n hx hb dX12_finding_37 rfl (lv_at hl 0 rfl) ?_
            refine r_get C hw (hsh 49 _ rfl) fl_X12_130 (oV_r rfl (hrm (49, 38, 75) (by decide))) dX12_finding_38 ?_
            refine lv_iconst (v := 3) hx hb dX12_finding_41 (by decide) (ti_c 3 (by decide) fun z11 hz11 => ?_)
            refine lv_iload_n hx hb dX12_finding_42 rfl (lv_at hl 1 rfl) ?_
            refine lv_imul hx hb dX12_finding_43 (tc_mulL 3 hz11 fun z12 hz12 => ?_)
            first | replace hz12 := hz12 (by omega) | clear hz12
            refine lv_iload_n hx hb dX12_finding_44 rfl (lv_at hl 2 rfl) ?_
            refine lv_iadd hx hb dX12_finding_45 (tc_add fun z13 hz13 => ?_)
            first | replace hz13 := hz13 (by omega) | clear hz13
            refine r_iald C hw (hsh 75 _ rfl) (by omega) (by omega) dX12_finding_46 (ti_c (ig2 (B + 75) z13.toInt.toNat).toInt rfl fun z14 hz14 => ?_)
            have li9 : x.toInt.toNat < ff.length := by omega
            have tl9 := hF9.2 x.toInt.toNat li9 (by omega)
            have tz9 : z14.toInt = (ig (B + 75) (3 * x.toInt.toNat + y.toInt.toNat)).toInt := by rw [hz14, hF.i 75 _ (by decide), show z13.toInt.toNat = 3 * x.toInt.toNat + y.toInt.toNat by omega]
            exact r_iret C hw hr hlk rfl (Nat.le_of_ble_eq_true rfl) (Nat.le_of_ble_eq_true rfl) dX12_finding_47 ⟨rfl, rfl, hI, hF, ⟨_, rfl, ⟨(Or.inl ⟨x.toInt.toNat, li9, by omega, by omega, (by rcases (show y.toInt = 0 ∨ y.toInt = 1 ∨ y.toInt = 2 by omega) with q9 | q9 | q9; (exact Or.inl ⟨q9, by rw [tz9, show 3 * x.toInt.toNat + y.toInt.toNat = 3 * x.toInt.toNat by omega]; exact tl9.1⟩); (exact Or.inr (Or.inl ⟨q9, by rw [tz9, show 3 * x.toInt.toNat + y.toInt.toNat = 3 * x.toInt.toNat + 1 by omega]; exact tl9.2.1⟩)); (exact Or.inr (Or.inr ⟨q9, by rw [tz9, show 3 * x.toInt.toNat + y.toInt.toNat = 3 * x.toInt.toNat + 2 by omega]; exact tl9.2.2⟩)))⟩), by omega, by omega⟩⟩⟩
          · refine lv_iconst (v := (-1)) hx hb dX12_finding_33 (by decide) (ti_c (-1) (by decide) fun z16 hz16 => ?_)
            refine lv_goto (tgt := 47) hx hb dX12_finding_34 (by decide) ?_
            exact r_iret C hw hr hlk rfl (Nat.le_of_ble_eq_true rfl) (Nat.le_of_ble_eq_true rfl) dX12_finding_47 ⟨rfl, rfl, hI, hF, ⟨_, rfl, ⟨Or.inr ⟨by omega, by omega⟩, by omega, by omega⟩⟩⟩

set_option maxHeartbeats 4000000 in
set_option maxRecDepth 100000 in
theorem t_X12_keepE {υ : Option Int} {τ : Tp} {φ : Option Int} (l : Launch) (B : Nat) (D : va_G) (cA : Nat → ClassId) (kd : sK) (ig : sI) (rg : sR) (lg : sG) (sz : Nat) (x : Int32) (y : Int32) (hy : y.toInt = 0 ∨ y.toInt = 1) (K : Nat → Prop) (hK : KpM B K ig) (hI : IM τ φ υ B kd ig rg) : MC l B D cA yX12_keep cX12_keep 3 (some .boolean) (rL 1 0 0) [.ref (B + 49), .int x, .int y] kd ig rg lg sz (PM τ φ υ B [49, 62] kd ig rg lg (fun r ig' lg' => ∃ z : Int32, r = some (.int z) ∧ (KpM B (kpU K x.toInt y.toInt) ig' ∧ (ig' (B + 49) 19).toInt = (ig (B + 49) 19).toInt ∧ (ig' (B + 49) 37).toInt = (ig (B + 49) 37).toInt))) := by
  refine MC.of (own := RX12) (by decide +kernel) rfl (Nat.le_of_ble_eq_true rfl) ?_
  intro p e s m args below meth c ls C hr hlk hnm hw hsz hl
  have hx := C.1.1
  have hb := C.1.2.1
  have hown := C.1.2.2.2.1
  have hts := C.1.2.2.2.2
  have hl : lv_has ls 3 [(0, .ref (B + 49)), (1, .int x), (2, .int y)] := hl
  have hF : Ft B [49, 62] ig lg ig lg := Ft.rf
  have hsh := hI.sh
  have hrm := hI.rm
  refine lv_aload_n hx hb dX12_keep_0 rfl (lv_at hl 0 rfl) ?_
  refine lv_iconst (v := 0) hx hb dX12_keep_1 (by decide) (ti_c 0 (by decide) fun z1 hz1 => ?_)
  refine r_puti C hw (hsh 49 _ rfl) fl_X12_1 rfl rfl rfl dX12_keep_2 (fun H locs hH hw => ?_)
  obtain ⟨ig2, eig2⟩ : ∃ f, f = up2 ig (B + 49) 0 z1 := ⟨_, rfl⟩
  rw [← eig2] at hw
  have hF : Ft B [49, 62] ig lg ig2 lg := by rw [eig2]; exact hF.pi (by decide)
  have hI : IM τ φ υ B kd ig2 rg := by rw [eig2]; exact hI.pi (by decide) (show okR none _ from trivial)
  have wig2_49_37 : (ig2 (B + 49) 37).toInt = (ig (B + 49) 37).toInt := by rw [eig2, up2_j (by decide)]
  have wig2_49_19 : (ig2 (B + 49) 19).toInt = (ig (B + 49) 19).toInt := by rw [eig2, up2_j (by decide)]
  have hK := hK.ag (ig' := ig2) (fun p => by rw [eig2, up2_a (by omega)])
  refine lv_iload_n hx hb dX12_keep_5 rfl (lv_at hl 1 rfl) ?_
  refine r_callS (As := [.int x]) (rest := []) C hw (t_X12_isPlace l B D cA kd ig2 rg lg _ x  hI) ss_X12_198 rfl hl.1 rfl (Nat.le_of_ble_eq_true rfl) ⟨Nat.le_of_ble_eq_true rfl, Nat.le_of_ble_eq_true rfl⟩ ⟨Nat.le_of_ble_eq_true rfl, Nat.le_of_ble_eq_true rfl⟩ dX12_keep_6 (fun r7 kd3 ig4 rg5 lg6 H locs hw hH hp8 => ?_)
  obtain ⟨rfl, rfl, rfl, rfl, hzhp8, hrhp8⟩ := hp8
  obtain ⟨z9, rfl, hz9⟩ := hrhp8
  refine z_ne (tgt := 14) hx hb dX12_keep_9 (by decide) (fun c9 => ?_) (fun c9 => ?_)
  · refine lv_aload_n hx hb dX12_keep_14 rfl (lv_at hl 0 rfl) ?_
    refine r_get C hw (hsh 49 _ rfl) fl_X12_89 (oV_r rfl (hrm (49, 18, 62) (by decide))) dX12_keep_15 ?_
    refine lv_iload_n hx hb dX12_keep_18 rfl (lv_at hl 1 rfl) ?_
    refine lv_iload_n hx hb dX12_keep_19 rfl (lv_at hl 2 rfl) ?_
    refine r_zast C hw (hsh 62 _ rfl) (by omega) (by omega) (nar_b (by omega)) dX12_keep_20 (fun H locs hH hw => ?_)
    obtain ⟨ig10, eig10⟩ : ∃ f, f = up2 ig2 (B + 62) x.toInt.toNat y := ⟨_, rfl⟩
    rw [← eig10] at hw
    have hF : Ft B [49, 62] ig lg ig10 lg := by rw [eig10]; exact hF.pi (by decide)
    have hI : IM τ φ υ B kd ig10 rg := by rw [eig10]; exact hI.pi (by decide) (show okR none _ from trivial)
    have wig10_49_37 : (ig10 (B + 49) 37).toInt = (ig2 (B + 49) 37).toInt := by rw [eig10, up2_a (by omega)]
    have wig10_49_19 : (ig10 (B + 49) 19).toInt = (ig2 (B + 49) 19).toInt := by rw [eig10, up2_a (by omega)]
    have kp9 : KpM B (kpU K x.toInt y.toInt) ig10 := by rw [eig10]; exact KpM.set hK (by omega) (by omega)
    refine lv_iconst (v := 1) hx hb dX12_keep_21 (by decide) (ti_c 1 (by decide) fun z11 hz11 => ?_)
    exact r_iret C hw hr hlk (nar_b (by omega)) (Nat.le_of_ble_eq_true rfl) (Nat.le_of_ble_eq_true rfl) dX12_keep_22 ⟨rfl, rfl, hI, hF, ⟨_, rfl, ⟨kp9, by omega, by omega⟩⟩⟩
  · refine lv_iconst (v := 0) hx hb dX12_keep_12 (by decide) (ti_c 0 (by decide) fun z12 hz12 => ?_)
    exact r_iret C hw hr hlk (nar_b (by omega)) (Nat.le_of_ble_eq_true rfl) (Nat.le_of_ble_eq_true rfl) dX12_keep_13 ⟨rfl, rfl, hI, hF, ⟨_, rfl, ⟨KpM.off hK (by omega), by omega, by omega⟩⟩⟩

set_option maxHeartbeats 4000000 in
set_option maxRecDepth 100000 in
theorem t_X12_waysE {υ : Option Int} {τ : Tp} {φ : Option Int} (l : Launch) (B : Nat) (D : va_G) (cA : Nat → ClassId) (kd : sK) (ig : sI) (rg : sR) (lg : sG) (sz : Nat) (x : Int32) (y : Int32) (σ : Sg) (π : Ps) (hU : FXm B σ ig lg) (hW : WS σ π) (hI : IM τ φ υ B kd ig rg) : MC l B D cA yX12_ways cX12_ways 4 (some .int) (rL 1 0 0) [.ref (B + 49), .int x, .int y] kd ig rg lg sz (PM τ φ υ B [49] kd ig rg lg (fun r ig' lg' => ∃ z : Int32, r = some (.int z) ∧ (WyR σ x.toInt y.toInt z.toInt ∧ (ig' (B + 49) 19).toInt = (ig (B + 49) 19).toInt ∧ (ig' (B + 49) 37).toInt = (ig (B + 49) 37).toInt))) := by
  refine MC.of (own := RX12) (by decide +kernel) rfl (Nat.le_of_ble_eq_true rfl) ?_
  intro p e s m args below meth c ls C hr hlk hnm hw hsz hl
  have hx := C.1.1
  have hb := C.1.2.1
  have hown := C.1.2.2.2.1
  have hts := C.1.2.2.2.2
  have hl : lv_has ls 4 [(0, .ref (B + 49)), (1, .int x), (2, .int y)] := hl
  have hF : Ft B [49] ig lg ig lg := Ft.rf
  have hsh := hI.sh
  have hrm := hI.rm
  refine lv_aload_n hx hb dX12_ways_0 rfl (lv_at hl 0 rfl) ?_
  refine lv_iconst (v := 0) hx hb dX12_ways_1 (by decide) (ti_c 0 (by decide) fun z1 hz1 => ?_)
  refine r_puti C hw (hsh 49 _ rfl) fl_X12_1 rfl rfl rfl dX12_ways_2 (fun H locs hH hw => ?_)
  obtain ⟨ig2, eig2⟩ : ∃ f, f = up2 ig (B + 49) 0 z1 := ⟨_, rfl⟩
  rw [← eig2] at hw
  have hF : Ft B [49] ig lg ig2 lg := by rw [eig2]; exact hF.pi (by decide)
  have hI : IM τ φ υ B kd ig2 rg := by rw [eig2]; exact hI.pi (by decide) (show okR none _ from trivial)
  have wig2_49_37 : (ig2 (B + 49) 37).toInt = (ig (B + 49) 37).toInt := by rw [eig2, up2_j (by decide)]
  have wig2_49_19 : (ig2 (B + 49) 19).toInt = (ig (B + 49) 19).toInt := by rw [eig2, up2_j (by decide)]
  refine lv_iload_n hx hb dX12_ways_5 rfl (lv_at hl 1 rfl) ?_
  refine r_callS (As := [.int x]) (rest := []) C hw (t_X12_isPlace l B D cA kd ig2 rg lg _ x  hI) ss_X12_198 rfl hl.1 rfl (Nat.le_of_ble_eq_true rfl) ⟨Nat.le_of_ble_eq_true rfl, Nat.le_of_ble_eq_true rfl⟩ ⟨Nat.le_of_ble_eq_true rfl, Nat.le_of_ble_eq_true rfl⟩ dX12_ways_6 (fun r7 kd3 ig4 rg5 lg6 H locs hw hH hp8 => ?_)
  obtain ⟨rfl, rfl, rfl, rfl, hzhp8, hrhp8⟩ := hp8
  obtain ⟨z9, rfl, hz9⟩ := hrhp8
  refine z_eq (tgt := 28) hx hb dX12_ways_9 (by decide) (fun c9 => ?_) (fun c9 => ?_)
  · refine lv_iconst (v := (-1)) hx hb dX12_ways_28 (by decide) (ti_c (-1) (by decide) fun z10 hz10 => ?_)
    exact r_iret C hw hr hlk rfl (Nat.le_of_ble_eq_true rfl) (Nat.le_of_ble_eq_true rfl) dX12_ways_29 ⟨rfl, rfl, hI, hF, ⟨_, rfl, ⟨⟨fun q9 => by omega, fun q9 => absurd q9 (fun q8 => by have q7 := q8.1; have q6 := q8.2; unfold onS at q7 q6; omega)⟩, by omega, by omega⟩⟩⟩
  · refine lv_iload_n hx hb dX12_ways_12 rfl (lv_at hl 2 rfl) ?_
    refine r_callS (As := [.int y]) (rest := []) C hw (t_X12_isPlace l B D cA kd ig2 rg lg _ y  hI) ss_X12_198 rfl hl.1 rfl (Nat.le_of_ble_eq_true rfl) ⟨Nat.le_of_ble_eq_true rfl, Nat.le_of_ble_eq_true rfl⟩ ⟨Nat.le_of_ble_eq_true rfl, Nat.le_of_ble_eq_true rfl⟩ dX12_ways_13 (fun r15 kd11 ig12 rg13 lg14 H locs hw hH hp16 => ?_)
    obtain ⟨rfl, rfl, rfl, rfl, hzhp16, hrhp16⟩ := hp16
    obtain ⟨z17, rfl, hz17⟩ := hrhp16
    refine z_eq (tgt := 28) hx hb dX12_ways_16 (by decide) (fun c16 => ?_) (fun c16 => ?_)
    · refine lv_iconst (v := (-1)) hx hb dX12_ways_28 (by decide) (ti_c (-1) (by decide) fun z18 hz18 => ?_)
      exact r_iret C hw hr hlk rfl (Nat.le_of_ble_eq_true rfl) (Nat.le_of_ble_eq_true rfl) dX12_ways_29 ⟨rfl, rfl, hI, hF, ⟨_, rfl, ⟨⟨fun q9 => by omega, fun q9 => absurd q9 (fun q8 => by have q7 := q8.1; have q6 := q8.2; unfold onS at q7 q6; omega)⟩, by omega, by omega⟩⟩⟩
    · refine lv_aload_n hx hb dX12_ways_19 rfl (lv_at hl 0 rfl) ?_
      refine r_get C hw (hsh 49 _ rfl) fl_X12_114 (oV_r rfl (hrm (49, 27, 70) (by decide))) dX12_ways_20 ?_
      refine lv_iload_n hx hb dX12_ways_23 rfl (lv_at hl 2 rfl) ?_
      refine r_zald C hw (hsh 70 _ rfl) (by omega) (by omega) dX12_ways_24 (ti_c (ig2 (B + 70) y.toInt.toNat).toInt rfl fun z19 hz19 => ?_)
      rw [Ft.i hF 70 _ (by decide)] at hz19
      have it9 : (z19.toInt = 1 ∧ isTot σ y.toInt.toNat) ∨ (z19.toInt = 0 ∧ ¬ isTot σ y.toInt.toNat) := by rw [hz19]; exact hU.2.1.1 _ (by omega)
      refine z_ne (tgt := 30) hx hb dX12_ways_25 (by decide) (fun c25 => ?_) (fun c25 => ?_)
      · refine lv_aload_n hx hb dX12_ways_30 rfl (lv_at hl 0 rfl) ?_
        refine r_get C hw (hsh 49 _ rfl) fl_X12_121 (oV_r rfl (hrm (49, 29, 72) (by decide))) dX12_ways_31 ?_
        refine lv_sipush (v := 288) hx hb dX12_ways_34 (by decide) (ti_c 288 (by decide) fun z21 hz21 => ?_)
        refine lv_iload_n hx hb dX12_ways_37 rfl (lv_at hl 2 rfl) ?_
        refine lv_imul hx hb dX12_ways_38 (tc_mulL 288 hz21 fun z22 hz22 => ?_)
        first | replace hz22 := hz22 (by omega) | clear hz22
        refine lv_iload_n hx hb dX12_ways_39 rfl (lv_at hl 1 rfl) ?_
        refine lv_iadd hx hb dX12_ways_40 (tc_add fun z23 hz23 => ?_)
        first | replace hz23 := hz23 (by omega) | clear hz23
        refine r_iald C hw (hsh 72 _ rfl) (by omega) (by omega) dX12_ways_41 (ti_c (ig2 (B + 72) z23.toInt.toNat).toInt rfl fun z24 hz24 => ?_)
        rw [Ft.i hF 72 _ (by decide)] at hz24
        have wv9 : z24.toInt = wyV B ig y.toInt.toNat x.toInt.toNat := by rw [hz24, show z23.toInt.toNat = 288 * y.toInt.toNat + x.toInt.toNat by omega]; rfl
        refine lv_istore_n (lv' := [(3, .int z24), (0, .ref (B + 49)), (1, .int x), (2, .int y)]) hx hb dX12_ways_42 rfl hl (by decide) rfl (fun ls hl => ?_)
        refine lv_iload_n hx hb dX12_ways_43 rfl (lv_at hl 0 rfl) ?_
        refine lv_bipush (v := 9) hx hb dX12_ways_44 (by decide) (ti_c 9 (by decide) fun z26 hz26 => ?_)
        refine b_le (tgt := 54) hx hb dX12_ways_46 (by decide) (fun c46 => ?_) (fun c46 => ?_)
        · refine lv_iload_n hx hb dX12_ways_54 rfl (lv_at hl 0 rfl) ?_
          exact r_iret C hw hr hlk rfl (Nat.le_of_ble_eq_true rfl) (Nat.le_of_ble_eq_true rfl) dX12_ways_55 ⟨rfl, rfl, hI, hF, ⟨_, rfl, ⟨(hU.2.1.2.tell hW (show 0 ≤ x.toInt ∧ x.toInt < 288 from ⟨by omega, by omega⟩) (show 0 ≤ y.toInt ∧ y.toInt < 288 from ⟨by omega, by omega⟩) (by1 it9 (by omega)) (by unfold m9; split <;> omega)), by omega, by omega⟩⟩⟩
        · refine lv_bipush (v := 9) hx hb dX12_ways_49 (by decide) (ti_c 9 (by decide) fun z27 hz27 => ?_)
          refine lv_goto (tgt := 55) hx hb dX12_ways_51 (by decide) ?_
          exact r_iret C hw hr hlk rfl (Nat.le_of_ble_eq_true rfl) (Nat.le_of_ble_eq_true rfl) dX12_ways_55 ⟨rfl, rfl, hI, hF, ⟨_, rfl, ⟨(hU.2.1.2.tell hW (show 0 ≤ x.toInt ∧ x.toInt < 288 from ⟨by omega, by omega⟩) (show 0 ≤ y.toInt ∧ y.toInt < 288 from ⟨by omega, by omega⟩) (by1 it9 (by omega)) (by unfold m9; split <;> omega)), by omega, by omega⟩⟩⟩
      · refine lv_iconst (v := (-1)) hx hb dX12_ways_28 (by decide) (ti_c (-1) (by decide) fun z28 hz28 => ?_)
        exact r_iret C hw hr hlk rfl (Nat.le_of_ble_eq_true rfl) (Nat.le_of_ble_eq_true rfl) dX12_ways_29 ⟨rfl, rfl, hI, hF, ⟨_, rfl, ⟨⟨fun q9 => by omega, fun q9 => ⟨fun _ => by omega, fun q8 => absurd q8 (by0 it9 (by omega))⟩⟩, by omega, by omega⟩⟩⟩

set_option maxHeartbeats 4000000 in
set_option maxRecDepth 100000 in
theorem t_X12_cellE {υ : Option Int} {τ : Tp} {φ : Option Int} (l : Launch) (B : Nat) (D : va_G) (cA : Nat → ClassId) (kd : sK) (ig : sI) (rg : sR) (lg : sG) (sz : Nat) (x : Int32) (y : Int32) (σ : Sg) (π : Ps) (hM : SM B σ π ig) (hU : FXm B σ ig lg) (K : Nat → Prop) (hK : KpM B K ig) (hI : IM τ φ υ B kd ig rg) : MC l B D cA yX12_cell cX12_cell 3 (some .int) (rL 2 0 0) [.ref (B + 49), .int x, .int y] kd ig rg lg sz (PM τ φ υ B [49] kd ig rg lg (fun r ig' lg' => ∃ z : Int32, r = some (.int z) ∧ (((((0 ≤ x.toInt ∧ x.toInt < 288) ∧ 0 ≤ y.toInt ∧ y.toInt ≤ 10) ∧ (ig' (B + 49) 0).toInt = 0 ∧ CeR σ K x.toInt y.toInt z.toInt) ∨ (¬ ((0 ≤ x.toInt ∧ x.toInt < 288) ∧ 0 ≤ y.toInt ∧ y.toInt ≤ 10) ∧ (ig' (B + 49) 0).toInt = 1)) ∧ (ig' (B + 49) 19).toInt = (ig (B + 49) 19).toInt ∧ (ig' (B + 49) 37).toInt = (ig (B + 49) 37).toInt))) := by
  refine MC.of (own := RX12) (by decide +kernel) rfl (Nat.le_of_ble_eq_true rfl) ?_
  intro p e s m args below meth c ls C hr hlk hnm hw hsz hl
  have hx := C.1.1
  have hb := C.1.2.1
  have hown := C.1.2.2.2.1
  have hts := C.1.2.2.2.2
  have hl : lv_has ls 3 [(0, .ref (B + 49)), (1, .int x), (2, .int y)] := hl
  have hF : Ft B [49] ig lg ig lg := Ft.rf
  have hsh := hI.sh
  have hrm := hI.rm
  refine lv_aload_n hx hb dX12_cell_0 rfl (lv_at hl 0 rfl) ?_
  refine lv_iload_n hx hb dX12_cell_1 rfl (lv_at hl 1 rfl) ?_
  refine r_callS (As := [.int x]) (rest := [.ref (B + 49)]) C hw (t_X12_isPlace l B D cA kd ig rg lg _ x  hI) ss_X12_198 rfl hl.1 rfl (Nat.le_of_ble_eq_true rfl) ⟨Nat.le_of_ble_eq_true rfl, Nat.le_of_ble_eq_true rfl⟩ ⟨Nat.le_of_ble_eq_true rfl, Nat.le_of_ble_eq_true rfl⟩ dX12_cell_2 (fun r5 kd1 ig2 rg3 lg4 H locs hw hH hp6 => ?_)
  obtain ⟨rfl, rfl, rfl, rfl, hzhp6, hrhp6⟩ := hp6
  obtain ⟨z7, rfl, hz7⟩ := hrhp6
  refine z_eq (tgt := 22) hx hb dX12_cell_5 (by decide) (fun c5 => ?_) (fun c5 => ?_)
  · refine lv_iconst (v := 1) hx hb dX12_cell_22 (by decide) (ti_c 1 (by decide) fun z8 hz8 => ?_)
    refine r_puti C hw (hsh 49 _ rfl) fl_X12_1 rfl rfl rfl dX12_cell_23 (fun H locs hH hw => ?_)
    obtain ⟨ig9, eig9⟩ : ∃ f, f = up2 ig (B + 49) 0 z8 := ⟨_, rfl⟩
    rw [← eig9] at hw
    have hF : Ft B [49] ig lg ig9 lg := by rw [eig9]; exact hF.pi (by decide)
    have hI : IM τ φ υ B kd ig9 rg := by rw [eig9]; exact hI.pi (by decide) (show okR none _ from trivial)
    have wig9 : (ig9 (B + 49) 0).toInt = z8.toInt := by rw [eig9, up2_eq]
    have wig9_49_37 : (ig9 (B + 49) 37).toInt = (ig (B + 49) 37).toInt := by rw [eig9, up2_j (by decide)]
    have wig9_49_19 : (ig9 (B + 49) 19).toInt = (ig (B + 49) 19).toInt := by rw [eig9, up2_j (by decide)]
    refine lv_aload_n hx hb dX12_cell_26 rfl (lv_at hl 0 rfl) ?_
    refine r_get C hw (hsh 49 _ rfl) fl_X12_1 (oV_i rfl) dX12_cell_27 (ti_c (ig9 (B + 49) 0).toInt rfl fun z10 hz10 => ?_)
    refine z_le (tgt := 35) hx hb dX12_cell_30 (by decide) (fun c30 => ?_) (fun c30 => ?_)
    · refine lv_iload_n hx hb dX12_cell_35 rfl (lv_at hl 2 rfl) ?_
      by_cases s36_0 : y.toInt = 0
      · refine lv_tableIn hx hb dX12_cell_36 (by omega) (by omega) (off := 56) (by rw [s36_0]; rfl) (tgt := 92) (by decide) ?_
        refine lv_aload_n hx hb dX12_cell_92 rfl (lv_at hl 0 rfl) ?_
        refine r_get C hw (hsh 49 _ rfl) fl_X12_80 (oV_r rfl (hrm (49, 15, 59) (by decide))) dX12_cell_93 ?_
        refine lv_iload_n hx hb dX12_cell_96 rfl (lv_at hl 1 rfl) ?_
        refine r_iald C hw (hsh 59 _ rfl) (by omega) (by omega) dX12_cell_97 (ti_c (ig9 (B + 59) x.toInt.toNat).toInt rfl fun z11 hz11 => ?_)
        rw [Ft.i hF 59 _ (by decide)] at hz11
        exact r_iret C hw hr hlk rfl (Nat.le_of_ble_eq_true rfl) (Nat.le_of_ble_eq_true rfl) dX12_cell_98 ⟨rfl, rfl, hI, hF, ⟨_, rfl, ⟨Or.inl ⟨by omega, by omega, ⟨fun _ => (by rw [hz11]; exact (hM.1 _ (by omega)).1.1), fun w9 => absurd w9 (by omega), fun w9 => absurd w9 (by omega), fun w9 => absurd w9 (by omega), fun w9 => absurd w9 (by omega), fun w9 => absurd w9 (by omega), fun w9 => absurd w9 (by omega), fun w9 => absurd w9 (by omega), fun w9 => absurd w9 (by omega)⟩⟩, by omega, by omega⟩⟩⟩
      by_cases s36_1 : y.toInt = 1
      · refine lv_tableIn hx hb dX12_cell_36 (by omega) (by omega) (off := 63) (by rw [s36_1]; rfl) (tgt := 99) (by decide) ?_
        refine lv_aload_n hx hb dX12_cell_99 rfl (lv_at hl 0 rfl) ?_
        refine r_get C hw (hsh 49 _ rfl) fl_X12_102 (oV_r rfl (hrm (49, 23, 66) (by decide))) dX12_cell_100 ?_
        refine lv_iload_n hx hb dX12_cell_103 rfl (lv_at hl 1 rfl) ?_
        refine r_iald C hw (hsh 66 _ rfl) (by omega) (by omega) dX12_cell_104 (ti_c (ig9 (B + 66) x.toInt.toNat).toInt rfl fun z13 hz13 => ?_)
        rw [Ft.i hF 66 _ (by decide)] at hz13
        exact r_iret C hw hr hlk rfl (Nat.le_of_ble_eq_true rfl) (Nat.le_of_ble_eq_true rfl) dX12_cell_105 ⟨rfl, rfl, hI, hF, ⟨_, rfl, ⟨Or.inl ⟨by omega, by omega, ⟨fun w9 => absurd w9 (by omega), fun _ => ⟨_, _, hU.1.2, by rw [hz13]⟩, fun w9 => absurd w9 (by omega), fun w9 => absurd w9 (by omega), fun w9 => absurd w9 (by omega), fun w9 => absurd w9 (by omega), fun w9 => absurd w9 (by omega), fun w9 => absurd w9 (by omega), fun w9 => absurd w9 (by omega)⟩⟩, by omega, by omega⟩⟩⟩
      by_cases s36_2 : y.toInt = 2
      · refine lv_tableIn hx hb dX12_cell_36 (by omega) (by omega) (off := 70) (by rw [s36_2]; rfl) (tgt := 106) (by decide) ?_
        refine lv_aload_n hx hb dX12_cell_106 rfl (lv_at hl 0 rfl) ?_
        refine r_get C hw (hsh 49 _ rfl) fl_X12_105 (oV_r rfl (hrm (49, 24, 67) (by decide))) dX12_cell_107 ?_
        refine lv_iload_n hx hb dX12_cell_110 rfl (lv_at hl 1 rfl) ?_
        refine r_iald C hw (hsh 67 _ rfl) (by omega) (by omega) dX12_cell_111 (ti_c (ig9 (B + 67) x.toInt.toNat).toInt rfl fun z15 hz15 => ?_)
        rw [Ft.i hF 67 _ (by decide)] at hz15
        exact r_iret C hw hr hlk rfl (Nat.le_of_ble_eq_true rfl) (Nat.le_of_ble_eq_true rfl) dX12_cell_112 ⟨rfl, rfl, hI, hF, ⟨_, rfl, ⟨Or.inl ⟨by omega, by omega, ⟨fun w9 => absurd w9 (by omega), fun w9 => absurd w9 (by omega), fun _ => ⟨_, _, hU.1.2, by rw [hz15]⟩, fun w9 => absurd w9 (by omega), fun w9 => absurd w9 (by omega), fun w9 => absurd w9 (by omega), fun w9 => absurd w9 (by omega), fun w9 => absurd w9 (by omega), fun w9 => absurd w9 (by omega)⟩⟩, by omega, by omega⟩⟩⟩
      by_cases s36_3 : y.toInt = 3
      · refine lv_tableIn hx hb dX12_cell_36 (by omega) (by omega) (off := 77) (by rw [s36_3]; rfl) (tgt := 113) (by decide) ?_
        refine lv_aload_n hx hb dX12_cell_113 rfl (lv_at hl 0 rfl) ?_
        refine r_get C hw (hsh 49 _ rfl) fl_X12_117 (oV_r rfl (hrm (49, 28, 71) (by decide))) dX12_cell_114 ?_
        refine lv_iload_n hx hb dX12_cell_117 rfl (lv_at hl 1 rfl) ?_
        refine r_iald C hw (hsh 71 _ rfl) (by omega) (by omega) dX12_cell_118 (ti_c (ig9 (B + 71) x.toInt.toNat).toInt rfl fun z17 hz17 => ?_)
        rw [Ft.i hF 71 _ (by decide)] at hz17
        exact r_iret C hw hr hlk rfl (Nat.le_of_ble_eq_true rfl) (Nat.le_of_ble_eq_true rfl) dX12_cell_119 ⟨rfl, rfl, hI, hF, ⟨_, rfl, ⟨Or.inl ⟨by omega, by omega, ⟨fun w9 => absurd w9 (by omega), fun w9 => absurd w9 (by omega), fun w9 => absurd w9 (by omega), fun _ => (by rw [hz17]; exact hU.1.1 _ (by omega)), fun w9 => absurd w9 (by omega), fun w9 => absurd w9 (by omega), fun w9 => absurd w9 (by omega), fun w9 => absurd w9 (by omega), fun w9 => absurd w9 (by omega)⟩⟩, by omega, by omega⟩⟩⟩
      by_cases s36_4 : y.toInt = 4
      · refine lv_tableIn hx hb dX12_cell_36 (by omega) (by omega) (off := 84) (by rw [s36_4]; rfl) (tgt := 120) (by decide) ?_
        refine lv_aload_n hx hb dX12_cell_120 rfl (lv_at hl 0 rfl) ?_
        refine r_get C hw (hsh 49 _ rfl) fl_X12_108 (oV_r rfl (hrm (49, 25, 68) (by decide))) dX12_cell_121 ?_
        refine lv_iconst (v := 3) hx hb dX12_cell_124 (by decide) (ti_c 3 (by decide) fun z19 hz19 => ?_)
        refine lv_iload_n hx hb dX12_cell_125 rfl (lv_at hl 1 rfl) ?_
        refine lv_imul hx hb dX12_cell_126 (tc_mulL 3 hz19 fun z20 hz20 => ?_)
        first | replace hz20 := hz20 (by omega) | clear hz20
        refine lv_iload_n hx hb dX12_cell_127 rfl (lv_at hl 2 rfl) ?_
        refine lv_iadd hx hb dX12_cell_128 (tc_add fun z21 hz21 => ?_)
        first | replace hz21 := hz21 (by omega) | clear hz21
        refine lv_iconst (v := 4) hx hb dX12_cell_129 (by decide) (ti_c 4 (by decide) fun z22 hz22 => ?_)
        refine lv_isub hx hb dX12_cell_130 (tc_sub fun z23 hz23 => ?_)
        first | replace hz23 := hz23 (by omega) | clear hz23
        refine r_iald C hw (hsh 68 _ rfl) (by omega) (by omega) dX12_cell_131 (ti_c (ig9 (B + 68) z23.toInt.toNat).toInt rfl fun z24 hz24 => ?_)
        rw [Ft.i hF 68 _ (by decide)] at hz24
        exact r_iret C hw hr hlk rfl (Nat.le_of_ble_eq_true rfl) (Nat.le_of_ble_eq_true rfl) dX12_cell_132 ⟨rfl, rfl, hI, hF, ⟨_, rfl, ⟨Or.inl ⟨by omega, by omega, ⟨fun w9 => absurd w9 (by omega), fun w9 => absurd w9 (by omega), fun w9 => absurd w9 (by omega), fun w9 => absurd w9 (by omega), fun _ => ⟨_, _, hU.2.2.1, (by unfold uM; rw [hz24, ucp_3 (by omega), show z23.toInt.toNat = 3 * x.toInt.toNat + (y.toInt - 4).toNat by omega])⟩, fun w9 => absurd w9 (by omega), fun w9 => absurd w9 (by omega), fun w9 => absurd w9 (by omega), fun w9 => absurd w9 (by omega)⟩⟩, by omega, by omega⟩⟩⟩
      by_cases s36_5 : y.toInt = 5
      · refine lv_tableIn hx hb dX12_cell_36 (by omega) (by omega) (off := 84) (by rw [s36_5]; rfl) (tgt := 120) (by decide) ?_
        refine lv_aload_n hx hb dX12_cell_120 rfl (lv_at hl 0 rfl) ?_
        refine r_get C hw (hsh 49 _ rfl) fl_X12_108 (oV_r rfl (hrm (49, 25, 68) (by decide))) dX12_cell_121 ?_
        refine lv_iconst (v := 3) hx hb dX12_cell_124 (by decide) (ti_c 3 (by decide) fun z26 hz26 => ?_)
        refine lv_iload_n hx hb dX12_cell_125 rfl (lv_at hl 1 rfl) ?_
        refine lv_imul hx hb dX12_cell_126 (tc_mulL 3 hz26 fun z27 hz27 => ?_)
        first | replace hz27 := hz27 (by omega) | clear hz27
        refine lv_iload_n hx hb dX12_cell_127 rfl (lv_at hl 2 rfl) ?_
        refine lv_iadd hx hb dX12_cell_128 (tc_add fun z28 hz28 => ?_)
        first | replace hz28 := hz28 (by omega) | clear hz28
        refine lv_iconst (v := 4) hx hb dX12_cell_129 (by decide) (ti_c 4 (by decide) fun z29 hz29 => ?_)
        refine lv_isub hx hb dX12_cell_130 (tc_sub fun z30 hz30 => ?_)
        first | replace hz30 := hz30 (by omega) | clear hz30
        refine r_iald C hw (hsh 68 _ rfl) (by omega) (by omega) dX12_cell_131 (ti_c (ig9 (B + 68) z30.toInt.toNat).toInt rfl fun z31 hz31 => ?_)
        rw [Ft.i hF 68 _ (by decide)] at hz31
        exact r_iret C hw hr hlk rfl (Nat.le_of_ble_eq_true rfl) (Nat.le_of_ble_eq_true rfl) dX12_cell_132 ⟨rfl, rfl, hI, hF, ⟨_, rfl, ⟨Or.inl ⟨by omega, by omega, ⟨fun w9 => absurd w9 (by omega), fun w9 => absurd w9 (by omega), fun w9 => absurd w9 (by omega), fun w9 => absurd w9 (by omega), fun _ => ⟨_, _, hU.2.2.1, (by unfold uM; rw [hz31, ucp_3 (by omega), show z30.toInt.toNat = 3 * x.toInt.toNat + (y.toInt - 4).toNat by omega])⟩, fun w9 => absurd w9 (by omega), fun w9 => absurd w9 (by omega), fun w9 => absurd w9 (by omega), fun w9 => absurd w9 (by omega)⟩⟩, by omega, by omega⟩⟩⟩
      by_cases s36_6 : y.toInt = 6
      · refine lv_tableIn hx hb dX12_cell_36 (by omega) (by omega) (off := 84) (by rw [s36_6]; rfl) (tgt := 120) (by decide) ?_
        refine lv_aload_n hx hb dX12_cell_120 rfl (lv_at hl 0 rfl) ?_
        refine r_get C hw (hsh 49 _ rfl) fl_X12_108 (oV_r rfl (hrm (49, 25, 68) (by decide))) dX12_cell_121 ?_
        refine lv_iconst (v := 3) hx hb dX12_cell_124 (by decide) (ti_c 3 (by decide) fun z33 hz33 => ?_)
        refine lv_iload_n hx hb dX12_cell_125 rfl (lv_at hl 1 rfl) ?_
        refine lv_imul hx hb dX12_cell_126 (tc_mulL 3 hz33 fun z34 hz34 => ?_)
        first | replace hz34 := hz34 (by omega) | clear hz34
        refine lv_iload_n hx hb dX12_cell_127 rfl (lv_at hl 2 rfl) ?_
        refine lv_iadd hx hb dX12_cell_128 (tc_add fun z35 hz35 => ?_)
        first | replace hz35 := hz35 (by omega) | clear hz35
        refine lv_iconst (v := 4) hx hb dX12_cell_129 (by decide) (ti_c 4 (by decide) fun z36 hz36 => ?_)
        refine lv_isub hx hb dX12_cell_130 (tc_sub fun z37 hz37 => ?_)
        first | replace hz37 := hz37 (by omega) | clear hz37
        refine r_iald C hw (hsh 68 _ rfl) (by omega) (by omega) dX12_cell_131 (ti_c (ig9 (B + 68) z37.toInt.toNat).toInt rfl fun z38 hz38 => ?_)
        rw [Ft.i hF 68 _ (by decide)] at hz38
        exact r_iret C hw hr hlk rfl (Nat.le_of_ble_eq_true rfl) (Nat.le_of_ble_eq_true rfl) dX12_cell_132 ⟨rfl, rfl, hI, hF, ⟨_, rfl, ⟨Or.inl ⟨by omega, by omega, ⟨fun w9 => absurd w9 (by omega), fun w9 => absurd w9 (by omega), fun w9 => absurd w9 (by omega), fun w9 => absurd w9 (by omega), fun _ => ⟨_, _, hU.2.2.1, (by unfold uM; rw [hz38, ucp_3 (by omega), show z37.toInt.toNat = 3 * x.toInt.toNat + (y.toInt - 4).toNat by omega])⟩, fun w9 => absurd w9 (by omega), fun w9 => absurd w9 (by omega), fun w9 => absurd w9 (by omega), fun w9 => absurd w9 (by omega)⟩⟩, by omega, by omega⟩⟩⟩
      by_cases s36_7 : y.toInt = 7
      · refine lv_tableIn hx hb dX12_cell_36 (by omega) (by omega) (off := 97) (by rw [s36_7]; rfl) (tgt := 133) (by decide) ?_
        refine lv_aload_n hx hb dX12_cell_133 rfl (lv_at hl 0 rfl) ?_
        refine r_get C hw (hsh 49 _ rfl) fl_X12_114 (oV_r rfl (hrm (49, 27, 70) (by decide))) dX12_cell_134 ?_
        refine lv_iload_n hx hb dX12_cell_137 rfl (lv_at hl 1 rfl) ?_
        refine r_zald C hw (hsh 70 _ rfl) (by omega) (by omega) dX12_cell_138 (ti_c (ig9 (B + 70) x.toInt.toNat).toInt rfl fun z40 hz40 => ?_)
        rw [Ft.i hF 70 _ (by decide)] at hz40
        refine z_eq (tgt := 146) hx hb dX12_cell_139 (by decide) (fun c139 => ?_) (fun c139 => ?_)
        · refine lv_iconst (v := 0) hx hb dX12_cell_146 (by decide) (ti_c 0 (by decide) fun z42 hz42 => ?_)
          exact r_iret C hw hr hlk rfl (Nat.le_of_ble_eq_true rfl) (Nat.le_of_ble_eq_true rfl) dX12_cell_147 ⟨rfl, rfl, hI, hF, ⟨_, rfl, ⟨Or.inl ⟨by omega, by omega, ⟨fun w9 => absurd w9 (by omega), fun w9 => absurd w9 (by omega), fun w9 => absurd w9 (by omega), fun w9 => absurd w9 (by omega), fun w9 => absurd w9 (by omega), fun _ => (by have q9 := hU.2.1.1 x.toInt.toNat (by omega); rw [← hz40] at q9; rcases q9 with ⟨q8, q9⟩ | ⟨q8, q9⟩; (exfalso; omega); (exact Or.inr ⟨by omega, q9⟩)), fun w9 => absurd w9 (by omega), fun w9 => absurd w9 (by omega), fun w9 => absurd w9 (by omega)⟩⟩, by omega, by omega⟩⟩⟩
        · refine lv_iconst (v := 1) hx hb dX12_cell_142 (by decide) (ti_c 1 (by decide) fun z43 hz43 => ?_)
          refine lv_goto (tgt := 147) hx hb dX12_cell_143 (by decide) ?_
          exact r_iret C hw hr hlk rfl (Nat.le_of_ble_eq_true rfl) (Nat.le_of_ble_eq_true rfl) dX12_cell_147 ⟨rfl, rfl, hI, hF, ⟨_, rfl, ⟨Or.inl ⟨by omega, by omega, ⟨fun w9 => absurd w9 (by omega), fun w9 => absurd w9 (by omega), fun w9 => absurd w9 (by omega), fun w9 => absurd w9 (by omega), fun w9 => absurd w9 (by omega), fun _ => (by have q9 := hU.2.1.1 x.toInt.toNat (by omega); rw [← hz40] at q9; rcases q9 with ⟨q8, q9⟩ | ⟨q8, q9⟩; (exact Or.inl ⟨by omega, q9⟩); (exfalso; omega)), fun w9 => absurd w9 (by omega), fun w9 => absurd w9 (by omega), fun w9 => absurd w9 (by omega)⟩⟩, by omega, by omega⟩⟩⟩
      by_cases s36_8 : y.toInt = 8
      · refine lv_tableIn hx hb dX12_cell_36 (by omega) (by omega) (off := 112) (by rw [s36_8]; rfl) (tgt := 148) (by decide) ?_
        refine lv_aload_n hx hb dX12_cell_148 rfl (lv_at hl 0 rfl) ?_
        refine lv_iload_n hx hb dX12_cell_149 rfl (lv_at hl 1 rfl) ?_
        refine r_callV (As := [.int x]) (rest := []) C hw (t_X12_readManyE l B D cA kd ig9 rg lg _ x (by omega) σ (hU.2.2.2.ag (fun k9 => hF.l 64 k9 (by decide))) hI) sv_X12_351 (hsh 49 _ rfl) rfl hl.1 rfl (Nat.le_of_ble_eq_true rfl) ⟨Nat.le_of_ble_eq_true rfl, Nat.le_of_ble_eq_true rfl⟩ ⟨Nat.le_of_ble_eq_true rfl, Nat.le_of_ble_eq_true rfl⟩ dX12_cell_150 (fun r48 kd44 ig45 rg46 lg47 H locs hw hH hp49 => ?_)
        obtain ⟨rfl, rfl, rfl, rfl, hzhp49, hrhp49⟩ := hp49
        obtain ⟨z50, rfl, hz50⟩ := hrhp49
        exact r_iret C hw hr hlk rfl (Nat.le_of_ble_eq_true rfl) (Nat.le_of_ble_eq_true rfl) dX12_cell_153 ⟨rfl, rfl, hI, hF, ⟨_, rfl, ⟨Or.inl ⟨by omega, by omega, ⟨fun w9 => absurd w9 (by omega), fun w9 => absurd w9 (by omega), fun w9 => absurd w9 (by omega), fun w9 => absurd w9 (by omega), fun w9 => absurd w9 (by omega), fun w9 => absurd w9 (by omega), fun _ => hz50, fun w9 => absurd w9 (by omega), fun w9 => absurd w9 (by omega)⟩⟩, by omega, by omega⟩⟩⟩
      by_cases s36_9 : y.toInt = 9
      · refine lv_tableIn hx hb dX12_cell_36 (by omega) (by omega) (off := 118) (by rw [s36_9]; rfl) (tgt := 154) (by decide) ?_
        refine lv_aload_n hx hb dX12_cell_154 rfl (lv_at hl 0 rfl) ?_
        refine lv_iload_n hx hb dX12_cell_155 rfl (lv_at hl 1 rfl) ?_
        refine r_callV (As := [.int x]) (rest := []) C hw (t_X12_readersE l B D cA kd ig9 rg lg _ x (by omega) σ (hU.2.2.2.ag (fun k9 => hF.l 64 k9 (by decide))) hI) sv_X12_336 (hsh 49 _ rfl) rfl hl.1 rfl (Nat.le_of_ble_eq_true rfl) ⟨Nat.le_of_ble_eq_true rfl, Nat.le_of_ble_eq_true rfl⟩ ⟨Nat.le_of_ble_eq_true rfl, Nat.le_of_ble_eq_true rfl⟩ dX12_cell_156 (fun r55 kd51 ig52 rg53 lg54 H locs hw hH hp56 => ?_)
        obtain ⟨rfl, rfl, rfl, rfl, hzhp56, hrhp56⟩ := hp56
        obtain ⟨z57, rfl, hz57⟩ := hrhp56
        exact r_iret C hw hr hlk rfl (Nat.le_of_ble_eq_true rfl) (Nat.le_of_ble_eq_true rfl) dX12_cell_159 ⟨rfl, rfl, hI, hF, ⟨_, rfl, ⟨Or.inl ⟨by omega, by omega, ⟨fun w9 => absurd w9 (by omega), fun w9 => absurd w9 (by omega), fun w9 => absurd w9 (by omega), fun w9 => absurd w9 (by omega), fun w9 => absurd w9 (by omega), fun w9 => absurd w9 (by omega), fun w9 => absurd w9 (by omega), fun _ => hz57, fun w9 => absurd w9 (by omega)⟩⟩, by omega, by omega⟩⟩⟩
      refine lv_tableOut hx hb dX12_cell_36 (by omega) (tgt := 160) (by decide) ?_
      refine lv_aload_n hx hb dX12_cell_160 rfl (lv_at hl 0 rfl) ?_
      refine r_get C hw (hsh 49 _ rfl) fl_X12_89 (oV_r rfl (hrm (49, 18, 62) (by decide))) dX12_cell_161 ?_
      refine lv_iload_n hx hb dX12_cell_164 rfl (lv_at hl 1 rfl) ?_
      refine r_zald C hw (hsh 62 _ rfl) (by omega) (by omega) dX12_cell_165 (ti_c (ig9 (B + 62) x.toInt.toNat).toInt rfl fun z58 hz58 => ?_)
      rw [Ft.i hF 62 _ (by decide)] at hz58
      refine z_eq (tgt := 173) hx hb dX12_cell_166 (by decide) (fun c166 => ?_) (fun c166 => ?_)
      · refine lv_iconst (v := 0) hx hb dX12_cell_173 (by decide) (ti_c 0 (by decide) fun z60 hz60 => ?_)
        exact r_iret C hw hr hlk rfl (Nat.le_of_ble_eq_true rfl) (Nat.le_of_ble_eq_true rfl) dX12_cell_174 ⟨rfl, rfl, hI, hF, ⟨_, rfl, ⟨Or.inl ⟨by omega, by omega, ⟨fun w9 => absurd w9 (by omega), fun w9 => absurd w9 (by omega), fun w9 => absurd w9 (by omega), fun w9 => absurd w9 (by omega), fun w9 => absurd w9 (by omega), fun w9 => absurd w9 (by omega), fun w9 => absurd w9 (by omega), fun w9 => absurd w9 (by omega), fun _ => (by have q9 := hK x.toInt.toNat (by omega); rw [← hz58] at q9; rcases q9 with ⟨q8, q9⟩ | ⟨q8, q9⟩; (exfalso; omega); (exact Or.inr ⟨by omega, q9⟩))⟩⟩, by omega, by omega⟩⟩⟩
      · refine lv_iconst (v := 1) hx hb dX12_cell_169 (by decide) (ti_c 1 (by decide) fun z61 hz61 => ?_)
        refine lv_goto (tgt := 174) hx hb dX12_cell_170 (by decide) ?_
        exact r_iret C hw hr hlk rfl (Nat.le_of_ble_eq_true rfl) (Nat.le_of_ble_eq_true rfl) dX12_cell_174 ⟨rfl, rfl, hI, hF, ⟨_, rfl, ⟨Or.inl ⟨by omega, by omega, ⟨fun w9 => absurd w9 (by omega), fun w9 => absurd w9 (by omega), fun w9 => absurd w9 (by omega), fun w9 => absurd w9 (by omega), fun w9 => absurd w9 (by omega), fun w9 => absurd w9 (by omega), fun w9 => absurd w9 (by omega), fun w9 => absurd w9 (by omega), fun _ => (by have q9 := hK x.toInt.toNat (by omega); rw [← hz58] at q9; rcases q9 with ⟨q8, q9⟩ | ⟨q8, q9⟩; (exact Or.inl ⟨by omega, q9⟩); (exfalso; omega))⟩⟩, by omega, by omega⟩⟩⟩
    · refine lv_iconst (v := 0) hx hb dX12_cell_33 (by decide) (ti_c 0 (by decide) fun z62 hz62 => ?_)
      exact r_iret C hw hr hlk rfl (Nat.le_of_ble_eq_true rfl) (Nat.le_of_ble_eq_true rfl) dX12_cell_34 ⟨rfl, rfl, hI, hF, ⟨_, rfl, ⟨Or.inr ⟨by omega, by omega⟩, by omega, by omega⟩⟩⟩
  · refine lv_iload_n hx hb dX12_cell_8 rfl (lv_at hl 2 rfl) ?_
    refine z_lt (tgt := 22) hx hb dX12_cell_9 (by decide) (fun c9 => ?_) (fun c9 => ?_)
    · refine lv_iconst (v := 1) hx hb dX12_cell_22 (by decide) (ti_c 1 (by decide) fun z63 hz63 => ?_)
      refine r_puti C hw (hsh 49 _ rfl) fl_X12_1 rfl rfl rfl dX12_cell_23 (fun H locs hH hw => ?_)
      obtain ⟨ig64, eig64⟩ : ∃ f, f = up2 ig (B + 49) 0 z63 := ⟨_, rfl⟩
      rw [← eig64] at hw
      have hF : Ft B [49] ig lg ig64 lg := by rw [eig64]; exact hF.pi (by decide)
      have hI : IM τ φ υ B kd ig64 rg := by rw [eig64]; exact hI.pi (by decide) (show okR none _ from trivial)
      have wig64 : (ig64 (B + 49) 0).toInt = z63.toInt := by rw [eig64, up2_eq]
      have wig64_49_37 : (ig64 (B + 49) 37).toInt = (ig (B + 49) 37).toInt := by rw [eig64, up2_j (by decide)]
      have wig64_49_19 : (ig64 (B + 49) 19).toInt = (ig (B + 49) 19).toInt := by rw [eig64, up2_j (by decide)]
      refine lv_aload_n hx hb dX12_cell_26 rfl (lv_at hl 0 rfl) ?_
      refine r_get C hw (hsh 49 _ rfl) fl_X12_1 (oV_i rfl) dX12_cell_27 (ti_c (ig64 (B + 49) 0).toInt rfl fun z65 hz65 => ?_)
      refine z_le (tgt := 35) hx hb dX12_cell_30 (by decide) (fun c30 => ?_) (fun c30 => ?_)
      · refine lv_iload_n hx hb dX12_cell_35 rfl (lv_at hl 2 rfl) ?_
        by_cases s36_0 : y.toInt = 0
        · refine lv_tableIn hx hb dX12_cell_36 (by omega) (by omega) (off := 56) (by rw [s36_0]; rfl) (tgt := 92) (by decide) ?_
          refine lv_aload_n hx hb dX12_cell_92 rfl (lv_at hl 0 rfl) ?_
          refine r_get C hw (hsh 49 _ rfl) fl_X12_80 (oV_r rfl (hrm (49, 15, 59) (by decide))) dX12_cell_93 ?_
          refine lv_iload_n hx hb dX12_cell_96 rfl (lv_at hl 1 rfl) ?_
          refine r_iald C hw (hsh 59 _ rfl) (by omega) (by omega) dX12_cell_97 (ti_c (ig64 (B + 59) x.toInt.toNat).toInt rfl fun z66 hz66 => ?_)
          rw [Ft.i hF 59 _ (by decide)] at hz66
          exact r_iret C hw hr hlk rfl (Nat.le_of_ble_eq_true rfl) (Nat.le_of_ble_eq_true rfl) dX12_cell_98 ⟨rfl, rfl, hI, hF, ⟨_, rfl, ⟨Or.inl ⟨by omega, by omega, ⟨fun _ => (by rw [hz66]; exact (hM.1 _ (by omega)).1.1), fun w9 => absurd w9 (by omega), fun w9 => absurd w9 (by omega), fun w9 => absurd w9 (by omega), fun w9 => absurd w9 (by omega), fun w9 => absurd w9 (by omega), fun w9 => absurd w9 (by omega), fun w9 => absurd w9 (by omega), fun w9 => absurd w9 (by omega)⟩⟩, by omega, by omega⟩⟩⟩
        by_cases s36_1 : y.toInt = 1
        · refine lv_tableIn hx hb dX12_cell_36 (by omega) (by omega) (off := 63) (by rw [s36_1]; rfl) (tgt := 99) (by decide) ?_
          refine lv_aload_n hx hb dX12_cell_99 rfl (lv_at hl 0 rfl) ?_
          refine r_get C hw (hsh 49 _ rfl) fl_X12_102 (oV_r rfl (hrm (49, 23, 66) (by decide))) dX12_cell_100 ?_
          refine lv_iload_n hx hb dX12_cell_103 rfl (lv_at hl 1 rfl) ?_
          refine r_iald C hw (hsh 66 _ rfl) (by omega) (by omega) dX12_cell_104 (ti_c (ig64 (B + 66) x.toInt.toNat).toInt rfl fun z68 hz68 => ?_)
          rw [Ft.i hF 66 _ (by decide)] at hz68
          exact r_iret C hw hr hlk rfl (Nat.le_of_ble_eq_true rfl) (Nat.le_of_ble_eq_true rfl) dX12_cell_105 ⟨rfl, rfl, hI, hF, ⟨_, rfl, ⟨Or.inl ⟨by omega, by omega, ⟨fun w9 => absurd w9 (by omega), fun _ => ⟨_, _, hU.1.2, by rw [hz68]⟩, fun w9 => absurd w9 (by omega), fun w9 => absurd w9 (by omega), fun w9 => absurd w9 (by omega), fun w9 => absurd w9 (by omega), fun w9 => absurd w9 (by omega), fun w9 => absurd w9 (by omega), fun w9 => absurd w9 (by omega)⟩⟩, by omega, by omega⟩⟩⟩
        by_cases s36_2 : y.toInt = 2
        · refine lv_tableIn hx hb dX12_cell_36 (by omega) (by omega) (off := 70) (by rw [s36_2]; rfl) (tgt := 106) (by decide) ?_
          refine lv_aload_n hx hb dX12_cell_106 rfl (lv_at hl 0 rfl) ?_
          refine r_get C hw (hsh 49 _ rfl) fl_X12_105 (oV_r rfl (hrm (49, 24, 67) (by decide))) dX12_cell_107 ?_
          refine lv_iload_n hx hb dX12_cell_110 rfl (lv_at hl 1 rfl) ?_
          refine r_iald C hw (hsh 67 _ rfl) (by omega) (by omega) dX12_cell_111 (ti_c (ig64 (B + 67) x.toInt.toNat).toInt rfl fun z70 hz70 => ?_)
          rw [Ft.i hF 67 _ (by decide)] at hz70
          exact r_iret C hw hr hlk rfl (Nat.le_of_ble_eq_true rfl) (Nat.le_of_ble_eq_true rfl) dX12_cell_112 ⟨rfl, rfl, hI, hF, ⟨_, rfl, ⟨Or.inl ⟨by omega, by omega, ⟨fun w9 => absurd w9 (by omega), fun w9 => absurd w9 (by omega), fun _ => ⟨_, _, hU.1.2, by rw [hz70]⟩, fun w9 => absurd w9 (by omega), fun w9 => absurd w9 (by omega), fun w9 => absurd w9 (by omega), fun w9 => absurd w9 (by omega), fun w9 => absurd w9 (by omega), fun w9 => absurd w9 (by omega)⟩⟩, by omega, by omega⟩⟩⟩
        by_cases s36_3 : y.toInt = 3
        · refine lv_tableIn hx hb dX12_cell_36 (by omega) (by omega) (off := 77) (by rw [s36_3]; rfl) (tgt := 113) (by decide) ?_
          refine lv_aload_n hx hb dX12_cell_113 rfl (lv_at hl 0 rfl) ?_
          refine r_get C hw (hsh 49 _ rfl) fl_X12_117 (oV_r rfl (hrm (49, 28, 71) (by decide))) dX12_cell_114 ?_
          refine lv_iload_n hx hb dX12_cell_117 rfl (lv_at hl 1 rfl) ?_
          refine r_iald C hw (hsh 71 _ rfl) (by omega) (by omega) dX12_cell_118 (ti_c (ig64 (B + 71) x.toInt.toNat).toInt rfl fun z72 hz72 => ?_)
          rw [Ft.i hF 71 _ (by decide)] at hz72
          exact r_iret C hw hr hlk rfl (Nat.le_of_ble_eq_true rfl) (Nat.le_of_ble_eq_true rfl) dX12_cell_119 ⟨rfl, rfl, hI, hF, ⟨_, rfl, ⟨Or.inl ⟨by omega, by omega, ⟨fun w9 => absurd w9 (by omega), fun w9 => absurd w9 (by omega), fun w9 => absurd w9 (by omega), fun _ => (by rw [hz72]; exact hU.1.1 _ (by omega)), fun w9 => absurd w9 (by omega), fun w9 => absurd w9 (by omega), fun w9 => absurd w9 (by omega), fun w9 => absurd w9 (by omega), fun w9 => absurd w9 (by omega)⟩⟩, by omega, by omega⟩⟩⟩
        by_cases s36_4 : y.toInt = 4
        · refine lv_tableIn hx hb dX12_cell_36 (by omega) (by omega) (off := 84) (by rw [s36_4]; rfl) (tgt := 120) (by decide) ?_
          refine lv_aload_n hx hb dX12_cell_120 rfl (lv_at hl 0 rfl) ?_
          refine r_get C hw (hsh 49 _ rfl) fl_X12_108 (oV_r rfl (hrm (49, 25, 68) (by decide))) dX12_cell_121 ?_
          refine lv_iconst (v := 3) hx hb dX12_cell_124 (by decide) (ti_c 3 (by decide) fun z74 hz74 => ?_)
          refine lv_iload_n hx hb dX12_cell_125 rfl (lv_at hl 1 rfl) ?_
          refine lv_imul hx hb dX12_cell_126 (tc_mulL 3 hz74 fun z75 hz75 => ?_)
          first | replace hz75 := hz75 (by omega) | clear hz75
          refine lv_iload_n hx hb dX12_cell_127 rfl (lv_at hl 2 rfl) ?_
          refine lv_iadd hx hb dX12_cell_128 (tc_add fun z76 hz76 => ?_)
          first | replace hz76 := hz76 (by omega) | clear hz76
          refine lv_iconst (v := 4) hx hb dX12_cell_129 (by decide) (ti_c 4 (by decide) fun z77 hz77 => ?_)
          refine lv_isub hx hb dX12_cell_130 (tc_sub fun z78 hz78 => ?_)
          first | replace hz78 := hz78 (by omega) | clear hz78
          refine r_iald C hw (hsh 68 _ rfl) (by omega) (by omega) dX12_cell_131 (ti_c (ig64 (B + 68) z78.toInt.toNat).toInt rfl fun z79 hz79 => ?_)
          rw [Ft.i hF 68 _ (by decide)] at hz79
          exact r_iret C hw hr hlk rfl (Nat.le_of_ble_eq_true rfl) (Nat.le_of_ble_eq_true rfl) dX12_cell_132 ⟨rfl, rfl, hI, hF, ⟨_, rfl, ⟨Or.inl ⟨by omega, by omega, ⟨fun w9 => absurd w9 (by omega), fun w9 => absurd w9 (by omega), fun w9 => absurd w9 (by omega), fun w9 => absurd w9 (by omega), fun _ => ⟨_, _, hU.2.2.1, (by unfold uM; rw [hz79, ucp_3 (by omega), show z78.toInt.toNat = 3 * x.toInt.toNat + (y.toInt - 4).toNat by omega])⟩, fun w9 => absurd w9 (by omega), fun w9 => absurd w9 (by omega), fun w9 => absurd w9 (by omega), fun w9 => absurd w9 (by omega)⟩⟩, by omega, by omega⟩⟩⟩
        by_cases s36_5 : y.toInt = 5
        · refine lv_tableIn hx hb dX12_cell_36 (by omega) (by omega) (off := 84) (by rw [s36_5]; rfl) (tgt := 120) (by decide) ?_
          refine lv_aload_n hx hb dX12_cell_120 rfl (lv_at hl 0 rfl) ?_
          refine r_get C hw (hsh 49 _ rfl) fl_X12_108 (oV_r rfl (hrm (49, 25, 68) (by decide))) dX12_cell_121 ?_
          refine lv_iconst (v := 3) hx hb dX12_cell_124 (by decide) (ti_c 3 (by decide) fun z81 hz81 => ?_)
          refine lv_iload_n hx hb dX12_cell_125 rfl (lv_at hl 1 rfl) ?_
          refine lv_imul hx hb dX12_cell_126 (tc_mulL 3 hz81 fun z82 hz82 => ?_)
          first | replace hz82 := hz82 (by omega) | clear hz82
          refine lv_iload_n hx hb dX12_cell_127 rfl (lv_at hl 2 rfl) ?_
          refine lv_iadd hx hb dX12_cell_128 (tc_add fun z83 hz83 => ?_)
          first | replace hz83 := hz83 (by omega) | clear hz83
          refine lv_iconst (v := 4) hx hb dX12_cell_129 (by decide) (ti_c 4 (by decide) fun z84 hz84 => ?_)
          refine lv_isub hx hb dX12_cell_130 (tc_sub fun z85 hz85 => ?_)
          first | replace hz85 := hz85 (by omega) | clear hz85
          refine r_iald C hw (hsh 68 _ rfl) (by omega) (by omega) dX12_cell_131 (ti_c (ig64 (B + 68) z85.toInt.toNat).toInt rfl fun z86 hz86 => ?_)
          rw [Ft.i hF 68 _ (by decide)] at hz86
          exact r_iret C hw hr hlk rfl (Nat.le_of_ble_eq_true rfl) (Nat.le_of_ble_eq_true rfl) dX12_cell_132 ⟨rfl, rfl, hI, hF, ⟨_, rfl, ⟨Or.inl ⟨by omega, by omega, ⟨fun w9 => absurd w9 (by omega), fun w9 => absurd w9 (by omega), fun w9 => absurd w9 (by omega), fun w9 => absurd w9 (by omega), fun _ => ⟨_, _, hU.2.2.1, (by unfold uM; rw [hz86, ucp_3 (by omega), show z85.toInt.toNat = 3 * x.toInt.toNat + (y.toInt - 4).toNat by omega])⟩, fun w9 => absurd w9 (by omega), fun w9 => absurd w9 (by omega), fun w9 => absurd w9 (by omega), fun w9 => absurd w9 (by omega)⟩⟩, by omega, by omega⟩⟩⟩
        by_cases s36_6 : y.toInt = 6
        · refine lv_tableIn hx hb dX12_cell_36 (by omega) (by omega) (off := 84) (by rw [s36_6]; rfl) (tgt := 120) (by decide) ?_
          refine lv_aload_n hx hb dX12_cell_120 rfl (lv_at hl 0 rfl) ?_
          refine r_get C hw (hsh 49 _ rfl) fl_X12_108 (oV_r rfl (hrm (49, 25, 68) (by decide))) dX12_cell_121 ?_
          refine lv_iconst (v := 3) hx hb dX12_cell_124 (by decide) (ti_c 3 (by decide) fun z88 hz88 => ?_)
          refine lv_iload_n hx hb dX12_cell_125 rfl (lv_at hl 1 rfl) ?_
          refine lv_imul hx hb dX12_cell_126 (tc_mulL 3 hz88 fun z89 hz89 => ?_)
          first | replace hz89 := hz89 (by omega) | clear hz89
          refine lv_iload_n hx hb dX12_cell_127 rfl (lv_at hl 2 rfl) ?_
          refine lv_iadd hx hb dX12_cell_128 (tc_add fun z90 hz90 => ?_)
          first | replace hz90 := hz90 (by omega) | clear hz90
          refine lv_iconst (v := 4) hx hb dX12_cell_129 (by decide) (ti_c 4 (by decide) fun z91 hz91 => ?_)
          refine lv_isub hx hb dX12_cell_130 (tc_sub fun z92 hz92 => ?_)
          first | replace hz92 := hz92 (by omega) | clear hz92
          refine r_iald C hw (hsh 68 _ rfl) (by omega) (by omega) dX12_cell_131 (ti_c (ig64 (B + 68) z92.toInt.toNat).toInt rfl fun z93 hz93 => ?_)
          rw [Ft.i hF 68 _ (by decide)] at hz93
          exact r_iret C hw hr hlk rfl (Nat.le_of_ble_eq_true rfl) (Nat.le_of_ble_eq_true rfl) dX12_cell_132 ⟨rfl, rfl, hI, hF, ⟨_, rfl, ⟨Or.inl ⟨by omega, by omega, ⟨fun w9 => absurd w9 (by omega), fun w9 => absurd w9 (by omega), fun w9 => absurd w9 (by omega), fun w9 => absurd w9 (by omega), fun _ => ⟨_, _, hU.2.2.1, (by unfold uM; rw [hz93, ucp_3 (by omega), show z92.toInt.toNat = 3 * x.toInt.toNat + (y.toInt - 4).toNat by omega])⟩, fun w9 => absurd w9 (by omega), fun w9 => absurd w9 (by omega), fun w9 => absurd w9 (by omega), fun w9 => absurd w9 (by omega)⟩⟩, by omega, by omega⟩⟩⟩
        by_cases s36_7 : y.toInt = 7
        · refine lv_tableIn hx hb dX12_cell_36 (by omega) (by omega) (off := 97) (by rw [s36_7]; rfl) (tgt := 133) (by decide) ?_
          refine lv_aload_n hx hb dX12_cell_133 rfl (lv_at hl 0 rfl) ?_
          refine r_get C hw (hsh 49 _ rfl) fl_X12_114 (oV_r rfl (hrm (49, 27, 70) (by decide))) dX12_cell_134 ?_
          refine lv_iload_n hx hb dX12_cell_137 rfl (lv_at hl 1 rfl) ?_
          refine r_zald C hw (hsh 70 _ rfl) (by omega) (by omega) dX12_cell_138 (ti_c (ig64 (B + 70) x.toInt.toNat).toInt rfl fun z95 hz95 => ?_)
          rw [Ft.i hF 70 _ (by decide)] at hz95
          refine z_eq (tgt := 146) hx hb dX12_cell_139 (by decide) (fun c139 => ?_) (fun c139 => ?_)
          · refine lv_iconst (v := 0) hx hb dX12_cell_146 (by decide) (ti_c 0 (by decide) fun z97 hz97 => ?_)
            exact r_iret C hw hr hlk rfl (Nat.le_of_ble_eq_true rfl) (Nat.le_of_ble_eq_true rfl) dX12_cell_147 ⟨rfl, rfl, hI, hF, ⟨_, rfl, ⟨Or.inl ⟨by omega, by omega, ⟨fun w9 => absurd w9 (by omega), fun w9 => absurd w9 (by omega), fun w9 => absurd w9 (by omega), fun w9 => absurd w9 (by omega), fun w9 => absurd w9 (by omega), fun _ => (by have q9 := hU.2.1.1 x.toInt.toNat (by omega); rw [← hz95] at q9; rcases q9 with ⟨q8, q9⟩ | ⟨q8, q9⟩; (exfalso; omega); (exact Or.inr ⟨by omega, q9⟩)), fun w9 => absurd w9 (by omega), fun w9 => absurd w9 (by omega), fun w9 => absurd w9 (by omega)⟩⟩, by omega, by omega⟩⟩⟩
          · refine lv_iconst (v := 1) hx hb dX12_cell_142 (by decide) (ti_c 1 (by decide) fun z98 hz98 => ?_)
            refine lv_goto (tgt := 147) hx hb dX12_cell_143 (by decide) ?_
            exact r_iret C hw hr hlk rfl (Nat.le_of_ble_eq_true rfl) (Nat.le_of_ble_eq_true rfl) dX12_cell_147 ⟨rfl, rfl, hI, hF, ⟨_, rfl, ⟨Or.inl ⟨by omega, by omega, ⟨fun w9 => absurd w9 (by omega), fun w9 => absurd w9 (by omega), fun w9 => absurd w9 (by omega), fun w9 => absurd w9 (by omega), fun w9 => absurd w9 (by omega), fun _ => (by have q9 := hU.2.1.1 x.toInt.toNat (by omega); rw [← hz95] at q9; rcases q9 with ⟨q8, q9⟩ | ⟨q8, q9⟩; (exact Or.inl ⟨by omega, q9⟩); (exfalso; omega)), fun w9 => absurd w9 (by omega), fun w9 => absurd w9 (by omega), fun w9 => absurd w9 (by omega)⟩⟩, by omega, by omega⟩⟩⟩
        by_cases s36_8 : y.toInt = 8
        · refine lv_tableIn hx hb dX12_cell_36 (by omega) (by omega) (off := 112) (by rw [s36_8]; rfl) (tgt := 148) (by decide) ?_
          refine lv_aload_n hx hb dX12_cell_148 rfl (lv_at hl 0 rfl) ?_
          refine lv_iload_n hx hb dX12_cell_149 rfl (lv_at hl 1 rfl) ?_
          refine r_callV (As := [.int x]) (rest := []) C hw (t_X12_readManyE l B D cA kd ig64 rg lg _ x (by omega) σ (hU.2.2.2.ag (fun k9 => hF.l 64 k9 (by decide))) hI) sv_X12_351 (hsh 49 _ rfl) rfl hl.1 rfl (Nat.le_of_ble_eq_true rfl) ⟨Nat.le_of_ble_eq_true rfl, Nat.le_of_ble_eq_true rfl⟩ ⟨Nat.le_of_ble_eq_true rfl, Nat.le_of_ble_eq_true rfl⟩ dX12_cell_150 (fun r103 kd99 ig100 rg101 lg102 H locs hw hH hp104 => ?_)
          obtain ⟨rfl, rfl, rfl, rfl, hzhp104, hrhp104⟩ := hp104
          obtain ⟨z105, rfl, hz105⟩ := hrhp104
          exact r_iret C hw hr hlk rfl (Nat.le_of_ble_eq_true rfl) (Nat.le_of_ble_eq_true rfl) dX12_cell_153 ⟨rfl, rfl, hI, hF, ⟨_, rfl, ⟨Or.inl ⟨by omega, by omega, ⟨fun w9 => absurd w9 (by omega), fun w9 => absurd w9 (by omega), fun w9 => absurd w9 (by omega), fun w9 => absurd w9 (by omega), fun w9 => absurd w9 (by omega), fun w9 => absurd w9 (by omega), fun _ => hz105, fun w9 => absurd w9 (by omega), fun w9 => absurd w9 (by omega)⟩⟩, by omega, by omega⟩⟩⟩
        by_cases s36_9 : y.toInt = 9
        · refine lv_tableIn hx hb dX12_cell_36 (by omega) (by omega) (off := 118) (by rw [s36_9]; rfl) (tgt := 154) (by decide) ?_
          refine lv_aload_n hx hb dX12_cell_154 rfl (lv_at hl 0 rfl) ?_
          refine lv_iload_n hx hb dX12_cell_155 rfl (lv_at hl 1 rfl) ?_
          refine r_callV (As := [.int x]) (rest := []) C hw (t_X12_readersE l B D cA kd ig64 rg lg _ x (by omega) σ (hU.2.2.2.ag (fun k9 => hF.l 64 k9 (by decide))) hI) sv_X12_336 (hsh 49 _ rfl) rfl hl.1 rfl (Nat.le_of_ble_eq_true rfl) ⟨Nat.le_of_ble_eq_true rfl, Nat.le_of_ble_eq_true rfl⟩ ⟨Nat.le_of_ble_eq_true rfl, Nat.le_of_ble_eq_true rfl⟩ dX12_cell_156 (fun r110 kd106 ig107 rg108 lg109 H locs hw hH hp111 => ?_)
          obtain ⟨rfl, rfl, rfl, rfl, hzhp111, hrhp111⟩ := hp111
          obtain ⟨z112, rfl, hz112⟩ := hrhp111
          exact r_iret C hw hr hlk rfl (Nat.le_of_ble_eq_true rfl) (Nat.le_of_ble_eq_true rfl) dX12_cell_159 ⟨rfl, rfl, hI, hF, ⟨_, rfl, ⟨Or.inl ⟨by omega, by omega, ⟨fun w9 => absurd w9 (by omega), fun w9 => absurd w9 (by omega), fun w9 => absurd w9 (by omega), fun w9 => absurd w9 (by omega), fun w9 => absurd w9 (by omega), fun w9 => absurd w9 (by omega), fun w9 => absurd w9 (by omega), fun _ => hz112, fun w9 => absurd w9 (by omega)⟩⟩, by omega, by omega⟩⟩⟩
        refine lv_tableOut hx hb dX12_cell_36 (by omega) (tgt := 160) (by decide) ?_
        refine lv_aload_n hx hb dX12_cell_160 rfl (lv_at hl 0 rfl) ?_
        refine r_get C hw (hsh 49 _ rfl) fl_X12_89 (oV_r rfl (hrm (49, 18, 62) (by decide))) dX12_cell_161 ?_
        refine lv_iload_n hx hb dX12_cell_164 rfl (lv_at hl 1 rfl) ?_
        refine r_zald C hw (hsh 62 _ rfl) (by omega) (by omega) dX12_cell_165 (ti_c (ig64 (B + 62) x.toInt.toNat).toInt rfl fun z113 hz113 => ?_)
        rw [Ft.i hF 62 _ (by decide)] at hz113
        refine z_eq (tgt := 173) hx hb dX12_cell_166 (by decide) (fun c166 => ?_) (fun c166 => ?_)
        · refine lv_iconst (v := 0) hx hb dX12_cell_173 (by decide) (ti_c 0 (by decide) fun z115 hz115 => ?_)
          exact r_iret C hw hr hlk rfl (Nat.le_of_ble_eq_true rfl) (Nat.le_of_ble_eq_true rfl) dX12_cell_174 ⟨rfl, rfl, hI, hF, ⟨_, rfl, ⟨Or.inl ⟨by omega, by omega, ⟨fun w9 => absurd w9 (by omega), fun w9 => absurd w9 (by omega), fun w9 => absurd w9 (by omega), fun w9 => absurd w9 (by omega), fun w9 => absurd w9 (by omega), fun w9 => absurd w9 (by omega), fun w9 => absurd w9 (by omega), fun w9 => absurd w9 (by omega), fun _ => (by have q9 := hK x.toInt.toNat (by omega); rw [← hz113] at q9; rcases q9 with ⟨q8, q9⟩ | ⟨q8, q9⟩; (exfalso; omega); (exact Or.inr ⟨by omega, q9⟩))⟩⟩, by omega, by omega⟩⟩⟩
        · refine lv_iconst (v := 1) hx hb dX12_cell_169 (by decide) (ti_c 1 (by decide) fun z116 hz116 => ?_)
          refine lv_goto (tgt := 174) hx hb dX12_cell_170 (by decide) ?_
          exact r_iret C hw hr hlk rfl (Nat.le_of_ble_eq_true rfl) (Nat.le_of_ble_eq_true rfl) dX12_cell_174 ⟨rfl, rfl, hI, hF, ⟨_, rfl, ⟨Or.inl ⟨by omega, by omega, ⟨fun w9 => absurd w9 (by omega), fun w9 => absurd w9 (by omega), fun w9 => absurd w9 (by omega), fun w9 => absurd w9 (by omega), fun w9 => absurd w9 (by omega), fun w9 => absurd w9 (by omega), fun w9 => absurd w9 (by omega), fun w9 => absurd w9 (by omega), fun _ => (by have q9 := hK x.toInt.toNat (by omega); rw [← hz113] at q9; rcases q9 with ⟨q8, q9⟩ | ⟨q8, q9⟩; (exact Or.inl ⟨by omega, q9⟩); (exfalso; omega))⟩⟩, by omega, by omega⟩⟩⟩
      · refine lv_iconst (v := 0) hx hb dX12_cell_33 (by decide) (ti_c 0 (by decide) fun z117 hz117 => ?_)
        exact r_iret C hw hr hlk rfl (Nat.le_of_ble_eq_true rfl) (Nat.le_of_ble_eq_true rfl) dX12_cell_34 ⟨rfl, rfl, hI, hF, ⟨_, rfl, ⟨Or.inr ⟨by omega, by omega⟩, by omega, by omega⟩⟩⟩
    · refine lv_iload_n hx hb dX12_cell_12 rfl (lv_at hl 2 rfl) ?_
      refine lv_bipush (v := 10) hx hb dX12_cell_13 (by decide) (ti_c 10 (by decide) fun z118 hz118 => ?_)
      refine b_gt (tgt := 22) hx hb dX12_cell_15 (by decide) (fun c15 => ?_) (fun c15 => ?_)
      · refine lv_iconst (v := 1) hx hb dX12_cell_22 (by decide) (ti_c 1 (by decide) fun z119 hz119 => ?_)
        refine r_puti C hw (hsh 49 _ rfl) fl_X12_1 rfl rfl rfl dX12_cell_23 (fun H locs hH hw => ?_)
        obtain ⟨ig120, eig120⟩ : ∃ f, f = up2 ig (B + 49) 0 z119 := ⟨_, rfl⟩
        rw [← eig120] at hw
        have hF : Ft B [49] ig lg ig120 lg := by rw [eig120]; exact hF.pi (by decide)
        have hI : IM τ φ υ B kd ig120 rg := by rw [eig120]; exact hI.pi (by decide) (show okR none _ from trivial)
        have wig120 : (ig120 (B + 49) 0).toInt = z119.toInt := by rw [eig120, up2_eq]
        have wig120_49_37 : (ig120 (B + 49) 37).toInt = (ig (B + 49) 37).toInt := by rw [eig120, up2_j (by decide)]
        have wig120_49_19 : (ig120 (B + 49) 19).toInt = (ig (B + 49) 19).toInt := by rw [eig120, up2_j (by decide)]
        refine lv_aload_n hx hb dX12_cell_26 rfl (lv_at hl 0 rfl) ?_
        refine r_get C hw (hsh 49 _ rfl) fl_X12_1 (oV_i rfl) dX12_cell_27 (ti_c (ig120 (B + 49) 0).toInt rfl fun z121 hz121 => ?_)
        refine z_le (tgt := 35) hx hb dX12_cell_30 (by decide) (fun c30 => ?_) (fun c30 => ?_)
        · refine lv_iload_n hx hb dX12_cell_35 rfl (lv_at hl 2 rfl) ?_
          by_cases s36_0 : y.toInt = 0
          · refine lv_tableIn hx hb dX12_cell_36 (by omega) (by omega) (off := 56) (by rw [s36_0]; rfl) (tgt := 92) (by decide) ?_
            refine lv_aload_n hx hb dX12_cell_92 rfl (lv_at hl 0 rfl) ?_
            refine r_get C hw (hsh 49 _ rfl) fl_X12_80 (oV_r rfl (hrm (49, 15, 59) (by decide))) dX12_cell_93 ?_
            refine lv_iload_n hx hb dX12_cell_96 rfl (lv_at hl 1 rfl) ?_
            refine r_iald C hw (hsh 59 _ rfl) (by omega) (by omega) dX12_cell_97 (ti_c (ig120 (B + 59) x.toInt.toNat).toInt rfl fun z122 hz122 => ?_)
            rw [Ft.i hF 59 _ (by decide)] at hz122
            exact r_iret C hw hr hlk rfl (Nat.le_of_ble_eq_true rfl) (Nat.le_of_ble_eq_true rfl) dX12_cell_98 ⟨rfl, rfl, hI, hF, ⟨_, rfl, ⟨Or.inl ⟨by omega, by omega, ⟨fun _ => (by rw [hz122]; exact (hM.1 _ (by omega)).1.1), fun w9 => absurd w9 (by omega), fun w9 => absurd w9 (by omega), fun w9 => absurd w9 (by omega), fun w9 => absurd w9 (by omega), fun w9 => absurd w9 (by omega), fun w9 => absurd w9 (by omega), fun w9 => absurd w9 (by omega), fun w9 => absurd w9 (by omega)⟩⟩, by omega, by omega⟩⟩⟩
          by_cases s36_1 : y.toInt = 1
          · refine lv_tableIn hx hb dX12_cell_36 (by omega) (by omega) (off := 63) (by rw [s36_1]; rfl) (tgt := 99) (by decide) ?_
            refine lv_aload_n hx hb dX12_cell_99 rfl (lv_at hl 0 rfl) ?_
            refine r_get C hw (hsh 49 _ rfl) fl_X12_102 (oV_r rfl (hrm (49, 23, 66) (by decide))) dX12_cell_100 ?_
            refine lv_iload_n hx hb dX12_cell_103 rfl (lv_at hl 1 rfl) ?_
            refine r_iald C hw (hsh 66 _ rfl) (by omega) (by omega) dX12_cell_104 (ti_c (ig120 (B + 66) x.toInt.toNat).toInt rfl fun z124 hz124 => ?_)
            rw [Ft.i hF 66 _ (by decide)] at hz124
            exact r_iret C hw hr hlk rfl (Nat.le_of_ble_eq_true rfl) (Nat.le_of_ble_eq_true rfl) dX12_cell_105 ⟨rfl, rfl, hI, hF, ⟨_, rfl, ⟨Or.inl ⟨by omega, by omega, ⟨fun w9 => absurd w9 (by omega), fun _ => ⟨_, _, hU.1.2, by rw [hz124]⟩, fun w9 => absurd w9 (by omega), fun w9 => absurd w9 (by omega), fun w9 => absurd w9 (by omega), fun w9 => absurd w9 (by omega), fun w9 => absurd w9 (by omega), fun w9 => absurd w9 (by omega), fun w9 => absurd w9 (by omega)⟩⟩, by omega, by omega⟩⟩⟩
          by_cases s36_2 : y.toInt = 2
          · refine lv_tableIn hx hb dX12_cell_36 (by omega) (by omega) (off := 70) (by rw [s36_2]; rfl) (tgt := 106) (by decide) ?_
            refine lv_aload_n hx hb dX12_cell_106 rfl (lv_at hl 0 rfl) ?_
            refine r_get C hw (hsh 49 _ rfl) fl_X12_105 (oV_r rfl (hrm (49, 24, 67) (by decide))) dX12_cell_107 ?_
            refine lv_iload_n hx hb dX12_cell_110 rfl (lv_at hl 1 rfl) ?_
            refine r_iald C hw (hsh 67 _ rfl) (by omega) (by omega) dX12_cell_111 (ti_c (ig120 (B + 67) x.toInt.toNat).toInt rfl fun z126 hz126 => ?_)
            rw [Ft.i hF 67 _ (by decide)] at hz126
            exact r_iret C hw hr hlk rfl (Nat.le_of_ble_eq_true rfl) (Nat.le_of_ble_eq_true rfl) dX12_cell_112 ⟨rfl, rfl, hI, hF, ⟨_, rfl, ⟨Or.inl ⟨by omega, by omega, ⟨fun w9 => absurd w9 (by omega), fun w9 => absurd w9 (by omega), fun _ => ⟨_, _, hU.1.2, by rw [hz126]⟩, fun w9 => absurd w9 (by omega), fun w9 => absurd w9 (by omega), fun w9 => absurd w9 (by omega), fun w9 => absurd w9 (by omega), fun w9 => absurd w9 (by omega), fun w9 => absurd w9 (by omega)⟩⟩, by omega, by omega⟩⟩⟩
          by_cases s36_3 : y.toInt = 3
          · refine lv_tableIn hx hb dX12_cell_36 (by omega) (by omega) (off := 77) (by rw [s36_3]; rfl) (tgt := 113) (by decide) ?_
            refine lv_aload_n hx hb dX12_cell_113 rfl (lv_at hl 0 rfl) ?_
            refine r_get C hw (hsh 49 _ rfl) fl_X12_117 (oV_r rfl (hrm (49, 28, 71) (by decide))) dX12_cell_114 ?_
            refine lv_iload_n hx hb dX12_cell_117 rfl (lv_at hl 1 rfl) ?_
            refine r_iald C hw (hsh 71 _ rfl) (by omega) (by omega) dX12_cell_118 (ti_c (ig120 (B + 71) x.toInt.toNat).toInt rfl fun z128 hz128 => ?_)
            rw [Ft.i hF 71 _ (by decide)] at hz128
            exact r_iret C hw hr hlk rfl (Nat.le_of_ble_eq_true rfl) (Nat.le_of_ble_eq_true rfl) dX12_cell_119 ⟨rfl, rfl, hI, hF, ⟨_, rfl, ⟨Or.inl ⟨by omega, by omega, ⟨fun w9 => absurd w9 (by omega), fun w9 => absurd w9 (by omega), fun w9 => absurd w9 (by omega), fun _ => (by rw [hz128]; exact hU.1.1 _ (by omega)), fun w9 => absurd w9 (by omega), fun w9 => absurd w9 (by omega), fun w9 => absurd w9 (by omega), fun w9 => absurd w9 (by omega), fun w9 => absurd w9 (by omega)⟩⟩, by omega, by omega⟩⟩⟩
          by_cases s36_4 : y.toInt = 4
          · refine lv_tableIn hx hb dX12_cell_36 (by omega) (by omega) (off := 84) (by rw [s36_4]; rfl) (tgt := 120) (by decide) ?_
            refine lv_aload_n hx hb dX12_cell_120 rfl (lv_at hl 0 rfl) ?_
            refine r_get C hw (hsh 49 _ rfl) fl_X12_108 (oV_r rfl (hrm (49, 25, 68) (by decide))) dX12_cell_121 ?_
            refine lv_iconst (v := 3) hx hb dX12_cell_124 (by decide) (ti_c 3 (by decide) fun z130 hz130 => ?_)
            refine lv_iload_n hx hb dX12_cell_125 rfl (lv_at hl 1 rfl) ?_
            refine lv_imul hx hb dX12_cell_126 (tc_mulL 3 hz130 fun z131 hz131 => ?_)
            first | replace hz131 := hz131 (by omega) | clear hz131
            refine lv_iload_n hx hb dX12_cell_127 rfl (lv_at hl 2 rfl) ?_
            refine lv_iadd hx hb dX12_cell_128 (tc_add fun z132 hz132 => ?_)
            first | replace hz132 := hz132 (by omega) | clear hz132
            refine lv_iconst (v := 4) hx hb dX12_cell_129 (by decide) (ti_c 4 (by decide) fun z133 hz133 => ?_)
            refine lv_isub hx hb dX12_cell_130 (tc_sub fun z134 hz134 => ?_)
            first | replace hz134 := hz134 (by omega) | clear hz134
            refine r_iald C hw (hsh 68 _ rfl) (by omega) (by omega) dX12_cell_131 (ti_c (ig120 (B + 68) z134.toInt.toNat).toInt rfl fun z135 hz135 => ?_)
            rw [Ft.i hF 68 _ (by decide)] at hz135
            exact r_iret C hw hr hlk rfl (Nat.le_of_ble_eq_true rfl) (Nat.le_of_ble_eq_true rfl) dX12_cell_132 ⟨rfl, rfl, hI, hF, ⟨_, rfl, ⟨Or.inl ⟨by omega, by omega, ⟨fun w9 => absurd w9 (by omega), fun w9 => absurd w9 (by omega), fun w9 => absurd w9 (by omega), fun w9 => absurd w9 (by omega), fun _ => ⟨_, _, hU.2.2.1, (by unfold uM; rw [hz135, ucp_3 (by omega), show z134.toInt.toNat = 3 * x.toInt.toNat + (y.toInt - 4).toNat by omega])⟩, fun w9 => absurd w9 (by omega), fun w9 => absurd w9 (by omega), fun w9 => absurd w9 (by omega), fun w9 => absurd w9 (by omega)⟩⟩, by omega, by omega⟩⟩⟩
          by_cases s36_5 : y.toInt = 5
          · refine lv_tableIn hx hb dX12_cell_36 (by omega) (by omega) (off := 84) (by rw [s36_5]; rfl) (tgt := 120) (by decide) ?_
            refine lv_aload_n hx hb dX12_cell_120 rfl (lv_at hl 0 rfl) ?_
            refine r_get C hw (hsh 49 _ rfl) fl_X12_108 (oV_r rfl (hrm (49, 25, 68) (by decide))) dX12_cell_121 ?_
            refine lv_iconst (v := 3) hx hb dX12_cell_124 (by decide) (ti_c 3 (by decide) fun z137 hz137 => ?_)
            refine lv_iload_n hx hb dX12_cell_125 rfl (lv_at hl 1 rfl) ?_
            refine lv_imul hx hb dX12_cell_126 (tc_mulL 3 hz137 fun z138 hz138 => ?_)
            first | replace hz138 := hz138 (by omega) | clear hz138
            refine lv_iload_n hx hb dX12_cell_127 rfl (lv_at hl 2 rfl) ?_
            refine lv_iadd hx hb dX12_cell_128 (tc_add fun z139 hz139 => ?_)
            first | replace hz139 := hz139 (by omega) | clear hz139
            refine lv_iconst (v := 4) hx hb dX12_cell_129 (by decide) (ti_c 4 (by decide) fun z140 hz140 => ?_)
            refine lv_isub hx hb dX12_cell_130 (tc_sub fun z141 hz141 => ?_)
            first | replace hz141 := hz141 (by omega) | clear hz141
            refine r_iald C hw (hsh 68 _ rfl) (by omega) (by omega) dX12_cell_131 (ti_c (ig120 (B + 68) z141.toInt.toNat).toInt rfl fun z142 hz142 => ?_)
            rw [Ft.i hF 68 _ (by decide)] at hz142
            exact r_iret C hw hr hlk rfl (Nat.le_of_ble_eq_true rfl) (Nat.le_of_ble_eq_true rfl) dX12_cell_132 ⟨rfl, rfl, hI, hF, ⟨_, rfl, ⟨Or.inl ⟨by omega, by omega, ⟨fun w9 => absurd w9 (by omega), fun w9 => absurd w9 (by omega), fun w9 => absurd w9 (by omega), fun w9 => absurd w9 (by omega), fun _ => ⟨_, _, hU.2.2.1, (by unfold uM; rw [hz142, ucp_3 (by omega), show z141.toInt.toNat = 3 * x.toInt.toNat + (y.toInt - 4).toNat by omega])⟩, fun w9 => absurd w9 (by omega), fun w9 => absurd w9 (by omega), fun w9 => absurd w9 (by omega), fun w9 => absurd w9 (by omega)⟩⟩, by omega, by omega⟩⟩⟩
          by_cases s36_6 : y.toInt = 6
          · refine lv_tableIn hx hb dX12_cell_36 (by omega) (by omega) (off := 84) (by rw [s36_6]; rfl) (tgt := 120) (by decide) ?_
            refine lv_aload_n hx hb dX12_cell_120 rfl (lv_at hl 0 rfl) ?_
            refine r_get C hw (hsh 49 _ rfl) fl_X12_108 (oV_r rfl (hrm (49, 25, 68) (by decide))) dX12_cell_121 ?_
            refine lv_iconst (v := 3) hx hb dX12_cell_124 (by decide) (ti_c 3 (by decide) fun z144 hz144 => ?_)
            refine lv_iload_n hx hb dX12_cell_125 rfl (lv_at hl 1 rfl) ?_
            refine lv_imul hx hb dX12_cell_126 (tc_mulL 3 hz144 fun z145 hz145 => ?_)
            first | replace hz145 := hz145 (by omega) | clear hz145
            refine lv_iload_n hx hb dX12_cell_127 rfl (lv_at hl 2 rfl) ?_
            refine lv_iadd hx hb dX12_cell_128 (tc_add fun z146 hz146 => ?_)
            first | replace hz146 := hz146 (by omega) | clear hz146
            refine lv_iconst (v := 4) hx hb dX12_cell_129 (by decide) (ti_c 4 (by decide) fun z147 hz147 => ?_)
            refine lv_isub hx hb dX12_cell_130 (tc_sub fun z148 hz148 => ?_)
            first | replace hz148 := hz148 (by omega) | clear hz148
            refine r_iald C hw (hsh 68 _ rfl) (by omega) (by omega) dX12_cell_131 (ti_c (ig120 (B + 68) z148.toInt.toNat).toInt rfl fun z149 hz149 => ?_)
            rw [Ft.i hF 68 _ (by decide)] at hz149
            exact r_iret C hw hr hlk rfl (Nat.le_of_ble_eq_true rfl) (Nat.le_of_ble_eq_true rfl) dX12_cell_132 ⟨rfl, rfl, hI, hF, ⟨_, rfl, ⟨Or.inl ⟨by omega, by omega, ⟨fun w9 => absurd w9 (by omega), fun w9 => absurd w9 (by omega), fun w9 => absurd w9 (by omega), fun w9 => absurd w9 (by omega), fun _ => ⟨_, _, hU.2.2.1, (by unfold uM; rw [hz149, ucp_3 (by omega), show z148.toInt.toNat = 3 * x.toInt.toNat + (y.toInt - 4).toNat by omega])⟩, fun w9 => absurd w9 (by omega), fun w9 => absurd w9 (by omega), fun w9 => absurd w9 (by omega), fun w9 => absurd w9 (by omega)⟩⟩, by omega, by omega⟩⟩⟩
          by_cases s36_7 : y.toInt = 7
          · refine lv_tableIn hx hb dX12_cell_36 (by omega) (by omega) (off := 97) (by rw [s36_7]; rfl) (tgt := 133) (by decide) ?_
            refine lv_aload_n hx hb dX12_cell_133 rfl (lv_at hl 0 rfl) ?_
            refine r_get C hw (hsh 49 _ rfl) fl_X12_114 (oV_r rfl (hrm (49, 27, 70) (by decide))) dX12_cell_134 ?_
            refine lv_iload_n hx hb dX12_cell_137 rfl (lv_at hl 1 rfl) ?_
            refine r_zald C hw (hsh 70 _ rfl) (by omega) (by omega) dX12_cell_138 (ti_c (ig120 (B + 70) x.toInt.toNat).toInt rfl fun z151 hz151 => ?_)
            rw [Ft.i hF 70 _ (by decide)] at hz151
            refine z_eq (tgt := 146) hx hb dX12_cell_139 (by decide) (fun c139 => ?_) (fun c139 => ?_)
            · refine lv_iconst (v := 0) hx hb dX12_cell_146 (by decide) (ti_c 0 (by decide) fun z153 hz153 => ?_)
              exact r_iret C hw hr hlk rfl (Nat.le_of_ble_eq_true rfl) (Nat.le_of_ble_eq_true rfl) dX12_cell_147 ⟨rfl, rfl, hI, hF, ⟨_, rfl, ⟨Or.inl ⟨by omega, by omega, ⟨fun w9 => absurd w9 (by omega), fun w9 => absurd w9 (by omega), fun w9 => absurd w9 (by omega), fun w9 => absurd w9 (by omega), fun w9 => absurd w9 (by omega), fun _ => (by have q9 := hU.2.1.1 x.toInt.toNat (by omega); rw [← hz151] at q9; rcases q9 with ⟨q8, q9⟩ | ⟨q8, q9⟩; (exfalso; omega); (exact Or.inr ⟨by omega, q9⟩)), fun w9 => absurd w9 (by omega), fun w9 => absurd w9 (by omega), fun w9 => absurd w9 (by omega)⟩⟩, by omega, by omega⟩⟩⟩
            · refine lv_iconst (v := 1) hx hb dX12_cell_142 (by decide) (ti_c 1 (by decide) fun z154 hz154 => ?_)
              refine lv_goto (tgt := 147) hx hb dX12_cell_143 (by decide) ?_
              exact r_iret C hw hr hlk rfl (Nat.le_of_ble_eq_true rfl) (Nat.le_of_ble_eq_true rfl) dX12_cell_147 ⟨rfl, rfl, hI, hF, ⟨_, rfl, ⟨Or.inl ⟨by omega, by omega, ⟨fun w9 => absurd w9 (by omega), fun w9 => absurd w9 (by omega), fun w9 => absurd w9 (by omega), fun w9 => absurd w9 (by omega), fun w9 => absurd w9 (by omega), fun _ => (by have q9 := hU.2.1.1 x.toInt.toNat (by omega); rw [← hz151] at q9; rcases q9 with ⟨q8, q9⟩ | ⟨q8, q9⟩; (exact Or.inl ⟨by omega, q9⟩); (exfalso; omega)), fun w9 => absurd w9 (by omega), fun w9 => absurd w9 (by omega), fun w9 => absurd w9 (by omega)⟩⟩, by omega, by omega⟩⟩⟩
          by_cases s36_8 : y.toInt = 8
          · refine lv_tableIn hx hb dX12_cell_36 (by omega) (by omega) (off := 112) (by rw [s36_8]; rfl) (tgt := 148) (by decide) ?_
            refine lv_aload_n hx hb dX12_cell_148 rfl (lv_at hl 0 rfl) ?_
            refine lv_iload_n hx hb dX12_cell_149 rfl (lv_at hl 1 rfl) ?_
            refine r_callV (As := [.int x]) (rest := []) C hw (t_X12_readManyE l B D cA kd ig120 rg lg _ x (by omega) σ (hU.2.2.2.ag (fun k9 => hF.l 64 k9 (by decide))) hI) sv_X12_351 (hsh 49 _ rfl) rfl hl.1 rfl (Nat.le_of_ble_eq_true rfl) ⟨Nat.le_of_ble_eq_true rfl, Nat.le_of_ble_eq_true rfl⟩ ⟨Nat.le_of_ble_eq_true rfl, Nat.le_of_ble_eq_true rfl⟩ dX12_cell_150 (fun r159 kd155 ig156 rg157 lg158 H locs hw hH hp160 => ?_)
            obtain ⟨rfl, rfl, rfl, rfl, hzhp160, hrhp160⟩ := hp160
            obtain ⟨z161, rfl, hz161⟩ := hrhp160
            exact r_iret C hw hr hlk rfl (Nat.le_of_ble_eq_true rfl) (Nat.le_of_ble_eq_true rfl) dX12_cell_153 ⟨rfl, rfl, hI, hF, ⟨_, rfl, ⟨Or.inl ⟨by omega, by omega, ⟨fun w9 => absurd w9 (by omega), fun w9 => absurd w9 (by omega), fun w9 => absurd w9 (by omega), fun w9 => absurd w9 (by omega), fun w9 => absurd w9 (by omega), fun w9 => absurd w9 (by omega), fun _ => hz161, fun w9 => absurd w9 (by omega), fun w9 => absurd w9 (by omega)⟩⟩, by omega, by omega⟩⟩⟩
          by_cases s36_9 : y.toInt = 9
          · refine lv_tableIn hx hb dX12_cell_36 (by omega) (by omega) (off := 118) (by rw [s36_9]; rfl) (tgt := 154) (by decide) ?_
            refine lv_aload_n hx hb dX12_cell_154 rfl (lv_at hl 0 rfl) ?_
            refine lv_iload_n hx hb dX12_cell_155 rfl (lv_at hl 1 rfl) ?_
            refine r_callV (As := [.int x]) (rest := []) C hw (t_X12_readersE l B D cA kd ig120 rg lg _ x (by omega) σ (hU.2.2.2.ag (fun k9 => hF.l 64 k9 (by decide))) hI) sv_X12_336 (hsh 49 _ rfl) rfl hl.1 rfl (Nat.le_of_ble_eq_true rfl) ⟨Nat.le_of_ble_eq_true rfl, Nat.le_of_ble_eq_true rfl⟩ ⟨Nat.le_of_ble_eq_true rfl, Nat.le_of_ble_eq_true rfl⟩ dX12_cell_156 (fun r166 kd162 ig163 rg164 lg165 H locs hw hH hp167 => ?_)
            obtain ⟨rfl, rfl, rfl, rfl, hzhp167, hrhp167⟩ := hp167
            obtain ⟨z168, rfl, hz168⟩ := hrhp167
            exact r_iret C hw hr hlk rfl (Nat.le_of_ble_eq_true rfl) (Nat.le_of_ble_eq_true rfl) dX12_cell_159 ⟨rfl, rfl, hI, hF, ⟨_, rfl, ⟨Or.inl ⟨by omega, by omega, ⟨fun w9 => absurd w9 (by omega), fun w9 => absurd w9 (by omega), fun w9 => absurd w9 (by omega), fun w9 => absurd w9 (by omega), fun w9 => absurd w9 (by omega), fun w9 => absurd w9 (by omega), fun w9 => absurd w9 (by omega), fun _ => hz168, fun w9 => absurd w9 (by omega)⟩⟩, by omega, by omega⟩⟩⟩
          refine lv_tableOut hx hb dX12_cell_36 (by omega) (tgt := 160) (by decide) ?_
          refine lv_aload_n hx hb dX12_cell_160 rfl (lv_at hl 0 rfl) ?_
          refine r_get C hw (hsh 49 _ rfl) fl_X12_89 (oV_r rfl (hrm (49, 18, 62) (by decide))) dX12_cell_161 ?_
          refine lv_iload_n hx hb dX12_cell_164 rfl (lv_at hl 1 rfl) ?_
          refine r_zald C hw (hsh 62 _ rfl) (by omega) (by omega) dX12_cell_165 (ti_c (ig120 (B + 62) x.toInt.toNat).toInt rfl fun z169 hz169 => ?_)
          rw [Ft.i hF 62 _ (by decide)] at hz169
          refine z_eq (tgt := 173) hx hb dX12_cell_166 (by decide) (fun c166 => ?_) (fun c166 => ?_)
          · refine lv_iconst (v := 0) hx hb dX12_cell_173 (by decide) (ti_c 0 (by decide) fun z171 hz171 => ?_)
            exact r_iret C hw hr hlk rfl (Nat.le_of_ble_eq_true rfl) (Nat.le_of_ble_eq_true rfl) dX12_cell_174 ⟨rfl, rfl, hI, hF, ⟨_, rfl, ⟨Or.inl ⟨by omega, by omega, ⟨fun w9 => absurd w9 (by omega), fun w9 => absurd w9 (by omega), fun w9 => absurd w9 (by omega), fun w9 => absurd w9 (by omega), fun w9 => absurd w9 (by omega), fun w9 => absurd w9 (by omega), fun w9 => absurd w9 (by omega), fun w9 => absurd w9 (by omega), fun _ => (by have q9 := hK x.toInt.toNat (by omega); rw [← hz169] at q9; rcases q9 with ⟨q8, q9⟩ | ⟨q8, q9⟩; (exfalso; omega); (exact Or.inr ⟨by omega, q9⟩))⟩⟩, by omega, by omega⟩⟩⟩
          · refine lv_iconst (v := 1) hx hb dX12_cell_169 (by decide) (ti_c 1 (by decide) fun z172 hz172 => ?_)
            refine lv_goto (tgt := 174) hx hb dX12_cell_170 (by decide) ?_
            exact r_iret C hw hr hlk rfl (Nat.le_of_ble_eq_true rfl) (Nat.le_of_ble_eq_true rfl) dX12_cell_174 ⟨rfl, rfl, hI, hF, ⟨_, rfl, ⟨Or.inl ⟨by omega, by omega, ⟨fun w9 => absurd w9 (by omega), fun w9 => absurd w9 (by omega), fun w9 => absurd w9 (by omega), fun w9 => absurd w9 (by omega), fun w9 => absurd w9 (by omega), fun w9 => absurd w9 (by omega), fun w9 => absurd w9 (by omega), fun w9 => absurd w9 (by omega), fun _ => (by have q9 := hK x.toInt.toNat (by omega); rw [← hz169] at q9; rcases q9 with ⟨q8, q9⟩ | ⟨q8, q9⟩; (exact Or.inl ⟨by omega, q9⟩); (exfalso; omega))⟩⟩, by omega, by omega⟩⟩⟩
        · refine lv_iconst (v := 0) hx hb dX12_cell_33 (by decide) (ti_c 0 (by decide) fun z173 hz173 => ?_)
          exact r_iret C hw hr hlk rfl (Nat.le_of_ble_eq_true rfl) (Nat.le_of_ble_eq_true rfl) dX12_cell_34 ⟨rfl, rfl, hI, hF, ⟨_, rfl, ⟨Or.inr ⟨by omega, by omega⟩, by omega, by omega⟩⟩⟩
      · refine lv_iconst (v := 0) hx hb dX12_cell_18 (by decide) (ti_c 0 (by decide) fun z174 hz174 => ?_)
        refine lv_goto (tgt := 23) hx hb dX12_cell_19 (by decide) ?_
        refine r_puti C hw (hsh 49 _ rfl) fl_X12_1 rfl rfl rfl dX12_cell_23 (fun H locs hH hw => ?_)
        obtain ⟨ig175, eig175⟩ : ∃ f, f = up2 ig (B + 49) 0 z174 := ⟨_, rfl⟩
        rw [← eig175] at hw
        have hF : Ft B [49] ig lg ig175 lg := by rw [eig175]; exact hF.pi (by decide)
        have hI : IM τ φ υ B kd ig175 rg := by rw [eig175]; exact hI.pi (by decide) (show okR none _ from trivial)
        have wig175 : (ig175 (B + 49) 0).toInt = z174.toInt := by rw [eig175, up2_eq]
        have wig175_49_37 : (ig175 (B + 49) 37).toInt = (ig (B + 49) 37).toInt := by rw [eig175, up2_j (by decide)]
        have wig175_49_19 : (ig175 (B + 49) 19).toInt = (ig (B + 49) 19).toInt := by rw [eig175, up2_j (by decide)]
        refine lv_aload_n hx hb dX12_cell_26 rfl (lv_at hl 0 rfl) ?_
        refine r_get C hw (hsh 49 _ rfl) fl_X12_1 (oV_i rfl) dX12_cell_27 (ti_c (ig175 (B + 49) 0).toInt rfl fun z176 hz176 => ?_)
        refine z_le (tgt := 35) hx hb dX12_cell_30 (by decide) (fun c30 => ?_) (fun c30 => ?_)
        · refine lv_iload_n hx hb dX12_cell_35 rfl (lv_at hl 2 rfl) ?_
          by_cases s36_0 : y.toInt = 0
          · refine lv_tableIn hx hb dX12_cell_36 (by omega) (by omega) (off := 56) (by rw [s36_0]; rfl) (tgt := 92) (by decide) ?_
            refine lv_aload_n hx hb dX12_cell_92 rfl (lv_at hl 0 rfl) ?_
            refine r_get C hw (hsh 49 _ rfl) fl_X12_80 (oV_r rfl (hrm (49, 15, 59) (by decide))) dX12_cell_93 ?_
            refine lv_iload_n hx hb dX12_cell_96 rfl (lv_at hl 1 rfl) ?_
            refine r_iald C hw (hsh 59 _ rfl) (by omega) (by omega) dX12_cell_97 (ti_c (ig175 (B + 59) x.toInt.toNat).toInt rfl fun z177 hz177 => ?_)
            rw [Ft.i hF 59 _ (by decide)] at hz177
            exact r_iret C hw hr hlk rfl (Nat.le_of_ble_eq_true rfl) (Nat.le_of_ble_eq_true rfl) dX12_cell_98 ⟨rfl, rfl, hI, hF, ⟨_, rfl, ⟨Or.inl ⟨by omega, by omega, ⟨fun _ => (by rw [hz177]; exact (hM.1 _ (by omega)).1.1), fun w9 => absurd w9 (by omega), fun w9 => absurd w9 (by omega), fun w9 => absurd w9 (by omega), fun w9 => absurd w9 (by omega), fun w9 => absurd w9 (by omega), fun w9 => absurd w9 (by omega), fun w9 => absurd w9 (by omega), fun w9 => absurd w9 (by omega)⟩⟩, by omega, by omega⟩⟩⟩
          by_cases s36_1 : y.toInt = 1
          · refine lv_tableIn hx hb dX12_cell_36 (by omega) (by omega) (off := 63) (by rw [s36_1]; rfl) (tgt := 99) (by decide) ?_
            refine lv_aload_n hx hb dX12_cell_99 rfl (lv_at hl 0 rfl) ?_
            refine r_get C hw (hsh 49 _ rfl) fl_X12_102 (oV_r rfl (hrm (49, 23, 66) (by decide))) dX12_cell_100 ?_
            refine lv_iload_n hx hb dX12_cell_103 rfl (lv_at hl 1 rfl) ?_
            refine r_iald C hw (hsh 66 _ rfl) (by omega) (by omega) dX12_cell_104 (ti_c (ig175 (B + 66) x.toInt.toNat).toInt rfl fun z179 hz179 => ?_)
            rw [Ft.i hF 66 _ (by decide)] at hz179
            exact r_iret C hw hr hlk rfl (Nat.le_of_ble_eq_true rfl) (Nat.le_of_ble_eq_true rfl) dX12_cell_105 ⟨rfl, rfl, hI, hF, ⟨_, rfl, ⟨Or.inl ⟨by omega, by omega, ⟨fun w9 => absurd w9 (by omega), fun _ => ⟨_, _, hU.1.2, by rw [hz179]⟩, fun w9 => absurd w9 (by omega), fun w9 => absurd w9 (by omega), fun w9 => absurd w9 (by omega), fun w9 => absurd w9 (by omega), fun w9 => absurd w9 (by omega), fun w9 => absurd w9 (by omega), fun w9 => absurd w9 (by omega)⟩⟩, by omega, by omega⟩⟩⟩
          by_cases s36_2 : y.toInt = 2
          · refine lv_tableIn hx hb dX12_cell_36 (by omega) (by omega) (off := 70) (by rw [s36_2]; rfl) (tgt := 106) (by decide) ?_
            refine lv_aload_n hx hb dX12_cell_106 rfl (lv_at hl 0 rfl) ?_
            refine r_get C hw (hsh 49 _ rfl) fl_X12_105 (oV_r rfl (hrm (49, 24, 67) (by decide))) dX12_cell_107 ?_
            refine lv_iload_n hx hb dX12_cell_110 rfl (lv_at hl 1 rfl) ?_
            refine r_iald C hw (hsh 67 _ rfl) (by omega) (by omega) dX12_cell_111 (ti_c (ig175 (B + 67) x.toInt.toNat).toInt rfl fun z181 hz181 => ?_)
            rw [Ft.i hF 67 _ (by decide)] at hz181
            exact r_iret C hw hr hlk rfl (Nat.le_of_ble_eq_true rfl) (Nat.le_of_ble_eq_true rfl) dX12_cell_112 ⟨rfl, rfl, hI, hF, ⟨_, rfl, ⟨Or.inl ⟨by omega, by omega, ⟨fun w9 => absurd w9 (by omega), fun w9 => absurd w9 (by omega), fun _ => ⟨_, _, hU.1.2, by rw [hz181]⟩, fun w9 => absurd w9 (by omega), fun w9 => absurd w9 (by omega), fun w9 => absurd w9 (by omega), fun w9 => absurd w9 (by omega), fun w9 => absurd w9 (by omega), fun w9 => absurd w9 (by omega)⟩⟩, by omega, by omega⟩⟩⟩
          by_cases s36_3 : y.toInt = 3
          · refine lv_tableIn hx hb dX12_cell_36 (by omega) (by omega) (off := 77) (by rw [s36_3]; rfl) (tgt := 113) (by decide) ?_
            refine lv_aload_n hx hb dX12_cell_113 rfl (lv_at hl 0 rfl) ?_
            refine r_get C hw (hsh 49 _ rfl) fl_X12_117 (oV_r rfl (hrm (49, 28, 71) (by decide))) dX12_cell_114 ?_
            refine lv_iload_n hx hb dX12_cell_117 rfl (lv_at hl 1 rfl) ?_
            refine r_iald C hw (hsh 71 _ rfl) (by omega) (by omega) dX12_cell_118 (ti_c (ig175 (B + 71) x.toInt.toNat).toInt rfl fun z183 hz183 => ?_)
            rw [Ft.i hF 71 _ (by decide)] at hz183
            exact r_iret C hw hr hlk rfl (Nat.le_of_ble_eq_true rfl) (Nat.le_of_ble_eq_true rfl) dX12_cell_119 ⟨rfl, rfl, hI, hF, ⟨_, rfl, ⟨Or.inl ⟨by omega, by omega, ⟨fun w9 => absurd w9 (by omega), fun w9 => absurd w9 (by omega), fun w9 => absurd w9 (by omega), fun _ => (by rw [hz183]; exact hU.1.1 _ (by omega)), fun w9 => absurd w9 (by omega), fun w9 => absurd w9 (by omega), fun w9 => absurd w9 (by omega), fun w9 => absurd w9 (by omega), fun w9 => absurd w9 (by omega)⟩⟩, by omega, by omega⟩⟩⟩
          by_cases s36_4 : y.toInt = 4
          · refine lv_tableIn hx hb dX12_cell_36 (by omega) (by omega) (off := 84) (by rw [s36_4]; rfl) (tgt := 120) (by decide) ?_
            refine lv_aload_n hx hb dX12_cell_120 rfl (lv_at hl 0 rfl) ?_
            refine r_get C hw (hsh 49 _ rfl) fl_X12_108 (oV_r rfl (hrm (49, 25, 68) (by decide))) dX12_cell_121 ?_
            refine lv_iconst (v := 3) hx hb dX12_cell_124 (by decide) (ti_c 3 (by decide) fun z185 hz185 => ?_)
            refine lv_iload_n hx hb dX12_cell_125 rfl (lv_at hl 1 rfl) ?_
            refine lv_imul hx hb dX12_cell_126 (tc_mulL 3 hz185 fun z186 hz186 => ?_)
            first | replace hz186 := hz186 (by omega) | clear hz186
            refine lv_iload_n hx hb dX12_cell_127 rfl (lv_at hl 2 rfl) ?_
            refine lv_iadd hx hb dX12_cell_128 (tc_add fun z187 hz187 => ?_)
            first | replace hz187 := hz187 (by omega) | clear hz187
            refine lv_iconst (v := 4) hx hb dX12_cell_129 (by decide) (ti_c 4 (by decide) fun z188 hz188 => ?_)
            refine lv_isub hx hb dX12_cell_130 (tc_sub fun z189 hz189 => ?_)
            first | replace hz189 := hz189 (by omega) | clear hz189
            refine r_iald C hw (hsh 68 _ rfl) (by omega) (by omega) dX12_cell_131 (ti_c (ig175 (B + 68) z189.toInt.toNat).toInt rfl fun z190 hz190 => ?_)
            rw [Ft.i hF 68 _ (by decide)] at hz190
            exact r_iret C hw hr hlk rfl (Nat.le_of_ble_eq_true rfl) (Nat.le_of_ble_eq_true rfl) dX12_cell_132 ⟨rfl, rfl, hI, hF, ⟨_, rfl, ⟨Or.inl ⟨by omega, by omega, ⟨fun w9 => absurd w9 (by omega), fun w9 => absurd w9 (by omega), fun w9 => absurd w9 (by omega), fun w9 => absurd w9 (by omega), fun _ => ⟨_, _, hU.2.2.1, (by unfold uM; rw [hz190, ucp_3 (by omega), show z189.toInt.toNat = 3 * x.toInt.toNat + (y.toInt - 4).toNat by omega])⟩, fun w9 => absurd w9 (by omega), fun w9 => absurd w9 (by omega), fun w9 => absurd w9 (by omega), fun w9 => absurd w9 (by omega)⟩⟩, by omega, by omega⟩⟩⟩
          by_cases s36_5 : y.toInt = 5
          · refine lv_tableIn hx hb dX12_cell_36 (by omega) (by omega) (off := 84) (by rw [s36_5]; rfl) (tgt := 120) (by decide) ?_
            refine lv_aload_n hx hb dX12_cell_120 rfl (lv_at hl 0 rfl) ?_
            refine r_get C hw (hsh 49 _ rfl) fl_X12_108 (oV_r rfl (hrm (49, 25, 68) (by decide))) dX12_cell_121 ?_
            refine lv_iconst (v := 3) hx hb dX12_cell_124 (by decide) (ti_c 3 (by decide) fun z192 hz192 => ?_)
            refine lv_iload_n hx hb dX12_cell_125 rfl (lv_at hl 1 rfl) ?_
            refine lv_imul hx hb dX12_cell_126 (tc_mulL 3 hz192 fun z193 hz193 => ?_)
            first | replace hz193 := hz193 (by omega) | clear hz193
            refine lv_iload_n hx hb dX12_cell_127 rfl (lv_at hl 2 rfl) ?_
            refine lv_iadd hx hb dX12_cell_128 (tc_add fun z194 hz194 => ?_)
            first | replace hz194 := hz194 (by omega) | clear hz194
            refine lv_iconst (v := 4) hx hb dX12_cell_129 (by decide) (ti_c 4 (by decide) fun z195 hz195 => ?_)
            refine lv_isub hx hb dX12_cell_130 (tc_sub fun z196 hz196 => ?_)
            first | replace hz196 := hz196 (by omega) | clear hz196
            refine r_iald C hw (hsh 68 _ rfl) (by omega) (by omega) dX12_cell_131 (ti_c (ig175 (B + 68) z196.toInt.toNat).toInt rfl fun z197 hz197 => ?_)
            rw [Ft.i hF 68 _ (by decide)] at hz197
            exact r_iret C hw hr hlk rfl (Nat.le_of_ble_eq_true rfl) (Nat.le_of_ble_eq_true rfl) dX12_cell_132 ⟨rfl, rfl, hI, hF, ⟨_, rfl, ⟨Or.inl ⟨by omega, by omega, ⟨fun w9 => absurd w9 (by omega), fun w9 => absurd w9 (by omega), fun w9 => absurd w9 (by omega), fun w9 => absurd w9 (by omega), fun _ => ⟨_, _, hU.2.2.1, (by unfold uM; rw [hz197, ucp_3 (by omega), show z196.toInt.toNat = 3 * x.toInt.toNat + (y.toInt - 4).toNat by omega])⟩, fun w9 => absurd w9 (by omega), fun w9 => absurd w9 (by omega), fun w9 => absurd w9 (by omega), fun w9 => absurd w9 (by omega)⟩⟩, by omega, by omega⟩⟩⟩
          by_cases s36_6 : y.toInt = 6
          · refine lv_tableIn hx hb dX12_cell_36 (by omega) (by omega) (off := 84) (by rw [s36_6]; rfl) (tgt := 120) (by decide) ?_
            refine lv_aload_n hx hb dX12_cell_120 rfl (lv_at hl 0 rfl) ?_
            refine r_get C hw (hsh 49 _ rfl) fl_X12_108 (oV_r rfl (hrm (49, 25, 68) (by decide))) dX12_cell_121 ?_
            refine lv_iconst (v := 3) hx hb dX12_cell_124 (by decide) (ti_c 3 (by decide) fun z199 hz199 => ?_)
            refine lv_iload_n hx hb dX12_cell_125 rfl (lv_at hl 1 rfl) ?_
            refine lv_imul hx hb dX12_cell_126 (tc_mulL 3 hz199 fun z200 hz200 => ?_)
            first | replace hz200 := hz200 (by omega) | clear hz200
            refine lv_iload_n hx hb dX12_cell_127 rfl (lv_at hl 2 rfl) ?_
            refine lv_iadd hx hb dX12_cell_128 (tc_add fun z201 hz201 => ?_)
            first | replace hz201 := hz201 (by omega) | clear hz201
            refine lv_iconst (v := 4) hx hb dX12_cell_129 (by decide) (ti_c 4 (by decide) fun z202 hz202 => ?_)
            refine lv_isub hx hb dX12_cell_130 (tc_sub fun z203 hz203 => ?_)
            first | replace hz203 := hz203 (by omega) | clear hz203
            refine r_iald C hw (hsh 68 _ rfl) (by omega) (by omega) dX12_cell_131 (ti_c (ig175 (B + 68) z203.toInt.toNat).toInt rfl fun z204 hz204 => ?_)
            rw [Ft.i hF 68 _ (by decide)] at hz204
            exact r_iret C hw hr hlk rfl (Nat.le_of_ble_eq_true rfl) (Nat.le_of_ble_eq_true rfl) dX12_cell_132 ⟨rfl, rfl, hI, hF, ⟨_, rfl, ⟨Or.inl ⟨by omega, by omega, ⟨fun w9 => absurd w9 (by omega), fun w9 => absurd w9 (by omega), fun w9 => absurd w9 (by omega), fun w9 => absurd w9 (by omega), fun _ => ⟨_, _, hU.2.2.1, (by unfold uM; rw [hz204, ucp_3 (by omega), show z203.toInt.toNat = 3 * x.toInt.toNat + (y.toInt - 4).toNat by omega])⟩, fun w9 => absurd w9 (by omega), fun w9 => absurd w9 (by omega), fun w9 => absurd w9 (by omega), fun w9 => absurd w9 (by omega)⟩⟩, by omega, by omega⟩⟩⟩
          by_cases s36_7 : y.toInt = 7
          · refine lv_tableIn hx hb dX12_cell_36 (by omega) (by omega) (off := 97) (by rw [s36_7]; rfl) (tgt := 133) (by decide) ?_
            refine lv_aload_n hx hb dX12_cell_133 rfl (lv_at hl 0 rfl) ?_
            refine r_get C hw (hsh 49 _ rfl) fl_X12_114 (oV_r rfl (hrm (49, 27, 70) (by decide))) dX12_cell_134 ?_
            refine lv_iload_n hx hb dX12_cell_137 rfl (lv_at hl 1 rfl) ?_
            refine r_zald C hw (hsh 70 _ rfl) (by omega) (by omega) dX12_cell_138 (ti_c (ig175 (B + 70) x.toInt.toNat).toInt rfl fun z206 hz206 => ?_)
            rw [Ft.i hF 70 _ (by decide)] at hz206
            refine z_eq (tgt := 146) hx hb dX12_cell_139 (by decide) (fun c139 => ?_) (fun c139 => ?_)
            · refine lv_iconst (v := 0) hx hb dX12_cell_146 (by decide) (ti_c 0 (by decide) fun z208 hz208 => ?_)
              exact r_iret C hw hr hlk rfl (Nat.le_of_ble_eq_true rfl) (Nat.le_of_ble_eq_true rfl) dX12_cell_147 ⟨rfl, rfl, hI, hF, ⟨_, rfl, ⟨Or.inl ⟨by omega, by omega, ⟨fun w9 => absurd w9 (by omega), fun w9 => absurd w9 (by omega), fun w9 => absurd w9 (by omega), fun w9 => absurd w9 (by omega), fun w9 => absurd w9 (by omega), fun _ => (by have q9 := hU.2.1.1 x.toInt.toNat (by omega); rw [← hz206] at q9; rcases q9 with ⟨q8, q9⟩ | ⟨q8, q9⟩; (exfalso; omega); (exact Or.inr ⟨by omega, q9⟩)), fun w9 => absurd w9 (by omega), fun w9 => absurd w9 (by omega), fun w9 => absurd w9 (by omega)⟩⟩, by omega, by omega⟩⟩⟩
            · refine lv_iconst (v := 1) hx hb dX12_cell_142 (by decide) (ti_c 1 (by decide) fun z209 hz209 => ?_)
              refine lv_goto (tgt := 147) hx hb dX12_cell_143 (by decide) ?_
              exact r_iret C hw hr hlk rfl (Nat.le_of_ble_eq_true rfl) (Nat.le_of_ble_eq_true rfl) dX12_cell_147 ⟨rfl, rfl, hI, hF, ⟨_, rfl, ⟨Or.inl ⟨by omega, by omega, ⟨fun w9 => absurd w9 (by omega), fun w9 => absurd w9 (by omega), fun w9 => absurd w9 (by omega), fun w9 => absurd w9 (by omega), fun w9 => absurd w9 (by omega), fun _ => (by have q9 := hU.2.1.1 x.toInt.toNat (by omega); rw [← hz206] at q9; rcases q9 with ⟨q8, q9⟩ | ⟨q8, q9⟩; (exact Or.inl ⟨by omega, q9⟩); (exfalso; omega)), fun w9 => absurd w9 (by omega), fun w9 => absurd w9 (by omega), fun w9 => absurd w9 (by omega)⟩⟩, by omega, by omega⟩⟩⟩
          by_cases s36_8 : y.toInt = 8
          · refine lv_tableIn hx hb dX12_cell_36 (by omega) (by omega) (off := 112) (by rw [s36_8]; rfl) (tgt := 148) (by decide) ?_
            refine lv_aload_n hx hb dX12_cell_148 rfl (lv_at hl 0 rfl) ?_
            refine lv_iload_n hx hb dX12_cell_149 rfl (lv_at hl 1 rfl) ?_
            refine r_callV (As := [.int x]) (rest := []) C hw (t_X12_readManyE l B D cA kd ig175 rg lg _ x (by omega) σ (hU.2.2.2.ag (fun k9 => hF.l 64 k9 (by decide))) hI) sv_X12_351 (hsh 49 _ rfl) rfl hl.1 rfl (Nat.le_of_ble_eq_true rfl) ⟨Nat.le_of_ble_eq_true rfl, Nat.le_of_ble_eq_true rfl⟩ ⟨Nat.le_of_ble_eq_true rfl, Nat.le_of_ble_eq_true rfl⟩ dX12_cell_150 (fun r214 kd210 ig211 rg212 lg213 H locs hw hH hp215 => ?_)
            obtain ⟨rfl, rfl, rfl, rfl, hzhp215, hrhp215⟩ := hp215
            obtain ⟨z216, rfl, hz216⟩ := hrhp215
            exact r_iret C hw hr hlk rfl (Nat.le_of_ble_eq_true rfl) (Nat.le_of_ble_eq_true rfl) dX12_cell_153 ⟨rfl, rfl, hI, hF, ⟨_, rfl, ⟨Or.inl ⟨by omega, by omega, ⟨fun w9 => absurd w9 (by omega), fun w9 => absurd w9 (by omega), fun w9 => absurd w9 (by omega), fun w9 => absurd w9 (by omega), fun w9 => absurd w9 (by omega), fun w9 => absurd w9 (by omega), fun _ => hz216, fun w9 => absurd w9 (by omega), fun w9 => absurd w9 (by omega)⟩⟩, by omega, by omega⟩⟩⟩
          by_cases s36_9 : y.toInt = 9
          · refine lv_tableIn hx hb dX12_cell_36 (by omega) (by omega) (off := 118) (by rw [s36_9]; rfl) (tgt := 154) (by decide) ?_
            refine lv_aload_n hx hb dX12_cell_154 rfl (lv_at hl 0 rfl) ?_
            refine lv_iload_n hx hb dX12_cell_155 rfl (lv_at hl 1 rfl) ?_
            refine r_callV (As := [.int x]) (rest := []) C hw (t_X12_readersE l B D cA kd ig175 rg lg _ x (by omega) σ (hU.2.2.2.ag (fun k9 => hF.l 64 k9 (by decide))) hI) sv_X12_336 (hsh 49 _ rfl) rfl hl.1 rfl (Nat.le_of_ble_eq_true rfl) ⟨Nat.le_of_ble_eq_true rfl, Nat.le_of_ble_eq_true rfl⟩ ⟨Nat.le_of_ble_eq_true rfl, Nat.le_of_ble_eq_true rfl⟩ dX12_cell_156 (fun r221 kd217 ig218 rg219 lg220 H locs hw hH hp222 => ?_)
            obtain ⟨rfl, rfl, rfl, rfl, hzhp222, hrhp222⟩ := hp222
            obtain ⟨z223, rfl, hz223⟩ := hrhp222
            exact r_iret C hw hr hlk rfl (Nat.le_of_ble_eq_true rfl) (Nat.le_of_ble_eq_true rfl) dX12_cell_159 ⟨rfl, rfl, hI, hF, ⟨_, rfl, ⟨Or.inl ⟨by omega, by omega, ⟨fun w9 => absurd w9 (by omega), fun w9 => absurd w9 (by omega), fun w9 => absurd w9 (by omega), fun w9 => absurd w9 (by omega), fun w9 => absurd w9 (by omega), fun w9 => absurd w9 (by omega), fun w9 => absurd w9 (by omega), fun _ => hz223, fun w9 => absurd w9 (by omega)⟩⟩, by omega, by omega⟩⟩⟩
          refine lv_tableOut hx hb dX12_cell_36 (by omega) (tgt := 160) (by decide) ?_
          refine lv_aload_n hx hb dX12_cell_160 rfl (lv_at hl 0 rfl) ?_
          refine r_get C hw (hsh 49 _ rfl) fl_X12_89 (oV_r rfl (hrm (49, 18, 62) (by decide))) dX12_cell_161 ?_
          refine lv_iload_n hx hb dX12_cell_164 rfl (lv_at hl 1 rfl) ?_
          refine r_zald C hw (hsh 62 _ rfl) (by omega) (by omega) dX12_cell_165 (ti_c (ig175 (B + 62) x.toInt.toNat).toInt rfl fun z224 hz224 => ?_)
          rw [Ft.i hF 62 _ (by decide)] at hz224
          refine z_eq (tgt := 173) hx hb dX12_cell_166 (by decide) (fun c166 => ?_) (fun c166 => ?_)
          · refine lv_iconst (v := 0) hx hb dX12_cell_173 (by decide) (ti_c 0 (by decide) fun z226 hz226 => ?_)
            exact r_iret C hw hr hlk rfl (Nat.le_of_ble_eq_true rfl) (Nat.le_of_ble_eq_true rfl) dX12_cell_174 ⟨rfl, rfl, hI, hF, ⟨_, rfl, ⟨Or.inl ⟨by omega, by omega, ⟨fun w9 => absurd w9 (by omega), fun w9 => absurd w9 (by omega), fun w9 => absurd w9 (by omega), fun w9 => absurd w9 (by omega), fun w9 => absurd w9 (by omega), fun w9 => absurd w9 (by omega), fun w9 => absurd w9 (by omega), fun w9 => absurd w9 (by omega), fun _ => (by have q9 := hK x.toInt.toNat (by omega); rw [← hz224] at q9; rcases q9 with ⟨q8, q9⟩ | ⟨q8, q9⟩; (exfalso; omega); (exact Or.inr ⟨by omega, q9⟩))⟩⟩, by omega, by omega⟩⟩⟩
          · refine lv_iconst (v := 1) hx hb dX12_cell_169 (by decide) (ti_c 1 (by decide) fun z227 hz227 => ?_)
            refine lv_goto (tgt := 174) hx hb dX12_cell_170 (by decide) ?_
            exact r_iret C hw hr hlk rfl (Nat.le_of_ble_eq_true rfl) (Nat.le_of_ble_eq_true rfl) dX12_cell_174 ⟨rfl, rfl, hI, hF, ⟨_, rfl, ⟨Or.inl ⟨by omega, by omega, ⟨fun w9 => absurd w9 (by omega), fun w9 => absurd w9 (by omega), fun w9 => absurd w9 (by omega), fun w9 => absurd w9 (by omega), fun w9 => absurd w9 (by omega), fun w9 => absurd w9 (by omega), fun w9 => absurd w9 (by omega), fun w9 => absurd w9 (by omega), fun _ => (by have q9 := hK x.toInt.toNat (by omega); rw [← hz224] at q9; rcases q9 with ⟨q8, q9⟩ | ⟨q8, q9⟩; (exact Or.inl ⟨by omega, q9⟩); (exfalso; omega))⟩⟩, by omega, by omega⟩⟩⟩
        · refine lv_iconst (v := 0) hx hb dX12_cell_33 (by decide) (ti_c 0 (by decide) fun z228 hz228 => ?_)
          exact r_iret C hw hr hlk rfl (Nat.le_of_ble_eq_true rfl) (Nat.le_of_ble_eq_true rfl) dX12_cell_34 ⟨rfl, rfl, hI, hF, ⟨_, rfl, ⟨Or.inr ⟨by omega, by omega⟩, by omega, by omega⟩⟩⟩
