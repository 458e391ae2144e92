/-! working out a row: the grammar from its front -/
section GINV
variable {K A : Nat → Int}
theorem gPart.inv0 {d i j : Nat} (h : gPart K A d i j) (hk : K i = 0) : j = i + 1 := by
  cases d with
  | zero => exact h.elim
  | succ d =>
    rcases h with ⟨-, h⟩ | ⟨h, -⟩ | ⟨h, -⟩ | ⟨h, -⟩
    · exact h
    · have := h.1; omega
    · omega
    · omega
theorem gPart.inv3 {d i j : Nat} (h : gPart K A d i j) (hk : K i = 3) : j = i + 1 := by
  cases d with
  | zero => exact h.elim
  | succ d =>
    rcases h with ⟨-, h⟩ | ⟨h, -⟩ | ⟨h, -⟩ | ⟨h, -⟩
    · exact h
    · have := h.1; omega
    · omega
    · omega
theorem gPart.inv2 {d i j : Nat} (h : gPart K A d i j) (hk : K i = 2) : gSm K A i ∧ j = i + 6 := by
  cases d with
  | zero => exact h.elim
  | succ d =>
    rcases h with ⟨h, -⟩ | h | ⟨h, -⟩ | ⟨h, -⟩
    · omega
    · exact h
    · omega
    · omega
theorem gPart.inv45 {d i j : Nat} (h : gPart K A d i j) (h0 : K i ≠ 0) (h3 : K i ≠ 3) (h2 : K i ≠ 2) (ha : A i = 45) : ∃ d1, d = d1 + 1 ∧ gPart K A d1 (i + 1) j := by
  cases d with
  | zero => exact h.elim
  | succ d =>
    rcases h with ⟨h, -⟩ | ⟨h, -⟩ | ⟨-, -, h⟩ | ⟨-, h, -⟩
    · omega
    · exact absurd h.1 h2
    · exact ⟨d, rfl, h⟩
    · omega
theorem gPart.inv40 {d i j : Nat} (h : gPart K A d i j) (h0 : K i ≠ 0) (h3 : K i ≠ 3) (h2 : K i ≠ 2) (ha : A i ≠ 45) : ∃ d1 m, d = d1 + 1 ∧ gE K A d1 (i + 1) m ∧ K m = 1 ∧ A m = 41 ∧ j = m + 1 := by
  cases d with
  | zero => exact h.elim
  | succ d =>
    rcases h with ⟨h, -⟩ | ⟨h, -⟩ | ⟨-, h, -⟩ | ⟨-, -, m, n, h1, h2, h3, h4⟩
    · omega
    · exact absurd h.1 h2
    · exact absurd h ha
    · exact ⟨d, m, rfl, ⟨n, h1⟩, h2, h3, h4⟩
theorem gCh.first {P : Nat → Nat → Prop} {S : Nat → Prop} (hP : ∀ i j, P i j → i < j) {n i j : Nat} (h : gCh P S n i j) : ∃ m, P i m ∧ i < m ∧ m ≤ j ∧ (m = j ∨ (S m ∧ m + 1 < j ∧ ∃ n, gCh P S n (m + 1) j)) := by
  cases n with
  | zero => exact ⟨j, h, hP _ _ h, Nat.le_refl _, Or.inl rfl⟩
  | succ n =>
    obtain ⟨m, h1, h2, h3⟩ := h
    have e1 := gCh.lt hP n (m + 1) j h3
    exact ⟨m, h1, hP _ _ h1, by omega, Or.inr ⟨h2, e1, n, h3⟩⟩
end GINV
section FTK
variable {τ : Tp} {φ : Option Int} {B : Nat} {T : List Nat} {ig ig' : sI} {lg lg' : sG}
theorem Ft.K (h : Ft B T ig lg ig' lg') (hc : ∀ q ∈ T, 54 ≠ q) : mK B ig' = mK B ig := by
  funext k
  simp only [mK, h.i 54 k hc]
theorem Ft.A (h : Ft B T ig lg ig' lg') (hc : ∀ q ∈ T, 55 ≠ q) : mA B ig' = mA B ig := by
  funext k
  simp only [mA, h.i 55 k hc]
theorem Ft.R (h : Ft B T ig lg ig' lg') (h1 : ∀ q ∈ T, 54 ≠ q) (h2 : ∀ q ∈ T, 55 ≠ q) (h3 : ∀ q ∈ T, 56 ≠ q) {k : Nat} (hr : rOk B ig k) : rOk B ig' k := by
  simp only [rOk, mK, mA, mB, h.i 54 k h1, h.i 55 k h2, h.i 56 k h3] at hr ⊢
  exact hr
end FTK

set_option maxHeartbeats 4000000 in
set_option maxRecDepth 100000 in
theorem t_X12_isNext {υ : Option Int} {τ : Tp} {φ : Option Int} (l : Launch) (B : Nat) (D : va_G) (cA : Nat → ClassId) (kd : sK) (ig : sI) (rg : sR) (lg : sG) (sz : Nat) (x : Int32) (hg0 : 0 ≤ (ig (B + 49) 31).toInt ∧ (ig (B + 49) 32).toInt ≤ 37080) (hI : IM τ φ υ B kd ig rg) : MC l B D cA yX12_isNext cX12_isNext 2 (some .boolean) (rL 0 0 0) [.ref (B + 49), .int x] kd ig rg lg sz (Pu kd ig rg lg sz (fun r => ∃ z : Int32, r = some (.int z) ∧ ((z.toInt = 1 ∧ (ig (B + 49) 31).toInt < (ig (B + 49) 32).toInt ∧ (ig (B + 54) (ig (B + 49) 31).toInt.toNat).toInt = 1 ∧ (ig (B + 55) (ig (B + 49) 31).toInt.toNat).toInt = x.toInt) ∨ (z.toInt = 0 ∧ ¬ ((ig (B + 49) 31).toInt < (ig (B + 49) 32).toInt ∧ (ig (B + 54) (ig (B + 49) 31).toInt.toNat).toInt = 1 ∧ (ig (B + 55) (ig (B + 49) 31).toInt.toNat).toInt = x.toInt))))) := by
  refine MC.of (own := RX12) (by decide +kernel) rfl (Nat.le_of_ble_eq_true rfl) ?_
  intro p e s m args below meth c ls C hr hlk hnm hw hsz hl
  have hx := C.1.1
  have hb := C.1.2.1
  have hown := C.1.2.2.2.1
  have hts := C.1.2.2.2.2
  have hl : lv_has ls 2 [(0, .ref (B + 49)), (1, .int x)] := hl
  have hsh := hI.sh
  have hrm := hI.rm
  refine lv_aload_n hx hb dX12_isNext_0 rfl (lv_at hl 0 rfl) ?_
  refine r_get C hw (hsh 49 _ rfl) fl_X12_241 (oV_i rfl) dX12_isNext_1 (ti_c (ig (B + 49) 31).toInt rfl fun z1 hz1 => ?_)
  refine lv_aload_n hx hb dX12_isNext_4 rfl (lv_at hl 0 rfl) ?_
  refine r_get C hw (hsh 49 _ rfl) fl_X12_244 (oV_i rfl) dX12_isNext_5 (ti_c (ig (B + 49) 32).toInt rfl fun z2 hz2 => ?_)
  refine b_ge (tgt := 41) hx hb dX12_isNext_8 (by decide) (fun c8 => ?_) (fun c8 => ?_)
  · refine lv_iconst (v := 0) hx hb dX12_isNext_41 (by decide) (ti_c 0 (by decide) fun z3 hz3 => ?_)
    exact r_iret C hw hr hlk (nar_b (by omega)) (Nat.le_of_ble_eq_true rfl) (Nat.le_of_ble_eq_true rfl) dX12_isNext_42 ⟨rfl, rfl, rfl, rfl, hsz, ⟨_, rfl, by omega⟩⟩
  · refine lv_aload_n hx hb dX12_isNext_11 rfl (lv_at hl 0 rfl) ?_
    refine r_get C hw (hsh 49 _ rfl) fl_X12_65 (oV_r rfl (hrm (49, 9, 54) (by decide))) dX12_isNext_12 ?_
    refine lv_aload_n hx hb dX12_isNext_15 rfl (lv_at hl 0 rfl) ?_
    refine r_get C hw (hsh 49 _ rfl) fl_X12_241 (oV_i rfl) dX12_isNext_16 (ti_c (ig (B + 49) 31).toInt rfl fun z4 hz4 => ?_)
    have ez19 : z4.toInt.toNat = (ig (B + 49) 31).toInt.toNat := by omega
    refine r_iald C hw (hsh 54 _ rfl) (by omega) (by omega) dX12_isNext_19 (ti_c (ig (B + 54) z4.toInt.toNat).toInt rfl fun z5 hz5 => ?_)
    try simp only [ez19] at hz5
    try simp only [ez32] at hz5
    refine lv_iconst (v := 1) hx hb dX12_isNext_20 (by decide) (ti_c 1 (by decide) fun z7 hz7 => ?_)
    refine b_ne (tgt := 41) hx hb dX12_isNext_21 (by decide) (fun c21 => ?_) (fun c21 => ?_)
    · refine lv_iconst (v := 0) hx hb dX12_isNext_41 (by decide) (ti_c 0 (by decide) fun z8 hz8 => ?_)
      exact r_iret C hw hr hlk (nar_b (by omega)) (Nat.le_of_ble_eq_true rfl) (Nat.le_of_ble_eq_true rfl) dX12_isNext_42 ⟨rfl, rfl, rfl, rfl, hsz, ⟨_, rfl, by omega⟩⟩
    · refine lv_aload_n hx hb dX12_isNext_24 rfl (lv_at hl 0 rfl) ?_
      refine r_get C hw (hsh 49 _ rfl) fl_X12_68 (oV_r rfl (hrm (49, 10, 55) (by decide))) dX12_isNext_25 ?_
      refine lv_aload_n hx hb dX12_isNext_28 rfl (lv_at hl 0 rfl) ?_
      refine r_get C hw (hsh 49 _ rfl) fl_X12_241 (oV_i rfl) dX12_isNext_29 (ti_c (ig (B + 49) 31).toInt rfl fun z9 hz9 => ?_)
      have ez32 : z9.toInt.toNat = (ig (B + 49) 31).toInt.toNat := by omega
      refine r_iald C hw (hsh 55 _ rfl) (by omega) (by omega) dX12_isNext_32 (ti_c (ig (B + 55) z9.toInt.toNat).toInt rfl fun z10 hz10 => ?_)
      try simp only [ez19] at hz10
      try simp only [ez32] at hz10
      refine lv_iload_n hx hb dX12_isNext_33 rfl (lv_at hl 1 rfl) ?_
      refine b_ne (tgt := 41) hx hb dX12_isNext_34 (by decide) (fun c34 => ?_) (fun c34 => ?_)
      · refine lv_iconst (v := 0) hx hb dX12_isNext_41 (by decide) (ti_c 0 (by decide) fun z12 hz12 => ?_)
        exact r_iret C hw hr hlk (nar_b (by omega)) (Nat.le_of_ble_eq_true rfl) (Nat.le_of_ble_eq_true rfl) dX12_isNext_42 ⟨rfl, rfl, rfl, rfl, hsz, ⟨_, rfl, by omega⟩⟩
      · refine lv_iconst (v := 1) hx hb dX12_isNext_37 (by decide) (ti_c 1 (by decide) fun z13 hz13 => ?_)
        refine lv_goto (tgt := 42) hx hb dX12_isNext_38 (by decide) ?_
        exact r_iret C hw hr hlk (nar_b (by omega)) (Nat.le_of_ble_eq_true rfl) (Nat.le_of_ble_eq_true rfl) dX12_isNext_42 ⟨rfl, rfl, rfl, rfl, hsz, ⟨_, rfl, by omega⟩⟩

def RX12_goPart (τ : Tp) (φ υ : Option Int) (l : Launch) (B : Nat) (D : va_G) (cA : Nat → ClassId) (d : Nat) : Prop := ∀ (kd : sK) (ig : sI) (rg : sR) (lg : sG) (sz : Nat) (i j : Nat), gPart (mK B ig) (mA B ig) d i j → (ig (B + 49) 31).toInt = (i : Int) → (∀ k, i ≤ k → k < j → rOk B ig k) → (j ≤ 37000 ∧ (j : Int) ≤ (ig (B + 49) 32).toInt ∧ (ig (B + 49) 32).toInt ≤ 37080) → IM τ φ υ B kd ig rg → MC l B D cA yX12_goPart cX12_goPart 3 (some .int) (rL (3 * d + 3) 0 0) [.ref (B + 49)] kd ig rg lg sz (PM τ φ υ B [49] kd ig rg lg (fun r ig' lg' => ∃ z : Int32, r = some (.int z) ∧ ((ig' (B + 49) 31).toInt = (j : Int) ∧ (ig' (B + 49) 32).toInt = (ig (B + 49) 32).toInt)))
def RX12_goProduct (τ : Tp) (φ υ : Option Int) (l : Launch) (B : Nat) (D : va_G) (cA : Nat → ClassId) (d : Nat) : Prop := ∀ (kd : sK) (ig : sI) (rg : sR) (lg : sG) (sz : Nat) (i j : Nat), gProd (mK B ig) (mA B ig) d i j → (ig (B + 49) 31).toInt = (i : Int) → (∀ k, i ≤ k → k < j → rOk B ig k) → (j ≤ 37000 ∧ (j : Int) ≤ (ig (B + 49) 32).toInt ∧ (ig (B + 49) 32).toInt ≤ 37080) → ((j : Int) = (ig (B + 49) 32).toInt ∨ (mK B ig j = 1 ∧ (mA B ig j = 41 ∨ mA B ig j = 43 ∨ mA B ig j = 45))) → IM τ φ υ B kd ig rg → MC l B D cA yX12_goProduct cX12_goProduct 4 (some .int) (rL (3 * d + 4) 0 0) [.ref (B + 49)] kd ig rg lg sz (PM τ φ υ B [49] kd ig rg lg (fun r ig' lg' => ∃ z : Int32, r = some (.int z) ∧ ((ig' (B + 49) 31).toInt = (j : Int) ∧ (ig' (B + 49) 32).toInt = (ig (B + 49) 32).toInt)))
def RX12_goE (τ : Tp) (φ υ : Option Int) (l : Launch) (B : Nat) (D : va_G) (cA : Nat → ClassId) (d : Nat) : Prop := ∀ (kd : sK) (ig : sI) (rg : sR) (lg : sG) (sz : Nat) (i j : Nat), gE (mK B ig) (mA B ig) d i j → (ig (B + 49) 31).toInt = (i : Int) → (∀ k, i ≤ k → k < j → rOk B ig k) → (j ≤ 37000 ∧ (j : Int) ≤ (ig (B + 49) 32).toInt ∧ (ig (B + 49) 32).toInt ≤ 37080) → ((j : Int) = (ig (B + 49) 32).toInt ∨ (mK B ig j = 1 ∧ mA B ig j = 41)) → IM τ φ υ B kd ig rg → MC l B D cA yX12_goE cX12_goE 4 (some .int) (rL (3 * d + 5) 0 0) [.ref (B + 49)] kd ig rg lg sz (PM τ φ υ B [49] kd ig rg lg (fun r ig' lg' => ∃ z : Int32, r = some (.int z) ∧ ((ig' (B + 49) 31).toInt = (j : Int) ∧ (ig' (B + 49) 32).toInt = (ig (B + 49) 32).toInt)))

set_option maxHeartbeats 4000000 in
set_option maxRecDepth 100000 in
theorem t_X12_goPart {υ : Option Int} {τ : Tp} {φ : Option Int} (l : Launch) (B : Nat) (D : va_G) (cA : Nat → ClassId) (kd : sK) (ig : sI) (rg : sR) (lg : sG) (sz : Nat) (d i j : Nat) (hrec : ∀ d1, d = d1 + 1 → RX12_goPart τ φ υ l B D cA d1 ∧ RX12_goE τ φ υ l B D cA d1) (hg : gPart (mK B ig) (mA B ig) d i j) (hgo : (ig (B + 49) 31).toInt = (i : Int)) (hR : ∀ k, i ≤ k → k < j → rOk B ig k) (hj : j ≤ 37000 ∧ (j : Int) ≤ (ig (B + 49) 32).toInt ∧ (ig (B + 49) 32).toInt ≤ 37080) (hI : IM τ φ υ B kd ig rg) : MC l B D cA yX12_goPart cX12_goPart 3 (some .int) (rL (3 * d + 3) 0 0) [.ref (B + 49)] kd ig rg lg sz (PM τ φ υ B [49] kd ig rg lg (fun r ig' lg' => ∃ z : Int32, r = some (.int z) ∧ ((ig' (B + 49) 31).toInt = (j : Int) ∧ (ig' (B + 49) 32).toInt = (ig (B + 49) 32).toInt))) := by
  refine MC.of (own := RX12) (by decide +kernel) rfl (Nat.le_of_ble_eq_true rfl) ?_
  intro p e s m args below meth c ls C hr hlk hnm hw hsz hl
  have hx := C.1.1
  have hb := C.1.2.1
  have hown := C.1.2.2.2.1
  have hts := C.1.2.2.2.2
  have hl : lv_has ls 3 [(0, .ref (B + 49))] := hl
  have hF : Ft B [49] ig lg ig lg := Ft.rf
  have hsh := hI.sh
  have hrm := hI.rm
  have hd0 : 0 < d := by rcases d with _ | d; exact hg.elim; omega
  have hij := gPart.lt d i j hg
  refine lv_aload_n hx hb dX12_goPart_0 rfl (lv_at hl 0 rfl) ?_
  refine r_get C hw (hsh 49 _ rfl) fl_X12_241 (oV_i rfl) dX12_goPart_1 (ti_c (ig (B + 49) 31).toInt rfl fun z1 hz1 => ?_)
  refine lv_istore_n (lv' := [(1, .int z1), (0, .ref (B + 49))]) hx hb dX12_goPart_4 rfl hl (by decide) rfl (fun ls hl => ?_)
  have ei : z1.toInt.toNat = i := by omega
  refine lv_aload_n hx hb dX12_goPart_5 rfl (lv_at hl 1 rfl) ?_
  refine lv_dup hx hb dX12_goPart_6 rfl ?_
  refine r_get C hw (hsh 49 _ rfl) fl_X12_241 (oV_i rfl) dX12_goPart_7 (ti_c (ig (B + 49) 31).toInt rfl fun z2 hz2 => ?_)
  refine lv_iconst (v := 1) hx hb dX12_goPart_10 (by decide) (ti_c 1 (by decide) fun z3 hz3 => ?_)
  refine lv_iadd hx hb dX12_goPart_11 (tc_add fun z4 hz4 => ?_)
  first | replace hz4 := hz4 (by omega) | clear hz4
  refine r_puti C hw (hsh 49 _ rfl) fl_X12_241 rfl rfl rfl dX12_goPart_12 (fun H locs hH hw => ?_)
  obtain ⟨ig5, eig5⟩ : ∃ f, f = up2 ig (B + 49) 31 z4 := ⟨_, rfl⟩
  rw [← eig5] at hw
  have hF : Ft B [49] ig lg ig5 lg := by rw [eig5]; exact hF.pi (by decide)
  have hI : IM τ φ υ B kd ig5 rg := by rw [eig5]; exact hI.pi (by decide) (show okR none _ from trivial)
  have wig5 : (ig5 (B + 49) 31).toInt = z4.toInt := by rw [eig5, up2_eq]
  have wig5_49_32 : (ig5 (B + 49) 32).toInt = (ig (B + 49) 32).toInt := by rw [eig5, up2_j (by decide)]
  refine lv_aload_n hx hb dX12_goPart_15 rfl (lv_at hl 1 rfl) ?_
  refine r_get C hw (hsh 49 _ rfl) fl_X12_65 (oV_r rfl (hrm (49, 9, 54) (by decide))) dX12_goPart_16 ?_
  refine lv_iload_n hx hb dX12_goPart_19 rfl (lv_at hl 0 rfl) ?_
  refine r_iald C hw (hsh 54 _ rfl) (by omega) (by omega) dX12_goPart_20 (ti_c (ig5 (B + 54) z1.toInt.toNat).toInt rfl fun z6 hz6 => ?_)
  rw [Ft.i hF 54 _ (by decide)] at hz6
  try simp only [ei] at hz6
  refine z_ne (tgt := 31) hx hb dX12_goPart_21 (by decide) (fun c21 => ?_) (fun c21 => ?_)
  · refine lv_aload_n hx hb dX12_goPart_31 rfl (lv_at hl 1 rfl) ?_
    refine r_get C hw (hsh 49 _ rfl) fl_X12_65 (oV_r rfl (hrm (49, 9, 54) (by decide))) dX12_goPart_32 ?_
    refine lv_iload_n hx hb dX12_goPart_35 rfl (lv_at hl 0 rfl) ?_
    refine r_iald C hw (hsh 54 _ rfl) (by omega) (by omega) dX12_goPart_36 (ti_c (ig5 (B + 54) z1.toInt.toNat).toInt rfl fun z8 hz8 => ?_)
    rw [Ft.i hF 54 _ (by decide)] at hz8
    try simp only [ei] at hz8
    refine lv_iconst (v := 3) hx hb dX12_goPart_37 (by decide) (ti_c 3 (by decide) fun z10 hz10 => ?_)
    refine b_ne (tgt := 62) hx hb dX12_goPart_38 (by decide) (fun c38 => ?_) (fun c38 => ?_)
    · refine lv_aload_n hx hb dX12_goPart_62 rfl (lv_at hl 1 rfl) ?_
      refine r_get C hw (hsh 49 _ rfl) fl_X12_65 (oV_r rfl (hrm (49, 9, 54) (by decide))) dX12_goPart_63 ?_
      refine lv_iload_n hx hb dX12_goPart_66 rfl (lv_at hl 0 rfl) ?_
      refine r_iald C hw (hsh 54 _ rfl) (by omega) (by omega) dX12_goPart_67 (ti_c (ig5 (B + 54) z1.toInt.toNat).toInt rfl fun z11 hz11 => ?_)
      rw [Ft.i hF 54 _ (by decide)] at hz11
      try simp only [ei] at hz11
      refine lv_iconst (v := 2) hx hb dX12_goPart_68 (by decide) (ti_c 2 (by decide) fun z13 hz13 => ?_)
      refine b_ne (tgt := 91) hx hb dX12_goPart_69 (by decide) (fun c69 => ?_) (fun c69 => ?_)
      · refine lv_aload_n hx hb dX12_goPart_91 rfl (lv_at hl 1 rfl) ?_
        refine r_get C hw (hsh 49 _ rfl) fl_X12_68 (oV_r rfl (hrm (49, 10, 55) (by decide))) dX12_goPart_92 ?_
        refine lv_iload_n hx hb dX12_goPart_95 rfl (lv_at hl 0 rfl) ?_
        refine r_iald C hw (hsh 55 _ rfl) (by omega) (by omega) dX12_goPart_96 (ti_c (ig5 (B + 55) z1.toInt.toNat).toInt rfl fun z14 hz14 => ?_)
        rw [Ft.i hF 55 _ (by decide)] at hz14
        try simp only [ei] at hz14
        refine lv_bipush (v := 45) hx hb dX12_goPart_97 (by decide) (ti_c 45 (by decide) fun z16 hz16 => ?_)
        refine b_ne (tgt := 108) hx hb dX12_goPart_99 (by decide) (fun c99 => ?_) (fun c99 => ?_)
        · obtain ⟨d1, m1, hd1, hg1, hm1, hm2, ej⟩ := gPart.inv40 hg (show mK B ig i ≠ 0 by show (ig (B + 54) i).toInt ≠ 0; omega) (show mK B ig i ≠ 3 by show (ig (B + 54) i).toInt ≠ 3; omega) (show mK B ig i ≠ 2 by show (ig (B + 54) i).toInt ≠ 2; omega) (show mA B ig i ≠ 45 by show (ig (B + 55) i).toInt ≠ 45; omega)
          subst hd1
          obtain ⟨hP, hE⟩ := hrec d1 rfl
          have hlt := hg1.lt
          refine lv_aload_n hx hb dX12_goPart_108 rfl (lv_at hl 1 rfl) ?_
          refine r_callV (As := []) (rest := []) C hw (hE kd ig5 rg lg _  (i + 1) m1 (by rw [Ft.K hF (by decide), Ft.A hF (by decide)]; exact hg1) (by omega) (fun k q1 q2 => Ft.R hF (by decide) (by decide) (by decide) (hR k (by omega) (by omega))) (by omega) (Or.inr ⟨by rw [Ft.K hF (by decide)]; exact hm1, by rw [Ft.A hF (by decide)]; exact hm2⟩) hI) sv_X12_250 (hsh 49 _ rfl) rfl hl.1 rfl (Nat.le_of_ble_eq_true rfl) ⟨by simp only [rL]; omega, by simp only [rL]; omega⟩ ⟨Nat.le_of_ble_eq_true rfl, Nat.le_of_ble_eq_true rfl⟩ dX12_goPart_109 (fun r21 kd17 ig18 rg19 lg20 H locs hw hH hp22 => ?_)
          obtain ⟨rfl, rfl, hI, hchp22, hrhp22⟩ := hp22
          have hF : Ft B [49] ig lg ig18 lg20 := Ft.tr hF hchp22 (by decide) (by decide)
          obtain ⟨z23, rfl, hz23⟩ := hrhp22
          refine lv_istore_n (lv' := [(2, .int z23), (1, .int z1), (0, .ref (B + 49))]) hx hb dX12_goPart_112 rfl hl (by decide) rfl (fun ls hl => ?_)
          refine lv_aload_n hx hb dX12_goPart_113 rfl (lv_at hl 2 rfl) ?_
          refine lv_dup hx hb dX12_goPart_114 rfl ?_
          refine r_get C hw (hsh 49 _ rfl) fl_X12_241 (oV_i rfl) dX12_goPart_115 (ti_c (ig18 (B + 49) 31).toInt rfl fun z24 hz24 => ?_)
          refine lv_iconst (v := 1) hx hb dX12_goPart_118 (by decide) (ti_c 1 (by decide) fun z25 hz25 => ?_)
          refine lv_iadd hx hb dX12_goPart_119 (tc_add fun z26 hz26 => ?_)
          first | replace hz26 := hz26 (by omega) | clear hz26
          refine r_puti C hw (hsh 49 _ rfl) fl_X12_241 rfl rfl rfl dX12_goPart_120 (fun H locs hH hw => ?_)
          obtain ⟨ig27, eig27⟩ : ∃ f, f = up2 ig18 (B + 49) 31 z26 := ⟨_, rfl⟩
          rw [← eig27] at hw
          have hF : Ft B [49] ig lg ig27 lg20 := by rw [eig27]; exact hF.pi (by decide)
          have hI : IM τ φ υ B kd ig27 rg := by rw [eig27]; exact hI.pi (by decide) (show okR none _ from trivial)
          have wig27 : (ig27 (B + 49) 31).toInt = z26.toInt := by rw [eig27, up2_eq]
          have wig27_49_32 : (ig27 (B + 49) 32).toInt = (ig18 (B + 49) 32).toInt := by rw [eig27, up2_j (by decide)]
          refine lv_iload_n hx hb dX12_goPart_123 rfl (lv_at hl 0 rfl) ?_
          exact r_iret C hw hr hlk rfl (Nat.le_of_ble_eq_true rfl) (Nat.le_of_ble_eq_true rfl) dX12_goPart_124 ⟨rfl, rfl, hI, hF, ⟨_, rfl, by omega⟩⟩
        · obtain ⟨d1, hd1, hg1⟩ := gPart.inv45 hg (show mK B ig i ≠ 0 by show (ig (B + 54) i).toInt ≠ 0; omega) (show mK B ig i ≠ 3 by show (ig (B + 54) i).toInt ≠ 3; omega) (show mK B ig i ≠ 2 by show (ig (B + 54) i).toInt ≠ 2; omega) (show mA B ig i = 45 by show (ig (B + 55) i).toInt = 45; omega)
          subst hd1
          obtain ⟨hP, hE⟩ := hrec d1 rfl
          have hlt := gPart.lt d1 _ _ hg1
          refine lv_aload_n hx hb dX12_goPart_102 rfl (lv_at hl 1 rfl) ?_
          refine r_callV (As := []) (rest := []) C hw (hP kd ig5 rg lg _  (i + 1) j (by rw [Ft.K hF (by decide), Ft.A hF (by decide)]; exact hg1) (by omega) (fun k q1 q2 => Ft.R hF (by decide) (by decide) (by decide) (hR k (by omega) (by omega))) (by omega) hI) sv_X12_276 (hsh 49 _ rfl) rfl hl.1 rfl (Nat.le_of_ble_eq_true rfl) ⟨by simp only [rL]; omega, by simp only [rL]; omega⟩ ⟨Nat.le_of_ble_eq_true rfl, Nat.le_of_ble_eq_true rfl⟩ dX12_goPart_103 (fun r32 kd28 ig29 rg30 lg31 H locs hw hH hp33 => ?_)
          obtain ⟨rfl, rfl, hI, hchp33, hrhp33⟩ := hp33
          have hF : Ft B [49] ig lg ig29 lg31 := Ft.tr hF hchp33 (by decide) (by decide)
          obtain ⟨z34, rfl, hz34⟩ := hrhp33
          refine lv_ineg hx hb dX12_goPart_106 (ti_any fun z35 => ?_)
          exact r_iret C hw hr hlk rfl (Nat.le_of_ble_eq_true rfl) (Nat.le_of_ble_eq_true rfl) dX12_goPart_107 ⟨rfl, rfl, hI, hF, ⟨_, rfl, by omega⟩⟩
      · obtain ⟨hs, ej⟩ := gPart.inv2 hg (show mK B ig i = 2 by show (ig (B + 54) i).toInt = 2; omega)
        have ra : ((0 ≤ (ig (B + 55) (i + 2)).toInt ∧ (ig (B + 55) (i + 2)).toInt < 12) ∧ 0 ≤ (ig (B + 56) (i + 2)).toInt ∧ (ig (B + 56) (i + 2)).toInt < 24) := hR (i + 2) (by omega) (by omega) hs.2.2.1
        have rb : ((0 ≤ (ig (B + 55) (i + 4)).toInt ∧ (ig (B + 55) (i + 4)).toInt < 12) ∧ 0 ≤ (ig (B + 56) (i + 4)).toInt ∧ (ig (B + 56) (i + 4)).toInt < 24) := hR (i + 4) (by omega) (by omega) hs.2.2.2.2.1
        refine lv_aload_n hx hb dX12_goPart_72 rfl (lv_at hl 1 rfl) ?_
        refine lv_iload_n hx hb dX12_goPart_73 rfl (lv_at hl 0 rfl) ?_
        refine lv_bipush (v := 6) hx hb dX12_goPart_74 (by decide) (ti_c 6 (by decide) fun z36 hz36 => ?_)
        refine lv_iadd hx hb dX12_goPart_76 (tc_add fun z37 hz37 => ?_)
        first | replace hz37 := hz37 (by omega) | clear hz37
        refine r_puti C hw (hsh 49 _ rfl) fl_X12_241 rfl rfl rfl dX12_goPart_77 (fun H locs hH hw => ?_)
        obtain ⟨ig38, eig38⟩ : ∃ f, f = up2 ig5 (B + 49) 31 z37 := ⟨_, rfl⟩
        rw [← eig38] at hw
        have hF : Ft B [49] ig lg ig38 lg := by rw [eig38]; exact hF.pi (by decide)
        have hI : IM τ φ υ B kd ig38 rg := by rw [eig38]; exact hI.pi (by decide) (show okR none _ from trivial)
        have wig38 : (ig38 (B + 49) 31).toInt = z37.toInt := by rw [eig38, up2_eq]
        have wig38_49_32 : (ig38 (B + 49) 32).toInt = (ig5 (B + 49) 32).toInt := by rw [eig38, up2_j (by decide)]
        refine lv_aload_n hx hb dX12_goPart_80 rfl (lv_at hl 1 rfl) ?_
        refine lv_iload_n hx hb dX12_goPart_81 rfl (lv_at hl 0 rfl) ?_
        refine lv_iconst (v := 2) hx hb dX12_goPart_82 (by decide) (ti_c 2 (by decide) fun z39 hz39 => ?_)
        refine lv_iadd hx hb dX12_goPart_83 (tc_add fun z40 hz40 => ?_)
        first | replace hz40 := hz40 (by omega) | clear hz40
        refine lv_iload_n hx hb dX12_goPart_84 rfl (lv_at hl 0 rfl) ?_
        refine lv_iconst (v := 4) hx hb dX12_goPart_85 (by decide) (ti_c 4 (by decide) fun z41 hz41 => ?_)
        refine lv_iadd hx hb dX12_goPart_86 (tc_add fun z42 hz42 => ?_)
        first | replace hz42 := hz42 (by omega) | clear hz42
        refine r_callV (As := [.int z40, .int z42]) (rest := []) C hw (t_X12_sumOf l B D cA kd ig38 rg lg _ z40 z42 (by omega) (by omega) (by rw [show z40.toInt.toNat = i + 2 by omega, Ft.i hF 55 _ (by decide), Ft.i hF 56 _ (by decide)]; exact ra) (by rw [show z42.toInt.toNat = i + 4 by omega, Ft.i hF 55 _ (by decide), Ft.i hF 56 _ (by decide)]; exact rb) hI) sv_X12_283 (hsh 49 _ rfl) rfl hl.1 rfl (Nat.le_of_ble_eq_true rfl) ⟨by simp only [rL]; omega, by simp only [rL]; omega⟩ ⟨Nat.le_of_ble_eq_true rfl, Nat.le_of_ble_eq_true rfl⟩ dX12_goPart_87 (fun r47 kd43 ig44 rg45 lg46 H locs hw hH hp48 => ?_)
        obtain ⟨rfl, rfl, hI, hchp48, hrhp48⟩ := hp48
        have hF : Ft B [49] ig lg ig44 lg46 := Ft.tr hF hchp48 (by decide) (by decide)
        obtain ⟨z49, rfl, hz49⟩ := hrhp48
        exact r_iret C hw hr hlk rfl (Nat.le_of_ble_eq_true rfl) (Nat.le_of_ble_eq_true rfl) dX12_goPart_90 ⟨rfl, rfl, hI, hF, ⟨_, rfl, by omega⟩⟩
    · have ej := gPart.inv3 hg (show mK B ig i = 3 by show (ig (B + 54) i).toInt = 3; omega)
      have rr : ((0 ≤ (ig (B + 55) i).toInt ∧ (ig (B + 55) i).toInt < 12) ∧ 0 ≤ (ig (B + 56) i).toInt ∧ (ig (B + 56) i).toInt < 24) := hR i (Nat.le_refl _) (by omega) (show mK B ig i = 3 by show (ig (B + 54) i).toInt = 3; omega)
      refine lv_aload_n hx hb dX12_goPart_41 rfl (lv_at hl 1 rfl) ?_
      refine lv_bipush (v := 12) hx hb dX12_goPart_42 (by decide) (ti_c 12 (by decide) fun z50 hz50 => ?_)
      refine lv_aload_n hx hb dX12_goPart_44 rfl (lv_at hl 1 rfl) ?_
      refine r_get C hw (hsh 49 _ rfl) fl_X12_71 (oV_r rfl (hrm (49, 11, 56) (by decide))) dX12_goPart_45 ?_
      refine lv_iload_n hx hb dX12_goPart_48 rfl (lv_at hl 0 rfl) ?_
      refine r_iald C hw (hsh 56 _ rfl) (by omega) (by omega) dX12_goPart_49 (ti_c (ig5 (B + 56) z1.toInt.toNat).toInt rfl fun z51 hz51 => ?_)
      rw [Ft.i hF 56 _ (by decide)] at hz51
      try simp only [ei] at hz51
      refine lv_imul hx hb dX12_goPart_50 (tc_mulL 12 hz50 fun z53 hz53 => ?_)
      first | replace hz53 := hz53 (by omega) | clear hz53
      refine lv_aload_n hx hb dX12_goPart_51 rfl (lv_at hl 1 rfl) ?_
      refine r_get C hw (hsh 49 _ rfl) fl_X12_68 (oV_r rfl (hrm (49, 10, 55) (by decide))) dX12_goPart_52 ?_
      refine lv_iload_n hx hb dX12_goPart_55 rfl (lv_at hl 0 rfl) ?_
      refine r_iald C hw (hsh 55 _ rfl) (by omega) (by omega) dX12_goPart_56 (ti_c (ig5 (B + 55) z1.toInt.toNat).toInt rfl fun z54 hz54 => ?_)
      rw [Ft.i hF 55 _ (by decide)] at hz54
      try simp only [ei] at hz54
      refine lv_iadd hx hb dX12_goPart_57 (tc_add fun z56 hz56 => ?_)
      first | replace hz56 := hz56 (by omega) | clear hz56
      refine r_callV (As := [.int z56]) (rest := []) C hw (t_X12_meets l B D cA kd ig5 rg lg _ z56 (by omega) hI) sv_X12_279 (hsh 49 _ rfl) rfl hl.1 rfl (Nat.le_of_ble_eq_true rfl) ⟨by simp only [rL]; omega, by simp only [rL]; omega⟩ ⟨Nat.le_of_ble_eq_true rfl, Nat.le_of_ble_eq_true rfl⟩ dX12_goPart_58 (fun r61 kd57 ig58 rg59 lg60 H locs hw hH hp62 => ?_)
      obtain ⟨rfl, rfl, hI, hchp62, hrhp62⟩ := hp62
      have hF : Ft B [49] ig lg ig58 lg60 := Ft.tr hF hchp62 (by decide) (by decide)
      obtain ⟨z63, rfl, hz63⟩ := hrhp62
      exact r_iret C hw hr hlk rfl (Nat.le_of_ble_eq_true rfl) (Nat.le_of_ble_eq_true rfl) dX12_goPart_61 ⟨rfl, rfl, hI, hF, ⟨_, rfl, by omega⟩⟩
  · have ej := gPart.inv0 hg (show mK B ig i = 0 by show (ig (B + 54) i).toInt = 0; omega)
    refine lv_aload_n hx hb dX12_goPart_24 rfl (lv_at hl 1 rfl) ?_
    refine r_get C hw (hsh 49 _ rfl) fl_X12_68 (oV_r rfl (hrm (49, 10, 55) (by decide))) dX12_goPart_25 ?_
    refine lv_iload_n hx hb dX12_goPart_28 rfl (lv_at hl 0 rfl) ?_
    refine r_iald C hw (hsh 55 _ rfl) (by omega) (by omega) dX12_goPart_29 (ti_c (ig5 (B + 55) z1.toInt.toNat).toInt rfl fun z64 hz64 => ?_)
    rw [Ft.i hF 55 _ (by decide)] at hz64
    try simp only [ei] at hz64
    exact r_iret C hw hr hlk rfl (Nat.le_of_ble_eq_true rfl) (Nat.le_of_ble_eq_true rfl) dX12_goPart_30 ⟨rfl, rfl, hI, hF, ⟨_, rfl, by omega⟩⟩

set_option maxHeartbeats 4000000 in
set_option maxRecDepth 100000 in
theorem t_X12_goProduct {υ : Option Int} {τ : Tp} {φ : Option Int} (l : Launch) (B : Nat) (D : va_G) (cA : Nat → ClassId) (kd : sK) (ig : sI) (rg : sR) (lg : sG) (sz : Nat) (d i j : Nat) (hP : RX12_goPart τ φ υ l B D cA d) (hg : gProd (mK B ig) (mA B ig) d i j) (hgo : (ig (B + 49) 31).toInt = (i : Int)) (hR : ∀ k, i ≤ k → k < j → rOk B ig k) (hj : j ≤ 37000 ∧ (j : Int) ≤ (ig (B + 49) 32).toInt ∧ (ig (B + 49) 32).toInt ≤ 37080) (hla : ((j : Int) = (ig (B + 49) 32).toInt ∨ (mK B ig j = 1 ∧ (mA B ig j = 41 ∨ mA B ig j = 43 ∨ mA B ig j = 45)))) (hI : IM τ φ υ B kd ig rg) : MC l B D cA yX12_goProduct cX12_goProduct 4 (some .int) (rL (3 * d + 4) 0 0) [.ref (B + 49)] kd ig rg lg sz (PM τ φ υ B [49] kd ig rg lg (fun r ig' lg' => ∃ z : Int32, r = some (.int z) ∧ ((ig' (B + 49) 31).toInt = (j : Int) ∧ (ig' (B + 49) 32).toInt = (ig (B + 49) 32).toInt))) := by
  refine MC.of (own := RX12) (by decide +kernel) rfl (Nat.le_of_ble_eq_true rfl) ?_
  intro p e s m args below meth c ls C hr hlk hnm hw hsz hl
  have hx := C.1.1
  have hb := C.1.2.1
  have hown := C.1.2.2.2.1
  have hts := C.1.2.2.2.2
  have hl : lv_has ls 4 [(0, .ref (B + 49))] := hl
  have hF : Ft B [49] ig lg ig lg := Ft.rf
  have hsh := hI.sh
  have hrm := hI.rm
  obtain ⟨n0, hch0⟩ := hg
  have hF0 := hF
  obtain ⟨m0, hp0, hm0a, hm0b, hm0c⟩ := gCh.first (fun i j => gPart.lt d i j) hch0
  have hd0 : 0 < d := by rcases d with _ | d; exact hp0.elim; omega
  refine lv_aload_n hx hb dX12_goProduct_0 rfl (lv_at hl 0 rfl) ?_
  refine r_callV (As := []) (rest := []) C hw (hP kd ig rg lg _  i m0 (by rw [Ft.K hF (by decide), Ft.A hF (by decide)]; exact hp0) (by omega) (fun k q1 q2 => Ft.R hF (by decide) (by decide) (by decide) (hR k (by omega) (by omega))) (by omega) hI) sv_X12_276 (hsh 49 _ rfl) rfl hl.1 rfl (Nat.le_of_ble_eq_true rfl) ⟨by simp only [rL]; omega, by simp only [rL]; omega⟩ ⟨Nat.le_of_ble_eq_true rfl, Nat.le_of_ble_eq_true rfl⟩ dX12_goProduct_1 (fun r5 kd1 ig2 rg3 lg4 H locs hw hH hp6 => ?_)
  obtain ⟨rfl, rfl, hI, hchp6, hrhp6⟩ := hp6
  have hF : Ft B [49] ig lg ig2 lg4 := Ft.tr hF hchp6 (by decide) (by decide)
  obtain ⟨z7, rfl, hz7⟩ := hrhp6
  refine lv_istore_n (lv' := [(1, .int z7), (0, .ref (B + 49))]) hx hb dX12_goProduct_4 rfl hl (by decide) rfl (fun ls hl => ?_)
  have L5 : ∀ (n : Nat) (ls : Array Slot) (H : Heap) (locs : List Loc) (ig9 : sI) (lg10 : sG) (v8 : Int32), lv_has ls 4 [(1, .int v8), (0, .ref (B + 49))] → WD B D cA s.heap kd ig9 rg lg10 H locs → IM τ φ υ B kd ig9 rg → Ft B [49] ig lg ig9 lg10 → (∃ m : Nat, (ig9 (B + 49) 31).toInt = (m : Int) ∧ i < m ∧ m ≤ j ∧ (m = j ∨ (sMul (mK B ig) (mA B ig) m ∧ m + 1 < j ∧ ∃ n, gCh (gPart (mK B ig) (mA B ig) d) (sMul (mK B ig) (mA B ig)) n (m + 1) j))) → (0 ≤ (ig9 (B + 49) 31).toInt) → ((ig9 (B + 49) 31).toInt ≤ (j : Int)) → ((ig9 (B + 49) 32).toInt = (ig (B + 49) 32).toInt) → (j : Int) - (ig9 (B + 49) 31).toInt < (n : Int) → W p l e (rL (3 * d + 4) 0 0) s m args below meth c H locs 0 0 (MQ below (QcW B D cA (PM τ φ υ B [49] kd ig rg lg (fun r ig' lg' => ∃ z : Int32, r = some (.int z) ∧ ((ig' (B + 49) 31).toInt = (j : Int) ∧ (ig' (B + 49) 32).toInt = (ig (B + 49) 32).toInt)))) args s 0 0 (fun q => B ≤ q)) (F0 m 5 ls []) := by
    intro n5
    induction n5 with
    | zero => intro ls H locs ig9 lg10 v8 hl hw hI hF g5_0 g5_1 g5_2 g5_3 hmu; exact absurd hmu (by omega)
    | succ n5 ih5 =>
      intro ls H locs ig9 lg10 v8 hl hw hI hF g5_0 g5_1 g5_2 g5_3 hmu
      obtain ⟨m1, em1, hm1a, hm1b, hm1c⟩ := g5_0
      refine lv_aload_n hx hb dX12_goProduct_5 rfl (lv_at hl 1 rfl) ?_
      refine lv_bipush (v := 42) hx hb dX12_goProduct_6 (by decide) (ti_c 42 (by decide) fun z11 hz11 => ?_)
      refine r_callV (As := [.int z11]) (rest := []) C hw (t_X12_isNext l B D cA kd ig9 rg lg10 _ z11 (by omega) hI) sv_X12_273 (hsh 49 _ rfl) rfl hl.1 rfl (Nat.le_of_ble_eq_true rfl) ⟨by simp only [rL]; omega, by simp only [rL]; omega⟩ ⟨Nat.le_of_ble_eq_true rfl, Nat.le_of_ble_eq_true rfl⟩ dX12_goProduct_8 (fun r16 kd12 ig13 rg14 lg15 H locs hw hH hp17 => ?_)
      obtain ⟨rfl, rfl, rfl, rfl, hzhp17, hrhp17⟩ := hp17
      obtain ⟨z18, rfl, hz18⟩ := hrhp17
      rw [Ft.i hF 54 _ (by decide), Ft.i hF 55 _ (by decide)] at hz18
      simp only [em1, Int.toNat_natCast] at hz18
      refine z_ne (tgt := 23) hx hb dX12_goProduct_11 (by decide) (fun c11 => ?_) (fun c11 => ?_)
      · have hcs : sMul (mK B ig) (mA B ig) m1 ∧ m1 + 1 < j ∧ ∃ n, gCh (gPart (mK B ig) (mA B ig) d) (sMul (mK B ig) (mA B ig)) n (m1 + 1) j := by
          rcases hm1c with q | hc
          · exfalso
            subst q
            rcases hla with q | ⟨q1, q2⟩
            · omega
            · have q3 : (ig (B + 55) m1).toInt = 41 ∨ (ig (B + 55) m1).toInt = 43 ∨ (ig (B + 55) m1).toInt = 45 := q2
              omega
          · exact hc
        obtain ⟨hsd, hsl, n1, hch1⟩ := hcs
        obtain ⟨m2, hp2, hm2a, hm2b, hm2c⟩ := gCh.first (fun i j => gPart.lt d i j) hch1
        refine lv_aload_n hx hb dX12_goProduct_23 rfl (lv_at hl 1 rfl) ?_
        refine lv_bipush (v := 42) hx hb dX12_goProduct_24 (by decide) (ti_c 42 (by decide) fun z19 hz19 => ?_)
        refine r_callV (As := [.int z19]) (rest := []) C hw (t_X12_isNext l B D cA kd ig9 rg lg10 _ z19 (by omega) hI) sv_X12_273 (hsh 49 _ rfl) rfl hl.1 rfl (Nat.le_of_ble_eq_true rfl) ⟨by simp only [rL]; omega, by simp only [rL]; omega⟩ ⟨Nat.le_of_ble_eq_true rfl, Nat.le_of_ble_eq_true rfl⟩ dX12_goProduct_26 (fun r24 kd20 ig21 rg22 lg23 H locs hw hH hp25 => ?_)
        obtain ⟨rfl, rfl, rfl, rfl, hzhp25, hrhp25⟩ := hp25
        obtain ⟨z26, rfl, hz26⟩ := hrhp25
        rw [Ft.i hF 54 _ (by decide), Ft.i hF 55 _ (by decide)] at hz26
        simp only [em1, Int.toNat_natCast] at hz26
        refine lv_istore_n (lv' := [(2, .int z26), (1, .int v8), (0, .ref (B + 49))]) hx hb dX12_goProduct_29 rfl hl (by decide) rfl (fun ls hl => ?_)
        refine lv_aload_n hx hb dX12_goProduct_30 rfl (lv_at hl 2 rfl) ?_
        refine lv_dup hx hb dX12_goProduct_31 rfl ?_
        refine r_get C hw (hsh 49 _ rfl) fl_X12_241 (oV_i rfl) dX12_goProduct_32 (ti_c (ig9 (B + 49) 31).toInt rfl fun z27 hz27 => ?_)
        refine lv_iconst (v := 1) hx hb dX12_goProduct_35 (by decide) (ti_c 1 (by decide) fun z28 hz28 => ?_)
        refine lv_iadd hx hb dX12_goProduct_36 (tc_add fun z29 hz29 => ?_)
        first | replace hz29 := hz29 (by omega) | clear hz29
        refine r_puti C hw (hsh 49 _ rfl) fl_X12_241 rfl rfl rfl dX12_goProduct_37 (fun H locs hH hw => ?_)
        obtain ⟨ig30, eig30⟩ : ∃ f, f = up2 ig9 (B + 49) 31 z29 := ⟨_, rfl⟩
        rw [← eig30] at hw
        have hF : Ft B [49] ig lg ig30 lg10 := by rw [eig30]; exact hF.pi (by decide)
        have hI : IM τ φ υ B kd ig30 rg := by rw [eig30]; exact hI.pi (by decide) (show okR none _ from trivial)
        have wig30 : (ig30 (B + 49) 31).toInt = z29.toInt := by rw [eig30, up2_eq]
        have wig30_49_32 : (ig30 (B + 49) 32).toInt = (ig9 (B + 49) 32).toInt := by rw [eig30, up2_j (by decide)]
        refine lv_aload_n hx hb dX12_goProduct_40 rfl (lv_at hl 2 rfl) ?_
        refine r_callV (As := []) (rest := []) C hw (hP kd ig30 rg lg10 _  (m1 + 1) m2 (by rw [Ft.K hF (by decide), Ft.A hF (by decide)]; exact hp2) (by omega) (fun k q1 q2 => Ft.R hF (by decide) (by decide) (by decide) (hR k (by omega) (by omega))) (by omega) hI) sv_X12_276 (hsh 49 _ rfl) rfl hl.1 rfl (Nat.le_of_ble_eq_true rfl) ⟨by simp only [rL]; omega, by simp only [rL]; omega⟩ ⟨Nat.le_of_ble_eq_true rfl, Nat.le_of_ble_eq_true rfl⟩ dX12_goProduct_41 (fun r35 kd31 ig32 rg33 lg34 H locs hw hH hp36 => ?_)
        obtain ⟨rfl, rfl, hI, hchp36, hrhp36⟩ := hp36
        have hF : Ft B [49] ig lg ig32 lg34 := Ft.tr hF hchp36 (by decide) (by decide)
        obtain ⟨z37, rfl, hz37⟩ := hrhp36
        refine lv_istore_n (lv' := [(3, .int z37), (2, .int z26), (1, .int v8), (0, .ref (B + 49))]) hx hb dX12_goProduct_44 rfl hl (by decide) rfl (fun ls hl => ?_)
        refine lv_iload_n hx hb dX12_goProduct_45 rfl (lv_at hl 1 rfl) ?_
        refine z_ne (tgt := 65) hx hb dX12_goProduct_46 (by decide) (fun c46 => ?_) (fun c46 => ?_)
        · refine lv_iload_n hx hb dX12_goProduct_65 rfl (lv_at hl 1 rfl) ?_
          refine z_eq (tgt := 75) hx hb dX12_goProduct_66 (by decide) (fun c66 => ?_) (fun c66 => ?_)
          · refine lv_iload_n hx hb dX12_goProduct_75 rfl (lv_at hl 0 rfl) ?_
            refine z_ne (tgt := 83) hx hb dX12_goProduct_76 (by decide) (fun c76 => ?_) (fun c76 => ?_)
            · refine lv_iload_n hx hb dX12_goProduct_83 rfl (lv_at hl 2 rfl) ?_
              refine lv_iload_n hx hb dX12_goProduct_84 rfl (lv_at hl 0 rfl) ?_
              refine lv_idiv hx hb dX12_goProduct_85 (ne0_of (by omega)) (ti_any fun z38 => ?_)
              refine lv_istore_n (lv' := [(1, .int z38), (3, .int z37), (2, .int z26), (0, .ref (B + 49))]) hx hb dX12_goProduct_86 rfl hl (by decide) rfl (fun ls hl => ?_)
              refine lv_goto (tgt := 5) hx hb dX12_goProduct_87 (by decide) ?_
              exact ih5 ls H locs ig32 lg34 z38 (lv_sub hl [0, 3] rfl) hw hI hF (⟨m2, by omega, by omega, hm2b, hm2c⟩) (by omega) (by omega) (by omega) (by omega)
            · refine lv_iconst (v := 0) hx hb dX12_goProduct_79 (by decide) (ti_c 0 (by decide) fun z39 hz39 => ?_)
              refine lv_goto (tgt := 86) hx hb dX12_goProduct_80 (by decide) ?_
              refine lv_istore_n (lv' := [(1, .int z39), (3, .int z37), (2, .int z26), (0, .ref (B + 49))]) hx hb dX12_goProduct_86 rfl hl (by decide) rfl (fun ls hl => ?_)
              refine lv_goto (tgt := 5) hx hb dX12_goProduct_87 (by decide) ?_
              exact ih5 ls H locs ig32 lg34 z39 (lv_sub hl [0, 3] rfl) hw hI hF (⟨m2, by omega, by omega, hm2b, hm2c⟩) (by omega) (by omega) (by omega) (by omega)
          · refine lv_iload_n hx hb dX12_goProduct_69 rfl (lv_at hl 2 rfl) ?_
            refine lv_iload_n hx hb dX12_goProduct_70 rfl (lv_at hl 0 rfl) ?_
            refine lv_imul hx hb dX12_goProduct_71 (ti_any fun z40 => ?_)
            refine lv_goto (tgt := 86) hx hb dX12_goProduct_72 (by decide) ?_
            refine lv_istore_n (lv' := [(1, .int z40), (3, .int z37), (2, .int z26), (0, .ref (B + 49))]) hx hb dX12_goProduct_86 rfl hl (by decide) rfl (fun ls hl => ?_)
            refine lv_goto (tgt := 5) hx hb dX12_goProduct_87 (by decide) ?_
            exact ih5 ls H locs ig32 lg34 z40 (lv_sub hl [0, 3] rfl) hw hI hF (⟨m2, by omega, by omega, hm2b, hm2c⟩) (by omega) (by omega) (by omega) (by omega)
        · refine lv_iload_n hx hb dX12_goProduct_49 rfl (lv_at hl 0 rfl) ?_
          refine z_ne (tgt := 65) hx hb dX12_goProduct_50 (by decide) (fun c50 => ?_) (fun c50 => ?_)
          · refine lv_iload_n hx hb dX12_goProduct_65 rfl (lv_at hl 1 rfl) ?_
            refine z_eq (tgt := 75) hx hb dX12_goProduct_66 (by decide) (fun c66 => ?_) (fun c66 => ?_)
            · refine lv_iload_n hx hb dX12_goProduct_75 rfl (lv_at hl 0 rfl) ?_
              refine z_ne (tgt := 83) hx hb dX12_goProduct_76 (by decide) (fun c76 => ?_) (fun c76 => ?_)
              · refine lv_iload_n hx hb dX12_goProduct_83 rfl (lv_at hl 2 rfl) ?_
                refine lv_iload_n hx hb dX12_goProduct_84 rfl (lv_at hl 0 rfl) ?_
                refine lv_idiv hx hb dX12_goProduct_85 (ne0_of (by omega)) (ti_any fun z41 => ?_)
                refine lv_istore_n (lv' := [(1, .int z41), (3, .int z37), (2, .int z26), (0, .ref (B + 49))]) hx hb dX12_goProduct_86 rfl hl (by decide) rfl (fun ls hl => ?_)
                refine lv_goto (tgt := 5) hx hb dX12_goProduct_87 (by decide) ?_
                exact ih5 ls H locs ig32 lg34 z41 (lv_sub hl [0, 3] rfl) hw hI hF (⟨m2, by omega, by omega, hm2b, hm2c⟩) (by omega) (by omega) (by omega) (by omega)
              · refine lv_iconst (v := 0) hx hb dX12_goProduct_79 (by decide) (ti_c 0 (by decide) fun z42 hz42 => ?_)
                refine lv_goto (tgt := 86) hx hb dX12_goProduct_80 (by decide) ?_
                refine lv_istore_n (lv' := [(1, .int z42), (3, .int z37), (2, .int z26), (0, .ref (B + 49))]) hx hb dX12_goProduct_86 rfl hl (by decide) rfl (fun ls hl => ?_)
                refine lv_goto (tgt := 5) hx hb dX12_goProduct_87 (by decide) ?_
                exact ih5 ls H locs ig32 lg34 z42 (lv_sub hl [0, 3] rfl) hw hI hF (⟨m2, by omega, by omega, hm2b, hm2c⟩) (by omega) (by omega) (by omega) (by omega)
            · refine lv_iload_n hx hb dX12_goProduct_69 rfl (lv_at hl 2 rfl) ?_
              refine lv_iload_n hx hb dX12_goProduct_70 rfl (lv_at hl 0 rfl) ?_
              refine lv_imul hx hb dX12_goProduct_71 (ti_any fun z43 => ?_)
              refine lv_goto (tgt := 86) hx hb dX12_goProduct_72 (by decide) ?_
              refine lv_istore_n (lv' := [(1, .int z43), (3, .int z37), (2, .int z26), (0, .ref (B + 49))]) hx hb dX12_goProduct_86 rfl hl (by decide) rfl (fun ls hl => ?_)
              refine lv_goto (tgt := 5) hx hb dX12_goProduct_87 (by decide) ?_
              exact ih5 ls H locs ig32 lg34 z43 (lv_sub hl [0, 3] rfl) hw hI hF (⟨m2, by omega, by omega, hm2b, hm2c⟩) (by omega) (by omega) (by omega) (by omega)
          · refine lv_aload_n hx hb dX12_goProduct_53 rfl (lv_at hl 3 rfl) ?_
            refine r_get C hw (hsh 49 _ rfl) fl_X12_247 (oV_i rfl) dX12_goProduct_54 (ti_c (ig32 (B + 49) 33).toInt rfl fun z44 hz44 => ?_)
            refine z_ne (tgt := 65) hx hb dX12_goProduct_57 (by decide) (fun c57 => ?_) (fun c57 => ?_)
            · refine lv_iload_n hx hb dX12_goProduct_65 rfl (lv_at hl 1 rfl) ?_
              refine z_eq (tgt := 75) hx hb dX12_goProduct_66 (by decide) (fun c66 => ?_) (fun c66 => ?_)
              · refine lv_iload_n hx hb dX12_goProduct_75 rfl (lv_at hl 0 rfl) ?_
                refine z_ne (tgt := 83) hx hb dX12_goProduct_76 (by decide) (fun c76 => ?_) (fun c76 => ?_)
                · refine lv_iload_n hx hb dX12_goProduct_83 rfl (lv_at hl 2 rfl) ?_
                  refine lv_iload_n hx hb dX12_goProduct_84 rfl (lv_at hl 0 rfl) ?_
                  refine lv_idiv hx hb dX12_goProduct_85 (ne0_of (by omega)) (ti_any fun z45 => ?_)
                  refine lv_istore_n (lv' := [(1, .int z45), (3, .int z37), (2, .int z26), (0, .ref (B + 49))]) hx hb dX12_goProduct_86 rfl hl (by decide) rfl (fun ls hl => ?_)
                  refine lv_goto (tgt := 5) hx hb dX12_goProduct_87 (by decide) ?_
                  exact ih5 ls H locs ig32 lg34 z45 (lv_sub hl [0, 3] rfl) hw hI hF (⟨m2, by omega, by omega, hm2b, hm2c⟩) (by omega) (by omega) (by omega) (by omega)
                · refine lv_iconst (v := 0) hx hb dX12_goProduct_79 (by decide) (ti_c 0 (by decide) fun z46 hz46 => ?_)
                  refine lv_goto (tgt := 86) hx hb dX12_goProduct_80 (by decide) ?_
                  refine lv_istore_n (lv' := [(1, .int z46), (3, .int z37), (2, .int z26), (0, .ref (B + 49))]) hx hb dX12_goProduct_86 rfl hl (by decide) rfl (fun ls hl => ?_)
                  refine lv_goto (tgt := 5) hx hb dX12_goProduct_87 (by decide) ?_
                  exact ih5 ls H locs ig32 lg34 z46 (lv_sub hl [0, 3] rfl) hw hI hF (⟨m2, by omega, by omega, hm2b, hm2c⟩) (by omega) (by omega) (by omega) (by omega)
              · refine lv_iload_n hx hb dX12_goProduct_69 rfl (lv_at hl 2 rfl) ?_
                refine lv_iload_n hx hb dX12_goProduct_70 rfl (lv_at hl 0 rfl) ?_
                refine lv_imul hx hb dX12_goProduct_71 (ti_any fun z47 => ?_)
                refine lv_goto (tgt := 86) hx hb dX12_goProduct_72 (by decide) ?_
                refine lv_istore_n (lv' := [(1, .int z47), (3, .int z37), (2, .int z26), (0, .ref (B + 49))]) hx hb dX12_goProduct_86 rfl hl (by decide) rfl (fun ls hl => ?_)
                refine lv_goto (tgt := 5) hx hb dX12_goProduct_87 (by decide) ?_
                exact ih5 ls H locs ig32 lg34 z47 (lv_sub hl [0, 3] rfl) hw hI hF (⟨m2, by omega, by omega, hm2b, hm2c⟩) (by omega) (by omega) (by omega) (by omega)
            · refine lv_aload_n hx hb dX12_goProduct_60 rfl (lv_at hl 3 rfl) ?_
              refine lv_iconst (v := 1) hx hb dX12_goProduct_61 (by decide) (ti_c 1 (by decide) fun z48 hz48 => ?_)
              refine r_puti C hw (hsh 49 _ rfl) fl_X12_247 rfl rfl rfl dX12_goProduct_62 (fun H locs hH hw => ?_)
              obtain ⟨ig49, eig49⟩ : ∃ f, f = up2 ig32 (B + 49) 33 z48 := ⟨_, rfl⟩
              rw [← eig49] at hw
              have hF : Ft B [49] ig lg ig49 lg34 := by rw [eig49]; exact hF.pi (by decide)
              have hI : IM τ φ υ B kd ig49 rg := by rw [eig49]; exact hI.pi (by decide) (show okR none _ from trivial)
              have wig49_49_31 : (ig49 (B + 49) 31).toInt = (ig32 (B + 49) 31).toInt := by rw [eig49, up2_j (by decide)]
              have wig49_49_32 : (ig49 (B + 49) 32).toInt = (ig32 (B + 49) 32).toInt := by rw [eig49, up2_j (by decide)]
              refine lv_iload_n hx hb dX12_goProduct_65 rfl (lv_at hl 1 rfl) ?_
              refine z_eq (tgt := 75) hx hb dX12_goProduct_66 (by decide) (fun c66 => ?_) (fun c66 => ?_)
              · refine lv_iload_n hx hb dX12_goProduct_75 rfl (lv_at hl 0 rfl) ?_
                refine z_ne (tgt := 83) hx hb dX12_goProduct_76 (by decide) (fun c76 => ?_) (fun c76 => ?_)
                · refine lv_iload_n hx hb dX12_goProduct_83 rfl (lv_at hl 2 rfl) ?_
                  refine lv_iload_n hx hb dX12_goProduct_84 rfl (lv_at hl 0 rfl) ?_
                  refine lv_idiv hx hb dX12_goProduct_85 (ne0_of (by omega)) (ti_any fun z50 => ?_)
                  refine lv_istore_n (lv' := [(1, .int z50), (3, .int z37), (2, .int z26), (0, .ref (B + 49))]) hx hb dX12_goProduct_86 rfl hl (by decide) rfl (fun ls hl => ?_)
                  refine lv_goto (tgt := 5) hx hb dX12_goProduct_87 (by decide) ?_
                  exact ih5 ls H locs ig49 lg34 z50 (lv_sub hl [0, 3] rfl) hw hI hF (⟨m2, by omega, by omega, hm2b, hm2c⟩) (by omega) (by omega) (by omega) (by omega)
                · refine lv_iconst (v := 0) hx hb dX12_goProduct_79 (by decide) (ti_c 0 (by decide) fun z51 hz51 => ?_)
                  refine lv_goto (tgt := 86) hx hb dX12_goProduct_80 (by decide) ?_
                  refine lv_istore_n (lv' := [(1, .int z51), (3, .int z37), (2, .int z26), (0, .ref (B + 49))]) hx hb dX12_goProduct_86 rfl hl (by decide) rfl (fun ls hl => ?_)
                  refine lv_goto (tgt := 5) hx hb dX12_goProduct_87 (by decide) ?_
                  exact ih5 ls H locs ig49 lg34 z51 (lv_sub hl [0, 3] rfl) hw hI hF (⟨m2, by omega, by omega, hm2b, hm2c⟩) (by omega) (by omega) (by omega) (by omega)
              · refine lv_iload_n hx hb dX12_goProduct_69 rfl (lv_at hl 2 rfl) ?_
                refine lv_iload_n hx hb dX12_goProduct_70 rfl (lv_at hl 0 rfl) ?_
                refine lv_imul hx hb dX12_goProduct_71 (ti_any fun z52 => ?_)
                refine lv_goto (tgt := 86) hx hb dX12_goProduct_72 (by decide) ?_
                refine lv_istore_n (lv' := [(1, .int z52), (3, .int z37), (2, .int z26), (0, .ref (B + 49))]) hx hb dX12_goProduct_86 rfl hl (by decide) rfl (fun ls hl => ?_)
                refine lv_goto (tgt := 5) hx hb dX12_goProduct_87 (by decide) ?_
                exact ih5 ls H locs ig49 lg34 z52 (lv_sub hl [0, 3] rfl) hw hI hF (⟨m2, by omega, by omega, hm2b, hm2c⟩) (by omega) (by omega) (by omega) (by omega)
      · refine lv_aload_n hx hb dX12_goProduct_14 rfl (lv_at hl 1 rfl) ?_
        refine lv_bipush (v := 47) hx hb dX12_goProduct_15 (by decide) (ti_c 47 (by decide) fun z53 hz53 => ?_)
        refine r_callV (As := [.int z53]) (rest := []) C hw (t_X12_isNext l B D cA kd ig9 rg lg10 _ z53 (by omega) hI) sv_X12_273 (hsh 49 _ rfl) rfl hl.1 rfl (Nat.le_of_ble_eq_true rfl) ⟨by simp only [rL]; omega, by simp only [rL]; omega⟩ ⟨Nat.le_of_ble_eq_true rfl, Nat.le_of_ble_eq_true rfl⟩ dX12_goProduct_17 (fun r58 kd54 ig55 rg56 lg57 H locs hw hH hp59 => ?_)
        obtain ⟨rfl, rfl, rfl, rfl, hzhp59, hrhp59⟩ := hp59
        obtain ⟨z60, rfl, hz60⟩ := hrhp59
        rw [Ft.i hF 54 _ (by decide), Ft.i hF 55 _ (by decide)] at hz60
        simp only [em1, Int.toNat_natCast] at hz60
        refine z_eq (tgt := 90) hx hb dX12_goProduct_20 (by decide) (fun c20 => ?_) (fun c20 => ?_)
        · have em : m1 = j := by rcases hm1c with q | ⟨⟨q1, q2⟩, q3, -⟩; exact q; exfalso; have q4 : (ig (B + 54) m1).toInt = 1 := q1; have q5 : (ig (B + 55) m1).toInt = 42 ∨ (ig (B + 55) m1).toInt = 47 := q2; omega
          refine lv_iload_n hx hb dX12_goProduct_90 rfl (lv_at hl 0 rfl) ?_
          exact r_iret C hw hr hlk rfl (Nat.le_of_ble_eq_true rfl) (Nat.le_of_ble_eq_true rfl) dX12_goProduct_91 ⟨rfl, rfl, hI, hF, ⟨_, rfl, by omega⟩⟩
        · have hcs : sMul (mK B ig) (mA B ig) m1 ∧ m1 + 1 < j ∧ ∃ n, gCh (gPart (mK B ig) (mA B ig) d) (sMul (mK B ig) (mA B ig)) n (m1 + 1) j := by
            rcases hm1c with q | hc
            · exfalso
              subst q
              rcases hla with q | ⟨q1, q2⟩
              · omega
              · have q3 : (ig (B + 55) m1).toInt = 41 ∨ (ig (B + 55) m1).toInt = 43 ∨ (ig (B + 55) m1).toInt = 45 := q2
                omega
            · exact hc
          obtain ⟨hsd, hsl, n1, hch1⟩ := hcs
          obtain ⟨m2, hp2, hm2a, hm2b, hm2c⟩ := gCh.first (fun i j => gPart.lt d i j) hch1
          refine lv_aload_n hx hb dX12_goProduct_23 rfl (lv_at hl 1 rfl) ?_
          refine lv_bipush (v := 42) hx hb dX12_goProduct_24 (by decide) (ti_c 42 (by decide) fun z61 hz61 => ?_)
          refine r_callV (As := [.int z61]) (rest := []) C hw (t_X12_isNext l B D cA kd ig9 rg lg10 _ z61 (by omega) hI) sv_X12_273 (hsh 49 _ rfl) rfl hl.1 rfl (Nat.le_of_ble_eq_true rfl) ⟨by simp only [rL]; omega, by simp only [rL]; omega⟩ ⟨Nat.le_of_ble_eq_true rfl, Nat.le_of_ble_eq_true rfl⟩ dX12_goProduct_26 (fun r66 kd62 ig63 rg64 lg65 H locs hw hH hp67 => ?_)
          obtain ⟨rfl, rfl, rfl, rfl, hzhp67, hrhp67⟩ := hp67
          obtain ⟨z68, rfl, hz68⟩ := hrhp67
          rw [Ft.i hF 54 _ (by decide), Ft.i hF 55 _ (by decide)] at hz68
          simp only [em1, Int.toNat_natCast] at hz68
          refine lv_istore_n (lv' := [(2, .int z68), (1, .int v8), (0, .ref (B + 49))]) hx hb dX12_goProduct_29 rfl hl (by decide) rfl (fun ls hl => ?_)
          refine lv_aload_n hx hb dX12_goProduct_30 rfl (lv_at hl 2 rfl) ?_
          refine lv_dup hx hb dX12_goProduct_31 rfl ?_
          refine r_get C hw (hsh 49 _ rfl) fl_X12_241 (oV_i rfl) dX12_goProduct_32 (ti_c (ig9 (B + 49) 31).toInt rfl fun z69 hz69 => ?_)
          refine lv_iconst (v := 1) hx hb dX12_goProduct_35 (by decide) (ti_c 1 (by decide) fun z70 hz70 => ?_)
          refine lv_iadd hx hb dX12_goProduct_36 (tc_add fun z71 hz71 => ?_)
          first | replace hz71 := hz71 (by omega) | clear hz71
          refine r_puti C hw (hsh 49 _ rfl) fl_X12_241 rfl rfl rfl dX12_goProduct_37 (fun H locs hH hw => ?_)
          obtain ⟨ig72, eig72⟩ : ∃ f, f = up2 ig9 (B + 49) 31 z71 := ⟨_, rfl⟩
          rw [← eig72] at hw
          have hF : Ft B [49] ig lg ig72 lg10 := by rw [eig72]; exact hF.pi (by decide)
          have hI : IM τ φ υ B kd ig72 rg := by rw [eig72]; exact hI.pi (by decide) (show okR none _ from trivial)
          have wig72 : (ig72 (B + 49) 31).toInt = z71.toInt := by rw [eig72, up2_eq]
          have wig72_49_32 : (ig72 (B + 49) 32).toInt = (ig9 (B + 49) 32).toInt := by rw [eig72, up2_j (by decide)]
          refine lv_aload_n hx hb dX12_goProduct_40 rfl (lv_at hl 2 rfl) ?_
          refine r_callV (As := []) (rest := []) C hw (hP kd ig72 rg lg10 _  (m1 + 1) m2 (by rw [Ft.K hF (by decide), Ft.A hF (by decide)]; exact hp2) (by omega) (fun k q1 q2 => Ft.R hF (by decide) (by decide) (by decide) (hR k (by omega) (by omega))) (by omega) hI) sv_X12_276 (hsh 49 _ rfl) rfl hl.1 rfl (Nat.le_of_ble_eq_true rfl) ⟨by simp only [rL]; omega, by simp only [rL]; omega⟩ ⟨Nat.le_of_ble_eq_true rfl, Nat.le_of_ble_eq_true rfl⟩ dX12_goProduct_41 (fun r77 kd73 ig74 rg75 lg76 H locs hw hH hp78 => ?_)
          obtain ⟨rfl, rfl, hI, hchp78, hrhp78⟩ := hp78
          have hF : Ft B [49] ig lg ig74 lg76 := Ft.tr hF hchp78 (by decide) (by decide)
          obtain ⟨z79, rfl, hz79⟩ := hrhp78
          refine lv_istore_n (lv' := [(3, .int z79), (2, .int z68), (1, .int v8), (0, .ref (B + 49))]) hx hb dX12_goProduct_44 rfl hl (by decide) rfl (fun ls hl => ?_)
          refine lv_iload_n hx hb dX12_goProduct_45 rfl (lv_at hl 1 rfl) ?_
          refine z_ne (tgt := 65) hx hb dX12_goProduct_46 (by decide) (fun c46 => ?_) (fun c46 => ?_)
          · refine lv_iload_n hx hb dX12_goProduct_65 rfl (lv_at hl 1 rfl) ?_
            refine z_eq (tgt := 75) hx hb dX12_goProduct_66 (by decide) (fun c66 => ?_) (fun c66 => ?_)
            · refine lv_iload_n hx hb dX12_goProduct_75 rfl (lv_at hl 0 rfl) ?_
              refine z_ne (tgt := 83) hx hb dX12_goProduct_76 (by decide) (fun c76 => ?_) (fun c76 => ?_)
              · refine lv_iload_n hx hb dX12_goProduct_83 rfl (lv_at hl 2 rfl) ?_
                refine lv_iload_n hx hb dX12_goProduct_84 rfl (lv_at hl 0 rfl) ?_
                refine lv_idiv hx hb dX12_goProduct_85 (ne0_of (by omega)) (ti_any fun z80 => ?_)
                refine lv_istore_n (lv' := [(1, .int z80), (3, .int z79), (2, .int z68), (0, .ref (B + 49))]) hx hb dX12_goProduct_86 rfl hl (by decide) rfl (fun ls hl => ?_)
                refine lv_goto (tgt := 5) hx hb dX12_goProduct_87 (by decide) ?_
                exact ih5 ls H locs ig74 lg76 z80 (lv_sub hl [0, 3] rfl) hw hI hF (⟨m2, by omega, by omega, hm2b, hm2c⟩) (by omega) (by omega) (by omega) (by omega)
              · refine lv_iconst (v := 0) hx hb dX12_goProduct_79 (by decide) (ti_c 0 (by decide) fun z81 hz81 => ?_)
                refine lv_goto (tgt := 86) hx hb dX12_goProduct_80 (by decide) ?_
                refine lv_istore_n (lv' := [(1, .int z81), (3, .int z79), (2, .int z68), (0, .ref (B + 49))]) hx hb dX12_goProduct_86 rfl hl (by decide) rfl (fun ls hl => ?_)
                refine lv_goto (tgt := 5) hx hb dX12_goProduct_87 (by decide) ?_
                exact ih5 ls H locs ig74 lg76 z81 (lv_sub hl [0, 3] rfl) hw hI hF (⟨m2, by omega, by omega, hm2b, hm2c⟩) (by omega) (by omega) (by omega) (by omega)
            · refine lv_iload_n hx hb dX12_goProduct_69 rfl (lv_at hl 2 rfl) ?_
              refine lv_iload_n hx hb dX12_goProduct_70 rfl (lv_at hl 0 rfl) ?_
              refine lv_imul hx hb dX12_goProduct_71 (ti_any fun z82 => ?_)
              refine lv_goto (tgt := 86) hx hb dX12_goProduct_72 (by decide) ?_
              refine lv_istore_n (lv' := [(1, .int z82), (3, .int z79), (2, .int z68), (0, .ref (B + 49))]) hx hb dX12_goProduct_86 rfl hl (by decide) rfl (fun ls hl => ?_)
              refine lv_goto (tgt := 5) hx hb dX12_goProduct_87 (by decide) ?_
              exact ih5 ls H locs ig74 lg76 z82 (lv_sub hl [0, 3] rfl) hw hI hF (⟨m2, by omega, by omega, hm2b, hm2c⟩) (by omega) (by omega) (by omega) (by omega)
          · refine lv_iload_n hx hb dX12_goProduct_49 rfl (lv_at hl 0 rfl) ?_
            refine z_ne (tgt := 65) hx hb dX12_goProduct_50 (by decide) (fun c50 => ?_) (fun c50 => ?_)
            · refine lv_iload_n hx hb dX12_goProduct_65 rfl (lv_at hl 1 rfl) ?_
              refine z_eq (tgt := 75) hx hb dX12_goProduct_66 (by decide) (fun c66 => ?_) (fun c66 => ?_)
              · refine lv_iload_n hx hb dX12_goProduct_75 rfl (lv_at hl 0 rfl) ?_
                refine z_ne (tgt := 83) hx hb dX12_goProduct_76 (by decide) (fun c76 => ?_) (fun c76 => ?_)
                · refine lv_iload_n hx hb dX12_goProduct_83 rfl (lv_at hl 2 rfl) ?_
                  refine lv_iload_n hx hb dX12_goProduct_84 rfl (lv_at hl 0 rfl) ?_
                  refine lv_idiv hx hb dX12_goProduct_85 (ne0_of (by omega)) (ti_any fun z83 => ?_)
                  refine lv_istore_n (lv' := [(1, .int z83), (3, .int z79), (2, .int z68), (0, .ref (B + 49))]) hx hb dX12_goProduct_86 rfl hl (by decide) rfl (fun ls hl => ?_)
                  refine lv_goto (tgt := 5) hx hb dX12_goProduct_87 (by decide) ?_
                  exact ih5 ls H locs ig74 lg76 z83 (lv_sub hl [0, 3] rfl) hw hI hF (⟨m2, by omega, by omega, hm2b, hm2c⟩) (by omega) (by omega) (by omega) (by omega)
                · refine lv_iconst (v := 0) hx hb dX12_goProduct_79 (by decide) (ti_c 0 (by decide) fun z84 hz84 => ?_)
                  refine lv_goto (tgt := 86) hx hb dX12_goProduct_80 (by decide) ?_
                  refine lv_istore_n (lv' := [(1, .int z84), (3, .int z79), (2, .int z68), (0, .ref (B + 49))]) hx hb dX12_goProduct_86 rfl hl (by decide) rfl (fun ls hl => ?_)
                  refine lv_goto (tgt := 5) hx hb dX12_goProduct_87 (by decide) ?_
                  exact ih5 ls H locs ig74 lg76 z84 (lv_sub hl [0, 3] rfl) hw hI hF (⟨m2, by omega, by omega, hm2b, hm2c⟩) (by omega) (by omega) (by omega) (by omega)
              · refine lv_iload_n hx hb dX12_goProduct_69 rfl (lv_at hl 2 rfl) ?_
                refine lv_iload_n hx hb dX12_goProduct_70 rfl (lv_at hl 0 rfl) ?_
                refine lv_imul hx hb dX12_goProduct_71 (ti_any fun z85 => ?_)
                refine lv_goto (tgt := 86) hx hb dX12_goProduct_72 (by decide) ?_
                refine lv_istore_n (lv' := [(1, .int z85), (3, .int z79), (2, .int z68), (0, .ref (B + 49))]) hx hb dX12_goProduct_86 rfl hl (by decide) rfl (fun ls hl => ?_)
                refine lv_goto (tgt := 5) hx hb dX12_goProduct_87 (by decide) ?_
                exact ih5 ls H locs ig74 lg76 z85 (lv_sub hl [0, 3] rfl) hw hI hF (⟨m2, by omega, by omega, hm2b, hm2c⟩) (by omega) (by omega) (by omega) (by omega)
            · refine lv_aload_n hx hb dX12_goProduct_53 rfl (lv_at hl 3 rfl) ?_
              refine r_get C hw (hsh 49 _ rfl) fl_X12_247 (oV_i rfl) dX12_goProduct_54 (ti_c (ig74 (B + 49) 33).toInt rfl fun z86 hz86 => ?_)
              refine z_ne (tgt := 65) hx hb dX12_goProduct_57 (by decide) (fun c57 => ?_) (fun c57 => ?_)
              · refine lv_iload_n hx hb dX12_goProduct_65 rfl (lv_at hl 1 rfl) ?_
                refine z_eq (tgt := 75) hx hb dX12_goProduct_66 (by decide) (fun c66 => ?_) (fun c66 => ?_)
                · refine lv_iload_n hx hb dX12_goProduct_75 rfl (lv_at hl 0 rfl) ?_
                  refine z_ne (tgt := 83) hx hb dX12_goProduct_76 (by decide) (fun c76 => ?_) (fun c76 => ?_)
                  · refine lv_iload_n hx hb dX12_goProduct_83 rfl (lv_at hl 2 rfl) ?_
                    refine lv_iload_n hx hb dX12_goProduct_84 rfl (lv_at hl 0 rfl) ?_
                    refine lv_idiv hx hb dX12_goProduct_85 (ne0_of (by omega)) (ti_any fun z87 => ?_)
                    refine lv_istore_n (lv' := [(1, .int z87), (3, .int z79), (2, .int z68), (0, .ref (B + 49))]) hx hb dX12_goProduct_86 rfl hl (by decide) rfl (fun ls hl => ?_)
                    refine lv_goto (tgt := 5) hx hb dX12_goProduct_87 (by decide) ?_
                    exact ih5 ls H locs ig74 lg76 z87 (lv_sub hl [0, 3] rfl) hw hI hF (⟨m2, by omega, by omega, hm2b, hm2c⟩) (by omega) (by omega) (by omega) (by omega)
                  · refine lv_iconst (v := 0) hx hb dX12_goProduct_79 (by decide) (ti_c 0 (by decide) fun z88 hz88 => ?_)
                    refine lv_goto (tgt := 86) hx hb dX12_goProduct_80 (by decide) ?_
                    refine lv_istore_n (lv' := [(1, .int z88), (3, .int z79), (2, .int z68), (0, .ref (B + 49))]) hx hb dX12_goProduct_86 rfl hl (by decide) rfl (fun ls hl => ?_)
                    refine lv_goto (tgt := 5) hx hb dX12_goProduct_87 (by decide) ?_
                    exact ih5 ls H locs ig74 lg76 z88 (lv_sub hl [0, 3] rfl) hw hI hF (⟨m2, by omega, by omega, hm2b, hm2c⟩) (by omega) (by omega) (by omega) (by omega)
                · refine lv_iload_n hx hb dX12_goProduct_69 rfl (lv_at hl 2 rfl) ?_
                  refine lv_iload_n hx hb dX12_goProduct_70 rfl (lv_at hl 0 rfl) ?_
                  refine lv_imul hx hb dX12_goProduct_71 (ti_any fun z89 => ?_)
                  refine lv_goto (tgt := 86) hx hb dX12_goProduct_72 (by decide) ?_
                  refine lv_istore_n (lv' := [(1, .int z89), (3, .int z79), (2, .int z68), (0, .ref (B + 49))]) hx hb dX12_goProduct_86 rfl hl (by decide) rfl (fun ls hl => ?_)
                  refine lv_goto (tgt := 5) hx hb dX12_goProduct_87 (by decide) ?_
                  exact ih5 ls H locs ig74 lg76 z89 (lv_sub hl [0, 3] rfl) hw hI hF (⟨m2, by omega, by omega, hm2b, hm2c⟩) (by omega) (by omega) (by omega) (by omega)
              · refine lv_aload_n hx hb dX12_goProduct_60 rfl (lv_at hl 3 rfl) ?_
                refine lv_iconst (v := 1) hx hb dX12_goProduct_61 (by decide) (ti_c 1 (by decide) fun z90 hz90 => ?_)
                refine r_puti C hw (hsh 49 _ rfl) fl_X12_247 rfl rfl rfl dX12_goProduct_62 (fun H locs hH hw => ?_)
                obtain ⟨ig91, eig91⟩ : ∃ f, f = up2 ig74 (B + 49) 33 z90 := ⟨_, rfl⟩
                rw [← eig91] at hw
                have hF : Ft B [49] ig lg ig91 lg76 := by rw [eig91]; exact hF.pi (by decide)
                have hI : IM τ φ υ B kd ig91 rg := by rw [eig91]; exact hI.pi (by decide) (show okR none _ from trivial)
                have wig91_49_31 : (ig91 (B + 49) 31).toInt = (ig74 (B + 49) 31).toInt := by rw [eig91, up2_j (by decide)]
                have wig91_49_32 : (ig91 (B + 49) 32).toInt = (ig74 (B + 49) 32).toInt := by rw [eig91, up2_j (by decide)]
                refine lv_iload_n hx hb dX12_goProduct_65 rfl (lv_at hl 1 rfl) ?_
                refine z_eq (tgt := 75) hx hb dX12_goProduct_66 (by decide) (fun c66 => ?_) (fun c66 => ?_)
                · refine lv_iload_n hx hb dX12_goProduct_75 rfl (lv_at hl 0 rfl) ?_
                  refine z_ne (tgt := 83) hx hb dX12_goProduct_76 (by decide) (fun c76 => ?_) (fun c76 => ?_)
                  · refine lv_iload_n hx hb dX12_goProduct_83 rfl (lv_at hl 2 rfl) ?_
                    refine lv_iload_n hx hb dX12_goProduct_84 rfl (lv_at hl 0 rfl) ?_
                    refine lv_idiv hx hb dX12_goProduct_85 (ne0_of (by omega)) (ti_any fun z92 => ?_)
                    refine lv_istore_n (lv' := [(1, .int z92), (3, .int z79), (2, .int z68), (0, .ref (B + 49))]) hx hb dX12_goProduct_86 rfl hl (by decide) rfl (fun ls hl => ?_)
                    refine lv_goto (tgt := 5) hx hb dX12_goProduct_87 (by decide) ?_
                    exact ih5 ls H locs ig91 lg76 z92 (lv_sub hl [0, 3] rfl) hw hI hF (⟨m2, by omega, by omega, hm2b, hm2c⟩) (by omega) (by omega) (by omega) (by omega)
                  · refine lv_iconst (v := 0) hx hb dX12_goProduct_79 (by decide) (ti_c 0 (by decide) fun z93 hz93 => ?_)
                    refine lv_goto (tgt := 86) hx hb dX12_goProduct_80 (by decide) ?_
                    refine lv_istore_n (lv' := [(1, .int z93), (3, .int z79), (2, .int z68), (0, .ref (B + 49))]) hx hb dX12_goProduct_86 rfl hl (by decide) rfl (fun ls hl => ?_)
                    refine lv_goto (tgt := 5) hx hb dX12_goProduct_87 (by decide) ?_
                    exact ih5 ls H locs ig91 lg76 z93 (lv_sub hl [0, 3] rfl) hw hI hF (⟨m2, by omega, by omega, hm2b, hm2c⟩) (by omega) (by omega) (by omega) (by omega)
                · refine lv_iload_n hx hb dX12_goProduct_69 rfl (lv_at hl 2 rfl) ?_
                  refine lv_iload_n hx hb dX12_goProduct_70 rfl (lv_at hl 0 rfl) ?_
                  refine lv_imul hx hb dX12_goProduct_71 (ti_any fun z94 => ?_)
                  refine lv_goto (tgt := 86) hx hb dX12_goProduct_72 (by decide) ?_
                  refine lv_istore_n (lv' := [(1, .int z94), (3, .int z79), (2, .int z68), (0, .ref (B + 49))]) hx hb dX12_goProduct_86 rfl hl (by decide) rfl (fun ls hl => ?_)
                  refine lv_goto (tgt := 5) hx hb dX12_goProduct_87 (by decide) ?_
                  exact ih5 ls H locs ig91 lg76 z94 (lv_sub hl [0, 3] rfl) hw hI hF (⟨m2, by omega, by omega, hm2b, hm2c⟩) (by omega) (by omega) (by omega) (by omega)
  exact L5 (((j : Int) - (ig2 (B + 49) 31).toInt) + 1).toNat ls H locs ig2 lg4 z7 (lv_sub hl [0, 1] rfl) hw hI hF (⟨m0, by omega, by omega, hm0b, hm0c⟩) (by omega) (by omega) (by omega) (by omega)

set_option maxHeartbeats 4000000 in
set_option maxRecDepth 100000 in
theorem t_X12_goE {υ : Option Int} {τ : Tp} {φ : Option Int} (l : Launch) (B : Nat) (D : va_G) (cA : Nat → ClassId) (kd : sK) (ig : sI) (rg : sR) (lg : sG) (sz : Nat) (d i j : Nat) (hQ : RX12_goProduct τ φ υ l B D cA d) (hg : gE (mK B ig) (mA B ig) d i j) (hgo : (ig (B + 49) 31).toInt = (i : Int)) (hR : ∀ k, i ≤ k → k < j → rOk B ig k) (hj : j ≤ 37000 ∧ (j : Int) ≤ (ig (B + 49) 32).toInt ∧ (ig (B + 49) 32).toInt ≤ 37080) (hla : ((j : Int) = (ig (B + 49) 32).toInt ∨ (mK B ig j = 1 ∧ mA B ig j = 41))) (hI : IM τ φ υ B kd ig rg) : MC l B D cA yX12_goE cX12_goE 4 (some .int) (rL (3 * d + 5) 0 0) [.ref (B + 49)] kd ig rg lg sz (PM τ φ υ B [49] kd ig rg lg (fun r ig' lg' => ∃ z : Int32, r = some (.int z) ∧ ((ig' (B + 49) 31).toInt = (j : Int) ∧ (ig' (B + 49) 32).toInt = (ig (B + 49) 32).toInt))) := by
  refine MC.of (own := RX12) (by decide +kernel) rfl (Nat.le_of_ble_eq_true rfl) ?_
  intro p e s m args below meth c ls C hr hlk hnm hw hsz hl
  have hx := C.1.1
  have hb := C.1.2.1
  have hown := C.1.2.2.2.1
  have hts := C.1.2.2.2.2
  have hl : lv_has ls 4 [(0, .ref (B + 49))] := hl
  have hF : Ft B [49] ig lg ig lg := Ft.rf
  have hsh := hI.sh
  have hrm := hI.rm
  obtain ⟨n0, hch0⟩ := hg
  have hF0 := hF
  obtain ⟨m0, hp0, hm0a, hm0b, hm0c⟩ := gCh.first (fun i j => gProd.lt) hch0
  refine lv_aload_n hx hb dX12_goE_0 rfl (lv_at hl 0 rfl) ?_
  refine r_callV (As := []) (rest := []) C hw (hQ kd ig rg lg _  i m0 (by rw [Ft.K hF (by decide), Ft.A hF (by decide)]; exact hp0) (by omega) (fun k q1 q2 => Ft.R hF (by decide) (by decide) (by decide) (hR k (by omega) (by omega))) (by omega) (by rw [Ft.K hF (by decide), Ft.A hF (by decide)]; rcases hm0c with q | ⟨⟨q1, q2⟩, -⟩; (rw [q]; rcases hla with q | ⟨q1, q2⟩; exact Or.inl (by omega); exact Or.inr ⟨q1, Or.inl q2⟩); exact Or.inr ⟨q1, Or.inr q2⟩) hI) sv_X12_270 (hsh 49 _ rfl) rfl hl.1 rfl (Nat.le_of_ble_eq_true rfl) ⟨by simp only [rL]; omega, by simp only [rL]; omega⟩ ⟨Nat.le_of_ble_eq_true rfl, Nat.le_of_ble_eq_true rfl⟩ dX12_goE_1 (fun r5 kd1 ig2 rg3 lg4 H locs hw hH hp6 => ?_)
  obtain ⟨rfl, rfl, hI, hchp6, hrhp6⟩ := hp6
  have hF : Ft B [49] ig lg ig2 lg4 := Ft.tr hF hchp6 (by decide) (by decide)
  obtain ⟨z7, rfl, hz7⟩ := hrhp6
  refine lv_istore_n (lv' := [(1, .int z7), (0, .ref (B + 49))]) hx hb dX12_goE_4 rfl hl (by decide) rfl (fun ls hl => ?_)
  have L5 : ∀ (n : Nat) (ls : Array Slot) (H : Heap) (locs : List Loc) (ig9 : sI) (lg10 : sG) (v8 : Int32), lv_has ls 4 [(1, .int v8), (0, .ref (B + 49))] → WD B D cA s.heap kd ig9 rg lg10 H locs → IM τ φ υ B kd ig9 rg → Ft B [49] ig lg ig9 lg10 → (∃ m : Nat, (ig9 (B + 49) 31).toInt = (m : Int) ∧ i < m ∧ m ≤ j ∧ (m = j ∨ (sAdd (mK B ig) (mA B ig) m ∧ m + 1 < j ∧ ∃ n, gCh (gProd (mK B ig) (mA B ig) d) (sAdd (mK B ig) (mA B ig)) n (m + 1) j))) → (0 ≤ (ig9 (B + 49) 31).toInt) → ((ig9 (B + 49) 31).toInt ≤ (j : Int)) → ((ig9 (B + 49) 32).toInt = (ig (B + 49) 32).toInt) → (j : Int) - (ig9 (B + 49) 31).toInt < (n : Int) → W p l e (rL (3 * d + 5) 0 0) s m args below meth c H locs 0 0 (MQ below (QcW B D cA (PM τ φ υ B [49] kd ig rg lg (fun r ig' lg' => ∃ z : Int32, r = some (.int z) ∧ ((ig' (B + 49) 31).toInt = (j : Int) ∧ (ig' (B + 49) 32).toInt = (ig (B + 49) 32).toInt)))) args s 0 0 (fun q => B ≤ q)) (F0 m 5 ls []) := by
    intro n5
    induction n5 with
    | zero => intro ls H locs ig9 lg10 v8 hl hw hI hF g5_0 g5_1 g5_2 g5_3 hmu; exact absurd hmu (by omega)
    | succ n5 ih5 =>
      intro ls H locs ig9 lg10 v8 hl hw hI hF g5_0 g5_1 g5_2 g5_3 hmu
      obtain ⟨m1, em1, hm1a, hm1b, hm1c⟩ := g5_0
      refine lv_aload_n hx hb dX12_goE_5 rfl (lv_at hl 1 rfl) ?_
      refine lv_bipush (v := 43) hx hb dX12_goE_6 (by decide) (ti_c 43 (by decide) fun z11 hz11 => ?_)
      refine r_callV (As := [.int z11]) (rest := []) C hw (t_X12_isNext l B D cA kd ig9 rg lg10 _ z11 (by omega) hI) sv_X12_273 (hsh 49 _ rfl) rfl hl.1 rfl (Nat.le_of_ble_eq_true rfl) ⟨by simp only [rL]; omega, by simp only [rL]; omega⟩ ⟨Nat.le_of_ble_eq_true rfl, Nat.le_of_ble_eq_true rfl⟩ dX12_goE_8 (fun r16 kd12 ig13 rg14 lg15 H locs hw hH hp17 => ?_)
      obtain ⟨rfl, rfl, rfl, rfl, hzhp17, hrhp17⟩ := hp17
      obtain ⟨z18, rfl, hz18⟩ := hrhp17
      rw [Ft.i hF 54 _ (by decide), Ft.i hF 55 _ (by decide)] at hz18
      simp only [em1, Int.toNat_natCast] at hz18
      refine z_ne (tgt := 23) hx hb dX12_goE_11 (by decide) (fun c11 => ?_) (fun c11 => ?_)
      · have hcs : sAdd (mK B ig) (mA B ig) m1 ∧ m1 + 1 < j ∧ ∃ n, gCh (gProd (mK B ig) (mA B ig) d) (sAdd (mK B ig) (mA B ig)) n (m1 + 1) j := by
          rcases hm1c with q | hc
          · exfalso
            subst q
            rcases hla with q | ⟨q1, q2⟩
            · omega
            · have q3 : (ig (B + 55) m1).toInt = 41 := q2
              omega
          · exact hc
        obtain ⟨hsd, hsl, n1, hch1⟩ := hcs
        obtain ⟨m2, hp2, hm2a, hm2b, hm2c⟩ := gCh.first (fun i j => gProd.lt) hch1
        refine lv_aload_n hx hb dX12_goE_23 rfl (lv_at hl 1 rfl) ?_
        refine lv_bipush (v := 43) hx hb dX12_goE_24 (by decide) (ti_c 43 (by decide) fun z19 hz19 => ?_)
        refine r_callV (As := [.int z19]) (rest := []) C hw (t_X12_isNext l B D cA kd ig9 rg lg10 _ z19 (by omega) hI) sv_X12_273 (hsh 49 _ rfl) rfl hl.1 rfl (Nat.le_of_ble_eq_true rfl) ⟨by simp only [rL]; omega, by simp only [rL]; omega⟩ ⟨Nat.le_of_ble_eq_true rfl, Nat.le_of_ble_eq_true rfl⟩ dX12_goE_26 (fun r24 kd20 ig21 rg22 lg23 H locs hw hH hp25 => ?_)
        obtain ⟨rfl, rfl, rfl, rfl, hzhp25, hrhp25⟩ := hp25
        obtain ⟨z26, rfl, hz26⟩ := hrhp25
        rw [Ft.i hF 54 _ (by decide), Ft.i hF 55 _ (by decide)] at hz26
        simp only [em1, Int.toNat_natCast] at hz26
        refine lv_istore_n (lv' := [(2, .int z26), (1, .int v8), (0, .ref (B + 49))]) hx hb dX12_goE_29 rfl hl (by decide) rfl (fun ls hl => ?_)
        refine lv_aload_n hx hb dX12_goE_30 rfl (lv_at hl 2 rfl) ?_
        refine lv_dup hx hb dX12_goE_31 rfl ?_
        refine r_get C hw (hsh 49 _ rfl) fl_X12_241 (oV_i rfl) dX12_goE_32 (ti_c (ig9 (B + 49) 31).toInt rfl fun z27 hz27 => ?_)
        refine lv_iconst (v := 1) hx hb dX12_goE_35 (by decide) (ti_c 1 (by decide) fun z28 hz28 => ?_)
        refine lv_iadd hx hb dX12_goE_36 (tc_add fun z29 hz29 => ?_)
        first | replace hz29 := hz29 (by omega) | clear hz29
        refine r_puti C hw (hsh 49 _ rfl) fl_X12_241 rfl rfl rfl dX12_goE_37 (fun H locs hH hw => ?_)
        obtain ⟨ig30, eig30⟩ : ∃ f, f = up2 ig9 (B + 49) 31 z29 := ⟨_, rfl⟩
        rw [← eig30] at hw
        have hF : Ft B [49] ig lg ig30 lg10 := by rw [eig30]; exact hF.pi (by decide)
        have hI : IM τ φ υ B kd ig30 rg := by rw [eig30]; exact hI.pi (by decide) (show okR none _ from trivial)
        have wig30 : (ig30 (B + 49) 31).toInt = z29.toInt := by rw [eig30, up2_eq]
        have wig30_49_32 : (ig30 (B + 49) 32).toInt = (ig9 (B + 49) 32).toInt := by rw [eig30, up2_j (by decide)]
        refine lv_aload_n hx hb dX12_goE_40 rfl (lv_at hl 2 rfl) ?_
        refine r_callV (As := []) (rest := []) C hw (hQ kd ig30 rg lg10 _  (m1 + 1) m2 (by rw [Ft.K hF (by decide), Ft.A hF (by decide)]; exact hp2) (by omega) (fun k q1 q2 => Ft.R hF (by decide) (by decide) (by decide) (hR k (by omega) (by omega))) (by omega) (by rw [Ft.K hF (by decide), Ft.A hF (by decide)]; rcases hm2c with q | ⟨⟨q1, q2⟩, -⟩; (rw [q]; rcases hla with q | ⟨q1, q2⟩; exact Or.inl (by omega); exact Or.inr ⟨q1, Or.inl q2⟩); exact Or.inr ⟨q1, Or.inr q2⟩) hI) sv_X12_270 (hsh 49 _ rfl) rfl hl.1 rfl (Nat.le_of_ble_eq_true rfl) ⟨by simp only [rL]; omega, by simp only [rL]; omega⟩ ⟨Nat.le_of_ble_eq_true rfl, Nat.le_of_ble_eq_true rfl⟩ dX12_goE_41 (fun r35 kd31 ig32 rg33 lg34 H locs hw hH hp36 => ?_)
        obtain ⟨rfl, rfl, hI, hchp36, hrhp36⟩ := hp36
        have hF : Ft B [49] ig lg ig32 lg34 := Ft.tr hF hchp36 (by decide) (by decide)
        obtain ⟨z37, rfl, hz37⟩ := hrhp36
        refine lv_istore_n (lv' := [(3, .int z37), (2, .int z26), (1, .int v8), (0, .ref (B + 49))]) hx hb dX12_goE_44 rfl hl (by decide) rfl (fun ls hl => ?_)
        refine lv_iload_n hx hb dX12_goE_45 rfl (lv_at hl 1 rfl) ?_
        refine z_eq (tgt := 55) hx hb dX12_goE_46 (by decide) (fun c46 => ?_) (fun c46 => ?_)
        · refine lv_iload_n hx hb dX12_goE_55 rfl (lv_at hl 2 rfl) ?_
          refine lv_iload_n hx hb dX12_goE_56 rfl (lv_at hl 0 rfl) ?_
          refine lv_isub hx hb dX12_goE_57 (tc_sub fun z38 hz38 => ?_)
          first | replace hz38 := hz38 (by omega) | clear hz38
          refine lv_istore_n (lv' := [(1, .int z38), (3, .int z37), (2, .int z26), (0, .ref (B + 49))]) hx hb dX12_goE_58 rfl hl (by decide) rfl (fun ls hl => ?_)
          refine lv_goto (tgt := 5) hx hb dX12_goE_59 (by decide) ?_
          exact ih5 ls H locs ig32 lg34 z38 (lv_sub hl [0, 3] rfl) hw hI hF (⟨m2, by omega, by omega, hm2b, hm2c⟩) (by omega) (by omega) (by omega) (by omega)
        · refine lv_iload_n hx hb dX12_goE_49 rfl (lv_at hl 2 rfl) ?_
          refine lv_iload_n hx hb dX12_goE_50 rfl (lv_at hl 0 rfl) ?_
          refine lv_iadd hx hb dX12_goE_51 (tc_add fun z39 hz39 => ?_)
          first | replace hz39 := hz39 (by omega) | clear hz39
          refine lv_goto (tgt := 58) hx hb dX12_goE_52 (by decide) ?_
          refine lv_istore_n (lv' := [(1, .int z39), (3, .int z37), (2, .int z26), (0, .ref (B + 49))]) hx hb dX12_goE_58 rfl hl (by decide) rfl (fun ls hl => ?_)
          refine lv_goto (tgt := 5) hx hb dX12_goE_59 (by decide) ?_
          exact ih5 ls H locs ig32 lg34 z39 (lv_sub hl [0, 3] rfl) hw hI hF (⟨m2, by omega, by omega, hm2b, hm2c⟩) (by omega) (by omega) (by omega) (by omega)
      · refine lv_aload_n hx hb dX12_goE_14 rfl (lv_at hl 1 rfl) ?_
        refine lv_bipush (v := 45) hx hb dX12_goE_15 (by decide) (ti_c 45 (by decide) fun z40 hz40 => ?_)
        refine r_callV (As := [.int z40]) (rest := []) C hw (t_X12_isNext l B D cA kd ig9 rg lg10 _ z40 (by omega) hI) sv_X12_273 (hsh 49 _ rfl) rfl hl.1 rfl (Nat.le_of_ble_eq_true rfl) ⟨by simp only [rL]; omega, by simp only [rL]; omega⟩ ⟨Nat.le_of_ble_eq_true rfl, Nat.le_of_ble_eq_true rfl⟩ dX12_goE_17 (fun r45 kd41 ig42 rg43 lg44 H locs hw hH hp46 => ?_)
        obtain ⟨rfl, rfl, rfl, rfl, hzhp46, hrhp46⟩ := hp46
        obtain ⟨z47, rfl, hz47⟩ := hrhp46
        rw [Ft.i hF 54 _ (by decide), Ft.i hF 55 _ (by decide)] at hz47
        simp only [em1, Int.toNat_natCast] at hz47
        refine z_eq (tgt := 62) hx hb dX12_goE_20 (by decide) (fun c20 => ?_) (fun c20 => ?_)
        · have em : m1 = j := by rcases hm1c with q | ⟨⟨q1, q2⟩, q3, -⟩; exact q; exfalso; have q4 : (ig (B + 54) m1).toInt = 1 := q1; have q5 : (ig (B + 55) m1).toInt = 43 ∨ (ig (B + 55) m1).toInt = 45 := q2; omega
          refine lv_iload_n hx hb dX12_goE_62 rfl (lv_at hl 0 rfl) ?_
          exact r_iret C hw hr hlk rfl (Nat.le_of_ble_eq_true rfl) (Nat.le_of_ble_eq_true rfl) dX12_goE_63 ⟨rfl, rfl, hI, hF, ⟨_, rfl, by omega⟩⟩
        · have hcs : sAdd (mK B ig) (mA B ig) m1 ∧ m1 + 1 < j ∧ ∃ n, gCh (gProd (mK B ig) (mA B ig) d) (sAdd (mK B ig) (mA B ig)) n (m1 + 1) j := by
            rcases hm1c with q | hc
            · exfalso
              subst q
              rcases hla with q | ⟨q1, q2⟩
              · omega
              · have q3 : (ig (B + 55) m1).toInt = 41 := q2
                omega
            · exact hc
          obtain ⟨hsd, hsl, n1, hch1⟩ := hcs
          obtain ⟨m2, hp2, hm2a, hm2b, hm2c⟩ := gCh.first (fun i j => gProd.lt) hch1
          refine lv_aload_n hx hb dX12_goE_23 rfl (lv_at hl 1 rfl) ?_
          refine lv_bipush (v := 43) hx hb dX12_goE_24 (by decide) (ti_c 43 (by decide) fun z48 hz48 => ?_)
          refine r_callV (As := [.int z48]) (rest := []) C hw (t_X12_isNext l B D cA kd ig9 rg lg10 _ z48 (by omega) hI) sv_X12_273 (hsh 49 _ rfl) rfl hl.1 rfl (Nat.le_of_ble_eq_true rfl) ⟨by simp only [rL]; omega, by simp only [rL]; omega⟩ ⟨Nat.le_of_ble_eq_true rfl, Nat.le_of_ble_eq_true rfl⟩ dX12_goE_26 (fun r53 kd49 ig50 rg51 lg52 H locs hw hH hp54 => ?_)
          obtain ⟨rfl, rfl, rfl, rfl, hzhp54, hrhp54⟩ := hp54
          obtain ⟨z55, rfl, hz55⟩ := hrhp54
          rw [Ft.i hF 54 _ (by decide), Ft.i hF 55 _ (by decide)] at hz55
          simp only [em1, Int.toNat_natCast] at hz55
          refine lv_istore_n (lv' := [(2, .int z55), (1, .int v8), (0, .ref (B + 49))]) hx hb dX12_goE_29 rfl hl (by decide) rfl (fun ls hl => ?_)
          refine lv_aload_n hx hb dX12_goE_30 rfl (lv_at hl 2 rfl) ?_
          refine lv_dup hx hb dX12_goE_31 rfl ?_
          refine r_get C hw (hsh 49 _ rfl) fl_X12_241 (oV_i rfl) dX12_goE_32 (ti_c (ig9 (B + 49) 31).toInt rfl fun z56 hz56 => ?_)
          refine lv_iconst (v := 1) hx hb dX12_goE_35 (by decide) (ti_c 1 (by decide) fun z57 hz57 => ?_)
          refine lv_iadd hx hb dX12_goE_36 (tc_add fun z58 hz58 => ?_)
          first | replace hz58 := hz58 (by omega) | clear hz58
          refine r_puti C hw (hsh 49 _ rfl) fl_X12_241 rfl rfl rfl dX12_goE_37 (fun H locs hH hw => ?_)
          obtain ⟨ig59, eig59⟩ : ∃ f, f = up2 ig9 (B + 49) 31 z58 := ⟨_, rfl⟩
          rw [← eig59] at hw
          have hF : Ft B [49] ig lg ig59 lg10 := by rw [eig59]; exact hF.pi (by decide)
          have hI : IM τ φ υ B kd ig59 rg := by rw [eig59]; exact hI.pi (by decide) (show okR none _ from trivial)
          have wig59 : (ig59 (B + 49) 31).toInt = z58.toInt := by rw [eig59, up2_eq]
          have wig59_49_32 : (ig59 (B + 49) 32).toInt = (ig9 (B + 49) 32).toInt := by rw [eig59, up2_j (by decide)]
          refine lv_aload_n hx hb dX12_goE_40 rfl (lv_at hl 2 rfl) ?_
          refine r_callV (As := []) (rest := []) C hw (hQ kd ig59 rg lg10 _  (m1 + 1) m2 (by rw [Ft.K hF (by decide), Ft.A hF (by decide)]; exact hp2) (by omega) (fun k q1 q2 => Ft.R hF (by decide) (by decide) (by decide) (hR k (by omega) (by omega))) (by omega) (by rw [Ft.K hF (by decide), Ft.A hF (by decide)]; rcases hm2c with q | ⟨⟨q1, q2⟩, -⟩; (rw [q]; rcases hla with q | ⟨q1, q2⟩; exact Or.inl (by omega); exact Or.inr ⟨q1, Or.inl q2⟩); exact Or.inr ⟨q1, Or.inr q2⟩) hI) sv_X12_270 (hsh 49 _ rfl) rfl hl.1 rfl (Nat.le_of_ble_eq_true rfl) ⟨by simp only [rL]; omega, by simp only [rL]; omega⟩ ⟨Nat.le_of_ble_eq_true rfl, Nat.le_of_ble_eq_true rfl⟩ dX12_goE_41 (fun r64 kd60 ig61 rg62 lg63 H locs hw hH hp65 => ?_)
          obtain ⟨rfl, rfl, hI, hchp65, hrhp65⟩ := hp65
          have hF : Ft B [49] ig lg ig61 lg63 := Ft.tr hF hchp65 (by decide) (by decide)
          obtain ⟨z66, rfl, hz66⟩ := hrhp65
          refine lv_istore_n (lv' := [(3, .int z66), (2, .int z55), (1, .int v8), (0, .ref (B + 49))]) hx hb dX12_goE_44 rfl hl (by decide) rfl (fun ls hl => ?_)
          refine lv_iload_n hx hb dX12_goE_45 rfl (lv_at hl 1 rfl) ?_
          refine z_eq (tgt := 55) hx hb dX12_goE_46 (by decide) (fun c46 => ?_) (fun c46 => ?_)
          · refine lv_iload_n hx hb dX12_goE_55 rfl (lv_at hl 2 rfl) ?_
            refine lv_iload_n hx hb dX12_goE_56 rfl (lv_at hl 0 rfl) ?_
            refine lv_isub hx hb dX12_goE_57 (tc_sub fun z67 hz67 => ?_)
            first | replace hz67 := hz67 (by omega) | clear hz67
            refine lv_istore_n (lv' := [(1, .int z67), (3, .int z66), (2, .int z55), (0, .ref (B + 49))]) hx hb dX12_goE_58 rfl hl (by decide) rfl (fun ls hl => ?_)
            refine lv_goto (tgt := 5) hx hb dX12_goE_59 (by decide) ?_
            exact ih5 ls H locs ig61 lg63 z67 (lv_sub hl [0, 3] rfl) hw hI hF (⟨m2, by omega, by omega, hm2b, hm2c⟩) (by omega) (by omega) (by omega) (by omega)
          · refine lv_iload_n hx hb dX12_goE_49 rfl (lv_at hl 2 rfl) ?_
            refine lv_iload_n hx hb dX12_goE_50 rfl (lv_at hl 0 rfl) ?_
            refine lv_iadd hx hb dX12_goE_51 (tc_add fun z68 hz68 => ?_)
            first | replace hz68 := hz68 (by omega) | clear hz68
            refine lv_goto (tgt := 58) hx hb dX12_goE_52 (by decide) ?_
            refine lv_istore_n (lv' := [(1, .int z68), (3, .int z66), (2, .int z55), (0, .ref (B + 49))]) hx hb dX12_goE_58 rfl hl (by decide) rfl (fun ls hl => ?_)
            refine lv_goto (tgt := 5) hx hb dX12_goE_59 (by decide) ?_
            exact ih5 ls H locs ig61 lg63 z68 (lv_sub hl [0, 3] rfl) hw hI hF (⟨m2, by omega, by omega, hm2b, hm2c⟩) (by omega) (by omega) (by omega) (by omega)
  exact L5 (((j : Int) - (ig2 (B + 49) 31).toInt) + 1).toNat ls H locs ig2 lg4 z7 (lv_sub hl [0, 1] rfl) hw hI hF (⟨m0, by omega, by omega, hm0b, hm0c⟩) (by omega) (by omega) (by omega) (by omega)

theorem t_X12_goE_all {υ : Option Int} {τ : Tp} {φ : Option Int} (l : Launch) (B : Nat) (D : va_G) (cA : Nat → ClassId) : ∀ d, RX12_goPart τ φ υ l B D cA d ∧ RX12_goProduct τ φ υ l B D cA d ∧ RX12_goE τ φ υ l B D cA d := by
  intro d
  induction d with
  | zero =>
    have h1 : RX12_goPart τ φ υ l B D cA 0 := fun kd ig rg lg sz i j h1 h2 h3 h4 hI => t_X12_goPart l B D cA kd ig rg lg sz 0 i j (fun d1 h => by omega) h1 h2 h3 h4 hI
    have h2 : RX12_goProduct τ φ υ l B D cA 0 := fun kd ig rg lg sz i j q1 q2 q3 q4 q5 hI => t_X12_goProduct l B D cA kd ig rg lg sz 0 i j h1 q1 q2 q3 q4 q5 hI
    exact ⟨h1, h2, fun kd ig rg lg sz i j q1 q2 q3 q4 q5 hI => t_X12_goE l B D cA kd ig rg lg sz 0 i j h2 q1 q2 q3 q4 q5 hI⟩
  | succ d ih =>
    have h1 : RX12_goPart τ φ υ l B D cA (d + 1) := fun kd ig rg lg sz i j h1 h2 h3 h4 hI => t_X12_goPart l B D cA kd ig rg lg sz (d + 1) i j (fun d1 h => by cases h; exact ⟨ih.1, ih.2.2⟩) h1 h2 h3 h4 hI
    have h2 : RX12_goProduct τ φ υ l B D cA (d + 1) := fun kd ig rg lg sz i j q1 q2 q3 q4 q5 hI => t_X12_goProduct l B D cA kd ig rg lg sz (d + 1) i j h1 q1 q2 q3 q4 q5 hI
    exact ⟨h1, h2, fun kd ig rg lg sz i j q1 q2 q3 q4 q5 hI => t_X12_goE l B D cA kd ig rg lg sz (d + 1) i j h2 q1 q2 q3 q4 q5 hI⟩

def RX12_unitPart (τ : Tp) (φ υ : Option Int) (l : Launch) (B : Nat) (D : va_G) (cA : Nat → ClassId) (d : Nat) : Prop := ∀ (kd : sK) (ig : sI) (rg : sR) (lg : sG) (sz : Nat) (i j : Nat), gPart (mK B ig) (mA B ig) d i j → (ig (B + 49) 31).toInt = (i : Int) → (∀ k, i ≤ k → k < j → rOk B ig k) → (j ≤ 37000 ∧ (j : Int) ≤ (ig (B + 49) 32).toInt ∧ (ig (B + 49) 32).toInt ≤ 37080) → 0 ≤ (ig (B + 49) 35).toInt ∧ (ig (B + 49) 35).toInt + 6 * (d : Int) ≤ 90 → IM τ φ υ B kd ig rg → MC l B D cA yX12_unitPart cX12_unitPart 2 none (rL (3 * d + 3) 0 0) [.ref (B + 49)] kd ig rg lg sz (PM τ φ υ B [49, 74] kd ig rg lg (fun r ig' lg' => (r = none ∧ ((ig' (B + 49) 31).toInt = (j : Int) ∧ (ig' (B + 49) 35).toInt = (ig (B + 49) 35).toInt + 3 ∧ (ig' (B + 49) 32).toInt = (ig (B + 49) 32).toInt))))
def RX12_unitProduct (τ : Tp) (φ υ : Option Int) (l : Launch) (B : Nat) (D : va_G) (cA : Nat → ClassId) (d : Nat) : Prop := ∀ (kd : sK) (ig : sI) (rg : sR) (lg : sG) (sz : Nat) (i j : Nat), gProd (mK B ig) (mA B ig) d i j → (ig (B + 49) 31).toInt = (i : Int) → (∀ k, i ≤ k → k < j → rOk B ig k) → (j ≤ 37000 ∧ (j : Int) ≤ (ig (B + 49) 32).toInt ∧ (ig (B + 49) 32).toInt ≤ 37080) → ((j : Int) = (ig (B + 49) 32).toInt ∨ (mK B ig j = 1 ∧ (mA B ig j = 41 ∨ mA B ig j = 43 ∨ mA B ig j = 45))) → 0 ≤ (ig (B + 49) 35).toInt ∧ (ig (B + 49) 35).toInt + (6 * (d : Int) + 3) ≤ 90 → IM τ φ υ B kd ig rg → MC l B D cA yX12_unitProduct cX12_unitProduct 3 none (rL (3 * d + 4) 0 0) [.ref (B + 49)] kd ig rg lg sz (PM τ φ υ B [49, 74] kd ig rg lg (fun r ig' lg' => (r = none ∧ ((ig' (B + 49) 31).toInt = (j : Int) ∧ (ig' (B + 49) 35).toInt = (ig (B + 49) 35).toInt + 3 ∧ (ig' (B + 49) 32).toInt = (ig (B + 49) 32).toInt))))
def RX12_unitE (τ : Tp) (φ υ : Option Int) (l : Launch) (B : Nat) (D : va_G) (cA : Nat → ClassId) (d : Nat) : Prop := ∀ (kd : sK) (ig : sI) (rg : sR) (lg : sG) (sz : Nat) (i j : Nat), gE (mK B ig) (mA B ig) d i j → (ig (B + 49) 31).toInt = (i : Int) → (∀ k, i ≤ k → k < j → rOk B ig k) → (j ≤ 37000 ∧ (j : Int) ≤ (ig (B + 49) 32).toInt ∧ (ig (B + 49) 32).toInt ≤ 37080) → ((j : Int) = (ig (B + 49) 32).toInt ∨ (mK B ig j = 1 ∧ mA B ig j = 41)) → 0 ≤ (ig (B + 49) 35).toInt ∧ (ig (B + 49) 35).toInt + (6 * (d : Int) + 6) ≤ 90 → IM τ φ υ B kd ig rg → MC l B D cA yX12_unitE cX12_unitE 2 none (rL (3 * d + 5) 0 0) [.ref (B + 49)] kd ig rg lg sz (PM τ φ υ B [49, 74] kd ig rg lg (fun r ig' lg' => (r = none ∧ ((ig' (B + 49) 31).toInt = (j : Int) ∧ (ig' (B + 49) 35).toInt = (ig (B + 49) 35).toInt + 3 ∧ (ig' (B + 49) 32).toInt = (ig (B + 49) 32).toInt))))

set_option maxHeartbeats 4000000 in
set_option maxRecDepth 100000 in
theorem t_X12_unitPart {υ : Option Int} {τ : Tp} {φ : Option Int} (l : Launch) (B : Nat) (D : va_G) (cA : Nat → ClassId) (kd : sK) (ig : sI) (rg : sR) (lg : sG) (sz : Nat) (d i j : Nat) (hrec : ∀ d1, d = d1 + 1 → RX12_unitPart τ φ υ l B D cA d1 ∧ RX12_unitE τ φ υ l B D cA d1) (hg : gPart (mK B ig) (mA B ig) d i j) (hgo : (ig (B + 49) 31).toInt = (i : Int)) (hR : ∀ k, i ≤ k → k < j → rOk B ig k) (hj : j ≤ 37000 ∧ (j : Int) ≤ (ig (B + 49) 32).toInt ∧ (ig (B + 49) 32).toInt ≤ 37080) (ht : 0 ≤ (ig (B + 49) 35).toInt ∧ (ig (B + 49) 35).toInt + 6 * (d : Int) ≤ 90) (hI : IM τ φ υ B kd ig rg) : MC l B D cA yX12_unitPart cX12_unitPart 2 none (rL (3 * d + 3) 0 0) [.ref (B + 49)] kd ig rg lg sz (PM τ φ υ B [49, 74] kd ig rg lg (fun r ig' lg' => (r = none ∧ ((ig' (B + 49) 31).toInt = (j : Int) ∧ (ig' (B + 49) 35).toInt = (ig (B + 49) 35).toInt + 3 ∧ (ig' (B + 49) 32).toInt = (ig (B + 49) 32).toInt)))) := by
  refine MC.of (own := RX12) (by decide +kernel) rfl (Nat.le_of_ble_eq_true rfl) ?_
  intro p e s m args below meth c ls C hr hlk hnm hw hsz hl
  have hx := C.1.1
  have hb := C.1.2.1
  have hown := C.1.2.2.2.1
  have hts := C.1.2.2.2.2
  have hl : lv_has ls 2 [(0, .ref (B + 49))] := hl
  have hF : Ft B [49, 74] ig lg ig lg := Ft.rf
  have hsh := hI.sh
  have hrm := hI.rm
  have hd0 : 0 < d := by rcases d with _ | d; exact hg.elim; omega
  have hij := gPart.lt d i j hg
  refine lv_aload_n hx hb dX12_unitPart_0 rfl (lv_at hl 0 rfl) ?_
  refine r_get C hw (hsh 49 _ rfl) fl_X12_241 (oV_i rfl) dX12_unitPart_1 (ti_c (ig (B + 49) 31).toInt rfl fun z1 hz1 => ?_)
  refine lv_istore_n (lv' := [(1, .int z1), (0, .ref (B + 49))]) hx hb dX12_unitPart_4 rfl hl (by decide) rfl (fun ls hl => ?_)
  have ei : z1.toInt.toNat = i := by omega
  refine lv_aload_n hx hb dX12_unitPart_5 rfl (lv_at hl 1 rfl) ?_
  refine lv_dup hx hb dX12_unitPart_6 rfl ?_
  refine r_get C hw (hsh 49 _ rfl) fl_X12_241 (oV_i rfl) dX12_unitPart_7 (ti_c (ig (B + 49) 31).toInt rfl fun z2 hz2 => ?_)
  refine lv_iconst (v := 1) hx hb dX12_unitPart_10 (by decide) (ti_c 1 (by decide) fun z3 hz3 => ?_)
  refine lv_iadd hx hb dX12_unitPart_11 (tc_add fun z4 hz4 => ?_)
  first | replace hz4 := hz4 (by omega) | clear hz4
  refine r_puti C hw (hsh 49 _ rfl) fl_X12_241 rfl rfl rfl dX12_unitPart_12 (fun H locs hH hw => ?_)
  obtain ⟨ig5, eig5⟩ : ∃ f, f = up2 ig (B + 49) 31 z4 := ⟨_, rfl⟩
  rw [← eig5] at hw
  have hF : Ft B [49, 74] ig lg ig5 lg := by rw [eig5]; exact hF.pi (by decide)
  have hI : IM τ φ υ B kd ig5 rg := by rw [eig5]; exact hI.pi (by decide) (show okR none _ from trivial)
  have wig5 : (ig5 (B + 49) 31).toInt = z4.toInt := by rw [eig5, up2_eq]
  have wig5_49_32 : (ig5 (B + 49) 32).toInt = (ig (B + 49) 32).toInt := by rw [eig5, up2_j (by decide)]
  have wig5_49_35 : (ig5 (B + 49) 35).toInt = (ig (B + 49) 35).toInt := by rw [eig5, up2_j (by decide)]
  refine lv_aload_n hx hb dX12_unitPart_15 rfl (lv_at hl 1 rfl) ?_
  refine r_get C hw (hsh 49 _ rfl) fl_X12_65 (oV_r rfl (hrm (49, 9, 54) (by decide))) dX12_unitPart_16 ?_
  refine lv_iload_n hx hb dX12_unitPart_19 rfl (lv_at hl 0 rfl) ?_
  refine r_iald C hw (hsh 54 _ rfl) (by omega) (by omega) dX12_unitPart_20 (ti_c (ig5 (B + 54) z1.toInt.toNat).toInt rfl fun z6 hz6 => ?_)
  rw [Ft.i hF 54 _ (by decide)] at hz6
  try simp only [ei] at hz6
  refine z_ne (tgt := 34) hx hb dX12_unitPart_21 (by decide) (fun c21 => ?_) (fun c21 => ?_)
  · refine lv_aload_n hx hb dX12_unitPart_34 rfl (lv_at hl 1 rfl) ?_
    refine r_get C hw (hsh 49 _ rfl) fl_X12_65 (oV_r rfl (hrm (49, 9, 54) (by decide))) dX12_unitPart_35 ?_
    refine lv_iload_n hx hb dX12_unitPart_38 rfl (lv_at hl 0 rfl) ?_
    refine r_iald C hw (hsh 54 _ rfl) (by omega) (by omega) dX12_unitPart_39 (ti_c (ig5 (B + 54) z1.toInt.toNat).toInt rfl fun z8 hz8 => ?_)
    rw [Ft.i hF 54 _ (by decide)] at hz8
    try simp only [ei] at hz8
    refine lv_iconst (v := 3) hx hb dX12_unitPart_40 (by decide) (ti_c 3 (by decide) fun z10 hz10 => ?_)
    refine b_ne (tgt := 67) hx hb dX12_unitPart_41 (by decide) (fun c41 => ?_) (fun c41 => ?_)
    · refine lv_aload_n hx hb dX12_unitPart_67 rfl (lv_at hl 1 rfl) ?_
      refine r_get C hw (hsh 49 _ rfl) fl_X12_65 (oV_r rfl (hrm (49, 9, 54) (by decide))) dX12_unitPart_68 ?_
      refine lv_iload_n hx hb dX12_unitPart_71 rfl (lv_at hl 0 rfl) ?_
      refine r_iald C hw (hsh 54 _ rfl) (by omega) (by omega) dX12_unitPart_72 (ti_c (ig5 (B + 54) z1.toInt.toNat).toInt rfl fun z11 hz11 => ?_)
      rw [Ft.i hF 54 _ (by decide)] at hz11
      try simp only [ei] at hz11
      refine lv_iconst (v := 2) hx hb dX12_unitPart_73 (by decide) (ti_c 2 (by decide) fun z13 hz13 => ?_)
      refine b_ne (tgt := 98) hx hb dX12_unitPart_74 (by decide) (fun c74 => ?_) (fun c74 => ?_)
      · refine lv_aload_n hx hb dX12_unitPart_98 rfl (lv_at hl 1 rfl) ?_
        refine r_get C hw (hsh 49 _ rfl) fl_X12_68 (oV_r rfl (hrm (49, 10, 55) (by decide))) dX12_unitPart_99 ?_
        refine lv_iload_n hx hb dX12_unitPart_102 rfl (lv_at hl 0 rfl) ?_
        refine r_iald C hw (hsh 55 _ rfl) (by omega) (by omega) dX12_unitPart_103 (ti_c (ig5 (B + 55) z1.toInt.toNat).toInt rfl fun z14 hz14 => ?_)
        rw [Ft.i hF 55 _ (by decide)] at hz14
        try simp only [ei] at hz14
        refine lv_bipush (v := 45) hx hb dX12_unitPart_104 (by decide) (ti_c 45 (by decide) fun z16 hz16 => ?_)
        refine b_ne (tgt := 116) hx hb dX12_unitPart_106 (by decide) (fun c106 => ?_) (fun c106 => ?_)
        · obtain ⟨d1, m1, hd1, hg1, hm1, hm2, ej⟩ := gPart.inv40 hg (show mK B ig i ≠ 0 by show (ig (B + 54) i).toInt ≠ 0; omega) (show mK B ig i ≠ 3 by show (ig (B + 54) i).toInt ≠ 3; omega) (show mK B ig i ≠ 2 by show (ig (B + 54) i).toInt ≠ 2; omega) (show mA B ig i ≠ 45 by show (ig (B + 55) i).toInt ≠ 45; omega)
          subst hd1
          obtain ⟨hP, hE⟩ := hrec d1 rfl
          have hlt := hg1.lt
          refine lv_aload_n hx hb dX12_unitPart_116 rfl (lv_at hl 1 rfl) ?_
          refine r_callV (As := []) (rest := []) C hw (hE kd ig5 rg lg _  (i + 1) m1 (by rw [Ft.K hF (by decide), Ft.A hF (by decide)]; exact hg1) (by omega) (fun k q1 q2 => Ft.R hF (by decide) (by decide) (by decide) (hR k (by omega) (by omega))) (by omega) (Or.inr ⟨by rw [Ft.K hF (by decide)]; exact hm1, by rw [Ft.A hF (by decide)]; exact hm2⟩) (by omega) hI) sv_X12_261 (hsh 49 _ rfl) rfl hl.1 rfl (Nat.le_of_ble_eq_true rfl) ⟨by simp only [rL]; omega, by simp only [rL]; omega⟩ ⟨Nat.le_of_ble_eq_true rfl, Nat.le_of_ble_eq_true rfl⟩ dX12_unitPart_117 (fun r21 kd17 ig18 rg19 lg20 H locs hw hH hp22 => ?_)
          obtain ⟨rfl, rfl, hI, hchp22, hrhp22⟩ := hp22
          have hF : Ft B [49, 74] ig lg ig18 lg20 := Ft.tr hF hchp22 (by decide) (by decide)
          obtain ⟨rfl, hvhp22⟩ := hrhp22
          refine lv_aload_n hx hb dX12_unitPart_120 rfl (lv_at hl 1 rfl) ?_
          refine lv_dup hx hb dX12_unitPart_121 rfl ?_
          refine r_get C hw (hsh 49 _ rfl) fl_X12_241 (oV_i rfl) dX12_unitPart_122 (ti_c (ig18 (B + 49) 31).toInt rfl fun z23 hz23 => ?_)
          refine lv_iconst (v := 1) hx hb dX12_unitPart_125 (by decide) (ti_c 1 (by decide) fun z24 hz24 => ?_)
          refine lv_iadd hx hb dX12_unitPart_126 (tc_add fun z25 hz25 => ?_)
          first | replace hz25 := hz25 (by omega) | clear hz25
          refine r_puti C hw (hsh 49 _ rfl) fl_X12_241 rfl rfl rfl dX12_unitPart_127 (fun H locs hH hw => ?_)
          obtain ⟨ig26, eig26⟩ : ∃ f, f = up2 ig18 (B + 49) 31 z25 := ⟨_, rfl⟩
          rw [← eig26] at hw
          have hF : Ft B [49, 74] ig lg ig26 lg20 := by rw [eig26]; exact hF.pi (by decide)
          have hI : IM τ φ υ B kd ig26 rg := by rw [eig26]; exact hI.pi (by decide) (show okR none _ from trivial)
          have wig26 : (ig26 (B + 49) 31).toInt = z25.toInt := by rw [eig26, up2_eq]
          have wig26_49_32 : (ig26 (B + 49) 32).toInt = (ig18 (B + 49) 32).toInt := by rw [eig26, up2_j (by decide)]
          have wig26_49_35 : (ig26 (B + 49) 35).toInt = (ig18 (B + 49) 35).toInt := by rw [eig26, up2_j (by decide)]
          exact r_vret C hw hr hlk (Nat.le_of_ble_eq_true rfl) (Nat.le_of_ble_eq_true rfl) dX12_unitPart_130 ⟨rfl, rfl, hI, hF, ⟨rfl, by omega⟩⟩
        · obtain ⟨d1, hd1, hg1⟩ := gPart.inv45 hg (show mK B ig i ≠ 0 by show (ig (B + 54) i).toInt ≠ 0; omega) (show mK B ig i ≠ 3 by show (ig (B + 54) i).toInt ≠ 3; omega) (show mK B ig i ≠ 2 by show (ig (B + 54) i).toInt ≠ 2; omega) (show mA B ig i = 45 by show (ig (B + 55) i).toInt = 45; omega)
          subst hd1
          obtain ⟨hP, hE⟩ := hrec d1 rfl
          have hlt := gPart.lt d1 _ _ hg1
          refine lv_aload_n hx hb dX12_unitPart_109 rfl (lv_at hl 1 rfl) ?_
          refine r_callV (As := []) (rest := []) C hw (hP kd ig5 rg lg _  (i + 1) j (by rw [Ft.K hF (by decide), Ft.A hF (by decide)]; exact hg1) (by omega) (fun k q1 q2 => Ft.R hF (by decide) (by decide) (by decide) (hR k (by omega) (by omega))) (by omega) (by omega) hI) sv_X12_293 (hsh 49 _ rfl) rfl hl.1 rfl (Nat.le_of_ble_eq_true rfl) ⟨by simp only [rL]; omega, by simp only [rL]; omega⟩ ⟨Nat.le_of_ble_eq_true rfl, Nat.le_of_ble_eq_true rfl⟩ dX12_unitPart_110 (fun r31 kd27 ig28 rg29 lg30 H locs hw hH hp32 => ?_)
          obtain ⟨rfl, rfl, hI, hchp32, hrhp32⟩ := hp32
          have hF : Ft B [49, 74] ig lg ig28 lg30 := Ft.tr hF hchp32 (by decide) (by decide)
          obtain ⟨rfl, hvhp32⟩ := hrhp32
          refine lv_goto (tgt := 130) hx hb dX12_unitPart_113 (by decide) ?_
          exact r_vret C hw hr hlk (Nat.le_of_ble_eq_true rfl) (Nat.le_of_ble_eq_true rfl) dX12_unitPart_130 ⟨rfl, rfl, hI, hF, ⟨rfl, by omega⟩⟩
      · obtain ⟨hs, ej⟩ := gPart.inv2 hg (show mK B ig i = 2 by show (ig (B + 54) i).toInt = 2; omega)
        have ra : ((0 ≤ (ig (B + 55) (i + 2)).toInt ∧ (ig (B + 55) (i + 2)).toInt < 12) ∧ 0 ≤ (ig (B + 56) (i + 2)).toInt ∧ (ig (B + 56) (i + 2)).toInt < 24) := hR (i + 2) (by omega) (by omega) hs.2.2.1
        have rb : ((0 ≤ (ig (B + 55) (i + 4)).toInt ∧ (ig (B + 55) (i + 4)).toInt < 12) ∧ 0 ≤ (ig (B + 56) (i + 4)).toInt ∧ (ig (B + 56) (i + 4)).toInt < 24) := hR (i + 4) (by omega) (by omega) hs.2.2.2.2.1
        refine lv_aload_n hx hb dX12_unitPart_77 rfl (lv_at hl 1 rfl) ?_
        refine lv_iload_n hx hb dX12_unitPart_78 rfl (lv_at hl 0 rfl) ?_
        refine lv_bipush (v := 6) hx hb dX12_unitPart_79 (by decide) (ti_c 6 (by decide) fun z33 hz33 => ?_)
        refine lv_iadd hx hb dX12_unitPart_81 (tc_add fun z34 hz34 => ?_)
        first | replace hz34 := hz34 (by omega) | clear hz34
        refine r_puti C hw (hsh 49 _ rfl) fl_X12_241 rfl rfl rfl dX12_unitPart_82 (fun H locs hH hw => ?_)
        obtain ⟨ig35, eig35⟩ : ∃ f, f = up2 ig5 (B + 49) 31 z34 := ⟨_, rfl⟩
        rw [← eig35] at hw
        have hF : Ft B [49, 74] ig lg ig35 lg := by rw [eig35]; exact hF.pi (by decide)
        have hI : IM τ φ υ B kd ig35 rg := by rw [eig35]; exact hI.pi (by decide) (show okR none _ from trivial)
        have wig35 : (ig35 (B + 49) 31).toInt = z34.toInt := by rw [eig35, up2_eq]
        have wig35_49_32 : (ig35 (B + 49) 32).toInt = (ig5 (B + 49) 32).toInt := by rw [eig35, up2_j (by decide)]
        have wig35_49_35 : (ig35 (B + 49) 35).toInt = (ig5 (B + 49) 35).toInt := by rw [eig35, up2_j (by decide)]
        refine lv_aload_n hx hb dX12_unitPart_85 rfl (lv_at hl 1 rfl) ?_
        refine lv_iload_n hx hb dX12_unitPart_86 rfl (lv_at hl 0 rfl) ?_
        refine lv_iconst (v := 2) hx hb dX12_unitPart_87 (by decide) (ti_c 2 (by decide) fun z36 hz36 => ?_)
        refine lv_iadd hx hb dX12_unitPart_88 (tc_add fun z37 hz37 => ?_)
        first | replace hz37 := hz37 (by omega) | clear hz37
        refine lv_iload_n hx hb dX12_unitPart_89 rfl (lv_at hl 0 rfl) ?_
        refine lv_iconst (v := 4) hx hb dX12_unitPart_90 (by decide) (ti_c 4 (by decide) fun z38 hz38 => ?_)
        refine lv_iadd hx hb dX12_unitPart_91 (tc_add fun z39 hz39 => ?_)
        first | replace hz39 := hz39 (by omega) | clear hz39
        refine r_callV (As := [.int z37, .int z39]) (rest := []) C hw (t_X12_unitSum l B D cA kd ig35 rg lg _ z37 z39 (by omega) (by omega) (by rw [show z37.toInt.toNat = i + 2 by omega, Ft.i hF 55 _ (by decide), Ft.i hF 56 _ (by decide)]; exact ra) (by rw [show z39.toInt.toNat = i + 4 by omega, Ft.i hF 55 _ (by decide), Ft.i hF 56 _ (by decide)]; exact rb) (by omega) hI) sv_X12_299 (hsh 49 _ rfl) rfl hl.1 rfl (Nat.le_of_ble_eq_true rfl) ⟨by simp only [rL]; omega, by simp only [rL]; omega⟩ ⟨Nat.le_of_ble_eq_true rfl, Nat.le_of_ble_eq_true rfl⟩ dX12_unitPart_92 (fun r44 kd40 ig41 rg42 lg43 H locs hw hH hp45 => ?_)
        obtain ⟨rfl, rfl, hI, hchp45, hrhp45⟩ := hp45
        have hF : Ft B [49, 74] ig lg ig41 lg43 := Ft.tr hF hchp45 (by decide) (by decide)
        obtain ⟨rfl, hvhp45⟩ := hrhp45
        refine lv_goto (tgt := 130) hx hb dX12_unitPart_95 (by decide) ?_
        exact r_vret C hw hr hlk (Nat.le_of_ble_eq_true rfl) (Nat.le_of_ble_eq_true rfl) dX12_unitPart_130 ⟨rfl, rfl, hI, hF, ⟨rfl, by omega⟩⟩
    · have ej := gPart.inv3 hg (show mK B ig i = 3 by show (ig (B + 54) i).toInt = 3; omega)
      have rr : ((0 ≤ (ig (B + 55) i).toInt ∧ (ig (B + 55) i).toInt < 12) ∧ 0 ≤ (ig (B + 56) i).toInt ∧ (ig (B + 56) i).toInt < 24) := hR i (Nat.le_refl _) (by omega) (show mK B ig i = 3 by show (ig (B + 54) i).toInt = 3; omega)
      refine lv_aload_n hx hb dX12_unitPart_44 rfl (lv_at hl 1 rfl) ?_
      refine lv_bipush (v := 12) hx hb dX12_unitPart_45 (by decide) (ti_c 12 (by decide) fun z46 hz46 => ?_)
      refine lv_aload_n hx hb dX12_unitPart_47 rfl (lv_at hl 1 rfl) ?_
      refine r_get C hw (hsh 49 _ rfl) fl_X12_71 (oV_r rfl (hrm (49, 11, 56) (by decide))) dX12_unitPart_48 ?_
      refine lv_iload_n hx hb dX12_unitPart_51 rfl (lv_at hl 0 rfl) ?_
      refine r_iald C hw (hsh 56 _ rfl) (by omega) (by omega) dX12_unitPart_52 (ti_c (ig5 (B + 56) z1.toInt.toNat).toInt rfl fun z47 hz47 => ?_)
      rw [Ft.i hF 56 _ (by decide)] at hz47
      try simp only [ei] at hz47
      refine lv_imul hx hb dX12_unitPart_53 (tc_mulL 12 hz46 fun z49 hz49 => ?_)
      first | replace hz49 := hz49 (by omega) | clear hz49
      refine lv_aload_n hx hb dX12_unitPart_54 rfl (lv_at hl 1 rfl) ?_
      refine r_get C hw (hsh 49 _ rfl) fl_X12_68 (oV_r rfl (hrm (49, 10, 55) (by decide))) dX12_unitPart_55 ?_
      refine lv_iload_n hx hb dX12_unitPart_58 rfl (lv_at hl 0 rfl) ?_
      refine r_iald C hw (hsh 55 _ rfl) (by omega) (by omega) dX12_unitPart_59 (ti_c (ig5 (B + 55) z1.toInt.toNat).toInt rfl fun z50 hz50 => ?_)
      rw [Ft.i hF 55 _ (by decide)] at hz50
      try simp only [ei] at hz50
      refine lv_iadd hx hb dX12_unitPart_60 (tc_add fun z52 hz52 => ?_)
      first | replace hz52 := hz52 (by omega) | clear hz52
      refine r_callV (As := [.int z52]) (rest := []) C hw (t_X12_pushUnitOf l B D cA kd ig5 rg lg _ z52 (by omega) (by omega) hI) sv_X12_296 (hsh 49 _ rfl) rfl hl.1 rfl (Nat.le_of_ble_eq_true rfl) ⟨by simp only [rL]; omega, by simp only [rL]; omega⟩ ⟨Nat.le_of_ble_eq_true rfl, Nat.le_of_ble_eq_true rfl⟩ dX12_unitPart_61 (fun r57 kd53 ig54 rg55 lg56 H locs hw hH hp58 => ?_)
      obtain ⟨rfl, rfl, hI, hchp58, hrhp58⟩ := hp58
      have hF : Ft B [49, 74] ig lg ig54 lg56 := Ft.tr hF hchp58 (by decide) (by decide)
      obtain ⟨rfl, hvhp58⟩ := hrhp58
      refine lv_goto (tgt := 130) hx hb dX12_unitPart_64 (by decide) ?_
      exact r_vret C hw hr hlk (Nat.le_of_ble_eq_true rfl) (Nat.le_of_ble_eq_true rfl) dX12_unitPart_130 ⟨rfl, rfl, hI, hF, ⟨rfl, by omega⟩⟩
  · have ej := gPart.inv0 hg (show mK B ig i = 0 by show (ig (B + 54) i).toInt = 0; omega)
    refine lv_aload_n hx hb dX12_unitPart_24 rfl (lv_at hl 1 rfl) ?_
    refine lv_iconst (v := 0) hx hb dX12_unitPart_25 (by decide) (ti_c 0 (by decide) fun z59 hz59 => ?_)
    refine lv_iconst (v := 0) hx hb dX12_unitPart_26 (by decide) (ti_c 0 (by decide) fun z60 hz60 => ?_)
    refine lv_iconst (v := 0) hx hb dX12_unitPart_27 (by decide) (ti_c 0 (by decide) fun z61 hz61 => ?_)
    refine r_callV (As := [.int z59, .int z60, .int z61]) (rest := []) C hw (t_X12_pushUnit l B D cA kd ig5 rg lg _ z59 z60 z61 (by omega) hI) sv_X12_286 (hsh 49 _ rfl) rfl hl.1 rfl (Nat.le_of_ble_eq_true rfl) ⟨by simp only [rL]; omega, by simp only [rL]; omega⟩ ⟨Nat.le_of_ble_eq_true rfl, Nat.le_of_ble_eq_true rfl⟩ dX12_unitPart_28 (fun r66 kd62 ig63 rg64 lg65 H locs hw hH hp67 => ?_)
    obtain ⟨rfl, rfl, hI, hchp67, hrhp67⟩ := hp67
    have hF : Ft B [49, 74] ig lg ig63 lg65 := Ft.tr hF hchp67 (by decide) (by decide)
    obtain ⟨rfl, hvhp67⟩ := hrhp67
    refine lv_goto (tgt := 130) hx hb dX12_unitPart_31 (by decide) ?_
    exact r_vret C hw hr hlk (Nat.le_of_ble_eq_true rfl) (Nat.le_of_ble_eq_true rfl) dX12_unitPart_130 ⟨rfl, rfl, hI, hF, ⟨rfl, by omega⟩⟩

set_option maxHeartbeats 4000000 in
set_option maxRecDepth 100000 in
theorem t_X12_unitProduct {υ : Option Int} {τ : Tp} {φ : Option Int} (l : Launch) (B : Nat) (D : va_G) (cA : Nat → ClassId) (kd : sK) (ig : sI) (rg : sR) (lg : sG) (sz : Nat) (d i j : Nat) (hP : RX12_unitPart τ φ υ l B D cA d) (hg : gProd (mK B ig) (mA B ig) d i j) (hgo : (ig (B + 49) 31).toInt = (i : Int)) (hR : ∀ k, i ≤ k → k < j → rOk B ig k) (hj : j ≤ 37000 ∧ (j : Int) ≤ (ig (B + 49) 32).toInt ∧ (ig (B + 49) 32).toInt ≤ 37080) (hla : ((j : Int) = (ig (B + 49) 32).toInt ∨ (mK B ig j = 1 ∧ (mA B ig j = 41 ∨ mA B ig j = 43 ∨ mA B ig j = 45)))) (ht : 0 ≤ (ig (B + 49) 35).toInt ∧ (ig (B + 49) 35).toInt + (6 * (d : Int) + 3) ≤ 90) (hI : IM τ φ υ B kd ig rg) : MC l B D cA yX12_unitProduct cX12_unitProduct 3 none (rL (3 * d + 4) 0 0) [.ref (B + 49)] kd ig rg lg sz (PM τ φ υ B [49, 74] kd ig rg lg (fun r ig' lg' => (r = none ∧ ((ig' (B + 49) 31).toInt = (j : Int) ∧ (ig' (B + 49) 35).toInt = (ig (B + 49) 35).toInt + 3 ∧ (ig' (B + 49) 32).toInt = (ig (B + 49) 32).toInt)))) := by
  refine MC.of (own := RX12) (by decide +kernel) rfl (Nat.le_of_ble_eq_true rfl) ?_
  intro p e s m args below meth c ls C hr hlk hnm hw hsz hl
  have hx := C.1.1
  have hb := C.1.2.1
  have hown := C.1.2.2.2.1
  have hts := C.1.2.2.2.2
  have hl : lv_has ls 3 [(0, .ref (B + 49))] := hl
  have hF : Ft B [49, 74] ig lg ig lg := Ft.rf
  have hsh := hI.sh
  have hrm := hI.rm
  obtain ⟨n0, hch0⟩ := hg
  have hF0 := hF
  obtain ⟨m0, hp0, hm0a, hm0b, hm0c⟩ := gCh.first (fun i j => gPart.lt d i j) hch0
  have hd0 : 0 < d := by rcases d with _ | d; exact hp0.elim; omega
  refine lv_aload_n hx hb dX12_unitProduct_0 rfl (lv_at hl 0 rfl) ?_
  refine r_callV (As := []) (rest := []) C hw (hP kd ig rg lg _  i m0 (by rw [Ft.K hF (by decide), Ft.A hF (by decide)]; exact hp0) (by omega) (fun k q1 q2 => Ft.R hF (by decide) (by decide) (by decide) (hR k (by omega) (by omega))) (by omega) (by omega) hI) sv_X12_293 (hsh 49 _ rfl) rfl hl.1 rfl (Nat.le_of_ble_eq_true rfl) ⟨by simp only [rL]; omega, by simp only [rL]; omega⟩ ⟨Nat.le_of_ble_eq_true rfl, Nat.le_of_ble_eq_true rfl⟩ dX12_unitProduct_1 (fun r5 kd1 ig2 rg3 lg4 H locs hw hH hp6 => ?_)
  obtain ⟨rfl, rfl, hI, hchp6, hrhp6⟩ := hp6
  have hF : Ft B [49, 74] ig lg ig2 lg4 := Ft.tr hF hchp6 (by decide) (by decide)
  obtain ⟨rfl, hvhp6⟩ := hrhp6
  have L4 : ∀ (n : Nat) (ls : Array Slot) (H : Heap) (locs : List Loc) (ig7 : sI) (lg8 : sG) , lv_has ls 3 [(0, .ref (B + 49))] → WD B D cA s.heap kd ig7 rg lg8 H locs → IM τ φ υ B kd ig7 rg → Ft B [49, 74] ig lg ig7 lg8 → (∃ m : Nat, (ig7 (B + 49) 31).toInt = (m : Int) ∧ i < m ∧ m ≤ j ∧ (m = j ∨ (sMul (mK B ig) (mA B ig) m ∧ m + 1 < j ∧ ∃ n, gCh (gPart (mK B ig) (mA B ig) d) (sMul (mK B ig) (mA B ig)) n (m + 1) j))) → (0 ≤ (ig7 (B + 49) 31).toInt) → ((ig7 (B + 49) 31).toInt ≤ (j : Int)) → ((ig7 (B + 49) 35).toInt = (ig (B + 49) 35).toInt + 3) → ((ig7 (B + 49) 32).toInt = (ig (B + 49) 32).toInt) → (j : Int) - (ig7 (B + 49) 31).toInt < (n : Int) → W p l e (rL (3 * d + 4) 0 0) s m args below meth c H locs 0 0 (MQ below (QcW B D cA (PM τ φ υ B [49, 74] kd ig rg lg (fun r ig' lg' => (r = none ∧ ((ig' (B + 49) 31).toInt = (j : Int) ∧ (ig' (B + 49) 35).toInt = (ig (B + 49) 35).toInt + 3 ∧ (ig' (B + 49) 32).toInt = (ig (B + 49) 32).toInt))))) args s 0 0 (fun q => B ≤ q)) (F0 m 4 ls []) := by
    intro n4
    induction n4 with
    | zero => intro ls H locs ig7 lg8 hl hw hI hF g4_0 g4_1 g4_2 g4_3 g4_4 hmu; exact absurd hmu (by omega)
    | succ n4 ih4 =>
      intro ls H locs ig7 lg8 hl hw hI hF g4_0 g4_1 g4_2 g4_3 g4_4 hmu
      obtain ⟨m1, em1, hm1a, hm1b, hm1c⟩ := g4_0
      refine lv_aload_n hx hb dX12_unitProduct_4 rfl (lv_at hl 0 rfl) ?_
      refine lv_bipush (v := 42) hx hb dX12_unitProduct_5 (by decide) (ti_c 42 (by decide) fun z9 hz9 => ?_)
      refine r_callV (As := [.int z9]) (rest := []) C hw (t_X12_isNext l B D cA kd ig7 rg lg8 _ z9 (by omega) hI) sv_X12_273 (hsh 49 _ rfl) rfl hl.1 rfl (Nat.le_of_ble_eq_true rfl) ⟨by simp only [rL]; omega, by simp only [rL]; omega⟩ ⟨Nat.le_of_ble_eq_true rfl, Nat.le_of_ble_eq_true rfl⟩ dX12_unitProduct_7 (fun r14 kd10 ig11 rg12 lg13 H locs hw hH hp15 => ?_)
      obtain ⟨rfl, rfl, rfl, rfl, hzhp15, hrhp15⟩ := hp15
      obtain ⟨z16, rfl, hz16⟩ := hrhp15
      rw [Ft.i hF 54 _ (by decide), Ft.i hF 55 _ (by decide)] at hz16
      simp only [em1, Int.toNat_natCast] at hz16
      refine z_ne (tgt := 22) hx hb dX12_unitProduct_10 (by decide) (fun c10 => ?_) (fun c10 => ?_)
      · have hcs : sMul (mK B ig) (mA B ig) m1 ∧ m1 + 1 < j ∧ ∃ n, gCh (gPart (mK B ig) (mA B ig) d) (sMul (mK B ig) (mA B ig)) n (m1 + 1) j := by
          rcases hm1c with q | hc
          · exfalso
            subst q
            rcases hla with q | ⟨q1, q2⟩
            · omega
            · have q3 : (ig (B + 55) m1).toInt = 41 ∨ (ig (B + 55) m1).toInt = 43 ∨ (ig (B + 55) m1).toInt = 45 := q2
              omega
          · exact hc
        obtain ⟨hsd, hsl, n1, hch1⟩ := hcs
        obtain ⟨m2, hp2, hm2a, hm2b, hm2c⟩ := gCh.first (fun i j => gPart.lt d i j) hch1
        refine lv_aload_n hx hb dX12_unitProduct_22 rfl (lv_at hl 0 rfl) ?_
        refine lv_bipush (v := 42) hx hb dX12_unitProduct_23 (by decide) (ti_c 42 (by decide) fun z17 hz17 => ?_)
        refine r_callV (As := [.int z17]) (rest := []) C hw (t_X12_isNext l B D cA kd ig7 rg lg8 _ z17 (by omega) hI) sv_X12_273 (hsh 49 _ rfl) rfl hl.1 rfl (Nat.le_of_ble_eq_true rfl) ⟨by simp only [rL]; omega, by simp only [rL]; omega⟩ ⟨Nat.le_of_ble_eq_true rfl, Nat.le_of_ble_eq_true rfl⟩ dX12_unitProduct_25 (fun r22 kd18 ig19 rg20 lg21 H locs hw hH hp23 => ?_)
        obtain ⟨rfl, rfl, rfl, rfl, hzhp23, hrhp23⟩ := hp23
        obtain ⟨z24, rfl, hz24⟩ := hrhp23
        rw [Ft.i hF 54 _ (by decide), Ft.i hF 55 _ (by decide)] at hz24
        simp only [em1, Int.toNat_natCast] at hz24
        refine z_eq (tgt := 35) hx hb dX12_unitProduct_28 (by decide) (fun c28 => ?_) (fun c28 => ?_)
        · refine lv_iconst (v := (-1)) hx hb dX12_unitProduct_35 (by decide) (ti_c (-1) (by decide) fun z25 hz25 => ?_)
          refine lv_istore_n (lv' := [(1, .int z25), (0, .ref (B + 49))]) hx hb dX12_unitProduct_36 rfl hl (by decide) rfl (fun ls hl => ?_)
          refine lv_aload_n hx hb dX12_unitProduct_37 rfl (lv_at hl 1 rfl) ?_
          refine lv_dup hx hb dX12_unitProduct_38 rfl ?_
          refine r_get C hw (hsh 49 _ rfl) fl_X12_241 (oV_i rfl) dX12_unitProduct_39 (ti_c (ig7 (B + 49) 31).toInt rfl fun z26 hz26 => ?_)
          refine lv_iconst (v := 1) hx hb dX12_unitProduct_42 (by decide) (ti_c 1 (by decide) fun z27 hz27 => ?_)
          refine lv_iadd hx hb dX12_unitProduct_43 (tc_add fun z28 hz28 => ?_)
          first | replace hz28 := hz28 (by omega) | clear hz28
          refine r_puti C hw (hsh 49 _ rfl) fl_X12_241 rfl rfl rfl dX12_unitProduct_44 (fun H locs hH hw => ?_)
          obtain ⟨ig29, eig29⟩ : ∃ f, f = up2 ig7 (B + 49) 31 z28 := ⟨_, rfl⟩
          rw [← eig29] at hw
          have hF : Ft B [49, 74] ig lg ig29 lg8 := by rw [eig29]; exact hF.pi (by decide)
          have hI : IM τ φ υ B kd ig29 rg := by rw [eig29]; exact hI.pi (by decide) (show okR none _ from trivial)
          have wig29 : (ig29 (B + 49) 31).toInt = z28.toInt := by rw [eig29, up2_eq]
          have wig29_49_32 : (ig29 (B + 49) 32).toInt = (ig7 (B + 49) 32).toInt := by rw [eig29, up2_j (by decide)]
          have wig29_49_35 : (ig29 (B + 49) 35).toInt = (ig7 (B + 49) 35).toInt := by rw [eig29, up2_j (by decide)]
          have wig29_49_34 : (ig29 (B + 49) 34).toInt = (ig7 (B + 49) 34).toInt := by rw [eig29, up2_j (by decide)]
          refine lv_aload_n hx hb dX12_unitProduct_47 rfl (lv_at hl 1 rfl) ?_
          refine r_callV (As := []) (rest := []) C hw (hP kd ig29 rg lg8 _  (m1 + 1) m2 (by rw [Ft.K hF (by decide), Ft.A hF (by decide)]; exact hp2) (by omega) (fun k q1 q2 => Ft.R hF (by decide) (by decide) (by decide) (hR k (by omega) (by omega))) (by omega) (by omega) hI) sv_X12_293 (hsh 49 _ rfl) rfl hl.1 rfl (Nat.le_of_ble_eq_true rfl) ⟨by simp only [rL]; omega, by simp only [rL]; omega⟩ ⟨Nat.le_of_ble_eq_true rfl, Nat.le_of_ble_eq_true rfl⟩ dX12_unitProduct_48 (fun r34 kd30 ig31 rg32 lg33 H locs hw hH hp35 => ?_)
          obtain ⟨rfl, rfl, hI, hchp35, hrhp35⟩ := hp35
          have hF : Ft B [49, 74] ig lg ig31 lg33 := Ft.tr hF hchp35 (by decide) (by decide)
          obtain ⟨rfl, hvhp35⟩ := hrhp35
          refine lv_aload_n hx hb dX12_unitProduct_51 rfl (lv_at hl 1 rfl) ?_
          refine lv_dup hx hb dX12_unitProduct_52 rfl ?_
          refine r_get C hw (hsh 49 _ rfl) fl_X12_258 (oV_i rfl) dX12_unitProduct_53 (ti_c (ig31 (B + 49) 35).toInt rfl fun z36 hz36 => ?_)
          refine lv_iconst (v := 3) hx hb dX12_unitProduct_56 (by decide) (ti_c 3 (by decide) fun z37 hz37 => ?_)
          refine lv_isub hx hb dX12_unitProduct_57 (tc_sub fun z38 hz38 => ?_)
          first | replace hz38 := hz38 (by omega) | clear hz38
          refine r_puti C hw (hsh 49 _ rfl) fl_X12_258 rfl rfl rfl dX12_unitProduct_58 (fun H locs hH hw => ?_)
          obtain ⟨ig39, eig39⟩ : ∃ f, f = up2 ig31 (B + 49) 35 z38 := ⟨_, rfl⟩
          rw [← eig39] at hw
          have hF : Ft B [49, 74] ig lg ig39 lg33 := by rw [eig39]; exact hF.pi (by decide)
          have hI : IM τ φ υ B kd ig39 rg := by rw [eig39]; exact hI.pi (by decide) (show okR none _ from trivial)
          have wig39_49_31 : (ig39 (B + 49) 31).toInt = (ig31 (B + 49) 31).toInt := by rw [eig39, up2_j (by decide)]
          have wig39_49_32 : (ig39 (B + 49) 32).toInt = (ig31 (B + 49) 32).toInt := by rw [eig39, up2_j (by decide)]
          have wig39 : (ig39 (B + 49) 35).toInt = z38.toInt := by rw [eig39, up2_eq]
          have wig39_49_34 : (ig39 (B + 49) 34).toInt = (ig31 (B + 49) 34).toInt := by rw [eig39, up2_j (by decide)]
          refine lv_iconst (v := 0) hx hb dX12_unitProduct_61 (by decide) (ti_c 0 (by decide) fun z40 hz40 => ?_)
          refine lv_istore_n (lv' := [(2, .int z40), (1, .int z25), (0, .ref (B + 49))]) hx hb dX12_unitProduct_62 rfl hl (by decide) rfl (fun ls hl => ?_)
          have L63 : ∀ (n : Nat) (ls : Array Slot) (H : Heap) (locs : List Loc) (ig42 : sI) (lg43 : sG) (v41 : Int32), lv_has ls 3 [(2, .int v41), (1, .int z25), (0, .ref (B + 49))] → WD B D cA s.heap kd ig42 rg lg43 H locs → IM τ φ υ B kd ig42 rg → Ft B [49, 74] ig lg ig42 lg43 → (0 ≤ v41.toInt) → (v41.toInt ≤ 3) → ((ig42 (B + 49) 31).toInt = (m2 : Int)) → ((ig42 (B + 49) 35).toInt = (ig (B + 49) 35).toInt + 3) → ((ig42 (B + 49) 32).toInt = (ig (B + 49) 32).toInt) → 3 - v41.toInt < (n : Int) → W p l e (rL (3 * d + 4) 0 0) s m args below meth c H locs 0 0 (MQ below (QcW B D cA (PM τ φ υ B [49, 74] kd ig rg lg (fun r ig' lg' => (r = none ∧ ((ig' (B + 49) 31).toInt = (j : Int) ∧ (ig' (B + 49) 35).toInt = (ig (B + 49) 35).toInt + 3 ∧ (ig' (B + 49) 32).toInt = (ig (B + 49) 32).toInt))))) args s 0 0 (fun q => B ≤ q)) (F0 m 63 ls []) := by
            intro n63
            induction n63 with
            | zero => intro ls H locs ig42 lg43 v41 hl hw hI hF g63_0 g63_1 g63_2 g63_3 g63_4 hmu; exact absurd hmu (by omega)
            | succ n63 ih63 =>
              intro ls H locs ig42 lg43 v41 hl hw hI hF g63_0 g63_1 g63_2 g63_3 g63_4 hmu
              refine lv_iload_n hx hb dX12_unitProduct_63 rfl (lv_at hl 0 rfl) ?_
              refine lv_iconst (v := 3) hx hb dX12_unitProduct_64 (by decide) (ti_c 3 (by decide) fun z44 hz44 => ?_)
              refine b_ge (tgt := 103) hx hb dX12_unitProduct_65 (by decide) (fun c65 => ?_) (fun c65 => ?_)
              · refine lv_goto (tgt := 4) hx hb dX12_unitProduct_103 (by decide) ?_
                exact ih4 ls H locs ig42 lg43 (lv_sub hl [2] rfl) hw hI hF (⟨m2, by omega, by omega, hm2b, hm2c⟩) (by omega) (by omega) (by omega) (by omega) (by omega)
              · refine lv_aload_n hx hb dX12_unitProduct_68 rfl (lv_at hl 2 rfl) ?_
                refine r_get C hw (hsh 49 _ rfl) fl_X12_127 (oV_r rfl (hrm (49, 36, 74) (by decide))) dX12_unitProduct_69 ?_
                refine lv_aload_n hx hb dX12_unitProduct_72 rfl (lv_at hl 2 rfl) ?_
                refine r_get C hw (hsh 49 _ rfl) fl_X12_258 (oV_i rfl) dX12_unitProduct_73 (ti_c (ig42 (B + 49) 35).toInt rfl fun z45 hz45 => ?_)
                refine lv_iconst (v := 3) hx hb dX12_unitProduct_76 (by decide) (ti_c 3 (by decide) fun z46 hz46 => ?_)
                refine lv_isub hx hb dX12_unitProduct_77 (tc_sub fun z47 hz47 => ?_)
                first | replace hz47 := hz47 (by omega) | clear hz47
                refine lv_iload_n hx hb dX12_unitProduct_78 rfl (lv_at hl 0 rfl) ?_
                refine lv_iadd hx hb dX12_unitProduct_79 (tc_add fun z48 hz48 => ?_)
                first | replace hz48 := hz48 (by omega) | clear hz48
                refine lv_dup2_11 hx hb dX12_unitProduct_80 rfl rfl ?_
                refine r_iald C hw (hsh 74 _ rfl) (by omega) (by omega) dX12_unitProduct_81 (ti_c (ig42 (B + 74) z48.toInt.toNat).toInt rfl fun z49 hz49 => ?_)
                refine lv_iload_n hx hb dX12_unitProduct_82 rfl (lv_at hl 1 rfl) ?_
                refine lv_aload_n hx hb dX12_unitProduct_83 rfl (lv_at hl 2 rfl) ?_
                refine r_get C hw (hsh 49 _ rfl) fl_X12_127 (oV_r rfl (hrm (49, 36, 74) (by decide))) dX12_unitProduct_84 ?_
                refine lv_aload_n hx hb dX12_unitProduct_87 rfl (lv_at hl 2 rfl) ?_
                refine r_get C hw (hsh 49 _ rfl) fl_X12_258 (oV_i rfl) dX12_unitProduct_88 (ti_c (ig42 (B + 49) 35).toInt rfl fun z51 hz51 => ?_)
                refine lv_iload_n hx hb dX12_unitProduct_91 rfl (lv_at hl 0 rfl) ?_
                refine lv_iadd hx hb dX12_unitProduct_92 (tc_add fun z52 hz52 => ?_)
                first | replace hz52 := hz52 (by omega) | clear hz52
                refine r_iald C hw (hsh 74 _ rfl) (by omega) (by omega) dX12_unitProduct_93 (ti_c (ig42 (B + 74) z52.toInt.toNat).toInt rfl fun z53 hz53 => ?_)
                refine lv_imul hx hb dX12_unitProduct_94 (tc_mulL (-1) hz25 fun z55 hz55 => ?_)
                first | replace hz55 := hz55 (by omega) | clear hz55
                refine lv_iadd hx hb dX12_unitProduct_95 (tc_add fun z56 hz56 => ?_)
                first | replace hz56 := hz56 (by omega) | clear hz56
                refine r_iast C hw (hsh 74 _ rfl) (by omega) (by omega) dX12_unitProduct_96 (fun H locs hH hw => ?_)
                obtain ⟨ig57, eig57⟩ : ∃ f, f = up2 ig42 (B + 74) z48.toInt.toNat z56 := ⟨_, rfl⟩
                rw [← eig57] at hw
                have hF : Ft B [49, 74] ig lg ig57 lg43 := by rw [eig57]; exact hF.pi (by decide)
                have hI : IM τ φ υ B kd ig57 rg := by rw [eig57]; exact hI.pi (by decide) (show okR none _ from trivial)
                have wig57_49_31 : (ig57 (B + 49) 31).toInt = (ig42 (B + 49) 31).toInt := by rw [eig57, up2_a (by omega)]
                have wig57_49_32 : (ig57 (B + 49) 32).toInt = (ig42 (B + 49) 32).toInt := by rw [eig57, up2_a (by omega)]
                have wig57_49_35 : (ig57 (B + 49) 35).toInt = (ig42 (B + 49) 35).toInt := by rw [eig57, up2_a (by omega)]
                have wig57_49_34 : (ig57 (B + 49) 34).toInt = (ig42 (B + 49) 34).toInt := by rw [eig57, up2_a (by omega)]
                refine tc_inc hx hb dX12_unitProduct_97 hl (k := 0) rfl (by decide) (by decide) (fun z58 hz58 ls hl => ?_)
                first | replace hz58 := hz58 (by omega) | clear hz58
                have hl : lv_has ls 3 [(2, .int z58), (1, .int z25), (0, .ref (B + 49))] := hl
                refine lv_goto (tgt := 63) hx hb dX12_unitProduct_100 (by decide) ?_
                exact ih63 ls H locs ig57 lg43 z58 (lv_sub hl [0, 1, 2] rfl) hw hI hF (by omega) (by omega) (by omega) (by omega) (by omega) (by omega)
          exact L63 ((3 - z40.toInt) + 1).toNat ls H locs ig39 lg33 z40 (lv_sub hl [0, 1, 2] rfl) hw hI hF (by omega) (by omega) (by omega) (by omega) (by omega) (by omega)
        · refine lv_iconst (v := 1) hx hb dX12_unitProduct_31 (by decide) (ti_c 1 (by decide) fun z59 hz59 => ?_)
          refine lv_goto (tgt := 36) hx hb dX12_unitProduct_32 (by decide) ?_
          refine lv_istore_n (lv' := [(1, .int z59), (0, .ref (B + 49))]) hx hb dX12_unitProduct_36 rfl hl (by decide) rfl (fun ls hl => ?_)
          refine lv_aload_n hx hb dX12_unitProduct_37 rfl (lv_at hl 1 rfl) ?_
          refine lv_dup hx hb dX12_unitProduct_38 rfl ?_
          refine r_get C hw (hsh 49 _ rfl) fl_X12_241 (oV_i rfl) dX12_unitProduct_39 (ti_c (ig7 (B + 49) 31).toInt rfl fun z60 hz60 => ?_)
          refine lv_iconst (v := 1) hx hb dX12_unitProduct_42 (by decide) (ti_c 1 (by decide) fun z61 hz61 => ?_)
          refine lv_iadd hx hb dX12_unitProduct_43 (tc_add fun z62 hz62 => ?_)
          first | replace hz62 := hz62 (by omega) | clear hz62
          refine r_puti C hw (hsh 49 _ rfl) fl_X12_241 rfl rfl rfl dX12_unitProduct_44 (fun H locs hH hw => ?_)
          obtain ⟨ig63, eig63⟩ : ∃ f, f = up2 ig7 (B + 49) 31 z62 := ⟨_, rfl⟩
          rw [← eig63] at hw
          have hF : Ft B [49, 74] ig lg ig63 lg8 := by rw [eig63]; exact hF.pi (by decide)
          have hI : IM τ φ υ B kd ig63 rg := by rw [eig63]; exact hI.pi (by decide) (show okR none _ from trivial)
          have wig63 : (ig63 (B + 49) 31).toInt = z62.toInt := by rw [eig63, up2_eq]
          have wig63_49_32 : (ig63 (B + 49) 32).toInt = (ig7 (B + 49) 32).toInt := by rw [eig63, up2_j (by decide)]
          have wig63_49_35 : (ig63 (B + 49) 35).toInt = (ig7 (B + 49) 35).toInt := by rw [eig63, up2_j (by decide)]
          have wig63_49_34 : (ig63 (B + 49) 34).toInt = (ig7 (B + 49) 34).toInt := by rw [eig63, up2_j (by decide)]
          refine lv_aload_n hx hb dX12_unitProduct_47 rfl (lv_at hl 1 rfl) ?_
          refine r_callV (As := []) (rest := []) C hw (hP kd ig63 rg lg8 _  (m1 + 1) m2 (by rw [Ft.K hF (by decide), Ft.A hF (by decide)]; exact hp2) (by omega) (fun k q1 q2 => Ft.R hF (by decide) (by decide) (by decide) (hR k (by omega) (by omega))) (by omega) (by omega) hI) sv_X12_293 (hsh 49 _ rfl) rfl hl.1 rfl (Nat.le_of_ble_eq_true rfl) ⟨by simp only [rL]; omega, by simp only [rL]; omega⟩ ⟨Nat.le_of_ble_eq_true rfl, Nat.le_of_ble_eq_true rfl⟩ dX12_unitProduct_48 (fun r68 kd64 ig65 rg66 lg67 H locs hw hH hp69 => ?_)
          obtain ⟨rfl, rfl, hI, hchp69, hrhp69⟩ := hp69
          have hF : Ft B [49, 74] ig lg ig65 lg67 := Ft.tr hF hchp69 (by decide) (by decide)
          obtain ⟨rfl, hvhp69⟩ := hrhp69
          refine lv_aload_n hx hb dX12_unitProduct_51 rfl (lv_at hl 1 rfl) ?_
          refine lv_dup hx hb dX12_unitProduct_52 rfl ?_
          refine r_get C hw (hsh 49 _ rfl) fl_X12_258 (oV_i rfl) dX12_unitProduct_53 (ti_c (ig65 (B + 49) 35).toInt rfl fun z70 hz70 => ?_)
          refine lv_iconst (v := 3) hx hb dX12_unitProduct_56 (by decide) (ti_c 3 (by decide) fun z71 hz71 => ?_)
          refine lv_isub hx hb dX12_unitProduct_57 (tc_sub fun z72 hz72 => ?_)
          first | replace hz72 := hz72 (by omega) | clear hz72
          refine r_puti C hw (hsh 49 _ rfl) fl_X12_258 rfl rfl rfl dX12_unitProduct_58 (fun H locs hH hw => ?_)
          obtain ⟨ig73, eig73⟩ : ∃ f, f = up2 ig65 (B + 49) 35 z72 := ⟨_, rfl⟩
          rw [← eig73] at hw
          have hF : Ft B [49, 74] ig lg ig73 lg67 := by rw [eig73]; exact hF.pi (by decide)
          have hI : IM τ φ υ B kd ig73 rg := by rw [eig73]; exact hI.pi (by decide) (show okR none _ from trivial)
          have wig73_49_31 : (ig73 (B + 49) 31).toInt = (ig65 (B + 49) 31).toInt := by rw [eig73, up2_j (by decide)]
          have wig73_49_32 : (ig73 (B + 49) 32).toInt = (ig65 (B + 49) 32).toInt := by rw [eig73, up2_j (by decide)]
          have wig73 : (ig73 (B + 49) 35).toInt = z72.toInt := by rw [eig73, up2_eq]
          have wig73_49_34 : (ig73 (B + 49) 34).toInt = (ig65 (B + 49) 34).toInt := by rw [eig73, up2_j (by decide)]
          refine lv_iconst (v := 0) hx hb dX12_unitProduct_61 (by decide) (ti_c 0 (by decide) fun z74 hz74 => ?_)
          refine lv_istore_n (lv' := [(2, .int z74), (1, .int z59), (0, .ref (B + 49))]) hx hb dX12_unitProduct_62 rfl hl (by decide) rfl (fun ls hl => ?_)
          have L63 : ∀ (n : Nat) (ls : Array Slot) (H : Heap) (locs : List Loc) (ig76 : sI) (lg77 : sG) (v75 : Int32), lv_has ls 3 [(2, .int v75), (1, .int z59), (0, .ref (B + 49))] → WD B D cA s.heap kd ig76 rg lg77 H locs → IM τ φ υ B kd ig76 rg → Ft B [49, 74] ig lg ig76 lg77 → (0 ≤ v75.toInt) → (v75.toInt ≤ 3) → ((ig76 (B + 49) 31).toInt = (m2 : Int)) → ((ig76 (B + 49) 35).toInt = (ig (B + 49) 35).toInt + 3) → ((ig76 (B + 49) 32).toInt = (ig (B + 49) 32).toInt) → 3 - v75.toInt < (n : Int) → W p l e (rL (3 * d + 4) 0 0) s m args below meth c H locs 0 0 (MQ below (QcW B D cA (PM τ φ υ B [49, 74] kd ig rg lg (fun r ig' lg' => (r = none ∧ ((ig' (B + 49) 31).toInt = (j : Int) ∧ (ig' (B + 49) 35).toInt = (ig (B + 49) 35).toInt + 3 ∧ (ig' (B + 49) 32).toInt = (ig (B + 49) 32).toInt))))) args s 0 0 (fun q => B ≤ q)) (F0 m 63 ls []) := by
            intro n63
            induction n63 with
            | zero => intro ls H locs ig76 lg77 v75 hl hw hI hF g63_0 g63_1 g63_2 g63_3 g63_4 hmu; exact absurd hmu (by omega)
            | succ n63 ih63 =>
              intro ls H locs ig76 lg77 v75 hl hw hI hF g63_0 g63_1 g63_2 g63_3 g63_4 hmu
              refine lv_iload_n hx hb dX12_unitProduct_63 rfl (lv_at hl 0 rfl) ?_
              refine lv_iconst (v := 3) hx hb dX12_unitProduct_64 (by decide) (ti_c 3 (by decide) fun z78 hz78 => ?_)
              refine b_ge (tgt := 103) hx hb dX12_unitProduct_65 (by decide) (fun c65 => ?_) (fun c65 => ?_)
              · refine lv_goto (tgt := 4) hx hb dX12_unitProduct_103 (by decide) ?_
                exact ih4 ls H locs ig76 lg77 (lv_sub hl [2] rfl) hw hI hF (⟨m2, by omega, by omega, hm2b, hm2c⟩) (by omega) (by omega) (by omega) (by omega) (by omega)
              · refine lv_aload_n hx hb dX12_unitProduct_68 rfl (lv_at hl 2 rfl) ?_
                refine r_get C hw (hsh 49 _ rfl) fl_X12_127 (oV_r rfl (hrm (49, 36, 74) (by decide))) dX12_unitProduct_69 ?_
                refine lv_aload_n hx hb dX12_unitProduct_72 rfl (lv_at hl 2 rfl) ?_
                refine r_get C hw (hsh 49 _ rfl) fl_X12_258 (oV_i rfl) dX12_unitProduct_73 (ti_c (ig76 (B + 49) 35).toInt rfl fun z79 hz79 => ?_)
                refine lv_iconst (v := 3) hx hb dX12_unitProduct_76 (by decide) (ti_c 3 (by decide) fun z80 hz80 => ?_)
                refine lv_isub hx hb dX12_unitProduct_77 (tc_sub fun z81 hz81 => ?_)
                first | replace hz81 := hz81 (by omega) | clear hz81
                refine lv_iload_n hx hb dX12_unitProduct_78 rfl (lv_at hl 0 rfl) ?_
                refine lv_iadd hx hb dX12_unitProduct_79 (tc_add fun z82 hz82 => ?_)
                first | replace hz82 := hz82 (by omega) | clear hz82
                refine lv_dup2_11 hx hb dX12_unitProduct_80 rfl rfl ?_
                refine r_iald C hw (hsh 74 _ rfl) (by omega) (by omega) dX12_unitProduct_81 (ti_c (ig76 (B + 74) z82.toInt.toNat).toInt rfl fun z83 hz83 => ?_)
                refine lv_iload_n hx hb dX12_unitProduct_82 rfl (lv_at hl 1 rfl) ?_
                refine lv_aload_n hx hb dX12_unitProduct_83 rfl (lv_at hl 2 rfl) ?_
                refine r_get C hw (hsh 49 _ rfl) fl_X12_127 (oV_r rfl (hrm (49, 36, 74) (by decide))) dX12_unitProduct_84 ?_
                refine lv_aload_n hx hb dX12_unitProduct_87 rfl (lv_at hl 2 rfl) ?_
                refine r_get C hw (hsh 49 _ rfl) fl_X12_258 (oV_i rfl) dX12_unitProduct_88 (ti_c (ig76 (B + 49) 35).toInt rfl fun z85 hz85 => ?_)
                refine lv_iload_n hx hb dX12_unitProduct_91 rfl (lv_at hl 0 rfl) ?_
                refine lv_iadd hx hb dX12_unitProduct_92 (tc_add fun z86 hz86 => ?_)
                first | replace hz86 := hz86 (by omega) | clear hz86
                refine r_iald C hw (hsh 74 _ rfl) (by omega) (by omega) dX12_unitProduct_93 (ti_c (ig76 (B + 74) z86.toInt.toNat).toInt rfl fun z87 hz87 => ?_)
                refine lv_imul hx hb dX12_unitProduct_94 (tc_mulL 1 hz59 fun z89 hz89 => ?_)
                first | replace hz89 := hz89 (by omega) | clear hz89
                refine lv_iadd hx hb dX12_unitProduct_95 (tc_add fun z90 hz90 => ?_)
                first | replace hz90 := hz90 (by omega) | clear hz90
                refine r_iast C hw (hsh 74 _ rfl) (by omega) (by omega) dX12_unitProduct_96 (fun H locs hH hw => ?_)
                obtain ⟨ig91, eig91⟩ : ∃ f, f = up2 ig76 (B + 74) z82.toInt.toNat z90 := ⟨_, rfl⟩
                rw [← eig91] at hw
                have hF : Ft B [49, 74] ig lg ig91 lg77 := by rw [eig91]; exact hF.pi (by decide)
                have hI : IM τ φ υ B kd ig91 rg := by rw [eig91]; exact hI.pi (by decide) (show okR none _ from trivial)
                have wig91_49_31 : (ig91 (B + 49) 31).toInt = (ig76 (B + 49) 31).toInt := by rw [eig91, up2_a (by omega)]
                have wig91_49_32 : (ig91 (B + 49) 32).toInt = (ig76 (B + 49) 32).toInt := by rw [eig91, up2_a (by omega)]
                have wig91_49_35 : (ig91 (B + 49) 35).toInt = (ig76 (B + 49) 35).toInt := by rw [eig91, up2_a (by omega)]
                have wig91_49_34 : (ig91 (B + 49) 34).toInt = (ig76 (B + 49) 34).toInt := by rw [eig91, up2_a (by omega)]
                refine tc_inc hx hb dX12_unitProduct_97 hl (k := 0) rfl (by decide) (by decide) (fun z92 hz92 ls hl => ?_)
                first | replace hz92 := hz92 (by omega) | clear hz92
                have hl : lv_has ls 3 [(2, .int z92), (1, .int z59), (0, .ref (B + 49))] := hl
                refine lv_goto (tgt := 63) hx hb dX12_unitProduct_100 (by decide) ?_
                exact ih63 ls H locs ig91 lg77 z92 (lv_sub hl [0, 1, 2] rfl) hw hI hF (by omega) (by omega) (by omega) (by omega) (by omega) (by omega)
          exact L63 ((3 - z74.toInt) + 1).toNat ls H locs ig73 lg67 z74 (lv_sub hl [0, 1, 2] rfl) hw hI hF (by omega) (by omega) (by omega) (by omega) (by omega) (by omega)
      · refine lv_aload_n hx hb dX12_unitProduct_13 rfl (lv_at hl 0 rfl) ?_
        refine lv_bipush (v := 47) hx hb dX12_unitProduct_14 (by decide) (ti_c 47 (by decide) fun z93 hz93 => ?_)
        refine r_callV (As := [.int z93]) (rest := []) C hw (t_X12_isNext l B D cA kd ig7 rg lg8 _ z93 (by omega) hI) sv_X12_273 (hsh 49 _ rfl) rfl hl.1 rfl (Nat.le_of_ble_eq_true rfl) ⟨by simp only [rL]; omega, by simp only [rL]; omega⟩ ⟨Nat.le_of_ble_eq_true rfl, Nat.le_of_ble_eq_true rfl⟩ dX12_unitProduct_16 (fun r98 kd94 ig95 rg96 lg97 H locs hw hH hp99 => ?_)
        obtain ⟨rfl, rfl, rfl, rfl, hzhp99, hrhp99⟩ := hp99
        obtain ⟨z100, rfl, hz100⟩ := hrhp99
        rw [Ft.i hF 54 _ (by decide), Ft.i hF 55 _ (by decide)] at hz100
        simp only [em1, Int.toNat_natCast] at hz100
        refine z_eq (tgt := 106) hx hb dX12_unitProduct_19 (by decide) (fun c19 => ?_) (fun c19 => ?_)
        · have em : m1 = j := by rcases hm1c with q | ⟨⟨q1, q2⟩, q3, -⟩; exact q; exfalso; have q4 : (ig (B + 54) m1).toInt = 1 := q1; have q5 : (ig (B + 55) m1).toInt = 42 ∨ (ig (B + 55) m1).toInt = 47 := q2; omega
          exact r_vret C hw hr hlk (Nat.le_of_ble_eq_true rfl) (Nat.le_of_ble_eq_true rfl) dX12_unitProduct_106 ⟨rfl, rfl, hI, hF, ⟨rfl, by omega⟩⟩
        · have hcs : sMul (mK B ig) (mA B ig) m1 ∧ m1 + 1 < j ∧ ∃ n, gCh (gPart (mK B ig) (mA B ig) d) (sMul (mK B ig) (mA B ig)) n (m1 + 1) j := by
            rcases hm1c with q | hc
            · exfalso
              subst q
              rcases hla with q | ⟨q1, q2⟩
              · omega
              · have q3 : (ig (B + 55) m1).toInt = 41 ∨ (ig (B + 55) m1).toInt = 43 ∨ (ig (B + 55) m1).toInt = 45 := q2
                omega
            · exact hc
          obtain ⟨hsd, hsl, n1, hch1⟩ := hcs
          obtain ⟨m2, hp2, hm2a, hm2b, hm2c⟩ := gCh.first (fun i j => gPart.lt d i j) hch1
          refine lv_aload_n hx hb dX12_unitProduct_22 rfl (lv_at hl 0 rfl) ?_
          refine lv_bipush (v := 42) hx hb dX12_unitProduct_23 (by decide) (ti_c 42 (by decide) fun z101 hz101 => ?_)
          refine r_callV (As := [.int z101]) (rest := []) C hw (t_X12_isNext l B D cA kd ig7 rg lg8 _ z101 (by omega) hI) sv_X12_273 (hsh 49 _ rfl) rfl hl.1 rfl (Nat.le_of_ble_eq_true rfl) ⟨by simp only [rL]; omega, by simp only [rL]; omega⟩ ⟨Nat.le_of_ble_eq_true rfl, Nat.le_of_ble_eq_true rfl⟩ dX12_unitProduct_25 (fun r106 kd102 ig103 rg104 lg105 H locs hw hH hp107 => ?_)
          obtain ⟨rfl, rfl, rfl, rfl, hzhp107, hrhp107⟩ := hp107
          obtain ⟨z108, rfl, hz108⟩ := hrhp107
          rw [Ft.i hF 54 _ (by decide), Ft.i hF 55 _ (by decide)] at hz108
          simp only [em1, Int.toNat_natCast] at hz108
          refine z_eq (tgt := 35) hx hb dX12_unitProduct_28 (by decide) (fun c28 => ?_) (fun c28 => ?_)
          · refine lv_iconst (v := (-1)) hx hb dX12_unitProduct_35 (by decide) (ti_c (-1) (by decide) fun z109 hz109 => ?_)
            refine lv_istore_n (lv' := [(1, .int z109), (0, .ref (B + 49))]) hx hb dX12_unitProduct_36 rfl hl (by decide) rfl (fun ls hl => ?_)
            refine lv_aload_n hx hb dX12_unitProduct_37 rfl (lv_at hl 1 rfl) ?_
            refine lv_dup hx hb dX12_unitProduct_38 rfl ?_
            refine r_get C hw (hsh 49 _ rfl) fl_X12_241 (oV_i rfl) dX12_unitProduct_39 (ti_c (ig7 (B + 49) 31).toInt rfl fun z110 hz110 => ?_)
            refine lv_iconst (v := 1) hx hb dX12_unitProduct_42 (by decide) (ti_c 1 (by decide) fun z111 hz111 => ?_)
            refine lv_iadd hx hb dX12_unitProduct_43 (tc_add fun z112 hz112 => ?_)
            first | replace hz112 := hz112 (by omega) | clear hz112
            refine r_puti C hw (hsh 49 _ rfl) fl_X12_241 rfl rfl rfl dX12_unitProduct_44 (fun H locs hH hw => ?_)
            obtain ⟨ig113, eig113⟩ : ∃ f, f = up2 ig7 (B + 49) 31 z112 := ⟨_, rfl⟩
            rw [← eig113] at hw
            have hF : Ft B [49, 74] ig lg ig113 lg8 := by rw [eig113]; exact hF.pi (by decide)
            have hI : IM τ φ υ B kd ig113 rg := by rw [eig113]; exact hI.pi (by decide) (show okR none _ from trivial)
            have wig113 : (ig113 (B + 49) 31).toInt = z112.toInt := by rw [eig113, up2_eq]
            have wig113_49_32 : (ig113 (B + 49) 32).toInt = (ig7 (B + 49) 32).toInt := by rw [eig113, up2_j (by decide)]
            have wig113_49_35 : (ig113 (B + 49) 35).toInt = (ig7 (B + 49) 35).toInt := by rw [eig113, up2_j (by decide)]
            have wig113_49_34 : (ig113 (B + 49) 34).toInt = (ig7 (B + 49) 34).toInt := by rw [eig113, up2_j (by decide)]
            refine lv_aload_n hx hb dX12_unitProduct_47 rfl (lv_at hl 1 rfl) ?_
            refine r_callV (As := []) (rest := []) C hw (hP kd ig113 rg lg8 _  (m1 + 1) m2 (by rw [Ft.K hF (by decide), Ft.A hF (by decide)]; exact hp2) (by omega) (fun k q1 q2 => Ft.R hF (by decide) (by decide) (by decide) (hR k (by omega) (by omega))) (by omega) (by omega) hI) sv_X12_293 (hsh 49 _ rfl) rfl hl.1 rfl (Nat.le_of_ble_eq_true rfl) ⟨by simp only [rL]; omega, by simp only [rL]; omega⟩ ⟨Nat.le_of_ble_eq_true rfl, Nat.le_of_ble_eq_true rfl⟩ dX12_unitProduct_48 (fun r118 kd114 ig115 rg116 lg117 H locs hw hH hp119 => ?_)
            obtain ⟨rfl, rfl, hI, hchp119, hrhp119⟩ := hp119
            have hF : Ft B [49, 74] ig lg ig115 lg117 := Ft.tr hF hchp119 (by decide) (by decide)
            obtain ⟨rfl, hvhp119⟩ := hrhp119
            refine lv_aload_n hx hb dX12_unitProduct_51 rfl (lv_at hl 1 rfl) ?_
            refine lv_dup hx hb dX12_unitProduct_52 rfl ?_
            refine r_get C hw (hsh 49 _ rfl) fl_X12_258 (oV_i rfl) dX12_unitProduct_53 (ti_c (ig115 (B + 49) 35).toInt rfl fun z120 hz120 => ?_)
            refine lv_iconst (v := 3) hx hb dX12_unitProduct_56 (by decide) (ti_c 3 (by decide) fun z121 hz121 => ?_)
            refine lv_isub hx hb dX12_unitProduct_57 (tc_sub fun z122 hz122 => ?_)
            first | replace hz122 := hz122 (by omega) | clear hz122
            refine r_puti C hw (hsh 49 _ rfl) fl_X12_258 rfl rfl rfl dX12_unitProduct_58 (fun H locs hH hw => ?_)
            obtain ⟨ig123, eig123⟩ : ∃ f, f = up2 ig115 (B + 49) 35 z122 := ⟨_, rfl⟩
            rw [← eig123] at hw
            have hF : Ft B [49, 74] ig lg ig123 lg117 := by rw [eig123]; exact hF.pi (by decide)
            have hI : IM τ φ υ B kd ig123 rg := by rw [eig123]; exact hI.pi (by decide) (show okR none _ from trivial)
            have wig123_49_31 : (ig123 (B + 49) 31).toInt = (ig115 (B + 49) 31).toInt := by rw [eig123, up2_j (by decide)]
            have wig123_49_32 : (ig123 (B + 49) 32).toInt = (ig115 (B + 49) 32).toInt := by rw [eig123, up2_j (by decide)]
            have wig123 : (ig123 (B + 49) 35).toInt = z122.toInt := by rw [eig123, up2_eq]
            have wig123_49_34 : (ig123 (B + 49) 34).toInt = (ig115 (B + 49) 34).toInt := by rw [eig123, up2_j (by decide)]
            refine lv_iconst (v := 0) hx hb dX12_unitProduct_61 (by decide) (ti_c 0 (by decide) fun z124 hz124 => ?_)
            refine lv_istore_n (lv' := [(2, .int z124), (1, .int z109), (0, .ref (B + 49))]) hx hb dX12_unitProduct_62 rfl hl (by decide) rfl (fun ls hl => ?_)
            have L63 : ∀ (n : Nat) (ls : Array Slot) (H : Heap) (locs : List Loc) (ig126 : sI) (lg127 : sG) (v125 : Int32), lv_has ls 3 [(2, .int v125), (1, .int z109), (0, .ref (B + 49))] → WD B D cA s.heap kd ig126 rg lg127 H locs → IM τ φ υ B kd ig126 rg → Ft B [49, 74] ig lg ig126 lg127 → (0 ≤ v125.toInt) → (v125.toInt ≤ 3) → ((ig126 (B + 49) 31).toInt = (m2 : Int)) → ((ig126 (B + 49) 35).toInt = (ig (B + 49) 35).toInt + 3) → ((ig126 (B + 49) 32).toInt = (ig (B + 49) 32).toInt) → 3 - v125.toInt < (n : Int) → W p l e (rL (3 * d + 4) 0 0) s m args below meth c H locs 0 0 (MQ below (QcW B D cA (PM τ φ υ B [49, 74] kd ig rg lg (fun r ig' lg' => (r = none ∧ ((ig' (B + 49) 31).toInt = (j : Int) ∧ (ig' (B + 49) 35).toInt = (ig (B + 49) 35).toInt + 3 ∧ (ig' (B + 49) 32).toInt = (ig (B + 49) 32).toInt))))) args s 0 0 (fun q => B ≤ q)) (F0 m 63 ls []) := by
              intro n63
              induction n63 with
              | zero => intro ls H locs ig126 lg127 v125 hl hw hI hF g63_0 g63_1 g63_2 g63_3 g63_4 hmu; exact absurd hmu (by omega)
              | succ n63 ih63 =>
                intro ls H locs ig126 lg127 v125 hl hw hI hF g63_0 g63_1 g63_2 g63_3 g63_4 hmu
                refine lv_iload_n hx hb dX12_unitProduct_63 rfl (lv_at hl 0 rfl) ?_
                refine lv_iconst (v := 3) hx hb dX12_unitProduct_64 (by decide) (ti_c 3 (by decide) fun z128 hz128 => ?_)
                refine b_ge (tgt := 103) hx hb dX12_unitProduct_65 (by decide) (fun c65 => ?_) (fun c65 => ?_)
                · refine lv_goto (tgt := 4) hx hb dX12_unitProduct_103 (by decide) ?_
                  exact ih4 ls H locs ig126 lg127 (lv_sub hl [2] rfl) hw hI hF (⟨m2, by omega, by omega, hm2b, hm2c⟩) (by omega) (by omega) (by omega) (by omega) (by omega)
                · refine lv_aload_n hx hb dX12_unitProduct_68 rfl (lv_at hl 2 rfl) ?_
                  refine r_get C hw (hsh 49 _ rfl) fl_X12_127 (oV_r rfl (hrm (49, 36, 74) (by decide))) dX12_unitProduct_69 ?_
                  refine lv_aload_n hx hb dX12_unitProduct_72 rfl (lv_at hl 2 rfl) ?_
                  refine r_get C hw (hsh 49 _ rfl) fl_X12_258 (oV_i rfl) dX12_unitProduct_73 (ti_c (ig126 (B + 49) 35).toInt rfl fun z129 hz129 => ?_)
                  refine lv_iconst (v := 3) hx hb dX12_unitProduct_76 (by decide) (ti_c 3 (by decide) fun z130 hz130 => ?_)
                  refine lv_isub hx hb dX12_unitProduct_77 (tc_sub fun z131 hz131 => ?_)
                  first | replace hz131 := hz131 (by omega) | clear hz131
                  refine lv_iload_n hx hb dX12_unitProduct_78 rfl (lv_at hl 0 rfl) ?_
                  refine lv_iadd hx hb dX12_unitProduct_79 (tc_add fun z132 hz132 => ?_)
                  first | replace hz132 := hz132 (by omega) | clear hz132
                  refine lv_dup2_11 hx hb dX12_unitProduct_80 rfl rfl ?_
                  refine r_iald C hw (hsh 74 _ rfl) (by omega) (by omega) dX12_unitProduct_81 (ti_c (ig126 (B + 74) z132.toInt.toNat).toInt rfl fun z133 hz133 => ?_)
                  refine lv_iload_n hx hb dX12_unitProduct_82 rfl (lv_at hl 1 rfl) ?_
                  refine lv_aload_n hx hb dX12_unitProduct_83 rfl (lv_at hl 2 rfl) ?_
                  refine r_get C hw (hsh 49 _ rfl) fl_X12_127 (oV_r rfl (hrm (49, 36, 74) (by decide))) dX12_unitProduct_84 ?_
                  refine lv_aload_n hx hb dX12_unitProduct_87 rfl (lv_at hl 2 rfl) ?_
                  refine r_get C hw (hsh 49 _ rfl) fl_X12_258 (oV_i rfl) dX12_unitProduct_88 (ti_c (ig126 (B + 49) 35).toInt rfl fun z135 hz135 => ?_)
                  refine lv_iload_n hx hb dX12_unitProduct_91 rfl (lv_at hl 0 rfl) ?_
                  refine lv_iadd hx hb dX12_unitProduct_92 (tc_add fun z136 hz136 => ?_)
                  first | replace hz136 := hz136 (by omega) | clear hz136
                  refine r_iald C hw (hsh 74 _ rfl) (by omega) (by omega) dX12_unitProduct_93 (ti_c (ig126 (B + 74) z136.toInt.toNat).toInt rfl fun z137 hz137 => ?_)
                  refine lv_imul hx hb dX12_unitProduct_94 (tc_mulL (-1) hz109 fun z139 hz139 => ?_)
                  first | replace hz139 := hz139 (by omega) | clear hz139
                  refine lv_iadd hx hb dX12_unitProduct_95 (tc_add fun z140 hz140 => ?_)
                  first | replace hz140 := hz140 (by omega) | clear hz140
                  refine r_iast C hw (hsh 74 _ rfl) (by omega) (by omega) dX12_unitProduct_96 (fun H locs hH hw => ?_)
                  obtain ⟨ig141, eig141⟩ : ∃ f, f = up2 ig126 (B + 74) z132.toInt.toNat z140 := ⟨_, rfl⟩
                  rw [← eig141] at hw
                  have hF : Ft B [49, 74] ig lg ig141 lg127 := by rw [eig141]; exact hF.pi (by decide)
                  have hI : IM τ φ υ B kd ig141 rg := by rw [eig141]; exact hI.pi (by decide) (show okR none _ from trivial)
                  have wig141_49_31 : (ig141 (B + 49) 31).toInt = (ig126 (B + 49) 31).toInt := by rw [eig141, up2_a (by omega)]
                  have wig141_49_32 : (ig141 (B + 49) 32).toInt = (ig126 (B + 49) 32).toInt := by rw [eig141, up2_a (by omega)]
                  have wig141_49_35 : (ig141 (B + 49) 35).toInt = (ig126 (B + 49) 35).toInt := by rw [eig141, up2_a (by omega)]
                  have wig141_49_34 : (ig141 (B + 49) 34).toInt = (ig126 (B + 49) 34).toInt := by rw [eig141, up2_a (by omega)]
                  refine tc_inc hx hb dX12_unitProduct_97 hl (k := 0) rfl (by decide) (by decide) (fun z142 hz142 ls hl => ?_)
                  first | replace hz142 := hz142 (by omega) | clear hz142
                  have hl : lv_has ls 3 [(2, .int z142), (1, .int z109), (0, .ref (B + 49))] := hl
                  refine lv_goto (tgt := 63) hx hb dX12_unitProduct_100 (by decide) ?_
                  exact ih63 ls H locs ig141 lg127 z142 (lv_sub hl [0, 1, 2] rfl) hw hI hF (by omega) (by omega) (by omega) (by omega) (by omega) (by omega)
            exact L63 ((3 - z124.toInt) + 1).toNat ls H locs ig123 lg117 z124 (lv_sub hl [0, 1, 2] rfl) hw hI hF (by omega) (by omega) (by omega) (by omega) (by omega) (by omega)
          · refine lv_iconst (v := 1) hx hb dX12_unitProduct_31 (by decide) (ti_c 1 (by decide) fun z143 hz143 => ?_)
            refine lv_goto (tgt := 36) hx hb dX12_unitProduct_32 (by decide) ?_
            refine lv_istore_n (lv' := [(1, .int z143), (0, .ref (B + 49))]) hx hb dX12_unitProduct_36 rfl hl (by decide) rfl (fun ls hl => ?_)
            refine lv_aload_n hx hb dX12_unitProduct_37 rfl (lv_at hl 1 rfl) ?_
            refine lv_dup hx hb dX12_unitProduct_38 rfl ?_
            refine r_get C hw (hsh 49 _ rfl) fl_X12_241 (oV_i rfl) dX12_unitProduct_39 (ti_c (ig7 (B + 49) 31).toInt rfl fun z144 hz144 => ?_)
            refine lv_iconst (v := 1) hx hb dX12_unitProduct_42 (by decide) (ti_c 1 (by decide) fun z145 hz145 => ?_)
            refine lv_iadd hx hb dX12_unitProduct_43 (tc_add fun z146 hz146 => ?_)
            first | replace hz146 := hz146 (by omega) | clear hz146
            refine r_puti C hw (hsh 49 _ rfl) fl_X12_241 rfl rfl rfl dX12_unitProduct_44 (fun H locs hH hw => ?_)
            obtain ⟨ig147, eig147⟩ : ∃ f, f = up2 ig7 (B + 49) 31 z146 := ⟨_, rfl⟩
            rw [← eig147] at hw
            have hF : Ft B [49, 74] ig lg ig147 lg8 := by rw [eig147]; exact hF.pi (by decide)
            have hI : IM τ φ υ B kd ig147 rg := by rw [eig147]; exact hI.pi (by decide) (show okR none _ from trivial)
            have wig147 : (ig147 (B + 49) 31).toInt = z146.toInt := by rw [eig147, up2_eq]
            have wig147_49_32 : (ig147 (B + 49) 32).toInt = (ig7 (B + 49) 32).toInt := by rw [eig147, up2_j (by decide)]
            have wig147_49_35 : (ig147 (B + 49) 35).toInt = (ig7 (B + 49) 35).toInt := by rw [eig147, up2_j (by decide)]
            have wig147_49_34 : (ig147 (B + 49) 34).toInt = (ig7 (B + 49) 34).toInt := by rw [eig147, up2_j (by decide)]
            refine lv_aload_n hx hb dX12_unitProduct_47 rfl (lv_at hl 1 rfl) ?_
            refine r_callV (As := []) (rest := []) C hw (hP kd ig147 rg lg8 _  (m1 + 1) m2 (by rw [Ft.K hF (by decide), Ft.A hF (by decide)]; exact hp2) (by omega) (fun k q1 q2 => Ft.R hF (by decide) (by decide) (by decide) (hR k (by omega) (by omega))) (by omega) (by omega) hI) sv_X12_293 (hsh 49 _ rfl) rfl hl.1 rfl (Nat.le_of_ble_eq_true rfl) ⟨by simp only [rL]; omega, by simp only [rL]; omega⟩ ⟨Nat.le_of_ble_eq_true rfl, Nat.le_of_ble_eq_true rfl⟩ dX12_unitProduct_48 (fun r152 kd148 ig149 rg150 lg151 H locs hw hH hp153 => ?_)
            obtain ⟨rfl, rfl, hI, hchp153, hrhp153⟩ := hp153
            have hF : Ft B [49, 74] ig lg ig149 lg151 := Ft.tr hF hchp153 (by decide) (by decide)
            obtain ⟨rfl, hvhp153⟩ := hrhp153
            refine lv_aload_n hx hb dX12_unitProduct_51 rfl (lv_at hl 1 rfl) ?_
            refine lv_dup hx hb dX12_unitProduct_52 rfl ?_
            refine r_get C hw (hsh 49 _ rfl) fl_X12_258 (oV_i rfl) dX12_unitProduct_53 (ti_c (ig149 (B + 49) 35).toInt rfl fun z154 hz154 => ?_)
            refine lv_iconst (v := 3) hx hb dX12_unitProduct_56 (by decide) (ti_c 3 (by decide) fun z155 hz155 => ?_)
            refine lv_isub hx hb dX12_unitProduct_57 (tc_sub fun z156 hz156 => ?_)
            first | replace hz156 := hz156 (by omega) | clear hz156
            refine r_puti C hw (hsh 49 _ rfl) fl_X12_258 rfl rfl rfl dX12_unitProduct_58 (fun H locs hH hw => ?_)
            obtain ⟨ig157, eig157⟩ : ∃ f, f = up2 ig149 (B + 49) 35 z156 := ⟨_, rfl⟩
            rw [← eig157] at hw
            have hF : Ft B [49, 74] ig lg ig157 lg151 := by rw [eig157]; exact hF.pi (by decide)
            have hI : IM τ φ υ B kd ig157 rg := by rw [eig157]; exact hI.pi (by decide) (show okR none _ from trivial)
            have wig157_49_31 : (ig157 (B + 49) 31).toInt = (ig149 (B + 49) 31).toInt := by rw [eig157, up2_j (by decide)]
            have wig157_49_32 : (ig157 (B + 49) 32).toInt = (ig149 (B + 49) 32).toInt := by rw [eig157, up2_j (by decide)]
            have wig157 : (ig157 (B + 49) 35).toInt = z156.toInt := by rw [eig157, up2_eq]
            have wig157_49_34 : (ig157 (B + 49) 34).toInt = (ig149 (B + 49) 34).toInt := by rw [eig157, up2_j (by decide)]
            refine lv_iconst (v := 0) hx hb dX12_unitProduct_61 (by decide) (ti_c 0 (by decide) fun z158 hz158 => ?_)
            refine lv_istore_n (lv' := [(2, .int z158), (1, .int z143), (0, .ref (B + 49))]) hx hb dX12_unitProduct_62 rfl hl (by decide) rfl (fun ls hl => ?_)
            have L63 : ∀ (n : Nat) (ls : Array Slot) (H : Heap) (locs : List Loc) (ig160 : sI) (lg161 : sG) (v159 : Int32), lv_has ls 3 [(2, .int v159), (1, .int z143), (0, .ref (B + 49))] → WD B D cA s.heap kd ig160 rg lg161 H locs → IM τ φ υ B kd ig160 rg → Ft B [49, 74] ig lg ig160 lg161 → (0 ≤ v159.toInt) → (v159.toInt ≤ 3) → ((ig160 (B + 49) 31).toInt = (m2 : Int)) → ((ig160 (B + 49) 35).toInt = (ig (B + 49) 35).toInt + 3) → ((ig160 (B + 49) 32).toInt = (ig (B + 49) 32).toInt) → 3 - v159.toInt < (n : Int) → W p l e (rL (3 * d + 4) 0 0) s m args below meth c H locs 0 0 (MQ below (QcW B D cA (PM τ φ υ B [49, 74] kd ig rg lg (fun r ig' lg' => (r = none ∧ ((ig' (B + 49) 31).toInt = (j : Int) ∧ (ig' (B + 49) 35).toInt = (ig (B + 49) 35).toInt + 3 ∧ (ig' (B + 49) 32).toInt = (ig (B + 49) 32).toInt))))) args s 0 0 (fun q => B ≤ q)) (F0 m 63 ls []) := by
              intro n63
              induction n63 with
              | zero => intro ls H locs ig160 lg161 v159 hl hw hI hF g63_0 g63_1 g63_2 g63_3 g63_4 hmu; exact absurd hmu (by omega)
              | succ n63 ih63 =>
                intro ls H locs ig160 lg161 v159 hl hw hI hF g63_0 g63_1 g63_2 g63_3 g63_4 hmu
                refine lv_iload_n hx hb dX12_unitProduct_63 rfl (lv_at hl 0 rfl) ?_
                refine lv_iconst (v := 3) hx hb dX12_unitProduct_64 (by decide) (ti_c 3 (by decide) fun z162 hz162 => ?_)
                refine b_ge (tgt := 103) hx hb dX12_unitProduct_65 (by decide) (fun c65 => ?_) (fun c65 => ?_)
                · refine lv_goto (tgt := 4) hx hb dX12_unitProduct_103 (by decide) ?_
                  exact ih4 ls H locs ig160 lg161 (lv_sub hl [2] rfl) hw hI hF (⟨m2, by omega, by omega, hm2b, hm2c⟩) (by omega) (by omega) (by omega) (by omega) (by omega)
                · refine lv_aload_n hx hb dX12_unitProduct_68 rfl (lv_at hl 2 rfl) ?_
                  refine r_get C hw (hsh 49 _ rfl) fl_X12_127 (oV_r rfl (hrm (49, 36, 74) (by decide))) dX12_unitProduct_69 ?_
                  refine lv_aload_n hx hb dX12_unitProduct_72 rfl (lv_at hl 2 rfl) ?_
                  refine r_get C hw (hsh 49 _ rfl) fl_X12_258 (oV_i rfl) dX12_unitProduct_73 (ti_c (ig160 (B + 49) 35).toInt rfl fun z163 hz163 => ?_)
                  refine lv_iconst (v := 3) hx hb dX12_unitProduct_76 (by decide) (ti_c 3 (by decide) fun z164 hz164 => ?_)
                  refine lv_isub hx hb dX12_unitProduct_77 (tc_sub fun z165 hz165 => ?_)
                  first | replace hz165 := hz165 (by omega) | clear hz165
                  refine lv_iload_n hx hb dX12_unitProduct_78 rfl (lv_at hl 0 rfl) ?_
                  refine lv_iadd hx hb dX12_unitProduct_79 (tc_add fun z166 hz166 => ?_)
                  first | replace hz166 := hz166 (by omega) | clear hz166
                  refine lv_dup2_11 hx hb dX12_unitProduct_80 rfl rfl ?_
                  refine r_iald C hw (hsh 74 _ rfl) (by omega) (by omega) dX12_unitProduct_81 (ti_c (ig160 (B + 74) z166.toInt.toNat).toInt rfl fun z167 hz167 => ?_)
                  refine lv_iload_n hx hb dX12_unitProduct_82 rfl (lv_at hl 1 rfl) ?_
                  refine lv_aload_n hx hb dX12_unitProduct_83 rfl (lv_at hl 2 rfl) ?_
                  refine r_get C hw (hsh 49 _ rfl) fl_X12_127 (oV_r rfl (hrm (49, 36, 74) (by decide))) dX12_unitProduct_84 ?_
                  refine lv_aload_n hx hb dX12_unitProduct_87 rfl (lv_at hl 2 rfl) ?_
                  refine r_get C hw (hsh 49 _ rfl) fl_X12_258 (oV_i rfl) dX12_unitProduct_88 (ti_c (ig160 (B + 49) 35).toInt rfl fun z169 hz169 => ?_)
                  refine lv_iload_n hx hb dX12_unitProduct_91 rfl (lv_at hl 0 rfl) ?_
                  refine lv_iadd hx hb dX12_unitProduct_92 (tc_add fun z170 hz170 => ?_)
                  first | replace hz170 := hz170 (by omega) | clear hz170
                  refine r_iald C hw (hsh 74 _ rfl) (by omega) (by omega) dX12_unitProduct_93 (ti_c (ig160 (B + 74) z170.toInt.toNat).toInt rfl fun z171 hz171 => ?_)
                  refine lv_imul hx hb dX12_unitProduct_94 (tc_mulL 1 hz143 fun z173 hz173 => ?_)
                  first | replace hz173 := hz173 (by omega) | clear hz173
                  refine lv_iadd hx hb dX12_unitProduct_95 (tc_add fun z174 hz174 => ?_)
                  first | replace hz174 := hz174 (by omega) | clear hz174
                  refine r_iast C hw (hsh 74 _ rfl) (by omega) (by omega) dX12_unitProduct_96 (fun H locs hH hw => ?_)
                  obtain ⟨ig175, eig175⟩ : ∃ f, f = up2 ig160 (B + 74) z166.toInt.toNat z174 := ⟨_, rfl⟩
                  rw [← eig175] at hw
                  have hF : Ft B [49, 74] ig lg ig175 lg161 := by rw [eig175]; exact hF.pi (by decide)
                  have hI : IM τ φ υ B kd ig175 rg := by rw [eig175]; exact hI.pi (by decide) (show okR none _ from trivial)
                  have wig175_49_31 : (ig175 (B + 49) 31).toInt = (ig160 (B + 49) 31).toInt := by rw [eig175, up2_a (by omega)]
                  have wig175_49_32 : (ig175 (B + 49) 32).toInt = (ig160 (B + 49) 32).toInt := by rw [eig175, up2_a (by omega)]
                  have wig175_49_35 : (ig175 (B + 49) 35).toInt = (ig160 (B + 49) 35).toInt := by rw [eig175, up2_a (by omega)]
                  have wig175_49_34 : (ig175 (B + 49) 34).toInt = (ig160 (B + 49) 34).toInt := by rw [eig175, up2_a (by omega)]
                  refine tc_inc hx hb dX12_unitProduct_97 hl (k := 0) rfl (by decide) (by decide) (fun z176 hz176 ls hl => ?_)
                  first | replace hz176 := hz176 (by omega) | clear hz176
                  have hl : lv_has ls 3 [(2, .int z176), (1, .int z143), (0, .ref (B + 49))] := hl
                  refine lv_goto (tgt := 63) hx hb dX12_unitProduct_100 (by decide) ?_
                  exact ih63 ls H locs ig175 lg161 z176 (lv_sub hl [0, 1, 2] rfl) hw hI hF (by omega) (by omega) (by omega) (by omega) (by omega) (by omega)
            exact L63 ((3 - z158.toInt) + 1).toNat ls H locs ig157 lg151 z158 (lv_sub hl [0, 1, 2] rfl) hw hI hF (by omega) (by omega) (by omega) (by omega) (by omega) (by omega)
  exact L4 (((j : Int) - (ig2 (B + 49) 31).toInt) + 1).toNat ls H locs ig2 lg4 (lv_sub hl [0] rfl) hw hI hF (⟨m0, by omega, by omega, hm0b, hm0c⟩) (by omega) (by omega) (by omega) (by omega) (by omega)

set_option maxHeartbeats 4000000 in
set_option maxRecDepth 100000 in
theorem t_X12_unitE {υ : Option Int} {τ : Tp} {φ : Option Int} (l : Launch) (B : Nat) (D : va_G) (cA : Nat → ClassId) (kd : sK) (ig : sI) (rg : sR) (lg : sG) (sz : Nat) (d i j : Nat) (hQ : RX12_unitProduct τ φ υ l B D cA d) (hg : gE (mK B ig) (mA B ig) d i j) (hgo : (ig (B + 49) 31).toInt = (i : Int)) (hR : ∀ k, i ≤ k → k < j → rOk B ig k) (hj : j ≤ 37000 ∧ (j : Int) ≤ (ig (B + 49) 32).toInt ∧ (ig (B + 49) 32).toInt ≤ 37080) (hla : ((j : Int) = (ig (B + 49) 32).toInt ∨ (mK B ig j = 1 ∧ mA B ig j = 41))) (ht : 0 ≤ (ig (B + 49) 35).toInt ∧ (ig (B + 49) 35).toInt + (6 * (d : Int) + 6) ≤ 90) (hI : IM τ φ υ B kd ig rg) : MC l B D cA yX12_unitE cX12_unitE 2 none (rL (3 * d + 5) 0 0) [.ref (B + 49)] kd ig rg lg sz (PM τ φ υ B [49, 74] kd ig rg lg (fun r ig' lg' => (r = none ∧ ((ig' (B + 49) 31).toInt = (j : Int) ∧ (ig' (B + 49) 35).toInt = (ig (B + 49) 35).toInt + 3 ∧ (ig' (B + 49) 32).toInt = (ig (B + 49) 32).toInt)))) := by
  refine MC.of (own := RX12) (by decide +kernel) rfl (Nat.le_of_ble_eq_true rfl) ?_
  intro p e s m args below meth c ls C hr hlk hnm hw hsz hl
  have hx := C.1.1
  have hb := C.1.2.1
  have hown := C.1.2.2.2.1
  have hts := C.1.2.2.2.2
  have hl : lv_has ls 2 [(0, .ref (B + 49))] := hl
  have hF : Ft B [49, 74] ig lg ig lg := Ft.rf
  have hsh := hI.sh
  have hrm := hI.rm
  obtain ⟨n0, hch0⟩ := hg
  have hF0 := hF
  obtain ⟨m0, hp0, hm0a, hm0b, hm0c⟩ := gCh.first (fun i j => gProd.lt) hch0
  refine lv_aload_n hx hb dX12_unitE_0 rfl (lv_at hl 0 rfl) ?_
  refine r_callV (As := []) (rest := []) C hw (hQ kd ig rg lg _  i m0 (by rw [Ft.K hF (by decide), Ft.A hF (by decide)]; exact hp0) (by omega) (fun k q1 q2 => Ft.R hF (by decide) (by decide) (by decide) (hR k (by omega) (by omega))) (by omega) (by rw [Ft.K hF (by decide), Ft.A hF (by decide)]; rcases hm0c with q | ⟨⟨q1, q2⟩, -⟩; (rw [q]; rcases hla with q | ⟨q1, q2⟩; exact Or.inl (by omega); exact Or.inr ⟨q1, Or.inl q2⟩); exact Or.inr ⟨q1, Or.inr q2⟩) (by omega) hI) sv_X12_290 (hsh 49 _ rfl) rfl hl.1 rfl (Nat.le_of_ble_eq_true rfl) ⟨by simp only [rL]; omega, by simp only [rL]; omega⟩ ⟨Nat.le_of_ble_eq_true rfl, Nat.le_of_ble_eq_true rfl⟩ dX12_unitE_1 (fun r5 kd1 ig2 rg3 lg4 H locs hw hH hp6 => ?_)
  obtain ⟨rfl, rfl, hI, hchp6, hrhp6⟩ := hp6
  have hF : Ft B [49, 74] ig lg ig2 lg4 := Ft.tr hF hchp6 (by decide) (by decide)
  obtain ⟨rfl, hvhp6⟩ := hrhp6
  have L4 : ∀ (n : Nat) (ls : Array Slot) (H : Heap) (locs : List Loc) (ig7 : sI) (lg8 : sG) , lv_has ls 2 [(0, .ref (B + 49))] → WD B D cA s.heap kd ig7 rg lg8 H locs → IM τ φ υ B kd ig7 rg → Ft B [49, 74] ig lg ig7 lg8 → (∃ m : Nat, (ig7 (B + 49) 31).toInt = (m : Int) ∧ i < m ∧ m ≤ j ∧ (m = j ∨ (sAdd (mK B ig) (mA B ig) m ∧ m + 1 < j ∧ ∃ n, gCh (gProd (mK B ig) (mA B ig) d) (sAdd (mK B ig) (mA B ig)) n (m + 1) j))) → (0 ≤ (ig7 (B + 49) 31).toInt) → ((ig7 (B + 49) 31).toInt ≤ (j : Int)) → ((ig7 (B + 49) 35).toInt = (ig (B + 49) 35).toInt + 3) → ((ig7 (B + 49) 32).toInt = (ig (B + 49) 32).toInt) → (j : Int) - (ig7 (B + 49) 31).toInt < (n : Int) → W p l e (rL (3 * d + 5) 0 0) s m args below meth c H locs 0 0 (MQ below (QcW B D cA (PM τ φ υ B [49, 74] kd ig rg lg (fun r ig' lg' => (r = none ∧ ((ig' (B + 49) 31).toInt = (j : Int) ∧ (ig' (B + 49) 35).toInt = (ig (B + 49) 35).toInt + 3 ∧ (ig' (B + 49) 32).toInt = (ig (B + 49) 32).toInt))))) args s 0 0 (fun q => B ≤ q)) (F0 m 4 ls []) := by
    intro n4
    induction n4 with
    | zero => intro ls H locs ig7 lg8 hl hw hI hF g4_0 g4_1 g4_2 g4_3 g4_4 hmu; exact absurd hmu (by omega)
    | succ n4 ih4 =>
      intro ls H locs ig7 lg8 hl hw hI hF g4_0 g4_1 g4_2 g4_3 g4_4 hmu
      obtain ⟨m1, em1, hm1a, hm1b, hm1c⟩ := g4_0
      refine lv_aload_n hx hb dX12_unitE_4 rfl (lv_at hl 0 rfl) ?_
      refine lv_bipush (v := 43) hx hb dX12_unitE_5 (by decide) (ti_c 43 (by decide) fun z9 hz9 => ?_)
      refine r_callV (As := [.int z9]) (rest := []) C hw (t_X12_isNext l B D cA kd ig7 rg lg8 _ z9 (by omega) hI) sv_X12_273 (hsh 49 _ rfl) rfl hl.1 rfl (Nat.le_of_ble_eq_true rfl) ⟨by simp only [rL]; omega, by simp only [rL]; omega⟩ ⟨Nat.le_of_ble_eq_true rfl, Nat.le_of_ble_eq_true rfl⟩ dX12_unitE_7 (fun r14 kd10 ig11 rg12 lg13 H locs hw hH hp15 => ?_)
      obtain ⟨rfl, rfl, rfl, rfl, hzhp15, hrhp15⟩ := hp15
      obtain ⟨z16, rfl, hz16⟩ := hrhp15
      rw [Ft.i hF 54 _ (by decide), Ft.i hF 55 _ (by decide)] at hz16
      simp only [em1, Int.toNat_natCast] at hz16
      refine z_ne (tgt := 22) hx hb dX12_unitE_10 (by decide) (fun c10 => ?_) (fun c10 => ?_)
      · have hcs : sAdd (mK B ig) (mA B ig) m1 ∧ m1 + 1 < j ∧ ∃ n, gCh (gProd (mK B ig) (mA B ig) d) (sAdd (mK B ig) (mA B ig)) n (m1 + 1) j := by
          rcases hm1c with q | hc
          · exfalso
            subst q
            rcases hla with q | ⟨q1, q2⟩
            · omega
            · have q3 : (ig (B + 55) m1).toInt = 41 := q2
              omega
          · exact hc
        obtain ⟨hsd, hsl, n1, hch1⟩ := hcs
        obtain ⟨m2, hp2, hm2a, hm2b, hm2c⟩ := gCh.first (fun i j => gProd.lt) hch1
        refine lv_aload_n hx hb dX12_unitE_22 rfl (lv_at hl 0 rfl) ?_
        refine lv_dup hx hb dX12_unitE_23 rfl ?_
        refine r_get C hw (hsh 49 _ rfl) fl_X12_241 (oV_i rfl) dX12_unitE_24 (ti_c (ig7 (B + 49) 31).toInt rfl fun z17 hz17 => ?_)
        refine lv_iconst (v := 1) hx hb dX12_unitE_27 (by decide) (ti_c 1 (by decide) fun z18 hz18 => ?_)
        refine lv_iadd hx hb dX12_unitE_28 (tc_add fun z19 hz19 => ?_)
        first | replace hz19 := hz19 (by omega) | clear hz19
        refine r_puti C hw (hsh 49 _ rfl) fl_X12_241 rfl rfl rfl dX12_unitE_29 (fun H locs hH hw => ?_)
        obtain ⟨ig20, eig20⟩ : ∃ f, f = up2 ig7 (B + 49) 31 z19 := ⟨_, rfl⟩
        rw [← eig20] at hw
        have hF : Ft B [49, 74] ig lg ig20 lg8 := by rw [eig20]; exact hF.pi (by decide)
        have hI : IM τ φ υ B kd ig20 rg := by rw [eig20]; exact hI.pi (by decide) (show okR none _ from trivial)
        have wig20 : (ig20 (B + 49) 31).toInt = z19.toInt := by rw [eig20, up2_eq]
        have wig20_49_32 : (ig20 (B + 49) 32).toInt = (ig7 (B + 49) 32).toInt := by rw [eig20, up2_j (by decide)]
        have wig20_49_35 : (ig20 (B + 49) 35).toInt = (ig7 (B + 49) 35).toInt := by rw [eig20, up2_j (by decide)]
        have wig20_49_34 : (ig20 (B + 49) 34).toInt = (ig7 (B + 49) 34).toInt := by rw [eig20, up2_j (by decide)]
        refine lv_aload_n hx hb dX12_unitE_32 rfl (lv_at hl 0 rfl) ?_
        refine r_callV (As := []) (rest := []) C hw (hQ kd ig20 rg lg8 _  (m1 + 1) m2 (by rw [Ft.K hF (by decide), Ft.A hF (by decide)]; exact hp2) (by omega) (fun k q1 q2 => Ft.R hF (by decide) (by decide) (by decide) (hR k (by omega) (by omega))) (by omega) (by rw [Ft.K hF (by decide), Ft.A hF (by decide)]; rcases hm2c with q | ⟨⟨q1, q2⟩, -⟩; (rw [q]; rcases hla with q | ⟨q1, q2⟩; exact Or.inl (by omega); exact Or.inr ⟨q1, Or.inl q2⟩); exact Or.inr ⟨q1, Or.inr q2⟩) (by omega) hI) sv_X12_290 (hsh 49 _ rfl) rfl hl.1 rfl (Nat.le_of_ble_eq_true rfl) ⟨by simp only [rL]; omega, by simp only [rL]; omega⟩ ⟨Nat.le_of_ble_eq_true rfl, Nat.le_of_ble_eq_true rfl⟩ dX12_unitE_33 (fun r25 kd21 ig22 rg23 lg24 H locs hw hH hp26 => ?_)
        obtain ⟨rfl, rfl, hI, hchp26, hrhp26⟩ := hp26
        have hF : Ft B [49, 74] ig lg ig22 lg24 := Ft.tr hF hchp26 (by decide) (by decide)
        obtain ⟨rfl, hvhp26⟩ := hrhp26
        refine lv_aload_n hx hb dX12_unitE_36 rfl (lv_at hl 0 rfl) ?_
        refine lv_dup hx hb dX12_unitE_37 rfl ?_
        refine r_get C hw (hsh 49 _ rfl) fl_X12_258 (oV_i rfl) dX12_unitE_38 (ti_c (ig22 (B + 49) 35).toInt rfl fun z27 hz27 => ?_)
        refine lv_iconst (v := 3) hx hb dX12_unitE_41 (by decide) (ti_c 3 (by decide) fun z28 hz28 => ?_)
        refine lv_isub hx hb dX12_unitE_42 (tc_sub fun z29 hz29 => ?_)
        first | replace hz29 := hz29 (by omega) | clear hz29
        refine r_puti C hw (hsh 49 _ rfl) fl_X12_258 rfl rfl rfl dX12_unitE_43 (fun H locs hH hw => ?_)
        obtain ⟨ig30, eig30⟩ : ∃ f, f = up2 ig22 (B + 49) 35 z29 := ⟨_, rfl⟩
        rw [← eig30] at hw
        have hF : Ft B [49, 74] ig lg ig30 lg24 := by rw [eig30]; exact hF.pi (by decide)
        have hI : IM τ φ υ B kd ig30 rg := by rw [eig30]; exact hI.pi (by decide) (show okR none _ from trivial)
        have wig30_49_31 : (ig30 (B + 49) 31).toInt = (ig22 (B + 49) 31).toInt := by rw [eig30, up2_j (by decide)]
        have wig30_49_32 : (ig30 (B + 49) 32).toInt = (ig22 (B + 49) 32).toInt := by rw [eig30, up2_j (by decide)]
        have wig30 : (ig30 (B + 49) 35).toInt = z29.toInt := by rw [eig30, up2_eq]
        have wig30_49_34 : (ig30 (B + 49) 34).toInt = (ig22 (B + 49) 34).toInt := by rw [eig30, up2_j (by decide)]
        refine lv_iconst (v := 0) hx hb dX12_unitE_46 (by decide) (ti_c 0 (by decide) fun z31 hz31 => ?_)
        refine lv_istore_n (lv' := [(1, .int z31), (0, .ref (B + 49))]) hx hb dX12_unitE_47 rfl hl (by decide) rfl (fun ls hl => ?_)
        have L48 : ∀ (n : Nat) (ls : Array Slot) (H : Heap) (locs : List Loc) (ig33 : sI) (lg34 : sG) (v32 : Int32), lv_has ls 2 [(1, .int v32), (0, .ref (B + 49))] → WD B D cA s.heap kd ig33 rg lg34 H locs → IM τ φ υ B kd ig33 rg → Ft B [49, 74] ig lg ig33 lg34 → (0 ≤ v32.toInt) → (v32.toInt ≤ 3) → ((ig33 (B + 49) 31).toInt = (m2 : Int)) → ((ig33 (B + 49) 35).toInt = (ig (B + 49) 35).toInt + 3) → ((ig33 (B + 49) 32).toInt = (ig (B + 49) 32).toInt) → 3 - v32.toInt < (n : Int) → W p l e (rL (3 * d + 5) 0 0) s m args below meth c H locs 0 0 (MQ below (QcW B D cA (PM τ φ υ B [49, 74] kd ig rg lg (fun r ig' lg' => (r = none ∧ ((ig' (B + 49) 31).toInt = (j : Int) ∧ (ig' (B + 49) 35).toInt = (ig (B + 49) 35).toInt + 3 ∧ (ig' (B + 49) 32).toInt = (ig (B + 49) 32).toInt))))) args s 0 0 (fun q => B ≤ q)) (F0 m 48 ls []) := by
          intro n48
          induction n48 with
          | zero => intro ls H locs ig33 lg34 v32 hl hw hI hF g48_0 g48_1 g48_2 g48_3 g48_4 hmu; exact absurd hmu (by omega)
          | succ n48 ih48 =>
            intro ls H locs ig33 lg34 v32 hl hw hI hF g48_0 g48_1 g48_2 g48_3 g48_4 hmu
            refine lv_iload_n hx hb dX12_unitE_48 rfl (lv_at hl 0 rfl) ?_
            refine lv_iconst (v := 3) hx hb dX12_unitE_49 (by decide) (ti_c 3 (by decide) fun z35 hz35 => ?_)
            refine b_ge (tgt := 102) hx hb dX12_unitE_50 (by decide) (fun c50 => ?_) (fun c50 => ?_)
            · refine lv_goto (tgt := 4) hx hb dX12_unitE_102 (by decide) ?_
              exact ih4 ls H locs ig33 lg34 (lv_sub hl [1] rfl) hw hI hF (⟨m2, by omega, by omega, hm2b, hm2c⟩) (by omega) (by omega) (by omega) (by omega) (by omega)
            · refine lv_aload_n hx hb dX12_unitE_53 rfl (lv_at hl 1 rfl) ?_
              refine lv_aload_n hx hb dX12_unitE_54 rfl (lv_at hl 1 rfl) ?_
              refine r_get C hw (hsh 49 _ rfl) fl_X12_254 (oV_i rfl) dX12_unitE_55 (ti_c (ig33 (B + 49) 34).toInt rfl fun z36 hz36 => ?_)
              have k37 : 0 ≤ (ig33 (B + 49) 34).toInt ∧ (ig33 (B + 49) 34).toInt ≤ 1 := hI.i 49 34 (by decide) (by decide)
              have J93 : ∀ (ls : Array Slot) (H : Heap) (locs : List Loc) (ig39 : sI) (lg40 : sG) (u38 : Int32), lv_has ls 2 [(1, .int v32), (0, .ref (B + 49))] → WD B D cA s.heap kd ig39 rg lg40 H locs → IM τ φ υ B kd ig39 rg → Ft B [49, 74] ig lg ig39 lg40 → (u38.toInt = 0 ∨ u38.toInt = 1) → ((ig39 (B + 49) 31).toInt = (m2 : Int)) → ((ig39 (B + 49) 35).toInt = (ig (B + 49) 35).toInt + 3) → ((ig39 (B + 49) 32).toInt = (ig (B + 49) 32).toInt) → W p l e (rL (3 * d + 5) 0 0) s m args below meth c H locs 0 0 (MQ below (QcW B D cA (PM τ φ υ B [49, 74] kd ig rg lg (fun r ig' lg' => (r = none ∧ ((ig' (B + 49) 31).toInt = (j : Int) ∧ (ig' (B + 49) 35).toInt = (ig (B + 49) 35).toInt + 3 ∧ (ig' (B + 49) 32).toInt = (ig (B + 49) 32).toInt))))) args s 0 0 (fun q => B ≤ q)) (F0 m 93 ls [.int u38, .ref (B + 49)]) := by
                intro ls H locs ig39 lg40 u38 hl hw hI hF g93_0 g93_1 g93_2 g93_3
                refine r_puti C hw (hsh 49 _ rfl) fl_X12_254 rfl (nar_b (by omega)) (fit_b (by omega)) dX12_unitE_93 (fun H locs hH hw => ?_)
                obtain ⟨ig41, eig41⟩ : ∃ f, f = up2 ig39 (B + 49) 34 u38 := ⟨_, rfl⟩
                rw [← eig41] at hw
                have hF : Ft B [49, 74] ig lg ig41 lg40 := by rw [eig41]; exact hF.pi (by decide)
                have hI : IM τ φ υ B kd ig41 rg := by rw [eig41]; exact hI.pi (by decide) (show okR (some (0, 1)) _ from ⟨by show (0 : Int) ≤ _; omega, by show _ ≤ (1 : Int); omega⟩)
                have wig41_49_31 : (ig41 (B + 49) 31).toInt = (ig39 (B + 49) 31).toInt := by rw [eig41, up2_j (by decide)]
                have wig41_49_32 : (ig41 (B + 49) 32).toInt = (ig39 (B + 49) 32).toInt := by rw [eig41, up2_j (by decide)]
                have wig41_49_35 : (ig41 (B + 49) 35).toInt = (ig39 (B + 49) 35).toInt := by rw [eig41, up2_j (by decide)]
                have wig41 : (ig41 (B + 49) 34).toInt = u38.toInt := by rw [eig41, up2_eq]
                refine tc_inc hx hb dX12_unitE_96 hl (k := 0) rfl (by decide) (by decide) (fun z42 hz42 ls hl => ?_)
                first | replace hz42 := hz42 (by omega) | clear hz42
                have hl : lv_has ls 2 [(1, .int z42), (0, .ref (B + 49))] := hl
                refine lv_goto (tgt := 48) hx hb dX12_unitE_99 (by decide) ?_
                exact ih48 ls H locs ig41 lg40 z42 (lv_sub hl [0, 1] rfl) hw hI hF (by omega) (by omega) (by omega) (by omega) (by omega) (by omega)
              refine z_ne (tgt := 88) hx hb dX12_unitE_58 (by decide) (fun c58 => ?_) (fun c58 => ?_)
              · refine lv_iconst (v := 1) hx hb dX12_unitE_88 (by decide) (ti_c 1 (by decide) fun z43 hz43 => ?_)
                refine lv_goto (tgt := 93) hx hb dX12_unitE_89 (by decide) ?_
                exact J93 ls H locs ig33 lg34 z43 (lv_sub hl [0, 1] rfl) hw hI hF (by omega) (by omega) (by omega) (by omega)
              · refine lv_aload_n hx hb dX12_unitE_61 rfl (lv_at hl 1 rfl) ?_
                refine r_get C hw (hsh 49 _ rfl) fl_X12_127 (oV_r rfl (hrm (49, 36, 74) (by decide))) dX12_unitE_62 ?_
                refine lv_aload_n hx hb dX12_unitE_65 rfl (lv_at hl 1 rfl) ?_
                refine r_get C hw (hsh 49 _ rfl) fl_X12_258 (oV_i rfl) dX12_unitE_66 (ti_c (ig33 (B + 49) 35).toInt rfl fun z44 hz44 => ?_)
                refine lv_iconst (v := 3) hx hb dX12_unitE_69 (by decide) (ti_c 3 (by decide) fun z45 hz45 => ?_)
                refine lv_isub hx hb dX12_unitE_70 (tc_sub fun z46 hz46 => ?_)
                first | replace hz46 := hz46 (by omega) | clear hz46
                refine lv_iload_n hx hb dX12_unitE_71 rfl (lv_at hl 0 rfl) ?_
                refine lv_iadd hx hb dX12_unitE_72 (tc_add fun z47 hz47 => ?_)
                first | replace hz47 := hz47 (by omega) | clear hz47
                refine r_iald C hw (hsh 74 _ rfl) (by omega) (by omega) dX12_unitE_73 (ti_c (ig33 (B + 74) z47.toInt.toNat).toInt rfl fun z48 hz48 => ?_)
                refine lv_aload_n hx hb dX12_unitE_74 rfl (lv_at hl 1 rfl) ?_
                refine r_get C hw (hsh 49 _ rfl) fl_X12_127 (oV_r rfl (hrm (49, 36, 74) (by decide))) dX12_unitE_75 ?_
                refine lv_aload_n hx hb dX12_unitE_78 rfl (lv_at hl 1 rfl) ?_
                refine r_get C hw (hsh 49 _ rfl) fl_X12_258 (oV_i rfl) dX12_unitE_79 (ti_c (ig33 (B + 49) 35).toInt rfl fun z50 hz50 => ?_)
                refine lv_iload_n hx hb dX12_unitE_82 rfl (lv_at hl 0 rfl) ?_
                refine lv_iadd hx hb dX12_unitE_83 (tc_add fun z51 hz51 => ?_)
                first | replace hz51 := hz51 (by omega) | clear hz51
                refine r_iald C hw (hsh 74 _ rfl) (by omega) (by omega) dX12_unitE_84 (ti_c (ig33 (B + 74) z51.toInt.toNat).toInt rfl fun z52 hz52 => ?_)
                refine b_eq (tgt := 92) hx hb dX12_unitE_85 (by decide) (fun c85 => ?_) (fun c85 => ?_)
                · refine lv_iconst (v := 0) hx hb dX12_unitE_92 (by decide) (ti_c 0 (by decide) fun z54 hz54 => ?_)
                  exact J93 ls H locs ig33 lg34 z54 (lv_sub hl [0, 1] rfl) hw hI hF (by omega) (by omega) (by omega) (by omega)
                · refine lv_iconst (v := 1) hx hb dX12_unitE_88 (by decide) (ti_c 1 (by decide) fun z55 hz55 => ?_)
                  refine lv_goto (tgt := 93) hx hb dX12_unitE_89 (by decide) ?_
                  exact J93 ls H locs ig33 lg34 z55 (lv_sub hl [0, 1] rfl) hw hI hF (by omega) (by omega) (by omega) (by omega)
        exact L48 ((3 - z31.toInt) + 1).toNat ls H locs ig30 lg24 z31 (lv_sub hl [0, 1] rfl) hw hI hF (by omega) (by omega) (by omega) (by omega) (by omega) (by omega)
      · refine lv_aload_n hx hb dX12_unitE_13 rfl (lv_at hl 0 rfl) ?_
        refine lv_bipush (v := 45) hx hb dX12_unitE_14 (by decide) (ti_c 45 (by decide) fun z56 hz56 => ?_)
        refine r_callV (As := [.int z56]) (rest := []) C hw (t_X12_isNext l B D cA kd ig7 rg lg8 _ z56 (by omega) hI) sv_X12_273 (hsh 49 _ rfl) rfl hl.1 rfl (Nat.le_of_ble_eq_true rfl) ⟨by simp only [rL]; omega, by simp only [rL]; omega⟩ ⟨Nat.le_of_ble_eq_true rfl, Nat.le_of_ble_eq_true rfl⟩ dX12_unitE_16 (fun r61 kd57 ig58 rg59 lg60 H locs hw hH hp62 => ?_)
        obtain ⟨rfl, rfl, rfl, rfl, hzhp62, hrhp62⟩ := hp62
        obtain ⟨z63, rfl, hz63⟩ := hrhp62
        rw [Ft.i hF 54 _ (by decide), Ft.i hF 55 _ (by decide)] at hz63
        simp only [em1, Int.toNat_natCast] at hz63
        refine z_eq (tgt := 105) hx hb dX12_unitE_19 (by decide) (fun c19 => ?_) (fun c19 => ?_)
        · have em : m1 = j := by rcases hm1c with q | ⟨⟨q1, q2⟩, q3, -⟩; exact q; exfalso; have q4 : (ig (B + 54) m1).toInt = 1 := q1; have q5 : (ig (B + 55) m1).toInt = 43 ∨ (ig (B + 55) m1).toInt = 45 := q2; omega
          exact r_vret C hw hr hlk (Nat.le_of_ble_eq_true rfl) (Nat.le_of_ble_eq_true rfl) dX12_unitE_105 ⟨rfl, rfl, hI, hF, ⟨rfl, by omega⟩⟩
        · have hcs : sAdd (mK B ig) (mA B ig) m1 ∧ m1 + 1 < j ∧ ∃ n, gCh (gProd (mK B ig) (mA B ig) d) (sAdd (mK B ig) (mA B ig)) n (m1 + 1) j := by
            rcases hm1c with q | hc
            · exfalso
              subst q
              rcases hla with q | ⟨q1, q2⟩
              · omega
              · have q3 : (ig (B + 55) m1).toInt = 41 := q2
                omega
            · exact hc
          obtain ⟨hsd, hsl, n1, hch1⟩ := hcs
          obtain ⟨m2, hp2, hm2a, hm2b, hm2c⟩ := gCh.first (fun i j => gProd.lt) hch1
          refine lv_aload_n hx hb dX12_unitE_22 rfl (lv_at hl 0 rfl) ?_
          refine lv_dup hx hb dX12_unitE_23 rfl ?_
          refine r_get C hw (hsh 49 _ rfl) fl_X12_241 (oV_i rfl) dX12_unitE_24 (ti_c (ig7 (B + 49) 31).toInt rfl fun z64 hz64 => ?_)
          refine lv_iconst (v := 1) hx hb dX12_unitE_27 (by decide) (ti_c 1 (by decide) fun z65 hz65 => ?_)
          refine lv_iadd hx hb dX12_unitE_28 (tc_add fun z66 hz66 => ?_)
          first | replace hz66 := hz66 (by omega) | clear hz66
          refine r_puti C hw (hsh 49 _ rfl) fl_X12_241 rfl rfl rfl dX12_unitE_29 (fun H locs hH hw => ?_)
          obtain ⟨ig67, eig67⟩ : ∃ f, f = up2 ig7 (B + 49) 31 z66 := ⟨_, rfl⟩
          rw [← eig67] at hw
          have hF : Ft B [49, 74] ig lg ig67 lg8 := by rw [eig67]; exact hF.pi (by decide)
          have hI : IM τ φ υ B kd ig67 rg := by rw [eig67]; exact hI.pi (by decide) (show okR none _ from trivial)
          have wig67 : (ig67 (B + 49) 31).toInt = z66.toInt := by rw [eig67, up2_eq]
          have wig67_49_32 : (ig67 (B + 49) 32).toInt = (ig7 (B + 49) 32).toInt := by rw [eig67, up2_j (by decide)]
          have wig67_49_35 : (ig67 (B + 49) 35).toInt = (ig7 (B + 49) 35).toInt := by rw [eig67, up2_j (by decide)]
          have wig67_49_34 : (ig67 (B + 49) 34).toInt = (ig7 (B + 49) 34).toInt := by rw [eig67, up2_j (by decide)]
          refine lv_aload_n hx hb dX12_unitE_32 rfl (lv_at hl 0 rfl) ?_
          refine r_callV (As := []) (rest := []) C hw (hQ kd ig67 rg lg8 _  (m1 + 1) m2 (by rw [Ft.K hF (by decide), Ft.A hF (by decide)]; exact hp2) (by omega) (fun k q1 q2 => Ft.R hF (by decide) (by decide) (by decide) (hR k (by omega) (by omega))) (by omega) (by rw [Ft.K hF (by decide), Ft.A hF (by decide)]; rcases hm2c with q | ⟨⟨q1, q2⟩, -⟩; (rw [q]; rcases hla with q | ⟨q1, q2⟩; exact Or.inl (by omega); exact Or.inr ⟨q1, Or.inl q2⟩); exact Or.inr ⟨q1, Or.inr q2⟩) (by omega) hI) sv_X12_290 (hsh 49 _ rfl) rfl hl.1 rfl (Nat.le_of_ble_eq_true rfl) ⟨by simp only [rL]; omega, by simp only [rL]; omega⟩ ⟨Nat.le_of_ble_eq_true rfl, Nat.le_of_ble_eq_true rfl⟩ dX12_unitE_33 (fun r72 kd68 ig69 rg70 lg71 H locs hw hH hp73 => ?_)
          obtain ⟨rfl, rfl, hI, hchp73, hrhp73⟩ := hp73
          have hF : Ft B [49, 74] ig lg ig69 lg71 := Ft.tr hF hchp73 (by decide) (by decide)
          obtain ⟨rfl, hvhp73⟩ := hrhp73
          refine lv_aload_n hx hb dX12_unitE_36 rfl (lv_at hl 0 rfl) ?_
          refine lv_dup hx hb dX12_unitE_37 rfl ?_
          refine r_get C hw (hsh 49 _ rfl) fl_X12_258 (oV_i rfl) dX12_unitE_38 (ti_c (ig69 (B + 49) 35).toInt rfl fun z74 hz74 => ?_)
          refine lv_iconst (v := 3) hx hb dX12_unitE_41 (by decide) (ti_c 3 (by decide) fun z75 hz75 => ?_)
          refine lv_isub hx hb dX12_unitE_42 (tc_sub fun z76 hz76 => ?_)
          first | replace hz76 := hz76 (by omega) | clear hz76
          refine r_puti C hw (hsh 49 _ rfl) fl_X12_258 rfl rfl rfl dX12_unitE_43 (fun H locs hH hw => ?_)
          obtain ⟨ig77, eig77⟩ : ∃ f, f = up2 ig69 (B + 49) 35 z76 := ⟨_, rfl⟩
          rw [← eig77] at hw
          have hF : Ft B [49, 74] ig lg ig77 lg71 := by rw [eig77]; exact hF.pi (by decide)
          have hI : IM τ φ υ B kd ig77 rg := by rw [eig77]; exact hI.pi (by decide) (show okR none _ from trivial)
          have wig77_49_31 : (ig77 (B + 49) 31).toInt = (ig69 (B + 49) 31).toInt := by rw [eig77, up2_j (by decide)]
          have wig77_49_32 : (ig77 (B + 49) 32).toInt = (ig69 (B + 49) 32).toInt := by rw [eig77, up2_j (by decide)]
          have wig77 : (ig77 (B + 49) 35).toInt = z76.toInt := by rw [eig77, up2_eq]
          have wig77_49_34 : (ig77 (B + 49) 34).toInt = (ig69 (B + 49) 34).toInt := by rw [eig77, up2_j (by decide)]
          refine lv_iconst (v := 0) hx hb dX12_unitE_46 (by decide) (ti_c 0 (by decide) fun z78 hz78 => ?_)
          refine lv_istore_n (lv' := [(1, .int z78), (0, .ref (B + 49))]) hx hb dX12_unitE_47 rfl hl (by decide) rfl (fun ls hl => ?_)
          have L48 : ∀ (n : Nat) (ls : Array Slot) (H : Heap) (locs : List Loc) (ig80 : sI) (lg81 : sG) (v79 : Int32), lv_has ls 2 [(1, .int v79), (0, .ref (B + 49))] → WD B D cA s.heap kd ig80 rg lg81 H locs → IM τ φ υ B kd ig80 rg → Ft B [49, 74] ig lg ig80 lg81 → (0 ≤ v79.toInt) → (v79.toInt ≤ 3) → ((ig80 (B + 49) 31).toInt = (m2 : Int)) → ((ig80 (B + 49) 35).toInt = (ig (B + 49) 35).toInt + 3) → ((ig80 (B + 49) 32).toInt = (ig (B + 49) 32).toInt) → 3 - v79.toInt < (n : Int) → W p l e (rL (3 * d + 5) 0 0) s m args below meth c H locs 0 0 (MQ below (QcW B D cA (PM τ φ υ B [49, 74] kd ig rg lg (fun r ig' lg' => (r = none ∧ ((ig' (B + 49) 31).toInt = (j : Int) ∧ (ig' (B + 49) 35).toInt = (ig (B + 49) 35).toInt + 3 ∧ (ig' (B + 49) 32).toInt = (ig (B + 49) 32).toInt))))) args s 0 0 (fun q => B ≤ q)) (F0 m 48 ls []) := by
            intro n48
            induction n48 with
            | zero => intro ls H locs ig80 lg81 v79 hl hw hI hF g48_0 g48_1 g48_2 g48_3 g48_4 hmu; exact absurd hmu (by omega)
            | succ n48 ih48 =>
              intro ls H locs ig80 lg81 v79 hl hw hI hF g48_0 g48_1 g48_2 g48_3 g48_4 hmu
              refine lv_iload_n hx hb dX12_unitE_48 rfl (lv_at hl 0 rfl) ?_
              refine lv_iconst (v := 3) hx hb dX12_unitE_49 (by decide) (ti_c 3 (by decide) fun z82 hz82 => ?_)
              refine b_ge (tgt := 102) hx hb dX12_unitE_50 (by decide) (fun c50 => ?_) (fun c50 => ?_)
              · refine lv_goto (tgt := 4) hx hb dX12_unitE_102 (by decide) ?_
                exact ih4 ls H locs ig80 lg81 (lv_sub hl [1] rfl) hw hI hF (⟨m2, by omega, by omega, hm2b, hm2c⟩) (by omega) (by omega) (by omega) (by omega) (by omega)
              · refine lv_aload_n hx hb dX12_unitE_53 rfl (lv_at hl 1 rfl) ?_
                refine lv_aload_n hx hb dX12_unitE_54 rfl (lv_at hl 1 rfl) ?_
                refine r_get C hw (hsh 49 _ rfl) fl_X12_254 (oV_i rfl) dX12_unitE_55 (ti_c (ig80 (B + 49) 34).toInt rfl fun z83 hz83 => ?_)
                have k84 : 0 ≤ (ig80 (B + 49) 34).toInt ∧ (ig80 (B + 49) 34).toInt ≤ 1 := hI.i 49 34 (by decide) (by decide)
                have J93 : ∀ (ls : Array Slot) (H : Heap) (locs : List Loc) (ig86 : sI) (lg87 : sG) (u85 : Int32), lv_has ls 2 [(1, .int v79), (0, .ref (B + 49))] → WD B D cA s.heap kd ig86 rg lg87 H locs → IM τ φ υ B kd ig86 rg → Ft B [49, 74] ig lg ig86 lg87 → (u85.toInt = 0 ∨ u85.toInt = 1) → ((ig86 (B + 49) 31).toInt = (m2 : Int)) → ((ig86 (B + 49) 35).toInt = (ig (B + 49) 35).toInt + 3) → ((ig86 (B + 49) 32).toInt = (ig (B + 49) 32).toInt) → W p l e (rL (3 * d + 5) 0 0) s m args below meth c H locs 0 0 (MQ below (QcW B D cA (PM τ φ υ B [49, 74] kd ig rg lg (fun r ig' lg' => (r = none ∧ ((ig' (B + 49) 31).toInt = (j : Int) ∧ (ig' (B + 49) 35).toInt = (ig (B + 49) 35).toInt + 3 ∧ (ig' (B + 49) 32).toInt = (ig (B + 49) 32).toInt))))) args s 0 0 (fun q => B ≤ q)) (F0 m 93 ls [.int u85, .ref (B + 49)]) := by
                  intro ls H locs ig86 lg87 u85 hl hw hI hF g93_0 g93_1 g93_2 g93_3
                  refine r_puti C hw (hsh 49 _ rfl) fl_X12_254 rfl (nar_b (by omega)) (fit_b (by omega)) dX12_unitE_93 (fun H locs hH hw => ?_)
                  obtain ⟨ig88, eig88⟩ : ∃ f, f = up2 ig86 (B + 49) 34 u85 := ⟨_, rfl⟩
                  rw [← eig88] at hw
                  have hF : Ft B [49, 74] ig lg ig88 lg87 := by rw [eig88]; exact hF.pi (by decide)
                  have hI : IM τ φ υ B kd ig88 rg := by rw [eig88]; exact hI.pi (by decide) (show okR (some (0, 1)) _ from ⟨by show (0 : Int) ≤ _; omega, by show _ ≤ (1 : Int); omega⟩)
                  have wig88_49_31 : (ig88 (B + 49) 31).toInt = (ig86 (B + 49) 31).toInt := by rw [eig88, up2_j (by decide)]
                  have wig88_49_32 : (ig88 (B + 49) 32).toInt = (ig86 (B + 49) 32).toInt := by rw [eig88, up2_j (by decide)]
                  have wig88_49_35 : (ig88 (B + 49) 35).toInt = (ig86 (B + 49) 35).toInt := by rw [eig88, up2_j (by decide)]
                  have wig88 : (ig88 (B + 49) 34).toInt = u85.toInt := by rw [eig88, up2_eq]
                  refine tc_inc hx hb dX12_unitE_96 hl (k := 0) rfl (by decide) (by decide) (fun z89 hz89 ls hl => ?_)
                  first | replace hz89 := hz89 (by omega) | clear hz89
                  have hl : lv_has ls 2 [(1, .int z89), (0, .ref (B + 49))] := hl
                  refine lv_goto (tgt := 48) hx hb dX12_unitE_99 (by decide) ?_
                  exact ih48 ls H locs ig88 lg87 z89 (lv_sub hl [0, 1] rfl) hw hI hF (by omega) (by omega) (by omega) (by omega) (by omega) (by omega)
                refine z_ne (tgt := 88) hx hb dX12_unitE_58 (by decide) (fun c58 => ?_) (fun c58 => ?_)
                · refine lv_iconst (v := 1) hx hb dX12_unitE_88 (by decide) (ti_c 1 (by decide) fun z90 hz90 => ?_)
                  refine lv_goto (tgt := 93) hx hb dX12_unitE_89 (by decide) ?_
                  exact J93 ls H locs ig80 lg81 z90 (lv_sub hl [0, 1] rfl) hw hI hF (by omega) (by omega) (by omega) (by omega)
                · refine lv_aload_n hx hb dX12_unitE_61 rfl (lv_at hl 1 rfl) ?_
                  refine r_get C hw (hsh 49 _ rfl) fl_X12_127 (oV_r rfl (hrm (49, 36, 74) (by decide))) dX12_unitE_62 ?_
                  refine lv_aload_n hx hb dX12_unitE_65 rfl (lv_at hl 1 rfl) ?_
                  refine r_get C hw (hsh 49 _ rfl) fl_X12_258 (oV_i rfl) dX12_unitE_66 (ti_c (ig80 (B + 49) 35).toInt rfl fun z91 hz91 => ?_)
                  refine lv_iconst (v := 3) hx hb dX12_unitE_69 (by decide) (ti_c 3 (by decide) fun z92 hz92 => ?_)
                  refine lv_isub hx hb dX12_unitE_70 (tc_sub fun z93 hz93 => ?_)
                  first | replace hz93 := hz93 (by omega) | clear hz93
                  refine lv_iload_n hx hb dX12_unitE_71 rfl (lv_at hl 0 rfl) ?_
                  refine lv_iadd hx hb dX12_unitE_72 (tc_add fun z94 hz94 => ?_)
                  first | replace hz94 := hz94 (by omega) | clear hz94
                  refine r_iald C hw (hsh 74 _ rfl) (by omega) (by omega) dX12_unitE_73 (ti_c (ig80 (B + 74) z94.toInt.toNat).toInt rfl fun z95 hz95 => ?_)
                  refine lv_aload_n hx hb dX12_unitE_74 rfl (lv_at hl 1 rfl) ?_
                  refine r_get C hw (hsh 49 _ rfl) fl_X12_127 (oV_r rfl (hrm (49, 36, 74) (by decide))) dX12_unitE_75 ?_
                  refine lv_aload_n hx hb dX12_unitE_78 rfl (lv_at hl 1 rfl) ?_
                  refine r_get C hw (hsh 49 _ rfl) fl_X12_258 (oV_i rfl) dX12_unitE_79 (ti_c (ig80 (B + 49) 35).toInt rfl fun z97 hz97 => ?_)
                  refine lv_iload_n hx hb dX12_unitE_82 rfl (lv_at hl 0 rfl) ?_
                  refine lv_iadd hx hb dX12_unitE_83 (tc_add fun z98 hz98 => ?_)
                  first | replace hz98 := hz98 (by omega) | clear hz98
                  refine r_iald C hw (hsh 74 _ rfl) (by omega) (by omega) dX12_unitE_84 (ti_c (ig80 (B + 74) z98.toInt.toNat).toInt rfl fun z99 hz99 => ?_)
                  refine b_eq (tgt := 92) hx hb dX12_unitE_85 (by decide) (fun c85 => ?_) (fun c85 => ?_)
                  · refine lv_iconst (v := 0) hx hb dX12_unitE_92 (by decide) (ti_c 0 (by decide) fun z101 hz101 => ?_)
                    exact J93 ls H locs ig80 lg81 z101 (lv_sub hl [0, 1] rfl) hw hI hF (by omega) (by omega) (by omega) (by omega)
                  · refine lv_iconst (v := 1) hx hb dX12_unitE_88 (by decide) (ti_c 1 (by decide) fun z102 hz102 => ?_)
                    refine lv_goto (tgt := 93) hx hb dX12_unitE_89 (by decide) ?_
                    exact J93 ls H locs ig80 lg81 z102 (lv_sub hl [0, 1] rfl) hw hI hF (by omega) (by omega) (by omega) (by omega)
          exact L48 ((3 - z78.toInt) + 1).toNat ls H locs ig77 lg71 z78 (lv_sub hl [0, 1] rfl) hw hI hF (by omega) (by omega) (by omega) (by omega) (by omega) (by omega)
  exact L4 (((j : Int) - (ig2 (B + 49) 31).toInt) + 1).toNat ls H locs ig2 lg4 (lv_sub hl [0] rfl) hw hI hF (⟨m0, by omega, by omega, hm0b, hm0c⟩) (by omega) (by omega) (by omega) (by omega) (by omega)

theorem t_X12_unitE_all {υ : Option Int} {τ : Tp} {φ : Option Int} (l : Launch) (B : Nat) (D : va_G) (cA : Nat → ClassId) : ∀ d, RX12_unitPart τ φ υ l B D cA d ∧ RX12_unitProduct τ φ υ l B D cA d ∧ RX12_unitE τ φ υ l B D cA d := by
  intro d
  induction d with
  | zero =>
    have h1 : RX12_unitPart τ φ υ l B D cA 0 := fun kd ig rg lg sz i j h1 h2 h3 h4 ht hI => t_X12_unitPart l B D cA kd ig rg lg sz 0 i j (fun d1 h => by omega) h1 h2 h3 h4 ht hI
    have h2 : RX12_unitProduct τ φ υ l B D cA 0 := fun kd ig rg lg sz i j q1 q2 q3 q4 q5 ht hI => t_X12_unitProduct l B D cA kd ig rg lg sz 0 i j h1 q1 q2 q3 q4 q5 ht hI
    exact ⟨h1, h2, fun kd ig rg lg sz i j q1 q2 q3 q4 q5 ht hI => t_X12_unitE l B D cA kd ig rg lg sz 0 i j h2 q1 q2 q3 q4 q5 ht hI⟩
  | succ d ih =>
    have h1 : RX12_unitPart τ φ υ l B D cA (d + 1) := fun kd ig rg lg sz i j h1 h2 h3 h4 ht hI => t_X12_unitPart l B D cA kd ig rg lg sz (d + 1) i j (fun d1 h => by cases h; exact ⟨ih.1, ih.2.2⟩) h1 h2 h3 h4 ht hI
    have h2 : RX12_unitProduct τ φ υ l B D cA (d + 1) := fun kd ig rg lg sz i j q1 q2 q3 q4 q5 ht hI => t_X12_unitProduct l B D cA kd ig rg lg sz (d + 1) i j h1 q1 q2 q3 q4 q5 ht hI
    exact ⟨h1, h2, fun kd ig rg lg sz i j q1 q2 q3 q4 q5 ht hI => t_X12_unitE l B D cA kd ig rg lg sz (d + 1) i j h2 q1 q2 q3 q4 q5 ht hI⟩
