/-! THE REFERENCE's units: rows of three, a pile -/
def uM (B : Nat) (ig : sI) : Us := un3 (ig (B + 68))
def clM (B : Nat) (ig : sI) : Cs := fun p => czB (ig (B + 69) p)
def PlU (B : Nat) (k : List Un) (ig : sI) : Prop := (ig (B + 49) 35).toInt = 3 * (k.length : Int) ∧ ∀ i (h : i < k.length), un3 (ig (B + 74)) (k.length - 1 - i) = k[i]
section PLU
variable {B n : Nat} {k : List Un} {ig ig' : sI} {a b c w : Int32} {x y : Un} {i o : Int}
theorem PlU.nil (h : (ig (B + 49) 35).toInt = 0) : PlU B [] ig := ⟨h, fun i hi => absurd hi (Nat.not_lt_zero i)⟩
theorem PlU.ag (h : PlU B k ig) (e5 : (ig' (B + 49) 35).toInt = (ig (B + 49) 35).toInt) (e : ∀ j, ig' (B + 74) j = ig (B + 74) j) : PlU B k ig' := ⟨e5.trans h.1, fun i hi => by
  rw [show ig' (B + 74) = ig (B + 74) from funext e]; exact h.2 i hi⟩
theorem PlU.push {i1 i2 i3 : Nat} (h : PlU B k ig) (h1 : (i1 : Int) = 3 * (k.length : Int)) (h2 : (i2 : Int) = 3 * (k.length : Int) + 1) (h3 : (i3 : Int) = 3 * (k.length : Int) + 2) (hw : w.toInt = 3 * (k.length : Int) + 3) : PlU B ((a, b, c) :: k) (up2 (up2 (up2 (up2 ig (B + 74) i1 a) (B + 74) i2 b) (B + 74) i3 c) (B + 49) 35 w) := by
  obtain rfl : i1 = 3 * k.length := by omega
  obtain rfl : i2 = 3 * k.length + 1 := by omega
  obtain rfl : i3 = 3 * k.length + 2 := by omega
  have e74 : up2 (up2 (up2 (up2 ig (B + 74) (3 * k.length) a) (B + 74) (3 * k.length + 1) b) (B + 74) (3 * k.length + 2) c) (B + 49) 35 w (B + 74) = up2 (up2 (up2 ig (B + 74) (3 * k.length) a) (B + 74) (3 * k.length + 1) b) (B + 74) (3 * k.length + 2) c (B + 74) := funext fun j => up2_a (by omega)
  refine ⟨by rw [up2_eq, hw, List.length_cons]; omega, fun i hi => ?_⟩
  rw [e74]
  rw [List.length_cons] at hi
  cases i with
  | zero =>
    have e : ((a, b, c) :: k).length - 1 - 0 = k.length := by simp
    rw [e]
    unfold un3
    rw [up2_eq, up2_j (show 3 * k.length + 1 ≠ 3 * k.length + 2 by omega), up2_eq, up2_j (show 3 * k.length ≠ 3 * k.length + 2 by omega), up2_j (show 3 * k.length ≠ 3 * k.length + 1 by omega), up2_eq]
    rfl
  | succ i =>
    have e : ((a, b, c) :: k).length - 1 - (i + 1) = k.length - 1 - i := by simp; omega
    rw [e, List.getElem_cons_succ, ← h.2 i (by omega)]
    exact un3_cg (fun q hq => by rw [up2_j (by omega), up2_j (by omega), up2_j (by omega)])
theorem PlU.top (h : PlU B (x :: k) ig) : un3 (ig (B + 74)) k.length = x := by
  have q := h.2 0 (by simp)
  have e : (x :: k).length - 1 - 0 = k.length := by simp
  rw [e] at q
  exact q
theorem PlU.jn (hs : PlU B (y :: x :: k) ig) (e : ∀ j, ig' (B + 74) j = ig (B + 74) j) : JnU (B + 38) k.length x y o 0 ig ig' := by
  have h1 := hs.2 0 (by simp)
  have h2 := hs.2 1 (by simp)
  rw [show (y :: x :: k).length - 1 - 0 = k.length + 1 by simp] at h1
  rw [show (y :: x :: k).length - 1 - 1 = k.length by simp] at h2
  refine ⟨fun j _ => e j, fun q hq => ?_, fun q hq => ?_⟩
  · rw [if_neg (by omega), ← show un3 (ig (B + 74)) k.length = x from h2, ucp_3 (by omega)]
    refine (e _).trans ?_
    simp
  · rw [← show un3 (ig (B + 74)) (k.length + 1) = y from h1, ucp_3 (by omega)]
    refine (e _).trans ?_
    simp
theorem JnM.step {j : Nat} {v : Int32} (h : JnU (B + 38) n x y o i ig ig') (hj : (j : Int) = 3 * (n : Int) + i) (h0 : 0 ≤ i) (hi : i < 3) (hv : v = ucp (opU o x y) i) : JnU (B + 38) n x y o (i + 1) ig (up2 ig' (B + 74) j v) := JnU.step (B := B + 38) h hj h0 hi hv
theorem JnM.ag {ig2 : sI} (h : JnU (B + 38) n x y o i ig ig') (e : ∀ j, ig2 (B + 74) j = ig' (B + 74) j) : JnU (B + 38) n x y o i ig ig2 := JnU.ag (B := B + 38) h e
theorem JnM.l (h : JnU (B + 38) n x y o i ig ig') (h0 : 0 ≤ i) (hi : i < 3) {j : Nat} (hj : (j : Int) = 3 * (n : Int) + i) : ig' (B + 74) j = ucp x i := JnU.l (B := B + 38) h h0 hi hj
theorem JnM.r (h : JnU (B + 38) n x y o i ig ig') (h0 : 0 ≤ i) (hi : i < 3) {j : Nat} (hj : (j : Int) = 3 * ((n : Int) + 1) + i) : ig' (B + 74) j = ucp y i := JnU.r (B := B + 38) h h0 hi hj
theorem JnM.fin (h : JnU (B + 38) k.length x y o 3 ig ig') (hs : PlU B (y :: x :: k) ig) (h5 : (ig' (B + 49) 35).toInt = 3 * (k.length : Int) + 3) : PlU B (opU o x y :: k) ig' := by
  have h1 : ∀ j, j < 3 * k.length → ig' (B + 74) j = ig (B + 74) j := h.1
  have h2 : ∀ q : Nat, q < 3 → ig' (B + 74) (3 * k.length + q) = if (q : Int) < 3 then ucp (opU o x y) (q : Int) else ucp x (q : Int) := h.2.1
  refine ⟨by rw [h5, List.length_cons]; omega, fun i hi => ?_⟩
  rw [List.length_cons] at hi
  cases i with
  | zero =>
    have e : (opU o x y :: k).length - 1 - 0 = k.length := by simp
    rw [e]
    exact un3_of (fun q hq => by rw [h2 q hq, if_pos (by omega)]; rfl)
  | succ i =>
    have e : (opU o x y :: k).length - 1 - (i + 1) = k.length - 1 - i := by simp; omega
    rw [e, List.getElem_cons_succ]
    have q := hs.2 (i + 2) (by simp; omega)
    rw [show (y :: x :: k).length - 1 - (i + 2) = k.length - 1 - i by simp; omega] at q
    rw [show k[i] = (y :: x :: k)[i + 2]'(by simp; omega) from rfl, ← q]
    exact un3_cg (fun q hq => h1 _ (by omega))
end PLU
/-! one operand more, by the grammar -/
def UvP (σ : Sg) (u : Us) (h : Int) (x : Fm) (c : Bool) (w : Un) (d : Bool) : Prop := ∀ k, uv σ u h (k, c) x = (w :: k, d)
section UVP
variable {σ : Sg} {u : Us} {h : Int} {x y : Fm} {c c1 c2 : Bool} {w w1 w2 : Un} {o a b : Int}
theorem UvP.turn (hx : UvP σ u h x c w1 c1) (hy : UvP σ u h y c1 w2 c2) : UvP σ u h (x ++ (y ++ [(opS o, 0, 0)])) c (opU (opS o) w1 w2) (opC (opS o) w1 w2 c2) := fun k => by
  rw [uv_app, uv_app, hx, hy, uv_one]
  have := opS_n (o := o)
  unfold uvS
  rw [if_neg (by omega), if_neg (by omega), if_neg (by omega)]
theorem UvP.num : UvP σ u h [(0, a, 0)] c u0 c := fun k => rfl
theorem UvP.rd {s : Int} (hs : s = 1 ∨ s = 2) : UvP σ u h [(s, a, b)] c (unA u (spU σ u c (s, a, b) h).1) (spU σ u c (s, a, b) h).2 := fun k => by
  rw [uv_one]; unfold uvS
  rw [if_neg (by show s ≠ 0; omega), if_pos (show s = 1 ∨ s = 2 from hs)]
theorem UvP.neg (hx : UvP σ u h x c w c1) : UvP σ u h (x ++ [(4, 0, 0)]) c w c1 := fun k => by
  rw [uv_app, hx, uv_one]; rfl
theorem UvP.par (hx : UvP σ u h x c w c1) : UvP σ u h (x ++ [(3, 0, 0)]) c w c1 := fun k => by
  rw [uv_app, hx, uv_one]; rfl
theorem UvP.rs (hx : UvP σ u h x false w c1) : rsU σ u h x = (w, c1) := by
  unfold rsU
  rw [hx []]
  rfl
theorem umS_4 {f q : Int} (hk : kdO (atC σ q) ≠ 0) (hf : f ≠ -1) (hc : c = true) : umS σ u (f, c) q = (f, true) := by
  unfold umS
  rw [if_neg hk, if_neg (show ¬ (f, c).1 = -1 from hf)]
  show (f, c || decide (¬ unA u f = unA u q)) = (f, true)
  rw [hc, Bool.true_or]
theorem spU_ref {q : Int} (hq : q = rowv a h * 12 + colv a h) (hon : 0 ≤ q ∧ q < 288) (hz : kdO (σ q.toNat) = 0 → u q.toNat = u0) : unA u (spU σ u c (1, a, a) h).1 = u q.toNat ∧ (spU σ u c (1, a, a) h).2 = c := by
  unfold spU
  rw [plS_one, ← hq]
  show unA u (umS σ u (-1, c) q).1 = u q.toNat ∧ (umS σ u (-1, c) q).2 = c
  by_cases k : kdO (atC σ q) = 0
  · rw [umS_0 k]
    refine ⟨?_, rfl⟩
    show unA u (-1) = u q.toNat
    rw [unA_off (u := u) (x := -1) (by decide), hz (by rw [← atC_on (σ := σ) hon]; exact k)]
  · rw [umS_1 k rfl]
    exact ⟨unA_on hon, rfl⟩
theorem umA {l : List Int} {q f f2 : Int} {a0 : Int × Bool} (h1 : (f, c) = l.foldl (umS σ u) a0) (he : (f2, c2) = umS σ u (f, c) q) : (f2, c2) = (l ++ [q]).foldl (umS σ u) a0 := by
  rw [List.foldl_append, ← h1]
  exact he
end UVP
/-- what the units' working-out needs -/
def GoU (B : Nat) (σ : Sg) (uu : Us) (ig : sI) : Prop := (uM B ig = uu ∧ ∀ p, p < 288 → kdO (σ p) = 0 → uu p = u0) ∧ ∀ p, p < 288 → (ig (B + 59) p).toInt = kdO (σ p)
theorem GoU.ft {B : Nat} {σ : Sg} {uu : Us} {ig ig' : sI} {lg lg' : sG} {T : List Nat} (h : GoU B σ uu ig) (hF : Ft B T ig lg ig' lg') (hT : ∀ q ∈ T, 68 ≠ q ∧ 59 ≠ q := by decide) : GoU B σ uu ig' := by
  refine ⟨⟨?_, h.1.2⟩, fun p hp => by rw [hF.i 59 p (fun q hq => (hT q hq).2)]; exact h.2 p hp⟩
  rw [← h.1.1]
  unfold uM
  rw [show ig' (B + 68) = ig (B + 68) from funext fun j => hF.i 68 j (fun q hq => (hT q hq).1)]
theorem uM.ft {B : Nat} {ig ig' : sI} {lg lg' : sG} {T : List Nat} (hF : Ft B T ig lg ig' lg') (hT : ∀ q ∈ T, 68 ≠ q := by decide) : uM B ig' = uM B ig := by
  unfold uM
  rw [show ig' (B + 68) = ig (B + 68) from funext fun j => hF.i 68 j hT]
set_option maxHeartbeats 4000000 in
set_option maxRecDepth 100000 in
theorem t_X12_pushUnitE {υ : Option Int} {τ : Tp} {φ : Option Int} (l : Launch) (B : Nat) (D : va_G) (cA : Nat → ClassId) (kd : sK) (ig : sI) (rg : sR) (lg : sG) (sz : Nat) (x : Int32) (y : Int32) (u : Int32) (ks : List Un) (hks : PlU B ks ig) (h29 : ks.length ≤ 29) (hI : IM τ φ υ B kd ig rg) : MC l B D cA yX12_pushUnit cX12_pushUnit 4 none (rL 0 0 0) [.ref (B + 49), .int x, .int y, .int u] kd ig rg lg sz (PM τ φ υ B [49, 74] kd ig rg lg (fun r ig' lg' => (r = none ∧ (PlU B ((x, y, u) :: ks) ig' ∧ (ig' (B + 49) 31).toInt = (ig (B + 49) 31).toInt ∧ (ig' (B + 49) 32).toInt = (ig (B + 49) 32).toInt ∧ (ig' (B + 49) 34).toInt = (ig (B + 49) 34).toInt)))) := by
  refine MC.of (own := RX12) (by decide +kernel) rfl (Nat.le_of_ble_eq_true rfl) ?_
  intro p e s m args below meth c ls C hr hlk hnm hw hsz hl
  have hx := C.1.1
  have hb := C.1.2.1
  have hown := C.1.2.2.2.1
  have hts := C.1.2.2.2.2
  have hl : lv_has ls 4 [(0, .ref (B + 49)), (1, .int x), (2, .int y), (3, .int u)] := hl
  have hF : Ft B [49, 74] ig lg ig lg := Ft.rf
  have hsh := hI.sh
  have hrm := hI.rm
  have ks1 := hks.1
  refine lv_aload_n hx hb dX12_pushUnit_0 rfl (lv_at hl 0 rfl) ?_
  refine r_get C hw (hsh 49 _ rfl) fl_X12_127 (oV_r rfl (hrm (49, 36, 74) (by decide))) dX12_pushUnit_1 ?_
  refine lv_aload_n hx hb dX12_pushUnit_4 rfl (lv_at hl 0 rfl) ?_
  refine r_get C hw (hsh 49 _ rfl) fl_X12_258 (oV_i rfl) dX12_pushUnit_5 (ti_c (ig (B + 49) 35).toInt rfl fun z1 hz1 => ?_)
  refine lv_iload_n hx hb dX12_pushUnit_8 rfl (lv_at hl 1 rfl) ?_
  refine r_iast C hw (hsh 74 _ rfl) (by omega) (by omega) dX12_pushUnit_9 (fun H locs hH hw => ?_)
  obtain ⟨ig2, eig2⟩ : ∃ f, f = up2 ig (B + 74) z1.toInt.toNat x := ⟨_, rfl⟩
  rw [← eig2] at hw
  have hF : Ft B [49, 74] ig lg ig2 lg := by rw [eig2]; exact hF.pi (by decide)
  have hI : IM τ φ υ B kd ig2 rg := by rw [eig2]; exact hI.pi (by decide) (show okR none _ from trivial)
  have wig2_49_35 : (ig2 (B + 49) 35).toInt = (ig (B + 49) 35).toInt := by rw [eig2, up2_a (by omega)]
  have wig2_49_31 : (ig2 (B + 49) 31).toInt = (ig (B + 49) 31).toInt := by rw [eig2, up2_a (by omega)]
  have wig2_49_32 : (ig2 (B + 49) 32).toInt = (ig (B + 49) 32).toInt := by rw [eig2, up2_a (by omega)]
  have wig2_49_34 : (ig2 (B + 49) 34).toInt = (ig (B + 49) 34).toInt := by rw [eig2, up2_a (by omega)]
  refine lv_aload_n hx hb dX12_pushUnit_10 rfl (lv_at hl 0 rfl) ?_
  refine r_get C hw (hsh 49 _ rfl) fl_X12_127 (oV_r rfl (hrm (49, 36, 74) (by decide))) dX12_pushUnit_11 ?_
  refine lv_aload_n hx hb dX12_pushUnit_14 rfl (lv_at hl 0 rfl) ?_
  refine r_get C hw (hsh 49 _ rfl) fl_X12_258 (oV_i rfl) dX12_pushUnit_15 (ti_c (ig2 (B + 49) 35).toInt rfl fun z3 hz3 => ?_)
  refine lv_iconst (v := 1) hx hb dX12_pushUnit_18 (by decide) (ti_c 1 (by decide) fun z4 hz4 => ?_)
  refine lv_iadd hx hb dX12_pushUnit_19 (tc_add fun z5 hz5 => ?_)
  first | replace hz5 := hz5 (by omega) | clear hz5
  refine lv_iload_n hx hb dX12_pushUnit_20 rfl (lv_at hl 2 rfl) ?_
  refine r_iast C hw (hsh 74 _ rfl) (by omega) (by omega) dX12_pushUnit_21 (fun H locs hH hw => ?_)
  obtain ⟨ig6, eig6⟩ : ∃ f, f = up2 ig2 (B + 74) z5.toInt.toNat y := ⟨_, rfl⟩
  rw [← eig6] at hw
  have hF : Ft B [49, 74] ig lg ig6 lg := by rw [eig6]; exact hF.pi (by decide)
  have hI : IM τ φ υ B kd ig6 rg := by rw [eig6]; exact hI.pi (by decide) (show okR none _ from trivial)
  have wig6_49_35 : (ig6 (B + 49) 35).toInt = (ig2 (B + 49) 35).toInt := by rw [eig6, up2_a (by omega)]
  have wig6_49_31 : (ig6 (B + 49) 31).toInt = (ig2 (B + 49) 31).toInt := by rw [eig6, up2_a (by omega)]
  have wig6_49_32 : (ig6 (B + 49) 32).toInt = (ig2 (B + 49) 32).toInt := by rw [eig6, up2_a (by omega)]
  have wig6_49_34 : (ig6 (B + 49) 34).toInt = (ig2 (B + 49) 34).toInt := by rw [eig6, up2_a (by omega)]
  refine lv_aload_n hx hb dX12_pushUnit_22 rfl (lv_at hl 0 rfl) ?_
  refine r_get C hw (hsh 49 _ rfl) fl_X12_127 (oV_r rfl (hrm (49, 36, 74) (by decide))) dX12_pushUnit_23 ?_
  refine lv_aload_n hx hb dX12_pushUnit_26 rfl (lv_at hl 0 rfl) ?_
  refine r_get C hw (hsh 49 _ rfl) fl_X12_258 (oV_i rfl) dX12_pushUnit_27 (ti_c (ig6 (B + 49) 35).toInt rfl fun z7 hz7 => ?_)
  refine lv_iconst (v := 2) hx hb dX12_pushUnit_30 (by decide) (ti_c 2 (by decide) fun z8 hz8 => ?_)
  refine lv_iadd hx hb dX12_pushUnit_31 (tc_add fun z9 hz9 => ?_)
  first | replace hz9 := hz9 (by omega) | clear hz9
  refine lv_iload_n hx hb dX12_pushUnit_32 rfl (lv_at hl 3 rfl) ?_
  refine r_iast C hw (hsh 74 _ rfl) (by omega) (by omega) dX12_pushUnit_33 (fun H locs hH hw => ?_)
  obtain ⟨ig10, eig10⟩ : ∃ f, f = up2 ig6 (B + 74) z9.toInt.toNat u := ⟨_, rfl⟩
  rw [← eig10] at hw
  have hF : Ft B [49, 74] ig lg ig10 lg := by rw [eig10]; exact hF.pi (by decide)
  have hI : IM τ φ υ B kd ig10 rg := by rw [eig10]; exact hI.pi (by decide) (show okR none _ from trivial)
  have wig10_49_35 : (ig10 (B + 49) 35).toInt = (ig6 (B + 49) 35).toInt := by rw [eig10, up2_a (by omega)]
  have wig10_49_31 : (ig10 (B + 49) 31).toInt = (ig6 (B + 49) 31).toInt := by rw [eig10, up2_a (by omega)]
  have wig10_49_32 : (ig10 (B + 49) 32).toInt = (ig6 (B + 49) 32).toInt := by rw [eig10, up2_a (by omega)]
  have wig10_49_34 : (ig10 (B + 49) 34).toInt = (ig6 (B + 49) 34).toInt := by rw [eig10, up2_a (by omega)]
  refine lv_aload_n hx hb dX12_pushUnit_34 rfl (lv_at hl 0 rfl) ?_
  refine lv_dup hx hb dX12_pushUnit_35 rfl ?_
  refine r_get C hw (hsh 49 _ rfl) fl_X12_258 (oV_i rfl) dX12_pushUnit_36 (ti_c (ig10 (B + 49) 35).toInt rfl fun z11 hz11 => ?_)
  refine lv_iconst (v := 3) hx hb dX12_pushUnit_39 (by decide) (ti_c 3 (by decide) fun z12 hz12 => ?_)
  refine lv_iadd hx hb dX12_pushUnit_40 (tc_add fun z13 hz13 => ?_)
  first | replace hz13 := hz13 (by omega) | clear hz13
  refine r_puti C hw (hsh 49 _ rfl) fl_X12_258 rfl rfl rfl dX12_pushUnit_41 (fun H locs hH hw => ?_)
  obtain ⟨ig14, eig14⟩ : ∃ f, f = up2 ig10 (B + 49) 35 z13 := ⟨_, rfl⟩
  rw [← eig14] at hw
  have hF : Ft B [49, 74] ig lg ig14 lg := by rw [eig14]; exact hF.pi (by decide)
  have hI : IM τ φ υ B kd ig14 rg := by rw [eig14]; exact hI.pi (by decide) (show okR none _ from trivial)
  have wig14 : (ig14 (B + 49) 35).toInt = z13.toInt := by rw [eig14, up2_eq]
  have wig14_49_31 : (ig14 (B + 49) 31).toInt = (ig10 (B + 49) 31).toInt := by rw [eig14, up2_j (by decide)]
  have wig14_49_32 : (ig14 (B + 49) 32).toInt = (ig10 (B + 49) 32).toInt := by rw [eig14, up2_j (by decide)]
  have wig14_49_34 : (ig14 (B + 49) 34).toInt = (ig10 (B + 49) 34).toInt := by rw [eig14, up2_j (by decide)]
  exact r_vret C hw hr hlk (Nat.le_of_ble_eq_true rfl) (Nat.le_of_ble_eq_true rfl) dX12_pushUnit_44 ⟨rfl, rfl, hI, hF, ⟨rfl, ⟨(by rw [eig14, eig10, eig6, eig2]; exact hks.push (by omega) (by omega) (by omega) (by omega)), by omega, by omega, by omega⟩⟩⟩

set_option maxHeartbeats 4000000 in
set_option maxRecDepth 100000 in
theorem t_X12_pushUnitOfE {υ : Option Int} {τ : Tp} {φ : Option Int} (l : Launch) (B : Nat) (D : va_G) (cA : Nat → ClassId) (kd : sK) (ig : sI) (rg : sR) (lg : sG) (sz : Nat) (x : Int32) (hx0 : 0 ≤ x.toInt ∧ x.toInt < 288) (ks : List Un) (hks : PlU B ks ig) (h29 : ks.length ≤ 29) (hI : IM τ φ υ B kd ig rg) : MC l B D cA yX12_pushUnitOf cX12_pushUnitOf 2 none (rL 1 0 0) [.ref (B + 49), .int x] kd ig rg lg sz (PM τ φ υ B [49, 74] kd ig rg lg (fun r ig' lg' => (r = none ∧ (PlU B (uM B ig x.toInt.toNat :: ks) ig' ∧ (ig' (B + 49) 31).toInt = (ig (B + 49) 31).toInt ∧ (ig' (B + 49) 32).toInt = (ig (B + 49) 32).toInt ∧ (ig' (B + 49) 34).toInt = (ig (B + 49) 34).toInt)))) := by
  refine MC.of (own := RX12) (by decide +kernel) rfl (Nat.le_of_ble_eq_true rfl) ?_
  intro p e s m args below meth c ls C hr hlk hnm hw hsz hl
  have hx := C.1.1
  have hb := C.1.2.1
  have hown := C.1.2.2.2.1
  have hts := C.1.2.2.2.2
  have hl : lv_has ls 2 [(0, .ref (B + 49)), (1, .int x)] := hl
  have hF : Ft B [49, 74] ig lg ig lg := Ft.rf
  have hsh := hI.sh
  have hrm := hI.rm
  refine lv_aload_n hx hb dX12_pushUnitOf_0 rfl (lv_at hl 0 rfl) ?_
  refine lv_aload_n hx hb dX12_pushUnitOf_1 rfl (lv_at hl 0 rfl) ?_
  refine r_get C hw (hsh 49 _ rfl) fl_X12_108 (oV_r rfl (hrm (49, 25, 68) (by decide))) dX12_pushUnitOf_2 ?_
  refine lv_iconst (v := 3) hx hb dX12_pushUnitOf_5 (by decide) (ti_c 3 (by decide) fun z1 hz1 => ?_)
  refine lv_iload_n hx hb dX12_pushUnitOf_6 rfl (lv_at hl 1 rfl) ?_
  refine lv_imul hx hb dX12_pushUnitOf_7 (tc_mulL 3 hz1 fun z2 hz2 => ?_)
  first | replace hz2 := hz2 (by omega) | clear hz2
  refine r_iald C hw (hsh 68 _ rfl) (by omega) (by omega) dX12_pushUnitOf_8 (ti_c (ig (B + 68) z2.toInt.toNat).toInt rfl fun z3 hz3 => ?_)
  have q1 : z3.toInt = (uM B ig x.toInt.toNat).1.toInt := by rw [hz3, show z2.toInt.toNat = 3 * x.toInt.toNat by omega]; rfl
  refine lv_aload_n hx hb dX12_pushUnitOf_9 rfl (lv_at hl 0 rfl) ?_
  refine r_get C hw (hsh 49 _ rfl) fl_X12_108 (oV_r rfl (hrm (49, 25, 68) (by decide))) dX12_pushUnitOf_10 ?_
  refine lv_iconst (v := 3) hx hb dX12_pushUnitOf_13 (by decide) (ti_c 3 (by decide) fun z5 hz5 => ?_)
  refine lv_iload_n hx hb dX12_pushUnitOf_14 rfl (lv_at hl 1 rfl) ?_
  refine lv_imul hx hb dX12_pushUnitOf_15 (tc_mulL 3 hz5 fun z6 hz6 => ?_)
  first | replace hz6 := hz6 (by omega) | clear hz6
  refine lv_iconst (v := 1) hx hb dX12_pushUnitOf_16 (by decide) (ti_c 1 (by decide) fun z7 hz7 => ?_)
  refine lv_iadd hx hb dX12_pushUnitOf_17 (tc_add fun z8 hz8 => ?_)
  first | replace hz8 := hz8 (by omega) | clear hz8
  refine r_iald C hw (hsh 68 _ rfl) (by omega) (by omega) dX12_pushUnitOf_18 (ti_c (ig (B + 68) z8.toInt.toNat).toInt rfl fun z9 hz9 => ?_)
  have q2 : z9.toInt = (uM B ig x.toInt.toNat).2.1.toInt := by rw [hz9, show z8.toInt.toNat = 3 * x.toInt.toNat + 1 by omega]; rfl
  refine lv_aload_n hx hb dX12_pushUnitOf_19 rfl (lv_at hl 0 rfl) ?_
  refine r_get C hw (hsh 49 _ rfl) fl_X12_108 (oV_r rfl (hrm (49, 25, 68) (by decide))) dX12_pushUnitOf_20 ?_
  refine lv_iconst (v := 3) hx hb dX12_pushUnitOf_23 (by decide) (ti_c 3 (by decide) fun z11 hz11 => ?_)
  refine lv_iload_n hx hb dX12_pushUnitOf_24 rfl (lv_at hl 1 rfl) ?_
  refine lv_imul hx hb dX12_pushUnitOf_25 (tc_mulL 3 hz11 fun z12 hz12 => ?_)
  first | replace hz12 := hz12 (by omega) | clear hz12
  refine lv_iconst (v := 2) hx hb dX12_pushUnitOf_26 (by decide) (ti_c 2 (by decide) fun z13 hz13 => ?_)
  refine lv_iadd hx hb dX12_pushUnitOf_27 (tc_add fun z14 hz14 => ?_)
  first | replace hz14 := hz14 (by omega) | clear hz14
  refine r_iald C hw (hsh 68 _ rfl) (by omega) (by omega) dX12_pushUnitOf_28 (ti_c (ig (B + 68) z14.toInt.toNat).toInt rfl fun z15 hz15 => ?_)
  have q3 : z15.toInt = (uM B ig x.toInt.toNat).2.2.toInt := by rw [hz15, show z14.toInt.toNat = 3 * x.toInt.toNat + 2 by omega]; rfl
  refine r_callV (As := [.int z3, .int z9, .int z15]) (rest := []) C hw (t_X12_pushUnitE l B D cA kd ig rg lg _ z3 z9 z15 ks hks h29 hI) sv_X12_286 (hsh 49 _ rfl) rfl hl.1 rfl (Nat.le_of_ble_eq_true rfl) ⟨Nat.le_of_ble_eq_true rfl, Nat.le_of_ble_eq_true rfl⟩ ⟨Nat.le_of_ble_eq_true rfl, Nat.le_of_ble_eq_true rfl⟩ dX12_pushUnitOf_29 (fun r21 kd17 ig18 rg19 lg20 H locs hw hH hp22 => ?_)
  obtain ⟨rfl, rfl, hI, hchp22, hrhp22⟩ := hp22
  have hF : Ft B [49, 74] ig lg ig18 lg20 := Ft.tr hF hchp22 (by decide) (by decide)
  obtain ⟨rfl, hvhp22⟩ := hrhp22
  have pu9 := hvhp22
  have kp9 := pu9.2
  exact r_vret C hw hr hlk (Nat.le_of_ble_eq_true rfl) (Nat.le_of_ble_eq_true rfl) dX12_pushUnitOf_32 ⟨rfl, rfl, hI, hF, ⟨rfl, ⟨(by rw [show uM B ig x.toInt.toNat = (z3, z9, z15) from Prod.ext (i32_inj q1.symm) (Prod.ext (i32_inj q2.symm) (i32_inj q3.symm))]; exact pu9.1), by omega, by omega, by omega⟩⟩⟩

set_option maxHeartbeats 4000000 in
set_option maxRecDepth 100000 in
theorem t_X12_isUnitSameE {υ : Option Int} {τ : Tp} {φ : Option Int} (l : Launch) (B : Nat) (D : va_G) (cA : Nat → ClassId) (kd : sK) (ig : sI) (rg : sR) (lg : sG) (sz : Nat) (x : Int32) (y : Int32) (hx0 : 0 ≤ x.toInt ∧ x.toInt < 288) (hy0 : 0 ≤ y.toInt ∧ y.toInt < 288) (hI : IM τ φ υ B kd ig rg) : MC l B D cA yX12_isUnitSame cX12_isUnitSame 3 (some .boolean) (rL 0 0 0) [.ref (B + 49), .int x, .int y] kd ig rg lg sz (Pu kd ig rg lg sz (fun r => ∃ z : Int32, r = some (.int z) ∧ ((z.toInt = 1 ∧ uM B ig x.toInt.toNat = uM B ig y.toInt.toNat) ∨ (z.toInt = 0 ∧ ¬ uM B ig x.toInt.toNat = uM B ig y.toInt.toNat)))) := by
  refine MC.of (own := RX12) (by decide +kernel) rfl (Nat.le_of_ble_eq_true rfl) ?_
  intro p e s m args below meth c ls C hr hlk hnm hw hsz hl
  have hx := C.1.1
  have hb := C.1.2.1
  have hown := C.1.2.2.2.1
  have hts := C.1.2.2.2.2
  have hl : lv_has ls 3 [(0, .ref (B + 49)), (1, .int x), (2, .int y)] := hl
  have hsh := hI.sh
  have hrm := hI.rm
  refine lv_aload_n hx hb dX12_isUnitSame_0 rfl (lv_at hl 0 rfl) ?_
  refine r_get C hw (hsh 49 _ rfl) fl_X12_108 (oV_r rfl (hrm (49, 25, 68) (by decide))) dX12_isUnitSame_1 ?_
  refine lv_iconst (v := 3) hx hb dX12_isUnitSame_4 (by decide) (ti_c 3 (by decide) fun z1 hz1 => ?_)
  refine lv_iload_n hx hb dX12_isUnitSame_5 rfl (lv_at hl 1 rfl) ?_
  refine lv_imul hx hb dX12_isUnitSame_6 (tc_mulL 3 hz1 fun z2 hz2 => ?_)
  first | replace hz2 := hz2 (by omega) | clear hz2
  refine r_iald C hw (hsh 68 _ rfl) (by omega) (by omega) dX12_isUnitSame_7 (ti_c (ig (B + 68) z2.toInt.toNat).toInt rfl fun z3 hz3 => ?_)
  have a1 : z3.toInt = (uM B ig x.toInt.toNat).1.toInt := by rw [hz3, show z2.toInt.toNat = 3 * x.toInt.toNat by omega]; rfl
  refine lv_aload_n hx hb dX12_isUnitSame_8 rfl (lv_at hl 0 rfl) ?_
  refine r_get C hw (hsh 49 _ rfl) fl_X12_108 (oV_r rfl (hrm (49, 25, 68) (by decide))) dX12_isUnitSame_9 ?_
  refine lv_iconst (v := 3) hx hb dX12_isUnitSame_12 (by decide) (ti_c 3 (by decide) fun z5 hz5 => ?_)
  refine lv_iload_n hx hb dX12_isUnitSame_13 rfl (lv_at hl 2 rfl) ?_
  refine lv_imul hx hb dX12_isUnitSame_14 (tc_mulL 3 hz5 fun z6 hz6 => ?_)
  first | replace hz6 := hz6 (by omega) | clear hz6
  refine r_iald C hw (hsh 68 _ rfl) (by omega) (by omega) dX12_isUnitSame_15 (ti_c (ig (B + 68) z6.toInt.toNat).toInt rfl fun z7 hz7 => ?_)
  have b1 : z7.toInt = (uM B ig y.toInt.toNat).1.toInt := by rw [hz7, show z6.toInt.toNat = 3 * y.toInt.toNat by omega]; rfl
  refine b_ne (tgt := 69) hx hb dX12_isUnitSame_16 (by decide) (fun c16 => ?_) (fun c16 => ?_)
  · refine lv_iconst (v := 0) hx hb dX12_isUnitSame_69 (by decide) (ti_c 0 (by decide) fun z9 hz9 => ?_)
    exact r_iret C hw hr hlk (nar_b (by omega)) (Nat.le_of_ble_eq_true rfl) (Nat.le_of_ble_eq_true rfl) dX12_isUnitSame_70 ⟨rfl, rfl, rfl, rfl, hsz, ⟨_, rfl, Or.inr ⟨by omega, fun w9 => by have q1 : (uM B ig x.toInt.toNat).1.toInt = (uM B ig y.toInt.toNat).1.toInt := (by rw [w9]); have q2 : (uM B ig x.toInt.toNat).2.1.toInt = (uM B ig y.toInt.toNat).2.1.toInt := (by rw [w9]); have q3 : (uM B ig x.toInt.toNat).2.2.toInt = (uM B ig y.toInt.toNat).2.2.toInt := (by rw [w9]); omega⟩⟩⟩
  · refine lv_aload_n hx hb dX12_isUnitSame_19 rfl (lv_at hl 0 rfl) ?_
    refine r_get C hw (hsh 49 _ rfl) fl_X12_108 (oV_r rfl (hrm (49, 25, 68) (by decide))) dX12_isUnitSame_20 ?_
    refine lv_iconst (v := 3) hx hb dX12_isUnitSame_23 (by decide) (ti_c 3 (by decide) fun z10 hz10 => ?_)
    refine lv_iload_n hx hb dX12_isUnitSame_24 rfl (lv_at hl 1 rfl) ?_
    refine lv_imul hx hb dX12_isUnitSame_25 (tc_mulL 3 hz10 fun z11 hz11 => ?_)
    first | replace hz11 := hz11 (by omega) | clear hz11
    refine lv_iconst (v := 1) hx hb dX12_isUnitSame_26 (by decide) (ti_c 1 (by decide) fun z12 hz12 => ?_)
    refine lv_iadd hx hb dX12_isUnitSame_27 (tc_add fun z13 hz13 => ?_)
    first | replace hz13 := hz13 (by omega) | clear hz13
    refine r_iald C hw (hsh 68 _ rfl) (by omega) (by omega) dX12_isUnitSame_28 (ti_c (ig (B + 68) z13.toInt.toNat).toInt rfl fun z14 hz14 => ?_)
    have a2 : z14.toInt = (uM B ig x.toInt.toNat).2.1.toInt := by rw [hz14, show z13.toInt.toNat = 3 * x.toInt.toNat + 1 by omega]; rfl
    refine lv_aload_n hx hb dX12_isUnitSame_29 rfl (lv_at hl 0 rfl) ?_
    refine r_get C hw (hsh 49 _ rfl) fl_X12_108 (oV_r rfl (hrm (49, 25, 68) (by decide))) dX12_isUnitSame_30 ?_
    refine lv_iconst (v := 3) hx hb dX12_isUnitSame_33 (by decide) (ti_c 3 (by decide) fun z16 hz16 => ?_)
    refine lv_iload_n hx hb dX12_isUnitSame_34 rfl (lv_at hl 2 rfl) ?_
    refine lv_imul hx hb dX12_isUnitSame_35 (tc_mulL 3 hz16 fun z17 hz17 => ?_)
    first | replace hz17 := hz17 (by omega) | clear hz17
    refine lv_iconst (v := 1) hx hb dX12_isUnitSame_36 (by decide) (ti_c 1 (by decide) fun z18 hz18 => ?_)
    refine lv_iadd hx hb dX12_isUnitSame_37 (tc_add fun z19 hz19 => ?_)
    first | replace hz19 := hz19 (by omega) | clear hz19
    refine r_iald C hw (hsh 68 _ rfl) (by omega) (by omega) dX12_isUnitSame_38 (ti_c (ig (B + 68) z19.toInt.toNat).toInt rfl fun z20 hz20 => ?_)
    have b2 : z20.toInt = (uM B ig y.toInt.toNat).2.1.toInt := by rw [hz20, show z19.toInt.toNat = 3 * y.toInt.toNat + 1 by omega]; rfl
    refine b_ne (tgt := 69) hx hb dX12_isUnitSame_39 (by decide) (fun c39 => ?_) (fun c39 => ?_)
    · refine lv_iconst (v := 0) hx hb dX12_isUnitSame_69 (by decide) (ti_c 0 (by decide) fun z22 hz22 => ?_)
      exact r_iret C hw hr hlk (nar_b (by omega)) (Nat.le_of_ble_eq_true rfl) (Nat.le_of_ble_eq_true rfl) dX12_isUnitSame_70 ⟨rfl, rfl, rfl, rfl, hsz, ⟨_, rfl, Or.inr ⟨by omega, fun w9 => by have q1 : (uM B ig x.toInt.toNat).1.toInt = (uM B ig y.toInt.toNat).1.toInt := (by rw [w9]); have q2 : (uM B ig x.toInt.toNat).2.1.toInt = (uM B ig y.toInt.toNat).2.1.toInt := (by rw [w9]); have q3 : (uM B ig x.toInt.toNat).2.2.toInt = (uM B ig y.toInt.toNat).2.2.toInt := (by rw [w9]); omega⟩⟩⟩
    · refine lv_aload_n hx hb dX12_isUnitSame_42 rfl (lv_at hl 0 rfl) ?_
      refine r_get C hw (hsh 49 _ rfl) fl_X12_108 (oV_r rfl (hrm (49, 25, 68) (by decide))) dX12_isUnitSame_43 ?_
      refine lv_iconst (v := 3) hx hb dX12_isUnitSame_46 (by decide) (ti_c 3 (by decide) fun z23 hz23 => ?_)
      refine lv_iload_n hx hb dX12_isUnitSame_47 rfl (lv_at hl 1 rfl) ?_
      refine lv_imul hx hb dX12_isUnitSame_48 (tc_mulL 3 hz23 fun z24 hz24 => ?_)
      first | replace hz24 := hz24 (by omega) | clear hz24
      refine lv_iconst (v := 2) hx hb dX12_isUnitSame_49 (by decide) (ti_c 2 (by decide) fun z25 hz25 => ?_)
      refine lv_iadd hx hb dX12_isUnitSame_50 (tc_add fun z26 hz26 => ?_)
      first | replace hz26 := hz26 (by omega) | clear hz26
      refine r_iald C hw (hsh 68 _ rfl) (by omega) (by omega) dX12_isUnitSame_51 (ti_c (ig (B + 68) z26.toInt.toNat).toInt rfl fun z27 hz27 => ?_)
      have a3 : z27.toInt = (uM B ig x.toInt.toNat).2.2.toInt := by rw [hz27, show z26.toInt.toNat = 3 * x.toInt.toNat + 2 by omega]; rfl
      refine lv_aload_n hx hb dX12_isUnitSame_52 rfl (lv_at hl 0 rfl) ?_
      refine r_get C hw (hsh 49 _ rfl) fl_X12_108 (oV_r rfl (hrm (49, 25, 68) (by decide))) dX12_isUnitSame_53 ?_
      refine lv_iconst (v := 3) hx hb dX12_isUnitSame_56 (by decide) (ti_c 3 (by decide) fun z29 hz29 => ?_)
      refine lv_iload_n hx hb dX12_isUnitSame_57 rfl (lv_at hl 2 rfl) ?_
      refine lv_imul hx hb dX12_isUnitSame_58 (tc_mulL 3 hz29 fun z30 hz30 => ?_)
      first | replace hz30 := hz30 (by omega) | clear hz30
      refine lv_iconst (v := 2) hx hb dX12_isUnitSame_59 (by decide) (ti_c 2 (by decide) fun z31 hz31 => ?_)
      refine lv_iadd hx hb dX12_isUnitSame_60 (tc_add fun z32 hz32 => ?_)
      first | replace hz32 := hz32 (by omega) | clear hz32
      refine r_iald C hw (hsh 68 _ rfl) (by omega) (by omega) dX12_isUnitSame_61 (ti_c (ig (B + 68) z32.toInt.toNat).toInt rfl fun z33 hz33 => ?_)
      have b3 : z33.toInt = (uM B ig y.toInt.toNat).2.2.toInt := by rw [hz33, show z32.toInt.toNat = 3 * y.toInt.toNat + 2 by omega]; rfl
      refine b_ne (tgt := 69) hx hb dX12_isUnitSame_62 (by decide) (fun c62 => ?_) (fun c62 => ?_)
      · refine lv_iconst (v := 0) hx hb dX12_isUnitSame_69 (by decide) (ti_c 0 (by decide) fun z35 hz35 => ?_)
        exact r_iret C hw hr hlk (nar_b (by omega)) (Nat.le_of_ble_eq_true rfl) (Nat.le_of_ble_eq_true rfl) dX12_isUnitSame_70 ⟨rfl, rfl, rfl, rfl, hsz, ⟨_, rfl, Or.inr ⟨by omega, fun w9 => by have q1 : (uM B ig x.toInt.toNat).1.toInt = (uM B ig y.toInt.toNat).1.toInt := (by rw [w9]); have q2 : (uM B ig x.toInt.toNat).2.1.toInt = (uM B ig y.toInt.toNat).2.1.toInt := (by rw [w9]); have q3 : (uM B ig x.toInt.toNat).2.2.toInt = (uM B ig y.toInt.toNat).2.2.toInt := (by rw [w9]); omega⟩⟩⟩
      · refine lv_iconst (v := 1) hx hb dX12_isUnitSame_65 (by decide) (ti_c 1 (by decide) fun z36 hz36 => ?_)
        refine lv_goto (tgt := 70) hx hb dX12_isUnitSame_66 (by decide) ?_
        exact r_iret C hw hr hlk (nar_b (by omega)) (Nat.le_of_ble_eq_true rfl) (Nat.le_of_ble_eq_true rfl) dX12_isUnitSame_70 ⟨rfl, rfl, rfl, rfl, hsz, ⟨_, rfl, Or.inl ⟨by omega, Prod.ext (i32_inj (by omega)) (Prod.ext (i32_inj (by omega)) (i32_inj (by omega)))⟩⟩⟩

set_option maxHeartbeats 4000000 in
set_option maxRecDepth 100000 in
theorem t_X12_unitSumE {υ : Option Int} {τ : Tp} {φ : Option Int} (l : Launch) (B : Nat) (D : va_G) (cA : Nat → ClassId) (kd : sK) (ig : sI) (rg : sR) (lg : sG) (sz : Nat) (x : Int32) (y : Int32) (hx0 : 0 ≤ x.toInt ∧ x.toInt < 37080) (hy0 : 0 ≤ y.toInt ∧ y.toInt < 37080) (hrx : ((0 ≤ (ig (B + 55) x.toInt.toNat).toInt ∧ (ig (B + 55) x.toInt.toNat).toInt < 12) ∧ 0 ≤ (ig (B + 56) x.toInt.toNat).toInt ∧ (ig (B + 56) x.toInt.toNat).toInt < 24)) (hry : ((0 ≤ (ig (B + 55) y.toInt.toNat).toInt ∧ (ig (B + 55) y.toInt.toNat).toInt < 12) ∧ 0 ≤ (ig (B + 56) y.toInt.toNat).toInt ∧ (ig (B + 56) y.toInt.toNat).toInt < 24)) (h w u : Int) (fw : RfI B ig h x.toInt.toNat w) (fu : RfI B ig h y.toInt.toNat u) (σ : Sg) (hkd : ∀ q, q < 288 → (ig (B + 59) q).toInt = kdO (σ q)) (ks : List Un) (hks : PlU B ks ig) (h29 : ks.length ≤ 29) (hI : IM τ φ υ B kd ig rg) : MC l B D cA yX12_unitSum cX12_unitSum 7 none (rL 2 0 0) [.ref (B + 49), .int x, .int y] kd ig rg lg sz (PM τ φ υ B [49, 74] kd ig rg lg (fun r ig' lg' => (r = none ∧ ((PlU B (unA (uM B ig) (spU σ (uM B ig) (czB (ig (B + 49) 34)) (2, w, u) h).1 :: ks) ig' ∧ (czB (ig' (B + 49) 34)) = (spU σ (uM B ig) (czB (ig (B + 49) 34)) (2, w, u) h).2) ∧ (ig' (B + 49) 31).toInt = (ig (B + 49) 31).toInt ∧ (ig' (B + 49) 32).toInt = (ig (B + 49) 32).toInt)))) := by
  refine MC.of (own := RX12) (by decide +kernel) rfl (Nat.le_of_ble_eq_true rfl) ?_
  intro p e s m args below meth c ls C hr hlk hnm hw hsz hl
  have hx := C.1.1
  have hb := C.1.2.1
  have hown := C.1.2.2.2.1
  have hts := C.1.2.2.2.2
  have hl : lv_has ls 7 [(0, .ref (B + 49)), (1, .int x), (2, .int y)] := hl
  have hF : Ft B [49, 74] ig lg ig lg := Ft.rf
  have hsh := hI.sh
  have hrm := hI.rm
  have ks1 := hks.1
  have fw1 := fw.1
  have fw2 := fw.2
  have fu1 := fu.1
  have fu2 := fu.2
  have hW : spW (2, w, u) h = (colv u h - colv w h + 1).toNat := rfl
  have hH : spH (2, w, u) h = (rowv u h - rowv w h + 1).toNat := rfl
  refine lv_iconst (v := (-1)) hx hb dX12_unitSum_0 (by decide) (ti_c (-1) (by decide) fun z1 hz1 => ?_)
  refine lv_istore_n (lv' := [(3, .int z1), (0, .ref (B + 49)), (1, .int x), (2, .int y)]) hx hb dX12_unitSum_1 rfl hl (by decide) rfl (fun ls hl => ?_)
  refine lv_aload_n hx hb dX12_unitSum_2 rfl (lv_at hl 1 rfl) ?_
  refine r_get C hw (hsh 49 _ rfl) fl_X12_71 (oV_r rfl (hrm (49, 11, 56) (by decide))) dX12_unitSum_3 ?_
  refine lv_iload_n hx hb dX12_unitSum_6 rfl (lv_at hl 2 rfl) ?_
  refine r_iald C hw (hsh 56 _ rfl) (by omega) (by omega) dX12_unitSum_7 (ti_c (ig (B + 56) x.toInt.toNat).toInt rfl fun z2 hz2 => ?_)
  refine lv_istore (lv' := [(4, .int z2), (3, .int z1), (0, .ref (B + 49)), (1, .int x), (2, .int y)]) hx hb dX12_unitSum_8 hl (by decide) rfl (fun ls hl => ?_)
  have L10 : ∀ (n : Nat) (ls : Array Slot) (H : Heap) (locs : List Loc) (ig6 : sI) (lg7 : sG) (v4 : Int32) (v5 : Int32), lv_has ls 7 [(4, .int v4), (3, .int v5), (0, .ref (B + 49)), (1, .int x), (2, .int y)] → WD B D cA s.heap kd ig6 rg lg7 H locs → IM τ φ υ B kd ig6 rg → Ft B [49, 74] ig lg ig6 lg7 → (0 ≤ v4.toInt) → (v4.toInt ≤ 24) → (∃ j : Nat, v4.toInt = rowv w h + (j : Int) ∧ j ≤ spH (2, w, u) h ∧ (v5.toInt, (czB (ig6 (B + 49) 34))) = (plF (rowv w h) (colv w h) (spW (2, w, u) h) j).foldl (umS σ (uM B ig)) (-1, (czB (ig (B + 49) 34)))) → (-1 ≤ v5.toInt ∧ v5.toInt < 288) → (PlU B ks ig6) → ((ig6 (B + 49) 31).toInt = (ig (B + 49) 31).toInt) → ((ig6 (B + 49) 32).toInt = (ig (B + 49) 32).toInt) → 24 - v4.toInt < (n : Int) → W p l e (rL 2 0 0) s m args below meth c H locs 0 0 (MQ below (QcW B D cA (PM τ φ υ B [49, 74] kd ig rg lg (fun r ig' lg' => (r = none ∧ ((PlU B (unA (uM B ig) (spU σ (uM B ig) (czB (ig (B + 49) 34)) (2, w, u) h).1 :: ks) ig' ∧ (czB (ig' (B + 49) 34)) = (spU σ (uM B ig) (czB (ig (B + 49) 34)) (2, w, u) h).2) ∧ (ig' (B + 49) 31).toInt = (ig (B + 49) 31).toInt ∧ (ig' (B + 49) 32).toInt = (ig (B + 49) 32).toInt))))) args s 0 0 (fun q => B ≤ q)) (F0 m 10 ls []) := by
    intro n10
    induction n10 with
    | zero => intro ls H locs ig6 lg7 v4 v5 hl hw hI hF g10_0 g10_1 g10_2 g10_3 g10_4 g10_5 g10_6 hmu; exact absurd hmu (by omega)
    | succ n10 ih10 =>
      intro ls H locs ig6 lg7 v4 v5 hl hw hI hF g10_0 g10_1 g10_2 g10_3 g10_4 g10_5 g10_6 hmu
      obtain ⟨j, hj4, hjH, hst⟩ := g10_2
      have pl9 := g10_4
      refine lv_iload hx hb dX12_unitSum_10 (lv_at hl 0 rfl) ?_
      refine lv_aload_n hx hb dX12_unitSum_12 rfl (lv_at hl 2 rfl) ?_
      refine r_get C hw (hsh 49 _ rfl) fl_X12_71 (oV_r rfl (hrm (49, 11, 56) (by decide))) dX12_unitSum_13 ?_
      refine lv_iload_n hx hb dX12_unitSum_16 rfl (lv_at hl 4 rfl) ?_
      refine r_iald C hw (hsh 56 _ rfl) (by omega) (by omega) dX12_unitSum_17 (ti_c (ig6 (B + 56) y.toInt.toNat).toInt rfl fun z8 hz8 => ?_)
      rw [Ft.i hF 56 _ (by decide)] at hz8
      refine b_gt (tgt := 118) hx hb dX12_unitSum_18 (by decide) (fun c18 => ?_) (fun c18 => ?_)
      · have fin9 : (v5.toInt, (czB (ig6 (B + 49) 34))) = (plS (2, w, u) h).foldl (umS σ (uM B ig)) (-1, (czB (ig (B + 49) 34))) := (by obtain rfl : j = spH (2, w, u) h := (by omega); exact hst)
        have hF118 := hF
        refine lv_iload_n hx hb dX12_unitSum_118 rfl (lv_at hl 1 rfl) ?_
        refine z_ge (tgt := 132) hx hb dX12_unitSum_119 (by decide) (fun c119 => ?_) (fun c119 => ?_)
        · refine lv_aload_n hx hb dX12_unitSum_132 rfl (lv_at hl 2 rfl) ?_
          refine lv_iload_n hx hb dX12_unitSum_133 rfl (lv_at hl 1 rfl) ?_
          refine r_callV (As := [.int v5]) (rest := []) C hw (t_X12_pushUnitOfE l B D cA kd ig6 rg lg7 _ v5 (by omega) ks pl9 h29 hI) sv_X12_296 (hsh 49 _ rfl) rfl hl.1 rfl (Nat.le_of_ble_eq_true rfl) ⟨Nat.le_of_ble_eq_true rfl, Nat.le_of_ble_eq_true rfl⟩ ⟨Nat.le_of_ble_eq_true rfl, Nat.le_of_ble_eq_true rfl⟩ dX12_unitSum_134 (fun r14 kd10 ig11 rg12 lg13 H locs hw hH hp15 => ?_)
          obtain ⟨rfl, rfl, hI, hchp15, hrhp15⟩ := hp15
          have hF : Ft B [49, 74] ig lg ig11 lg13 := Ft.tr hF hchp15 (by decide) (by decide)
          obtain ⟨rfl, hvhp15⟩ := hrhp15
          have pu9 := hvhp15
          have kp9 := pu9.2
          exact r_vret C hw hr hlk (Nat.le_of_ble_eq_true rfl) (Nat.le_of_ble_eq_true rfl) dX12_unitSum_137 ⟨rfl, rfl, hI, hF, ⟨rfl, ⟨⟨(by have q9 := pu9.1; rw [show (spU σ (uM B ig) (czB (ig (B + 49) 34)) (2, w, u) h).1 = v5.toInt from (congrArg Prod.fst fin9).symm, unA_on (by omega), ← show uM B ig6 = uM B ig from uM.ft hF118]; exact q9), (by rw [show (ig11 (B + 49) 34) = ig6 (B + 49) 34 from i32_inj (by omega)]; exact congrArg Prod.snd fin9)⟩, by omega, by omega⟩⟩⟩
        · refine lv_aload_n hx hb dX12_unitSum_122 rfl (lv_at hl 2 rfl) ?_
          refine lv_iconst (v := 0) hx hb dX12_unitSum_123 (by decide) (ti_c 0 (by decide) fun z16 hz16 => ?_)
          refine lv_iconst (v := 0) hx hb dX12_unitSum_124 (by decide) (ti_c 0 (by decide) fun z17 hz17 => ?_)
          refine lv_iconst (v := 0) hx hb dX12_unitSum_125 (by decide) (ti_c 0 (by decide) fun z18 hz18 => ?_)
          refine r_callV (As := [.int z16, .int z17, .int z18]) (rest := []) C hw (t_X12_pushUnitE l B D cA kd ig6 rg lg7 _ z16 z17 z18 ks pl9 h29 hI) sv_X12_286 (hsh 49 _ rfl) rfl hl.1 rfl (Nat.le_of_ble_eq_true rfl) ⟨Nat.le_of_ble_eq_true rfl, Nat.le_of_ble_eq_true rfl⟩ ⟨Nat.le_of_ble_eq_true rfl, Nat.le_of_ble_eq_true rfl⟩ dX12_unitSum_126 (fun r23 kd19 ig20 rg21 lg22 H locs hw hH hp24 => ?_)
          obtain ⟨rfl, rfl, hI, hchp24, hrhp24⟩ := hp24
          have hF : Ft B [49, 74] ig lg ig20 lg22 := Ft.tr hF hchp24 (by decide) (by decide)
          obtain ⟨rfl, hvhp24⟩ := hrhp24
          have pu9 := hvhp24
          have kp9 := pu9.2
          refine lv_goto (tgt := 137) hx hb dX12_unitSum_129 (by decide) ?_
          exact r_vret C hw hr hlk (Nat.le_of_ble_eq_true rfl) (Nat.le_of_ble_eq_true rfl) dX12_unitSum_137 ⟨rfl, rfl, hI, hF, ⟨rfl, ⟨⟨(by have q9 := pu9.1; rw [show (spU σ (uM B ig) (czB (ig (B + 49) 34)) (2, w, u) h).1 = v5.toInt from (congrArg Prod.fst fin9).symm, unA_off (by omega), show u0 = (z16, z17, z18) from Prod.ext (i32_z (by omega)).symm (Prod.ext (i32_z (by omega)).symm (i32_z (by omega)).symm)]; exact q9), (by rw [show (ig20 (B + 49) 34) = ig6 (B + 49) 34 from i32_inj (by omega)]; exact congrArg Prod.snd fin9)⟩, by omega, by omega⟩⟩⟩
      · refine lv_aload_n hx hb dX12_unitSum_21 rfl (lv_at hl 2 rfl) ?_
        refine r_get C hw (hsh 49 _ rfl) fl_X12_68 (oV_r rfl (hrm (49, 10, 55) (by decide))) dX12_unitSum_22 ?_
        refine lv_iload_n hx hb dX12_unitSum_25 rfl (lv_at hl 3 rfl) ?_
        refine r_iald C hw (hsh 55 _ rfl) (by omega) (by omega) dX12_unitSum_26 (ti_c (ig6 (B + 55) x.toInt.toNat).toInt rfl fun z25 hz25 => ?_)
        rw [Ft.i hF 55 _ (by decide)] at hz25
        refine lv_istore (lv' := [(5, .int z25), (4, .int v4), (3, .int v5), (0, .ref (B + 49)), (1, .int x), (2, .int y)]) hx hb dX12_unitSum_27 hl (by decide) rfl (fun ls hl => ?_)
        have L29 : ∀ (n : Nat) (ls : Array Slot) (H : Heap) (locs : List Loc) (ig29 : sI) (lg30 : sG) (v27 : Int32) (v28 : Int32), lv_has ls 7 [(5, .int v27), (4, .int v4), (3, .int v28), (0, .ref (B + 49)), (1, .int x), (2, .int y)] → WD B D cA s.heap kd ig29 rg lg30 H locs → IM τ φ υ B kd ig29 rg → Ft B [49, 74] ig lg ig29 lg30 → (0 ≤ v27.toInt) → (v27.toInt ≤ 12) → (∃ k : Nat, v27.toInt = colv w h + (k : Int) ∧ k ≤ spW (2, w, u) h ∧ (v28.toInt, (czB (ig29 (B + 49) 34))) = (plF (rowv w h) (colv w h) (spW (2, w, u) h) j ++ plR (rowv w h + (j : Int)) (colv w h) k).foldl (umS σ (uM B ig)) (-1, (czB (ig (B + 49) 34)))) → (-1 ≤ v28.toInt ∧ v28.toInt < 288) → (PlU B ks ig29) → ((ig29 (B + 49) 31).toInt = (ig (B + 49) 31).toInt) → ((ig29 (B + 49) 32).toInt = (ig (B + 49) 32).toInt) → 12 - v27.toInt < (n : Int) → W p l e (rL 2 0 0) s m args below meth c H locs 0 0 (MQ below (QcW B D cA (PM τ φ υ B [49, 74] kd ig rg lg (fun r ig' lg' => (r = none ∧ ((PlU B (unA (uM B ig) (spU σ (uM B ig) (czB (ig (B + 49) 34)) (2, w, u) h).1 :: ks) ig' ∧ (czB (ig' (B + 49) 34)) = (spU σ (uM B ig) (czB (ig (B + 49) 34)) (2, w, u) h).2) ∧ (ig' (B + 49) 31).toInt = (ig (B + 49) 31).toInt ∧ (ig' (B + 49) 32).toInt = (ig (B + 49) 32).toInt))))) args s 0 0 (fun q => B ≤ q)) (F0 m 29 ls []) := by
          intro n29
          induction n29 with
          | zero => intro ls H locs ig29 lg30 v27 v28 hl hw hI hF g29_0 g29_1 g29_2 g29_3 g29_4 g29_5 g29_6 hmu; exact absurd hmu (by omega)
          | succ n29 ih29 =>
            intro ls H locs ig29 lg30 v27 v28 hl hw hI hF g29_0 g29_1 g29_2 g29_3 g29_4 g29_5 g29_6 hmu
            obtain ⟨k, hk5, hkW, hst⟩ := g29_2
            have pl9 := g29_4
            refine lv_iload hx hb dX12_unitSum_29 (lv_at hl 0 rfl) ?_
            refine lv_aload_n hx hb dX12_unitSum_31 rfl (lv_at hl 3 rfl) ?_
            refine r_get C hw (hsh 49 _ rfl) fl_X12_68 (oV_r rfl (hrm (49, 10, 55) (by decide))) dX12_unitSum_32 ?_
            refine lv_iload_n hx hb dX12_unitSum_35 rfl (lv_at hl 5 rfl) ?_
            refine r_iald C hw (hsh 55 _ rfl) (by omega) (by omega) dX12_unitSum_36 (ti_c (ig29 (B + 55) y.toInt.toNat).toInt rfl fun z31 hz31 => ?_)
            rw [Ft.i hF 55 _ (by decide)] at hz31
            refine b_gt (tgt := 112) hx hb dX12_unitSum_37 (by decide) (fun c37 => ?_) (fun c37 => ?_)
            · refine tc_inc hx hb dX12_unitSum_112 hl (k := 1) rfl (by decide) (by decide) (fun z33 hz33 ls hl => ?_)
              first | replace hz33 := hz33 (by omega) | clear hz33
              have hl : lv_has ls 7 [(4, .int z33), (5, .int v27), (3, .int v28), (0, .ref (B + 49)), (1, .int x), (2, .int y)] := hl
              refine lv_goto (tgt := 10) hx hb dX12_unitSum_115 (by decide) ?_
              exact ih10 ls H locs ig29 lg30 z33 v28 (lv_sub hl [0, 2, 3, 4, 5] rfl) hw hI hF (by omega) (by omega) (⟨j + 1, by omega, by omega, by obtain rfl : k = spW (2, w, u) h := (by omega); rw [plF_s]; exact hst⟩) (by omega) (pl9) (by omega) (by omega) (by omega)
            · refine lv_bipush (v := 12) hx hb dX12_unitSum_40 (by decide) (ti_c 12 (by decide) fun z34 hz34 => ?_)
              refine lv_iload hx hb dX12_unitSum_42 (lv_at hl 1 rfl) ?_
              refine lv_imul hx hb dX12_unitSum_44 (tc_mulL 12 hz34 fun z35 hz35 => ?_)
              first | replace hz35 := hz35 (by omega) | clear hz35
              refine lv_iload hx hb dX12_unitSum_45 (lv_at hl 0 rfl) ?_
              refine lv_iadd hx hb dX12_unitSum_47 (tc_add fun z36 hz36 => ?_)
              first | replace hz36 := hz36 (by omega) | clear hz36
              have qe : z36.toInt = ((rowv w h + (j : Int)) * 12 + (colv w h + (k : Int))) := by omega
              have qn : z36.toInt.toNat = ((rowv w h + (j : Int)) * 12 + (colv w h + (k : Int))).toNat := by omega
              refine lv_istore (lv' := [(6, .int z36), (5, .int v27), (4, .int v4), (3, .int v28), (0, .ref (B + 49)), (1, .int x), (2, .int y)]) hx hb dX12_unitSum_48 hl (by decide) rfl (fun ls hl => ?_)
              refine lv_aload_n hx hb dX12_unitSum_50 rfl (lv_at hl 4 rfl) ?_
              refine r_get C hw (hsh 49 _ rfl) fl_X12_80 (oV_r rfl (hrm (49, 15, 59) (by decide))) dX12_unitSum_51 ?_
              refine lv_iload hx hb dX12_unitSum_54 (lv_at hl 0 rfl) ?_
              refine r_iald C hw (hsh 59 _ rfl) (by omega) (by omega) dX12_unitSum_56 (ti_c (ig29 (B + 59) z36.toInt.toNat).toInt rfl fun z37 hz37 => ?_)
              rw [Ft.i hF 59 _ (by decide)] at hz37
              have kd9 : kdO (atC σ ((rowv w h + (j : Int)) * 12 + (colv w h + (k : Int)))) = z37.toInt := by rw [← qe, atC_on (by omega)]; rw [hz37]; exact (hkd _ (by omega)).symm
              refine z_eq (tgt := 70) hx hb dX12_unitSum_57 (by decide) (fun c57 => ?_) (fun c57 => ?_)
              · refine lv_aload_n hx hb dX12_unitSum_70 rfl (lv_at hl 4 rfl) ?_
                refine r_get C hw (hsh 49 _ rfl) fl_X12_80 (oV_r rfl (hrm (49, 15, 59) (by decide))) dX12_unitSum_71 ?_
                refine lv_iload hx hb dX12_unitSum_74 (lv_at hl 0 rfl) ?_
                refine r_iald C hw (hsh 59 _ rfl) (by omega) (by omega) dX12_unitSum_76 (ti_c (ig29 (B + 59) z36.toInt.toNat).toInt rfl fun z39 hz39 => ?_)
                rw [Ft.i hF 59 _ (by decide)] at hz39
                refine z_eq (tgt := 106) hx hb dX12_unitSum_77 (by decide) (fun c77 => ?_) (fun c77 => ?_)
                · have hst2 : (v28.toInt, (czB (ig29 (B + 49) 34))) = (plF (rowv w h) (colv w h) (spW (2, w, u) h) j ++ plR (rowv w h + (j : Int)) (colv w h) (k + 1)).foldl (umS σ (uM B ig)) (-1, (czB (ig (B + 49) 34))) := by rw [plR_s, ← List.append_assoc]; exact umA hst (umS_0 (by rw [kd9]; omega)).symm
                  refine tc_inc hx hb dX12_unitSum_106 hl (k := 1) rfl (by decide) (by decide) (fun z41 hz41 ls hl => ?_)
                  first | replace hz41 := hz41 (by omega) | clear hz41
                  have hl : lv_has ls 7 [(5, .int z41), (6, .int z36), (4, .int v4), (3, .int v28), (0, .ref (B + 49)), (1, .int x), (2, .int y)] := hl
                  refine lv_goto (tgt := 29) hx hb dX12_unitSum_109 (by decide) ?_
                  exact ih29 ls H locs ig29 lg30 z41 v28 (lv_sub hl [0, 2, 3, 4, 5, 6] rfl) hw hI hF (by omega) (by omega) (⟨k + 1, by omega, by omega, hst2⟩) (by omega) (pl9) (by omega) (by omega) (by omega)
                · refine lv_aload_n hx hb dX12_unitSum_80 rfl (lv_at hl 4 rfl) ?_
                  refine lv_aload_n hx hb dX12_unitSum_81 rfl (lv_at hl 4 rfl) ?_
                  refine r_get C hw (hsh 49 _ rfl) fl_X12_254 (oV_i rfl) dX12_unitSum_82 (ti_c (ig29 (B + 49) 34).toInt rfl fun z42 hz42 => ?_)
                  have k43 : 0 ≤ (ig29 (B + 49) 34).toInt ∧ (ig29 (B + 49) 34).toInt ≤ 1 := hI.i 49 34 (by decide) (by decide)
                  refine z_ne (tgt := 98) hx hb dX12_unitSum_85 (by decide) (fun c85 => ?_) (fun c85 => ?_)
                  · refine lv_iconst (v := 1) hx hb dX12_unitSum_98 (by decide) (ti_c 1 (by decide) fun z44 hz44 => ?_)
                    refine lv_goto (tgt := 103) hx hb dX12_unitSum_99 (by decide) ?_
                    refine r_puti C hw (hsh 49 _ rfl) fl_X12_254 rfl (nar_b (by omega)) (fit_b (by omega)) dX12_unitSum_103 (fun H locs hH hw => ?_)
                    obtain ⟨ig45, eig45⟩ : ∃ f, f = up2 ig29 (B + 49) 34 z44 := ⟨_, rfl⟩
                    rw [← eig45] at hw
                    have hF : Ft B [49, 74] ig lg ig45 lg30 := by rw [eig45]; exact hF.pi (by decide)
                    have hI : IM τ φ υ B kd ig45 rg := by rw [eig45]; exact hI.pi (by decide) (show okR (some (0, 1)) _ from ⟨by show (0 : Int) ≤ _; omega, by show _ ≤ (1 : Int); omega⟩)
                    have wig45_49_35 : (ig45 (B + 49) 35).toInt = (ig29 (B + 49) 35).toInt := by rw [eig45, up2_j (by decide)]
                    have wig45 : (ig45 (B + 49) 34).toInt = z44.toInt := by rw [eig45, up2_eq]
                    have wig45_49_31 : (ig45 (B + 49) 31).toInt = (ig29 (B + 49) 31).toInt := by rw [eig45, up2_j (by decide)]
                    have wig45_49_32 : (ig45 (B + 49) 32).toInt = (ig29 (B + 49) 32).toInt := by rw [eig45, up2_j (by decide)]
                    have hst2 : (v28.toInt, (czB (ig45 (B + 49) 34))) = (plF (rowv w h) (colv w h) (spW (2, w, u) h) j ++ plR (rowv w h + (j : Int)) (colv w h) (k + 1)).foldl (umS σ (uM B ig)) (-1, (czB (ig (B + 49) 34))) := by rw [plR_s, ← List.append_assoc]; exact umA hst (by rw [umS_4 (by rw [kd9]; omega) (by omega) (czB_1 (by omega)), show czB (ig45 (B + 49) 34) = true from czB_1 (by rw [eig45, up2_eq]; omega)])
                    refine tc_inc hx hb dX12_unitSum_106 hl (k := 1) rfl (by decide) (by decide) (fun z46 hz46 ls hl => ?_)
                    first | replace hz46 := hz46 (by omega) | clear hz46
                    have hl : lv_has ls 7 [(5, .int z46), (6, .int z36), (4, .int v4), (3, .int v28), (0, .ref (B + 49)), (1, .int x), (2, .int y)] := hl
                    refine lv_goto (tgt := 29) hx hb dX12_unitSum_109 (by decide) ?_
                    exact ih29 ls H locs ig45 lg30 z46 v28 (lv_sub hl [0, 2, 3, 4, 5, 6] rfl) hw hI hF (by omega) (by omega) (⟨k + 1, by omega, by omega, hst2⟩) (by omega) (pl9.ag (by omega) (fun j9 => by rw [eig45, up2_a (by omega)])) (by omega) (by omega) (by omega)
                  · refine lv_aload_n hx hb dX12_unitSum_88 rfl (lv_at hl 4 rfl) ?_
                    refine lv_iload_n hx hb dX12_unitSum_89 rfl (lv_at hl 3 rfl) ?_
                    refine lv_iload hx hb dX12_unitSum_90 (lv_at hl 0 rfl) ?_
                    refine r_callV (As := [.int v28, .int z36]) (rest := [.ref (B + 49)]) C hw (t_X12_isUnitSameE l B D cA kd ig29 rg lg30 _ v28 z36 (by omega) (by omega) hI) sv_X12_302 (hsh 49 _ rfl) rfl hl.1 rfl (Nat.le_of_ble_eq_true rfl) ⟨Nat.le_of_ble_eq_true rfl, Nat.le_of_ble_eq_true rfl⟩ ⟨Nat.le_of_ble_eq_true rfl, Nat.le_of_ble_eq_true rfl⟩ dX12_unitSum_92 (fun r51 kd47 ig48 rg49 lg50 H locs hw hH hp52 => ?_)
                    obtain ⟨rfl, rfl, rfl, rfl, hzhp52, hrhp52⟩ := hp52
                    obtain ⟨z53, rfl, hz53⟩ := hrhp52
                    have sm9 := hz53
                    rw [show uM B ig29 = uM B ig from uM.ft hF] at sm9
                    refine z_ne (tgt := 102) hx hb dX12_unitSum_95 (by decide) (fun c95 => ?_) (fun c95 => ?_)
                    · refine lv_iconst (v := 0) hx hb dX12_unitSum_102 (by decide) (ti_c 0 (by decide) fun z54 hz54 => ?_)
                      refine r_puti C hw (hsh 49 _ rfl) fl_X12_254 rfl (nar_b (by omega)) (fit_b (by omega)) dX12_unitSum_103 (fun H locs hH hw => ?_)
                      obtain ⟨ig55, eig55⟩ : ∃ f, f = up2 ig29 (B + 49) 34 z54 := ⟨_, rfl⟩
                      rw [← eig55] at hw
                      have hF : Ft B [49, 74] ig lg ig55 lg30 := by rw [eig55]; exact hF.pi (by decide)
                      have hI : IM τ φ υ B kd ig55 rg := by rw [eig55]; exact hI.pi (by decide) (show okR (some (0, 1)) _ from ⟨by show (0 : Int) ≤ _; omega, by show _ ≤ (1 : Int); omega⟩)
                      have wig55_49_35 : (ig55 (B + 49) 35).toInt = (ig29 (B + 49) 35).toInt := by rw [eig55, up2_j (by decide)]
                      have wig55 : (ig55 (B + 49) 34).toInt = z54.toInt := by rw [eig55, up2_eq]
                      have wig55_49_31 : (ig55 (B + 49) 31).toInt = (ig29 (B + 49) 31).toInt := by rw [eig55, up2_j (by decide)]
                      have wig55_49_32 : (ig55 (B + 49) 32).toInt = (ig29 (B + 49) 32).toInt := by rw [eig55, up2_j (by decide)]
                      have hst2 : (v28.toInt, (czB (ig55 (B + 49) 34))) = (plF (rowv w h) (colv w h) (spW (2, w, u) h) j ++ plR (rowv w h + (j : Int)) (colv w h) (k + 1)).foldl (umS σ (uM B ig)) (-1, (czB (ig (B + 49) 34))) := by rw [plR_s, ← List.append_assoc]; exact umA hst (by rw [umS_2 (by rw [kd9]; omega) (by omega) (by rw [unA_on (by omega), unA_on (by omega), ← qn]; exact by1 sm9 (by omega)), show czB (ig55 (B + 49) 34) = false from czB_0 (by rw [eig55, up2_eq]; omega), show czB (ig29 (B + 49) 34) = false from czB_0 (by omega)])
                      refine tc_inc hx hb dX12_unitSum_106 hl (k := 1) rfl (by decide) (by decide) (fun z56 hz56 ls hl => ?_)
                      first | replace hz56 := hz56 (by omega) | clear hz56
                      have hl : lv_has ls 7 [(5, .int z56), (6, .int z36), (4, .int v4), (3, .int v28), (0, .ref (B + 49)), (1, .int x), (2, .int y)] := hl
                      refine lv_goto (tgt := 29) hx hb dX12_unitSum_109 (by decide) ?_
                      exact ih29 ls H locs ig55 lg30 z56 v28 (lv_sub hl [0, 2, 3, 4, 5, 6] rfl) hw hI hF (by omega) (by omega) (⟨k + 1, by omega, by omega, hst2⟩) (by omega) (pl9.ag (by omega) (fun j9 => by rw [eig55, up2_a (by omega)])) (by omega) (by omega) (by omega)
                    · refine lv_iconst (v := 1) hx hb dX12_unitSum_98 (by decide) (ti_c 1 (by decide) fun z57 hz57 => ?_)
                      refine lv_goto (tgt := 103) hx hb dX12_unitSum_99 (by decide) ?_
                      refine r_puti C hw (hsh 49 _ rfl) fl_X12_254 rfl (nar_b (by omega)) (fit_b (by omega)) dX12_unitSum_103 (fun H locs hH hw => ?_)
                      obtain ⟨ig58, eig58⟩ : ∃ f, f = up2 ig29 (B + 49) 34 z57 := ⟨_, rfl⟩
                      rw [← eig58] at hw
                      have hF : Ft B [49, 74] ig lg ig58 lg30 := by rw [eig58]; exact hF.pi (by decide)
                      have hI : IM τ φ υ B kd ig58 rg := by rw [eig58]; exact hI.pi (by decide) (show okR (some (0, 1)) _ from ⟨by show (0 : Int) ≤ _; omega, by show _ ≤ (1 : Int); omega⟩)
                      have wig58_49_35 : (ig58 (B + 49) 35).toInt = (ig29 (B + 49) 35).toInt := by rw [eig58, up2_j (by decide)]
                      have wig58 : (ig58 (B + 49) 34).toInt = z57.toInt := by rw [eig58, up2_eq]
                      have wig58_49_31 : (ig58 (B + 49) 31).toInt = (ig29 (B + 49) 31).toInt := by rw [eig58, up2_j (by decide)]
                      have wig58_49_32 : (ig58 (B + 49) 32).toInt = (ig29 (B + 49) 32).toInt := by rw [eig58, up2_j (by decide)]
                      have hst2 : (v28.toInt, (czB (ig58 (B + 49) 34))) = (plF (rowv w h) (colv w h) (spW (2, w, u) h) j ++ plR (rowv w h + (j : Int)) (colv w h) (k + 1)).foldl (umS σ (uM B ig)) (-1, (czB (ig (B + 49) 34))) := by rw [plR_s, ← List.append_assoc]; exact umA hst (by rw [umS_3 (by rw [kd9]; omega) (by omega) (by rw [unA_on (by omega), unA_on (by omega), ← qn]; exact by0 sm9 (by omega)), show czB (ig58 (B + 49) 34) = true from czB_1 (by rw [eig58, up2_eq]; omega)])
                      refine tc_inc hx hb dX12_unitSum_106 hl (k := 1) rfl (by decide) (by decide) (fun z59 hz59 ls hl => ?_)
                      first | replace hz59 := hz59 (by omega) | clear hz59
                      have hl : lv_has ls 7 [(5, .int z59), (6, .int z36), (4, .int v4), (3, .int v28), (0, .ref (B + 49)), (1, .int x), (2, .int y)] := hl
                      refine lv_goto (tgt := 29) hx hb dX12_unitSum_109 (by decide) ?_
                      exact ih29 ls H locs ig58 lg30 z59 v28 (lv_sub hl [0, 2, 3, 4, 5, 6] rfl) hw hI hF (by omega) (by omega) (⟨k + 1, by omega, by omega, hst2⟩) (by omega) (pl9.ag (by omega) (fun j9 => by rw [eig58, up2_a (by omega)])) (by omega) (by omega) (by omega)
              · refine lv_iload_n hx hb dX12_unitSum_60 rfl (lv_at hl 3 rfl) ?_
                refine z_ge (tgt := 70) hx hb dX12_unitSum_61 (by decide) (fun c61 => ?_) (fun c61 => ?_)
                · refine lv_aload_n hx hb dX12_unitSum_70 rfl (lv_at hl 4 rfl) ?_
                  refine r_get C hw (hsh 49 _ rfl) fl_X12_80 (oV_r rfl (hrm (49, 15, 59) (by decide))) dX12_unitSum_71 ?_
                  refine lv_iload hx hb dX12_unitSum_74 (lv_at hl 0 rfl) ?_
                  refine r_iald C hw (hsh 59 _ rfl) (by omega) (by omega) dX12_unitSum_76 (ti_c (ig29 (B + 59) z36.toInt.toNat).toInt rfl fun z60 hz60 => ?_)
                  rw [Ft.i hF 59 _ (by decide)] at hz60
                  refine z_eq (tgt := 106) hx hb dX12_unitSum_77 (by decide) (fun c77 => ?_) (fun c77 => ?_)
                  · have hst2 : (v28.toInt, (czB (ig29 (B + 49) 34))) = (plF (rowv w h) (colv w h) (spW (2, w, u) h) j ++ plR (rowv w h + (j : Int)) (colv w h) (k + 1)).foldl (umS σ (uM B ig)) (-1, (czB (ig (B + 49) 34))) := by rw [plR_s, ← List.append_assoc]; exact umA hst (umS_0 (by rw [kd9]; omega)).symm
                    refine tc_inc hx hb dX12_unitSum_106 hl (k := 1) rfl (by decide) (by decide) (fun z62 hz62 ls hl => ?_)
                    first | replace hz62 := hz62 (by omega) | clear hz62
                    have hl : lv_has ls 7 [(5, .int z62), (6, .int z36), (4, .int v4), (3, .int v28), (0, .ref (B + 49)), (1, .int x), (2, .int y)] := hl
                    refine lv_goto (tgt := 29) hx hb dX12_unitSum_109 (by decide) ?_
                    exact ih29 ls H locs ig29 lg30 z62 v28 (lv_sub hl [0, 2, 3, 4, 5, 6] rfl) hw hI hF (by omega) (by omega) (⟨k + 1, by omega, by omega, hst2⟩) (by omega) (pl9) (by omega) (by omega) (by omega)
                  · refine lv_aload_n hx hb dX12_unitSum_80 rfl (lv_at hl 4 rfl) ?_
                    refine lv_aload_n hx hb dX12_unitSum_81 rfl (lv_at hl 4 rfl) ?_
                    refine r_get C hw (hsh 49 _ rfl) fl_X12_254 (oV_i rfl) dX12_unitSum_82 (ti_c (ig29 (B + 49) 34).toInt rfl fun z63 hz63 => ?_)
                    have k64 : 0 ≤ (ig29 (B + 49) 34).toInt ∧ (ig29 (B + 49) 34).toInt ≤ 1 := hI.i 49 34 (by decide) (by decide)
                    refine z_ne (tgt := 98) hx hb dX12_unitSum_85 (by decide) (fun c85 => ?_) (fun c85 => ?_)
                    · refine lv_iconst (v := 1) hx hb dX12_unitSum_98 (by decide) (ti_c 1 (by decide) fun z65 hz65 => ?_)
                      refine lv_goto (tgt := 103) hx hb dX12_unitSum_99 (by decide) ?_
                      refine r_puti C hw (hsh 49 _ rfl) fl_X12_254 rfl (nar_b (by omega)) (fit_b (by omega)) dX12_unitSum_103 (fun H locs hH hw => ?_)
                      obtain ⟨ig66, eig66⟩ : ∃ f, f = up2 ig29 (B + 49) 34 z65 := ⟨_, rfl⟩
                      rw [← eig66] at hw
                      have hF : Ft B [49, 74] ig lg ig66 lg30 := by rw [eig66]; exact hF.pi (by decide)
                      have hI : IM τ φ υ B kd ig66 rg := by rw [eig66]; exact hI.pi (by decide) (show okR (some (0, 1)) _ from ⟨by show (0 : Int) ≤ _; omega, by show _ ≤ (1 : Int); omega⟩)
                      have wig66_49_35 : (ig66 (B + 49) 35).toInt = (ig29 (B + 49) 35).toInt := by rw [eig66, up2_j (by decide)]
                      have wig66 : (ig66 (B + 49) 34).toInt = z65.toInt := by rw [eig66, up2_eq]
                      have wig66_49_31 : (ig66 (B + 49) 31).toInt = (ig29 (B + 49) 31).toInt := by rw [eig66, up2_j (by decide)]
                      have wig66_49_32 : (ig66 (B + 49) 32).toInt = (ig29 (B + 49) 32).toInt := by rw [eig66, up2_j (by decide)]
                      have hst2 : (v28.toInt, (czB (ig66 (B + 49) 34))) = (plF (rowv w h) (colv w h) (spW (2, w, u) h) j ++ plR (rowv w h + (j : Int)) (colv w h) (k + 1)).foldl (umS σ (uM B ig)) (-1, (czB (ig (B + 49) 34))) := by rw [plR_s, ← List.append_assoc]; exact umA hst (by rw [umS_4 (by rw [kd9]; omega) (by omega) (czB_1 (by omega)), show czB (ig66 (B + 49) 34) = true from czB_1 (by rw [eig66, up2_eq]; omega)])
                      refine tc_inc hx hb dX12_unitSum_106 hl (k := 1) rfl (by decide) (by decide) (fun z67 hz67 ls hl => ?_)
                      first | replace hz67 := hz67 (by omega) | clear hz67
                      have hl : lv_has ls 7 [(5, .int z67), (6, .int z36), (4, .int v4), (3, .int v28), (0, .ref (B + 49)), (1, .int x), (2, .int y)] := hl
                      refine lv_goto (tgt := 29) hx hb dX12_unitSum_109 (by decide) ?_
                      exact ih29 ls H locs ig66 lg30 z67 v28 (lv_sub hl [0, 2, 3, 4, 5, 6] rfl) hw hI hF (by omega) (by omega) (⟨k + 1, by omega, by omega, hst2⟩) (by omega) (pl9.ag (by omega) (fun j9 => by rw [eig66, up2_a (by omega)])) (by omega) (by omega) (by omega)
                    · refine lv_aload_n hx hb dX12_unitSum_88 rfl (lv_at hl 4 rfl) ?_
                      refine lv_iload_n hx hb dX12_unitSum_89 rfl (lv_at hl 3 rfl) ?_
                      refine lv_iload hx hb dX12_unitSum_90 (lv_at hl 0 rfl) ?_
                      refine r_callV (As := [.int v28, .int z36]) (rest := [.ref (B + 49)]) C hw (t_X12_isUnitSameE l B D cA kd ig29 rg lg30 _ v28 z36 (by omega) (by omega) hI) sv_X12_302 (hsh 49 _ rfl) rfl hl.1 rfl (Nat.le_of_ble_eq_true rfl) ⟨Nat.le_of_ble_eq_true rfl, Nat.le_of_ble_eq_true rfl⟩ ⟨Nat.le_of_ble_eq_true rfl, Nat.le_of_ble_eq_true rfl⟩ dX12_unitSum_92 (fun r72 kd68 ig69 rg70 lg71 H locs hw hH hp73 => ?_)
                      obtain ⟨rfl, rfl, rfl, rfl, hzhp73, hrhp73⟩ := hp73
                      obtain ⟨z74, rfl, hz74⟩ := hrhp73
                      have sm9 := hz74
                      rw [show uM B ig29 = uM B ig from uM.ft hF] at sm9
                      refine z_ne (tgt := 102) hx hb dX12_unitSum_95 (by decide) (fun c95 => ?_) (fun c95 => ?_)
                      · refine lv_iconst (v := 0) hx hb dX12_unitSum_102 (by decide) (ti_c 0 (by decide) fun z75 hz75 => ?_)
                        refine r_puti C hw (hsh 49 _ rfl) fl_X12_254 rfl (nar_b (by omega)) (fit_b (by omega)) dX12_unitSum_103 (fun H locs hH hw => ?_)
                        obtain ⟨ig76, eig76⟩ : ∃ f, f = up2 ig29 (B + 49) 34 z75 := ⟨_, rfl⟩
                        rw [← eig76] at hw
                        have hF : Ft B [49, 74] ig lg ig76 lg30 := by rw [eig76]; exact hF.pi (by decide)
                        have hI : IM τ φ υ B kd ig76 rg := by rw [eig76]; exact hI.pi (by decide) (show okR (some (0, 1)) _ from ⟨by show (0 : Int) ≤ _; omega, by show _ ≤ (1 : Int); omega⟩)
                        have wig76_49_35 : (ig76 (B + 49) 35).toInt = (ig29 (B + 49) 35).toInt := by rw [eig76, up2_j (by decide)]
                        have wig76 : (ig76 (B + 49) 34).toInt = z75.toInt := by rw [eig76, up2_eq]
                        have wig76_49_31 : (ig76 (B + 49) 31).toInt = (ig29 (B + 49) 31).toInt := by rw [eig76, up2_j (by decide)]
                        have wig76_49_32 : (ig76 (B + 49) 32).toInt = (ig29 (B + 49) 32).toInt := by rw [eig76, up2_j (by decide)]
                        have hst2 : (v28.toInt, (czB (ig76 (B + 49) 34))) = (plF (rowv w h) (colv w h) (spW (2, w, u) h) j ++ plR (rowv w h + (j : Int)) (colv w h) (k + 1)).foldl (umS σ (uM B ig)) (-1, (czB (ig (B + 49) 34))) := by rw [plR_s, ← List.append_assoc]; exact umA hst (by rw [umS_2 (by rw [kd9]; omega) (by omega) (by rw [unA_on (by omega), unA_on (by omega), ← qn]; exact by1 sm9 (by omega)), show czB (ig76 (B + 49) 34) = false from czB_0 (by rw [eig76, up2_eq]; omega), show czB (ig29 (B + 49) 34) = false from czB_0 (by omega)])
                        refine tc_inc hx hb dX12_unitSum_106 hl (k := 1) rfl (by decide) (by decide) (fun z77 hz77 ls hl => ?_)
                        first | replace hz77 := hz77 (by omega) | clear hz77
                        have hl : lv_has ls 7 [(5, .int z77), (6, .int z36), (4, .int v4), (3, .int v28), (0, .ref (B + 49)), (1, .int x), (2, .int y)] := hl
                        refine lv_goto (tgt := 29) hx hb dX12_unitSum_109 (by decide) ?_
                        exact ih29 ls H locs ig76 lg30 z77 v28 (lv_sub hl [0, 2, 3, 4, 5, 6] rfl) hw hI hF (by omega) (by omega) (⟨k + 1, by omega, by omega, hst2⟩) (by omega) (pl9.ag (by omega) (fun j9 => by rw [eig76, up2_a (by omega)])) (by omega) (by omega) (by omega)
                      · refine lv_iconst (v := 1) hx hb dX12_unitSum_98 (by decide) (ti_c 1 (by decide) fun z78 hz78 => ?_)
                        refine lv_goto (tgt := 103) hx hb dX12_unitSum_99 (by decide) ?_
                        refine r_puti C hw (hsh 49 _ rfl) fl_X12_254 rfl (nar_b (by omega)) (fit_b (by omega)) dX12_unitSum_103 (fun H locs hH hw => ?_)
                        obtain ⟨ig79, eig79⟩ : ∃ f, f = up2 ig29 (B + 49) 34 z78 := ⟨_, rfl⟩
                        rw [← eig79] at hw
                        have hF : Ft B [49, 74] ig lg ig79 lg30 := by rw [eig79]; exact hF.pi (by decide)
                        have hI : IM τ φ υ B kd ig79 rg := by rw [eig79]; exact hI.pi (by decide) (show okR (some (0, 1)) _ from ⟨by show (0 : Int) ≤ _; omega, by show _ ≤ (1 : Int); omega⟩)
                        have wig79_49_35 : (ig79 (B + 49) 35).toInt = (ig29 (B + 49) 35).toInt := by rw [eig79, up2_j (by decide)]
                        have wig79 : (ig79 (B + 49) 34).toInt = z78.toInt := by rw [eig79, up2_eq]
                        have wig79_49_31 : (ig79 (B + 49) 31).toInt = (ig29 (B + 49) 31).toInt := by rw [eig79, up2_j (by decide)]
                        have wig79_49_32 : (ig79 (B + 49) 32).toInt = (ig29 (B + 49) 32).toInt := by rw [eig79, up2_j (by decide)]
                        have hst2 : (v28.toInt, (czB (ig79 (B + 49) 34))) = (plF (rowv w h) (colv w h) (spW (2, w, u) h) j ++ plR (rowv w h + (j : Int)) (colv w h) (k + 1)).foldl (umS σ (uM B ig)) (-1, (czB (ig (B + 49) 34))) := by rw [plR_s, ← List.append_assoc]; exact umA hst (by rw [umS_3 (by rw [kd9]; omega) (by omega) (by rw [unA_on (by omega), unA_on (by omega), ← qn]; exact by0 sm9 (by omega)), show czB (ig79 (B + 49) 34) = true from czB_1 (by rw [eig79, up2_eq]; omega)])
                        refine tc_inc hx hb dX12_unitSum_106 hl (k := 1) rfl (by decide) (by decide) (fun z80 hz80 ls hl => ?_)
                        first | replace hz80 := hz80 (by omega) | clear hz80
                        have hl : lv_has ls 7 [(5, .int z80), (6, .int z36), (4, .int v4), (3, .int v28), (0, .ref (B + 49)), (1, .int x), (2, .int y)] := hl
                        refine lv_goto (tgt := 29) hx hb dX12_unitSum_109 (by decide) ?_
                        exact ih29 ls H locs ig79 lg30 z80 v28 (lv_sub hl [0, 2, 3, 4, 5, 6] rfl) hw hI hF (by omega) (by omega) (⟨k + 1, by omega, by omega, hst2⟩) (by omega) (pl9.ag (by omega) (fun j9 => by rw [eig79, up2_a (by omega)])) (by omega) (by omega) (by omega)
                · refine lv_iload hx hb dX12_unitSum_64 (lv_at hl 0 rfl) ?_
                  refine lv_istore_n (lv' := [(3, .int z36), (6, .int z36), (5, .int v27), (4, .int v4), (0, .ref (B + 49)), (1, .int x), (2, .int y)]) hx hb dX12_unitSum_66 rfl hl (by decide) rfl (fun ls hl => ?_)
                  refine lv_goto (tgt := 106) hx hb dX12_unitSum_67 (by decide) ?_
                  have hst2 : (z36.toInt, (czB (ig29 (B + 49) 34))) = (plF (rowv w h) (colv w h) (spW (2, w, u) h) j ++ plR (rowv w h + (j : Int)) (colv w h) (k + 1)).foldl (umS σ (uM B ig)) (-1, (czB (ig (B + 49) 34))) := by rw [plR_s, ← List.append_assoc]; exact umA hst (by rw [umS_1 (by rw [kd9]; omega) (by omega), qe])
                  refine tc_inc hx hb dX12_unitSum_106 hl (k := 2) rfl (by decide) (by decide) (fun z81 hz81 ls hl => ?_)
                  first | replace hz81 := hz81 (by omega) | clear hz81
                  have hl : lv_has ls 7 [(5, .int z81), (3, .int z36), (6, .int z36), (4, .int v4), (0, .ref (B + 49)), (1, .int x), (2, .int y)] := hl
                  refine lv_goto (tgt := 29) hx hb dX12_unitSum_109 (by decide) ?_
                  exact ih29 ls H locs ig29 lg30 z81 z36 (lv_sub hl [0, 3, 1, 4, 5, 6] rfl) hw hI hF (by omega) (by omega) (⟨k + 1, by omega, by omega, hst2⟩) (by omega) (pl9) (by omega) (by omega) (by omega)
        exact L29 ((12 - z25.toInt) + 1).toNat ls H locs ig6 lg7 z25 v5 (lv_sub hl [0, 1, 2, 3, 4, 5] rfl) hw hI hF (by omega) (by omega) (⟨0, by omega, by omega, by rw [plR_0, List.append_nil]; exact hst⟩) (by omega) (pl9) (by omega) (by omega) (by omega)
  exact L10 ((24 - z2.toInt) + 1).toNat ls s.heap [] ig lg z2 z1 (lv_sub hl [0, 1, 2, 3, 4] rfl) hw hI hF (by omega) (by omega) (⟨0, by omega, by omega, by rw [plF_0, show z1.toInt = -1 by omega]; rfl⟩) (by omega) (hks) (by omega) (by omega) (by omega)

def RXunitPartU (τ : Tp) (φ υ : Option Int) (l : Launch) (B : Nat) (D : va_G) (cA : Nat → ClassId) (d : Nat) : Prop := ∀ (kd : sK) (ig : sI) (rg : sR) (lg : sG) (sz : Nat) (σ : Sg) (q n8 a b : Nat) (R : Rw) (vv ee : Vl) (uu : Us) (X9 : Fm) (ks : List Un), GoS B q n8 R vv ee ig → GoU B σ uu ig → iP R d a b X9 → b ≤ n8 → (ig (B + 49) 31).toInt = 120 * (q : Int) + (a : Int) → (ig (B + 49) 32).toInt = 120 * (q : Int) + (n8 : Int) → PlU B ks ig → ks.length + 2 * d + 1 ≤ 30 → IM τ φ υ B kd ig rg → MC l B D cA yX12_unitPart cX12_unitPart 2 none (rL (3 * d + 3) 0 0) [.ref (B + 49)] kd ig rg lg sz (PM τ φ υ B [49, 74] kd ig rg lg (fun r ig' lg' => (r = none ∧ (((ig' (B + 49) 31).toInt = 120 * (q : Int) + (b : Int) ∧ (ig' (B + 49) 32).toInt = (ig (B + 49) 32).toInt) ∧ ∃ (w8 : Un) (c8 : Bool), UvP σ uu (q : Int) X9 (czB (ig (B + 49) 34)) w8 c8 ∧ PlU B (w8 :: ks) ig' ∧ (czB (ig' (B + 49) 34)) = c8))))
def RXunitProductU (τ : Tp) (φ υ : Option Int) (l : Launch) (B : Nat) (D : va_G) (cA : Nat → ClassId) (d : Nat) : Prop := ∀ (kd : sK) (ig : sI) (rg : sR) (lg : sG) (sz : Nat) (σ : Sg) (q n8 a b : Nat) (R : Rw) (vv ee : Vl) (uu : Us) (X9 : Fm) (ks : List Un), GoS B q n8 R vv ee ig → GoU B σ uu ig → iPd R d a b X9 → b ≤ n8 → (ig (B + 49) 31).toInt = 120 * (q : Int) + (a : Int) → (ig (B + 49) 32).toInt = 120 * (q : Int) + (n8 : Int) → PlU B ks ig → ks.length + 2 * d + 2 ≤ 30 → IM τ φ υ B kd ig rg → MC l B D cA yX12_unitProduct cX12_unitProduct 3 none (rL (3 * d + 4) 0 0) [.ref (B + 49)] kd ig rg lg sz (PM τ φ υ B [49, 74] kd ig rg lg (fun r ig' lg' => (r = none ∧ (((ig' (B + 49) 31).toInt = 120 * (q : Int) + (b : Int) ∧ (ig' (B + 49) 32).toInt = (ig (B + 49) 32).toInt) ∧ ∃ (w8 : Un) (c8 : Bool), UvP σ uu (q : Int) X9 (czB (ig (B + 49) 34)) w8 c8 ∧ PlU B (w8 :: ks) ig' ∧ (czB (ig' (B + 49) 34)) = c8))))
def RXunitEU (τ : Tp) (φ υ : Option Int) (l : Launch) (B : Nat) (D : va_G) (cA : Nat → ClassId) (d : Nat) : Prop := ∀ (kd : sK) (ig : sI) (rg : sR) (lg : sG) (sz : Nat) (σ : Sg) (q n8 a b : Nat) (R : Rw) (vv ee : Vl) (uu : Us) (X9 : Fm) (ks : List Un), GoS B q n8 R vv ee ig → GoU B σ uu ig → iE R d a b X9 → b ≤ n8 → (ig (B + 49) 31).toInt = 120 * (q : Int) + (a : Int) → (ig (B + 49) 32).toInt = 120 * (q : Int) + (n8 : Int) → PlU B ks ig → ks.length + 2 * d + 3 ≤ 30 → IM τ φ υ B kd ig rg → MC l B D cA yX12_unitE cX12_unitE 2 none (rL (3 * d + 5) 0 0) [.ref (B + 49)] kd ig rg lg sz (PM τ φ υ B [49, 74] kd ig rg lg (fun r ig' lg' => (r = none ∧ (((ig' (B + 49) 31).toInt = 120 * (q : Int) + (b : Int) ∧ (ig' (B + 49) 32).toInt = (ig (B + 49) 32).toInt) ∧ ∃ (w8 : Un) (c8 : Bool), UvP σ uu (q : Int) X9 (czB (ig (B + 49) 34)) w8 c8 ∧ PlU B (w8 :: ks) ig' ∧ (czB (ig' (B + 49) 34)) = c8))))

set_option maxHeartbeats 4000000 in
set_option maxRecDepth 100000 in
theorem t_X12_unitPartU {υ : Option Int} {τ : Tp} {φ : Option Int} (l : Launch) (B : Nat) (D : va_G) (cA : Nat → ClassId) (kd : sK) (ig : sI) (rg : sR) (lg : sG) (sz : Nat) (σ : Sg) (d q n8 a b : Nat) (R : Rw) (vv ee : Vl) (uu : Us) (X9 : Fm) (ks : List Un) (hrec : ∀ d1, d = d1 + 1 → RXunitPartU τ φ υ l B D cA d1 ∧ RXunitEU τ φ υ l B D cA d1) (hG : GoS B q n8 R vv ee ig) (hV : GoU B σ uu ig) (hP : iP R d a b X9) (hbn : b ≤ n8) (hgo : (ig (B + 49) 31).toInt = 120 * (q : Int) + (a : Int)) (hen : (ig (B + 49) 32).toInt = 120 * (q : Int) + (n8 : Int)) (hks : PlU B ks ig) (hkl : ks.length + 2 * d + 1 ≤ 30) (hI : IM τ φ υ B kd ig rg) : MC l B D cA yX12_unitPart cX12_unitPart 2 none (rL (3 * d + 3) 0 0) [.ref (B + 49)] kd ig rg lg sz (PM τ φ υ B [49, 74] kd ig rg lg (fun r ig' lg' => (r = none ∧ (((ig' (B + 49) 31).toInt = 120 * (q : Int) + (b : Int) ∧ (ig' (B + 49) 32).toInt = (ig (B + 49) 32).toInt) ∧ ∃ (w8 : Un) (c8 : Bool), UvP σ uu (q : Int) X9 (czB (ig (B + 49) 34)) w8 c8 ∧ PlU B (w8 :: ks) ig' ∧ (czB (ig' (B + 49) 34)) = c8)))) := by
  refine MC.of (own := RX12) (by decide +kernel) rfl (Nat.le_of_ble_eq_true rfl) ?_
  intro p e s m args below meth c ls C hr hlk hnm hw hsz hl
  have hx := C.1.1
  have hb := C.1.2.1
  have hown := C.1.2.2.2.1
  have hts := C.1.2.2.2.2
  have hl : lv_has ls 2 [(0, .ref (B + 49))] := hl
  have hF : Ft B [49, 74] ig lg ig lg := Ft.rf
  have hsh := hI.sh
  have hrm := hI.rm
  have hd0 : 0 < d := (by rcases d with _ | d; exact hP.elim; omega)
  refine lv_aload_n hx hb dX12_unitPart_0 rfl (lv_at hl 0 rfl) ?_
  refine r_get C hw (hsh 49 _ rfl) fl_X12_241 (oV_i rfl) dX12_unitPart_1 (ti_c (ig (B + 49) 31).toInt rfl fun z1 hz1 => ?_)
  refine lv_istore_n (lv' := [(1, .int z1), (0, .ref (B + 49))]) hx hb dX12_unitPart_4 rfl hl (by decide) rfl (fun ls hl => ?_)
  have ei : z1.toInt.toNat = 120 * q + a := by omega
  have ltP := iP.lt d _ _ _ hP
  have hRa := hG.ri (a := a) (by omega)
  have hO9 := hG.2.2.2.2 a (by omega)
  have hq9 := hG.2.2.2.1
  have hka : (R a).1 = (ig (B + 54) (120 * q + a)).toInt := by rw [hRa, itR_k]; rfl
  refine lv_aload_n hx hb dX12_unitPart_5 rfl (lv_at hl 1 rfl) ?_
  refine lv_dup hx hb dX12_unitPart_6 rfl ?_
  refine r_get C hw (hsh 49 _ rfl) fl_X12_241 (oV_i rfl) dX12_unitPart_7 (ti_c (ig (B + 49) 31).toInt rfl fun z2 hz2 => ?_)
  refine lv_iconst (v := 1) hx hb dX12_unitPart_10 (by decide) (ti_c 1 (by decide) fun z3 hz3 => ?_)
  refine lv_iadd hx hb dX12_unitPart_11 (tc_add fun z4 hz4 => ?_)
  first | replace hz4 := hz4 (by omega) | clear hz4
  refine r_puti C hw (hsh 49 _ rfl) fl_X12_241 rfl rfl rfl dX12_unitPart_12 (fun H locs hH hw => ?_)
  obtain ⟨ig5, eig5⟩ : ∃ f, f = up2 ig (B + 49) 31 z4 := ⟨_, rfl⟩
  rw [← eig5] at hw
  have hF : Ft B [49, 74] ig lg ig5 lg := by rw [eig5]; exact hF.pi (by decide)
  have hI : IM τ φ υ B kd ig5 rg := by rw [eig5]; exact hI.pi (by decide) (show okR none _ from trivial)
  have wig5 : (ig5 (B + 49) 31).toInt = z4.toInt := by rw [eig5, up2_eq]
  have wig5_49_32 : (ig5 (B + 49) 32).toInt = (ig (B + 49) 32).toInt := by rw [eig5, up2_j (by decide)]
  have wig5_49_34 : (ig5 (B + 49) 34).toInt = (ig (B + 49) 34).toInt := by rw [eig5, up2_j (by decide)]
  have wig5_49_35 : (ig5 (B + 49) 35).toInt = (ig (B + 49) 35).toInt := by rw [eig5, up2_j (by decide)]
  refine lv_aload_n hx hb dX12_unitPart_15 rfl (lv_at hl 1 rfl) ?_
  refine r_get C hw (hsh 49 _ rfl) fl_X12_65 (oV_r rfl (hrm (49, 9, 54) (by decide))) dX12_unitPart_16 ?_
  refine lv_iload_n hx hb dX12_unitPart_19 rfl (lv_at hl 0 rfl) ?_
  refine r_iald C hw (hsh 54 _ rfl) (by omega) (by omega) dX12_unitPart_20 (ti_c (ig5 (B + 54) z1.toInt.toNat).toInt rfl fun z6 hz6 => ?_)
  rw [Ft.i hF 54 _ (by decide)] at hz6
  try simp only [ei] at hz6
  refine z_ne (tgt := 34) hx hb dX12_unitPart_21 (by decide) (fun c21 => ?_) (fun c21 => ?_)
  · refine lv_aload_n hx hb dX12_unitPart_34 rfl (lv_at hl 1 rfl) ?_
    refine r_get C hw (hsh 49 _ rfl) fl_X12_65 (oV_r rfl (hrm (49, 9, 54) (by decide))) dX12_unitPart_35 ?_
    refine lv_iload_n hx hb dX12_unitPart_38 rfl (lv_at hl 0 rfl) ?_
    refine r_iald C hw (hsh 54 _ rfl) (by omega) (by omega) dX12_unitPart_39 (ti_c (ig5 (B + 54) z1.toInt.toNat).toInt rfl fun z8 hz8 => ?_)
    rw [Ft.i hF 54 _ (by decide)] at hz8
    try simp only [ei] at hz8
    refine lv_iconst (v := 3) hx hb dX12_unitPart_40 (by decide) (ti_c 3 (by decide) fun z10 hz10 => ?_)
    refine b_ne (tgt := 67) hx hb dX12_unitPart_41 (by decide) (fun c41 => ?_) (fun c41 => ?_)
    · refine lv_aload_n hx hb dX12_unitPart_67 rfl (lv_at hl 1 rfl) ?_
      refine r_get C hw (hsh 49 _ rfl) fl_X12_65 (oV_r rfl (hrm (49, 9, 54) (by decide))) dX12_unitPart_68 ?_
      refine lv_iload_n hx hb dX12_unitPart_71 rfl (lv_at hl 0 rfl) ?_
      refine r_iald C hw (hsh 54 _ rfl) (by omega) (by omega) dX12_unitPart_72 (ti_c (ig5 (B + 54) z1.toInt.toNat).toInt rfl fun z11 hz11 => ?_)
      rw [Ft.i hF 54 _ (by decide)] at hz11
      try simp only [ei] at hz11
      refine lv_iconst (v := 2) hx hb dX12_unitPart_73 (by decide) (ti_c 2 (by decide) fun z13 hz13 => ?_)
      refine b_ne (tgt := 98) hx hb dX12_unitPart_74 (by decide) (fun c74 => ?_) (fun c74 => ?_)
      · refine lv_aload_n hx hb dX12_unitPart_98 rfl (lv_at hl 1 rfl) ?_
        refine r_get C hw (hsh 49 _ rfl) fl_X12_68 (oV_r rfl (hrm (49, 10, 55) (by decide))) dX12_unitPart_99 ?_
        refine lv_iload_n hx hb dX12_unitPart_102 rfl (lv_at hl 0 rfl) ?_
        refine r_iald C hw (hsh 55 _ rfl) (by omega) (by omega) dX12_unitPart_103 (ti_c (ig5 (B + 55) z1.toInt.toNat).toInt rfl fun z14 hz14 => ?_)
        rw [Ft.i hF 55 _ (by decide)] at hz14
        try simp only [ei] at hz14
        refine lv_bipush (v := 45) hx hb dX12_unitPart_104 (by decide) (ti_c 45 (by decide) fun z16 hz16 => ?_)
        refine b_ne (tgt := 116) hx hb dX12_unitPart_106 (by decide) (fun c106 => ?_) (fun c106 => ?_)
        · have hra2 : z14.toInt = (R a).2 := by rw [hRa, itR_a (show mK B ig (120 * q + a) ≠ 3 by show (ig (B + 54) (120 * q + a)).toInt ≠ 3; omega) (show mK B ig (120 * q + a) ≠ 2 by show (ig (B + 54) (120 * q + a)).toInt ≠ 2; omega)]; exact hz14
          obtain ⟨d1, b9, y9, hd1, hp9, rb9, ec9, ex9⟩ := iP.inv40 hP (by rw [hka]; omega) (by rw [hka]; omega) (by rw [hka]; omega) (by rw [← hra2]; omega)
          subst hd1
          obtain ⟨hP1, hE1⟩ := hrec d1 rfl
          have lt9 := iE.lt hp9
          refine lv_aload_n hx hb dX12_unitPart_116 rfl (lv_at hl 1 rfl) ?_
          have hF0 := hF
          refine r_callV (As := []) (rest := []) C hw (hE1 kd ig5 rg lg _  σ q n8 (a + 1) b9 R vv ee uu y9 ks (hG.ft hF) (hV.ft hF) hp9 (by omega) (by omega) (by omega) (hks.ag (by omega) (fun j9 => by rw [eig5, up2_a (by omega)])) (by omega) hI) sv_X12_261 (hsh 49 _ rfl) rfl hl.1 rfl (Nat.le_of_ble_eq_true rfl) ⟨by simp only [rL]; omega, by simp only [rL]; omega⟩ ⟨Nat.le_of_ble_eq_true rfl, Nat.le_of_ble_eq_true rfl⟩ dX12_unitPart_117 (fun r21 kd17 ig18 rg19 lg20 H locs hw hH hp22 => ?_)
          obtain ⟨rfl, rfl, hI, hchp22, hrhp22⟩ := hp22
          have hF : Ft B [49, 74] ig lg ig18 lg20 := Ft.tr hF hchp22 (by decide) (by decide)
          obtain ⟨rfl, hvhp22⟩ := hrhp22
          have rv9 := hvhp22
          have rv1 := rv9.1
          obtain ⟨w8, c8, uv8, pl8, cl8⟩ := rv9.2
          refine lv_aload_n hx hb dX12_unitPart_120 rfl (lv_at hl 1 rfl) ?_
          refine lv_dup hx hb dX12_unitPart_121 rfl ?_
          refine r_get C hw (hsh 49 _ rfl) fl_X12_241 (oV_i rfl) dX12_unitPart_122 (ti_c (ig18 (B + 49) 31).toInt rfl fun z23 hz23 => ?_)
          refine lv_iconst (v := 1) hx hb dX12_unitPart_125 (by decide) (ti_c 1 (by decide) fun z24 hz24 => ?_)
          refine lv_iadd hx hb dX12_unitPart_126 (tc_add fun z25 hz25 => ?_)
          first | replace hz25 := hz25 (by omega) | clear hz25
          refine r_puti C hw (hsh 49 _ rfl) fl_X12_241 rfl rfl rfl dX12_unitPart_127 (fun H locs hH hw => ?_)
          obtain ⟨ig26, eig26⟩ : ∃ f, f = up2 ig18 (B + 49) 31 z25 := ⟨_, rfl⟩
          rw [← eig26] at hw
          have hF : Ft B [49, 74] ig lg ig26 lg20 := by rw [eig26]; exact hF.pi (by decide)
          have hI : IM τ φ υ B kd ig26 rg := by rw [eig26]; exact hI.pi (by decide) (show okR none _ from trivial)
          have wig26 : (ig26 (B + 49) 31).toInt = z25.toInt := by rw [eig26, up2_eq]
          have wig26_49_32 : (ig26 (B + 49) 32).toInt = (ig18 (B + 49) 32).toInt := by rw [eig26, up2_j (by decide)]
          have wig26_49_34 : (ig26 (B + 49) 34).toInt = (ig18 (B + 49) 34).toInt := by rw [eig26, up2_j (by decide)]
          have wig26_49_35 : (ig26 (B + 49) 35).toInt = (ig18 (B + 49) 35).toInt := by rw [eig26, up2_j (by decide)]
          exact r_vret C hw hr hlk (Nat.le_of_ble_eq_true rfl) (Nat.le_of_ble_eq_true rfl) dX12_unitPart_130 ⟨rfl, rfl, hI, hF, ⟨rfl, ⟨⟨by omega, by omega⟩, _, _, (by rw [ex9]; have q9 := uv8; rw [show ig5 (B + 49) 34 = ig (B + 49) 34 by rw [eig5, up2_j (by decide)]] at q9; exact UvP.par q9), pl8.ag (by omega) (fun j9 => by rw [eig26, up2_a (by omega)]), (by rw [show ig26 (B + 49) 34 = ig18 (B + 49) 34 by rw [eig26, up2_j (by decide)]]; exact cl8)⟩⟩⟩
        · have hra2 : z14.toInt = (R a).2 := by rw [hRa, itR_a (show mK B ig (120 * q + a) ≠ 3 by show (ig (B + 54) (120 * q + a)).toInt ≠ 3; omega) (show mK B ig (120 * q + a) ≠ 2 by show (ig (B + 54) (120 * q + a)).toInt ≠ 2; omega)]; exact hz14
          obtain ⟨d1, y9, hd1, hp9, ex9⟩ := iP.inv45 hP (by rw [hka]; omega) (by rw [hka]; omega) (by rw [hka]; omega) (by rw [← hra2]; omega)
          subst hd1
          obtain ⟨hP1, hE1⟩ := hrec d1 rfl
          have lt9 := iP.lt d1 _ _ _ hp9
          refine lv_aload_n hx hb dX12_unitPart_109 rfl (lv_at hl 1 rfl) ?_
          have hF0 := hF
          refine r_callV (As := []) (rest := []) C hw (hP1 kd ig5 rg lg _  σ q n8 (a + 1) b R vv ee uu y9 ks (hG.ft hF) (hV.ft hF) hp9 (by omega) (by omega) (by omega) (hks.ag (by omega) (fun j9 => by rw [eig5, up2_a (by omega)])) (by omega) hI) sv_X12_293 (hsh 49 _ rfl) rfl hl.1 rfl (Nat.le_of_ble_eq_true rfl) ⟨by simp only [rL]; omega, by simp only [rL]; omega⟩ ⟨Nat.le_of_ble_eq_true rfl, Nat.le_of_ble_eq_true rfl⟩ dX12_unitPart_110 (fun r31 kd27 ig28 rg29 lg30 H locs hw hH hp32 => ?_)
          obtain ⟨rfl, rfl, hI, hchp32, hrhp32⟩ := hp32
          have hF : Ft B [49, 74] ig lg ig28 lg30 := Ft.tr hF hchp32 (by decide) (by decide)
          obtain ⟨rfl, hvhp32⟩ := hrhp32
          have rv9 := hvhp32
          have rv1 := rv9.1
          obtain ⟨w8, c8, uv8, pl8, cl8⟩ := rv9.2
          refine lv_goto (tgt := 130) hx hb dX12_unitPart_113 (by decide) ?_
          exact r_vret C hw hr hlk (Nat.le_of_ble_eq_true rfl) (Nat.le_of_ble_eq_true rfl) dX12_unitPart_130 ⟨rfl, rfl, hI, hF, ⟨rfl, ⟨⟨by omega, by omega⟩, _, _, (by rw [ex9]; have q9 := uv8; rw [show ig5 (B + 49) 34 = ig (B + 49) 34 by rw [eig5, up2_j (by decide)]] at q9; exact UvP.neg q9), pl8, cl8⟩⟩⟩
      · obtain ⟨w9, u9, r2, r4, ec9, ex9⟩ := iP.inv2 hP (by rw [hka]; omega)
        have hR2 := hG.ri (a := a + 2) (by omega)
        have hR4 := hG.ri (a := a + 4) (by omega)
        have o2 := hG.2.2.2.2 (a + 2) (by omega)
        have o4 := hG.2.2.2.2 (a + 4) (by omega)
        obtain ⟨k2, fw9⟩ := itm_3 (by omega) o2.1 o2.2 (hR2.symm.trans r2)
        obtain ⟨k4, fu9⟩ := itm_3 (by omega) o4.1 o4.2 (hR4.symm.trans r4)
        have ra9 : ((0 ≤ (ig (B + 55) (120 * q + (a + 2))).toInt ∧ (ig (B + 55) (120 * q + (a + 2))).toInt < 12) ∧ 0 ≤ (ig (B + 56) (120 * q + (a + 2))).toInt ∧ (ig (B + 56) (120 * q + (a + 2))).toInt < 24) := o2.2 k2
        have rb9 : ((0 ≤ (ig (B + 55) (120 * q + (a + 4))).toInt ∧ (ig (B + 55) (120 * q + (a + 4))).toInt < 12) ∧ 0 ≤ (ig (B + 56) (120 * q + (a + 4))).toInt ∧ (ig (B + 56) (120 * q + (a + 4))).toInt < 24) := o4.2 k4
        refine lv_aload_n hx hb dX12_unitPart_77 rfl (lv_at hl 1 rfl) ?_
        refine lv_iload_n hx hb dX12_unitPart_78 rfl (lv_at hl 0 rfl) ?_
        refine lv_bipush (v := 6) hx hb dX12_unitPart_79 (by decide) (ti_c 6 (by decide) fun z33 hz33 => ?_)
        refine lv_iadd hx hb dX12_unitPart_81 (tc_add fun z34 hz34 => ?_)
        first | replace hz34 := hz34 (by omega) | clear hz34
        refine r_puti C hw (hsh 49 _ rfl) fl_X12_241 rfl rfl rfl dX12_unitPart_82 (fun H locs hH hw => ?_)
        obtain ⟨ig35, eig35⟩ : ∃ f, f = up2 ig5 (B + 49) 31 z34 := ⟨_, rfl⟩
        rw [← eig35] at hw
        have hF : Ft B [49, 74] ig lg ig35 lg := by rw [eig35]; exact hF.pi (by decide)
        have hI : IM τ φ υ B kd ig35 rg := by rw [eig35]; exact hI.pi (by decide) (show okR none _ from trivial)
        have wig35 : (ig35 (B + 49) 31).toInt = z34.toInt := by rw [eig35, up2_eq]
        have wig35_49_32 : (ig35 (B + 49) 32).toInt = (ig5 (B + 49) 32).toInt := by rw [eig35, up2_j (by decide)]
        have wig35_49_34 : (ig35 (B + 49) 34).toInt = (ig5 (B + 49) 34).toInt := by rw [eig35, up2_j (by decide)]
        have wig35_49_35 : (ig35 (B + 49) 35).toInt = (ig5 (B + 49) 35).toInt := by rw [eig35, up2_j (by decide)]
        refine lv_aload_n hx hb dX12_unitPart_85 rfl (lv_at hl 1 rfl) ?_
        refine lv_iload_n hx hb dX12_unitPart_86 rfl (lv_at hl 0 rfl) ?_
        refine lv_iconst (v := 2) hx hb dX12_unitPart_87 (by decide) (ti_c 2 (by decide) fun z36 hz36 => ?_)
        refine lv_iadd hx hb dX12_unitPart_88 (tc_add fun z37 hz37 => ?_)
        first | replace hz37 := hz37 (by omega) | clear hz37
        refine lv_iload_n hx hb dX12_unitPart_89 rfl (lv_at hl 0 rfl) ?_
        refine lv_iconst (v := 4) hx hb dX12_unitPart_90 (by decide) (ti_c 4 (by decide) fun z38 hz38 => ?_)
        refine lv_iadd hx hb dX12_unitPart_91 (tc_add fun z39 hz39 => ?_)
        first | replace hz39 := hz39 (by omega) | clear hz39
        have hF0 := hF
        refine r_callV (As := [.int z37, .int z39]) (rest := []) C hw (t_X12_unitSumE l B D cA kd ig35 rg lg _ z37 z39 (by omega) (by omega) (by rw [show z37.toInt.toNat = 120 * q + (a + 2) by omega, Ft.i hF 55 _ (by decide), Ft.i hF 56 _ (by decide)]; exact ra9) (by rw [show z39.toInt.toNat = 120 * q + (a + 4) by omega, Ft.i hF 55 _ (by decide), Ft.i hF 56 _ (by decide)]; exact rb9) (q : Int) w9 u9 (by rw [show z37.toInt.toNat = 120 * q + (a + 2) by omega]; exact RfI.ft fw9 hF) (by rw [show z39.toInt.toNat = 120 * q + (a + 4) by omega]; exact RfI.ft fu9 hF) σ (hV.ft hF).2 ks (hks.ag (by omega) (fun j9 => by rw [eig35, up2_a (by omega), eig5, up2_a (by omega)])) (by omega) hI) sv_X12_299 (hsh 49 _ rfl) rfl hl.1 rfl (Nat.le_of_ble_eq_true rfl) ⟨by simp only [rL]; omega, by simp only [rL]; omega⟩ ⟨Nat.le_of_ble_eq_true rfl, Nat.le_of_ble_eq_true rfl⟩ dX12_unitPart_92 (fun r44 kd40 ig41 rg42 lg43 H locs hw hH hp45 => ?_)
        obtain ⟨rfl, rfl, hI, hchp45, hrhp45⟩ := hp45
        have hF : Ft B [49, 74] ig lg ig41 lg43 := Ft.tr hF hchp45 (by decide) (by decide)
        obtain ⟨rfl, hvhp45⟩ := hrhp45
        have rv9 := hvhp45
        have kp9 := rv9.2
        refine lv_goto (tgt := 130) hx hb dX12_unitPart_95 (by decide) ?_
        exact r_vret C hw hr hlk (Nat.le_of_ble_eq_true rfl) (Nat.le_of_ble_eq_true rfl) dX12_unitPart_130 ⟨rfl, rfl, hI, hF, ⟨rfl, ⟨⟨by omega, by omega⟩, _, _, (by rw [ex9]; exact UvP.rd (Or.inr rfl)), (by have q9 := rv9.1.1; rw [uM.ft hF0, hV.1.1, show ig35 (B + 49) 34 = ig (B + 49) 34 by rw [eig35, up2_j (by decide), eig5, up2_j (by decide)]] at q9; exact q9), (by have q9 := rv9.1.2; rw [uM.ft hF0, hV.1.1, show ig35 (B + 49) 34 = ig (B + 49) 34 by rw [eig35, up2_j (by decide), eig5, up2_j (by decide)]] at q9; exact q9)⟩⟩⟩
    · obtain ⟨ec9, ex9⟩ := iP.inv3 hP (by rw [hka]; omega)
      obtain ⟨k3, fr9⟩ := itm_3 (by omega) hO9.1 hO9.2 (show itR B ig (q : Int) (120 * q + a) = (3, (R a).2) by rw [← hRa]; exact Prod.ext (by rw [hka]; omega) rfl)
      have fr1 := fr9.1
      have fr2 := fr9.2
      have rr9 : ((0 ≤ (ig (B + 55) (120 * q + a)).toInt ∧ (ig (B + 55) (120 * q + a)).toInt < 12) ∧ 0 ≤ (ig (B + 56) (120 * q + a)).toInt ∧ (ig (B + 56) (120 * q + a)).toInt < 24) := hO9.2 k3
      refine lv_aload_n hx hb dX12_unitPart_44 rfl (lv_at hl 1 rfl) ?_
      refine lv_bipush (v := 12) hx hb dX12_unitPart_45 (by decide) (ti_c 12 (by decide) fun z46 hz46 => ?_)
      refine lv_aload_n hx hb dX12_unitPart_47 rfl (lv_at hl 1 rfl) ?_
      refine r_get C hw (hsh 49 _ rfl) fl_X12_71 (oV_r rfl (hrm (49, 11, 56) (by decide))) dX12_unitPart_48 ?_
      refine lv_iload_n hx hb dX12_unitPart_51 rfl (lv_at hl 0 rfl) ?_
      refine r_iald C hw (hsh 56 _ rfl) (by omega) (by omega) dX12_unitPart_52 (ti_c (ig5 (B + 56) z1.toInt.toNat).toInt rfl fun z47 hz47 => ?_)
      rw [Ft.i hF 56 _ (by decide)] at hz47
      try simp only [ei] at hz47
      refine lv_imul hx hb dX12_unitPart_53 (tc_mulL 12 hz46 fun z49 hz49 => ?_)
      first | replace hz49 := hz49 (by omega) | clear hz49
      refine lv_aload_n hx hb dX12_unitPart_54 rfl (lv_at hl 1 rfl) ?_
      refine r_get C hw (hsh 49 _ rfl) fl_X12_68 (oV_r rfl (hrm (49, 10, 55) (by decide))) dX12_unitPart_55 ?_
      refine lv_iload_n hx hb dX12_unitPart_58 rfl (lv_at hl 0 rfl) ?_
      refine r_iald C hw (hsh 55 _ rfl) (by omega) (by omega) dX12_unitPart_59 (ti_c (ig5 (B + 55) z1.toInt.toNat).toInt rfl fun z50 hz50 => ?_)
      rw [Ft.i hF 55 _ (by decide)] at hz50
      try simp only [ei] at hz50
      refine lv_iadd hx hb dX12_unitPart_60 (tc_add fun z52 hz52 => ?_)
      first | replace hz52 := hz52 (by omega) | clear hz52
      have hF0 := hF
      have sr9 := spU_ref (σ := σ) (u := uu) (c := (czB (ig (B + 49) 34))) (a := (R a).2) (h := (q : Int)) (q := rowv (R a).2 (q : Int) * 12 + colv (R a).2 (q : Int)) rfl (by omega) (fun w9 => hV.1.2 _ (by omega) w9)
      refine r_callV (As := [.int z52]) (rest := []) C hw (t_X12_pushUnitOfE l B D cA kd ig5 rg lg _ z52 (by omega) ks (hks.ag (by omega) (fun j9 => by rw [eig5, up2_a (by omega)])) (by omega) hI) sv_X12_296 (hsh 49 _ rfl) rfl hl.1 rfl (Nat.le_of_ble_eq_true rfl) ⟨by simp only [rL]; omega, by simp only [rL]; omega⟩ ⟨Nat.le_of_ble_eq_true rfl, Nat.le_of_ble_eq_true rfl⟩ dX12_unitPart_61 (fun r57 kd53 ig54 rg55 lg56 H locs hw hH hp58 => ?_)
      obtain ⟨rfl, rfl, hI, hchp58, hrhp58⟩ := hp58
      have hF : Ft B [49, 74] ig lg ig54 lg56 := Ft.tr hF hchp58 (by decide) (by decide)
      obtain ⟨rfl, hvhp58⟩ := hrhp58
      have rv9 := hvhp58
      have kp9 := rv9.2
      refine lv_goto (tgt := 130) hx hb dX12_unitPart_64 (by decide) ?_
      exact r_vret C hw hr hlk (Nat.le_of_ble_eq_true rfl) (Nat.le_of_ble_eq_true rfl) dX12_unitPart_130 ⟨rfl, rfl, hI, hF, ⟨rfl, ⟨⟨by omega, by omega⟩, _, _, (by rw [ex9]; exact UvP.rd (Or.inl rfl)), (by rw [sr9.1, ← hV.1.1, ← uM.ft hF0, show (rowv (R a).2 (q : Int) * 12 + colv (R a).2 (q : Int)).toNat = z52.toInt.toNat by omega]; exact rv9.1), (by rw [sr9.2]; exact congrArg czB (i32_inj (by omega)))⟩⟩⟩
  · obtain ⟨ec9, ex9⟩ := iP.inv0 hP (by rw [hka]; omega)
    refine lv_aload_n hx hb dX12_unitPart_24 rfl (lv_at hl 1 rfl) ?_
    refine lv_iconst (v := 0) hx hb dX12_unitPart_25 (by decide) (ti_c 0 (by decide) fun z59 hz59 => ?_)
    refine lv_iconst (v := 0) hx hb dX12_unitPart_26 (by decide) (ti_c 0 (by decide) fun z60 hz60 => ?_)
    refine lv_iconst (v := 0) hx hb dX12_unitPart_27 (by decide) (ti_c 0 (by decide) fun z61 hz61 => ?_)
    have hF0 := hF
    refine r_callV (As := [.int z59, .int z60, .int z61]) (rest := []) C hw (t_X12_pushUnitE l B D cA kd ig5 rg lg _ z59 z60 z61 ks (hks.ag (by omega) (fun j9 => by rw [eig5, up2_a (by omega)])) (by omega) hI) sv_X12_286 (hsh 49 _ rfl) rfl hl.1 rfl (Nat.le_of_ble_eq_true rfl) ⟨by simp only [rL]; omega, by simp only [rL]; omega⟩ ⟨Nat.le_of_ble_eq_true rfl, Nat.le_of_ble_eq_true rfl⟩ dX12_unitPart_28 (fun r66 kd62 ig63 rg64 lg65 H locs hw hH hp67 => ?_)
    obtain ⟨rfl, rfl, hI, hchp67, hrhp67⟩ := hp67
    have hF : Ft B [49, 74] ig lg ig63 lg65 := Ft.tr hF hchp67 (by decide) (by decide)
    obtain ⟨rfl, hvhp67⟩ := hrhp67
    have rv9 := hvhp67
    have kp9 := rv9.2
    refine lv_goto (tgt := 130) hx hb dX12_unitPart_31 (by decide) ?_
    exact r_vret C hw hr hlk (Nat.le_of_ble_eq_true rfl) (Nat.le_of_ble_eq_true rfl) dX12_unitPart_130 ⟨rfl, rfl, hI, hF, ⟨rfl, ⟨⟨by omega, by omega⟩, u0, _, (by rw [ex9]; exact UvP.num), (by rw [show u0 = (z59, z60, z61) from Prod.ext (i32_z (by omega)).symm (Prod.ext (i32_z (by omega)).symm (i32_z (by omega)).symm)]; exact rv9.1), congrArg czB (i32_inj (by omega))⟩⟩⟩

theorem opS_codes : opS 42 = 7 ∧ opS 47 = 8 ∧ opS 43 = 5 ∧ opS 45 = 6 := ⟨by simp [opS], by simp [opS], by simp [opS], by simp [opS]⟩
theorem mulU {l r b : Int32} (h : b.toInt = 1 ∨ b.toInt = -1) : (b.toInt = 1 → l + b * r = l + r) ∧ (b.toInt = -1 → l + b * r = l - r) := by
  refine ⟨fun e => ?_, fun e => ?_⟩
  · rw [show b = 1 from i32_inj (by rw [e]; rfl), Int32.one_mul]
  · rw [show b = -1 from i32_inj (by rw [e]; rfl), Int32.neg_mul, Int32.one_mul, Int32.add_neg_eq_sub]

set_option maxHeartbeats 4000000 in
set_option maxRecDepth 100000 in
theorem t_X12_unitProductU {υ : Option Int} {τ : Tp} {φ : Option Int} (l : Launch) (B : Nat) (D : va_G) (cA : Nat → ClassId) (kd : sK) (ig : sI) (rg : sR) (lg : sG) (sz : Nat) (σ : Sg) (d q n8 a b : Nat) (R : Rw) (vv ee : Vl) (uu : Us) (X9 : Fm) (ks : List Un) (hP9 : RXunitPartU τ φ υ l B D cA d) (hG : GoS B q n8 R vv ee ig) (hV : GoU B σ uu ig) (hP : iPd R d a b X9) (hbn : b ≤ n8) (hgo : (ig (B + 49) 31).toInt = 120 * (q : Int) + (a : Int)) (hen : (ig (B + 49) 32).toInt = 120 * (q : Int) + (n8 : Int)) (hks : PlU B ks ig) (hkl : ks.length + 2 * d + 2 ≤ 30) (hI : IM τ φ υ B kd ig rg) : MC l B D cA yX12_unitProduct cX12_unitProduct 3 none (rL (3 * d + 4) 0 0) [.ref (B + 49)] kd ig rg lg sz (PM τ φ υ B [49, 74] kd ig rg lg (fun r ig' lg' => (r = none ∧ (((ig' (B + 49) 31).toInt = 120 * (q : Int) + (b : Int) ∧ (ig' (B + 49) 32).toInt = (ig (B + 49) 32).toInt) ∧ ∃ (w8 : Un) (c8 : Bool), UvP σ uu (q : Int) X9 (czB (ig (B + 49) 34)) w8 c8 ∧ PlU B (w8 :: ks) ig' ∧ (czB (ig' (B + 49) 34)) = c8)))) := by
  refine MC.of (own := RX12) (by decide +kernel) rfl (Nat.le_of_ble_eq_true rfl) ?_
  intro p e s m args below meth c ls C hr hlk hnm hw hsz hl
  have hx := C.1.1
  have hb := C.1.2.1
  have hown := C.1.2.2.2.1
  have hts := C.1.2.2.2.2
  have hl : lv_has ls 3 [(0, .ref (B + 49))] := hl
  have hF : Ft B [49, 74] ig lg ig lg := Ft.rf
  have hsh := hI.sh
  have hrm := hI.rm
  obtain ⟨n0, m0, y0, hp0, hc0⟩ := hP
  have lt0 := iP.lt d _ _ _ hp0
  have le0 := hCt.le (fun _ _ _ w => iP.lt d _ _ _ w) _ _ _ _ _ hc0
  have hq9 := hG.2.2.2.1
  refine lv_aload_n hx hb dX12_unitProduct_0 rfl (lv_at hl 0 rfl) ?_
  refine r_callV (As := []) (rest := []) C hw (hP9 kd ig rg lg _  σ q n8 a m0 R vv ee uu y0 ks (hG.ft hF) (hV.ft hF) hp0 (by omega) (by omega) (by omega) hks (by omega) hI) sv_X12_293 (hsh 49 _ rfl) rfl hl.1 rfl (Nat.le_of_ble_eq_true rfl) ⟨by simp only [rL]; omega, by simp only [rL]; omega⟩ ⟨Nat.le_of_ble_eq_true rfl, Nat.le_of_ble_eq_true rfl⟩ dX12_unitProduct_1 (fun r5 kd1 ig2 rg3 lg4 H locs hw hH hp6 => ?_)
  obtain ⟨rfl, rfl, hI, hchp6, hrhp6⟩ := hp6
  have hF : Ft B [49, 74] ig lg ig2 lg4 := Ft.tr hF hchp6 (by decide) (by decide)
  obtain ⟨rfl, hvhp6⟩ := hrhp6
  have rv0 := hvhp6.1
  obtain ⟨w0, c0, uv0, pl0, cl0⟩ := hvhp6.2
  have L4 : ∀ (n : Nat) (ls : Array Slot) (H : Heap) (locs : List Loc) (ig7 : sI) (lg8 : sG) , lv_has ls 3 [(0, .ref (B + 49))] → WD B D cA s.heap kd ig7 rg lg8 H locs → IM τ φ υ B kd ig7 rg → Ft B [49, 74] ig lg ig7 lg8 → (∃ (k m1 : Nat) (acc : Fm) (w1 : Un) (c1 : Bool), (ig7 (B + 49) 31).toInt = 120 * (q : Int) + (m1 : Int) ∧ hCt (iP R d) (hMu (iS R)) k acc m1 b X9 ∧ UvP σ uu (q : Int) acc (czB (ig (B + 49) 34)) w1 c1 ∧ (PlU B (w1 :: ks) ig7 ∧ (czB (ig7 (B + 49) 34)) = c1) ∧ a < m1 ∧ m1 ≤ b) → ((ig7 (B + 49) 32).toInt = 120 * (q : Int) + (n8 : Int)) → 120 * (q : Int) + (b : Int) - (ig7 (B + 49) 31).toInt < (n : Int) → W p l e (rL (3 * d + 4) 0 0) s m args below meth c H locs 0 0 (MQ below (QcW B D cA (PM τ φ υ B [49, 74] kd ig rg lg (fun r ig' lg' => (r = none ∧ (((ig' (B + 49) 31).toInt = 120 * (q : Int) + (b : Int) ∧ (ig' (B + 49) 32).toInt = (ig (B + 49) 32).toInt) ∧ ∃ (w8 : Un) (c8 : Bool), UvP σ uu (q : Int) X9 (czB (ig (B + 49) 34)) w8 c8 ∧ PlU B (w8 :: ks) ig' ∧ (czB (ig' (B + 49) 34)) = c8))))) args s 0 0 (fun q => B ≤ q)) (F0 m 4 ls []) := by
    intro n4
    induction n4 with
    | zero => intro ls H locs ig7 lg8 hl hw hI hF g4_0 g4_1 hmu; exact absurd hmu (by omega)
    | succ n4 ih4 =>
      intro ls H locs ig7 lg8 hl hw hI hF g4_0 g4_1 hmu
      obtain ⟨k9, m1, acc, w1, c1, hgm, hct, hev, ⟨pl1, cl1⟩, hm1, hm2⟩ := g4_0
      have pt1 := pl1.1
      rw [List.length_cons] at pt1
      have hGn := hG.ft hF
      refine lv_aload_n hx hb dX12_unitProduct_4 rfl (lv_at hl 0 rfl) ?_
      refine lv_bipush (v := 42) hx hb dX12_unitProduct_5 (by decide) (ti_c 42 (by decide) fun z9 hz9 => ?_)
      refine r_callV (As := [.int z9]) (rest := []) C hw (t_X12_isNext l B D cA kd ig7 rg lg8 _ z9 (by omega) hI) sv_X12_273 (hsh 49 _ rfl) rfl hl.1 rfl (Nat.le_of_ble_eq_true rfl) ⟨by simp only [rL]; omega, by simp only [rL]; omega⟩ ⟨Nat.le_of_ble_eq_true rfl, Nat.le_of_ble_eq_true rfl⟩ dX12_unitProduct_7 (fun r14 kd10 ig11 rg12 lg13 H locs hw hH hp15 => ?_)
      obtain ⟨rfl, rfl, rfl, rfl, hzhp15, hrhp15⟩ := hp15
      obtain ⟨z16, rfl, hz16⟩ := hrhp15
      have na9 := GoS.nc (o := 42) (a := m1) hGn (by omega) (by omega) (by omega) hz9 hz16
      refine z_ne (tgt := 22) hx hb dX12_unitProduct_10 (by decide) (fun c10 => ?_) (fun c10 => ?_)
      · have hs9 : R m1 = (1, 42) := by1 na9 (by omega)
        have hcm := hCt.on hct (fun _ _ => mu_d) (o := 42) ⟨hs9, Or.inl rfl⟩
        obtain ⟨k1, m2, y2, hp2, hc2⟩ := hcm
        have lt2 := iP.lt d _ _ _ hp2
        have le2 := hCt.le (fun _ _ _ w => iP.lt d _ _ _ w) _ _ _ _ _ hc2
        refine lv_aload_n hx hb dX12_unitProduct_22 rfl (lv_at hl 0 rfl) ?_
        refine lv_bipush (v := 42) hx hb dX12_unitProduct_23 (by decide) (ti_c 42 (by decide) fun z17 hz17 => ?_)
        refine r_callV (As := [.int z17]) (rest := []) C hw (t_X12_isNext l B D cA kd ig7 rg lg8 _ z17 (by omega) hI) sv_X12_273 (hsh 49 _ rfl) rfl hl.1 rfl (Nat.le_of_ble_eq_true rfl) ⟨by simp only [rL]; omega, by simp only [rL]; omega⟩ ⟨Nat.le_of_ble_eq_true rfl, Nat.le_of_ble_eq_true rfl⟩ dX12_unitProduct_25 (fun r22 kd18 ig19 rg20 lg21 H locs hw hH hp23 => ?_)
        obtain ⟨rfl, rfl, rfl, rfl, hzhp23, hrhp23⟩ := hp23
        obtain ⟨z24, rfl, hz24⟩ := hrhp23
        have nd9 := GoS.nc (o := 42) (a := m1) hGn (by omega) (by omega) (by omega) hz17 hz24
        have t9 : z24.toInt = 1 := (by rcases nd9 with ⟨q, -⟩ | ⟨-, q⟩; exact q; exact absurd hs9 q)
        refine z_eq (tgt := 35) hx hb dX12_unitProduct_28 (by decide) (fun c28 => ?_) (fun c28 => ?_)
        · refine lv_iconst (v := (-1)) hx hb dX12_unitProduct_35 (by decide) (ti_c (-1) (by decide) fun z25 hz25 => ?_)
          refine lv_istore_n (lv' := [(1, .int z25), (0, .ref (B + 49))]) hx hb dX12_unitProduct_36 rfl hl (by decide) rfl (fun ls hl => ?_)
          refine lv_aload_n hx hb dX12_unitProduct_37 rfl (lv_at hl 1 rfl) ?_
          refine lv_dup hx hb dX12_unitProduct_38 rfl ?_
          refine r_get C hw (hsh 49 _ rfl) fl_X12_241 (oV_i rfl) dX12_unitProduct_39 (ti_c (ig7 (B + 49) 31).toInt rfl fun z26 hz26 => ?_)
          refine lv_iconst (v := 1) hx hb dX12_unitProduct_42 (by decide) (ti_c 1 (by decide) fun z27 hz27 => ?_)
          refine lv_iadd hx hb dX12_unitProduct_43 (tc_add fun z28 hz28 => ?_)
          first | replace hz28 := hz28 (by omega) | clear hz28
          refine r_puti C hw (hsh 49 _ rfl) fl_X12_241 rfl rfl rfl dX12_unitProduct_44 (fun H locs hH hw => ?_)
          obtain ⟨ig29, eig29⟩ : ∃ f, f = up2 ig7 (B + 49) 31 z28 := ⟨_, rfl⟩
          rw [← eig29] at hw
          have hF : Ft B [49, 74] ig lg ig29 lg8 := by rw [eig29]; exact hF.pi (by decide)
          have hI : IM τ φ υ B kd ig29 rg := by rw [eig29]; exact hI.pi (by decide) (show okR none _ from trivial)
          have wig29 : (ig29 (B + 49) 31).toInt = z28.toInt := by rw [eig29, up2_eq]
          have wig29_49_32 : (ig29 (B + 49) 32).toInt = (ig7 (B + 49) 32).toInt := by rw [eig29, up2_j (by decide)]
          have wig29_49_34 : (ig29 (B + 49) 34).toInt = (ig7 (B + 49) 34).toInt := by rw [eig29, up2_j (by decide)]
          have wig29_49_35 : (ig29 (B + 49) 35).toInt = (ig7 (B + 49) 35).toInt := by rw [eig29, up2_j (by decide)]
          refine lv_aload_n hx hb dX12_unitProduct_47 rfl (lv_at hl 1 rfl) ?_
          refine r_callV (As := []) (rest := []) C hw (hP9 kd ig29 rg lg8 _  σ q n8 (m1 + 1) m2 R vv ee uu y2 (w1 :: ks) (hG.ft hF) (hV.ft hF) hp2 (by omega) (by omega) (by omega) (pl1.ag (by omega) (fun j9 => by rw [eig29, up2_a (by omega)])) (by rw [List.length_cons]; omega) hI) sv_X12_293 (hsh 49 _ rfl) rfl hl.1 rfl (Nat.le_of_ble_eq_true rfl) ⟨by simp only [rL]; omega, by simp only [rL]; omega⟩ ⟨Nat.le_of_ble_eq_true rfl, Nat.le_of_ble_eq_true rfl⟩ dX12_unitProduct_48 (fun r34 kd30 ig31 rg32 lg33 H locs hw hH hp35 => ?_)
          obtain ⟨rfl, rfl, hI, hchp35, hrhp35⟩ := hp35
          have hF : Ft B [49, 74] ig lg ig31 lg33 := Ft.tr hF hchp35 (by decide) (by decide)
          obtain ⟨rfl, hvhp35⟩ := hrhp35
          have rv3 := hvhp35.1
          obtain ⟨w2, c2, uv2, pl2, cl2⟩ := hvhp35.2
          rw [show ig29 (B + 49) 34 = ig7 (B + 49) 34 by rw [eig29, up2_j (by decide)], cl1] at uv2
          have pt2 := pl2.1
          rw [List.length_cons, List.length_cons] at pt2
          refine lv_aload_n hx hb dX12_unitProduct_51 rfl (lv_at hl 1 rfl) ?_
          refine lv_dup hx hb dX12_unitProduct_52 rfl ?_
          refine r_get C hw (hsh 49 _ rfl) fl_X12_258 (oV_i rfl) dX12_unitProduct_53 (ti_c (ig31 (B + 49) 35).toInt rfl fun z36 hz36 => ?_)
          refine lv_iconst (v := 3) hx hb dX12_unitProduct_56 (by decide) (ti_c 3 (by decide) fun z37 hz37 => ?_)
          refine lv_isub hx hb dX12_unitProduct_57 (tc_sub fun z38 hz38 => ?_)
          first | replace hz38 := hz38 (by omega) | clear hz38
          refine r_puti C hw (hsh 49 _ rfl) fl_X12_258 rfl rfl rfl dX12_unitProduct_58 (fun H locs hH hw => ?_)
          obtain ⟨ig39, eig39⟩ : ∃ f, f = up2 ig31 (B + 49) 35 z38 := ⟨_, rfl⟩
          rw [← eig39] at hw
          have hF : Ft B [49, 74] ig lg ig39 lg33 := by rw [eig39]; exact hF.pi (by decide)
          have hI : IM τ φ υ B kd ig39 rg := by rw [eig39]; exact hI.pi (by decide) (show okR none _ from trivial)
          have wig39_49_31 : (ig39 (B + 49) 31).toInt = (ig31 (B + 49) 31).toInt := by rw [eig39, up2_j (by decide)]
          have wig39_49_32 : (ig39 (B + 49) 32).toInt = (ig31 (B + 49) 32).toInt := by rw [eig39, up2_j (by decide)]
          have wig39_49_34 : (ig39 (B + 49) 34).toInt = (ig31 (B + 49) 34).toInt := by rw [eig39, up2_j (by decide)]
          have wig39 : (ig39 (B + 49) 35).toInt = z38.toInt := by rw [eig39, up2_eq]
          refine lv_iconst (v := 0) hx hb dX12_unitProduct_61 (by decide) (ti_c 0 (by decide) fun z40 hz40 => ?_)
          refine lv_istore_n (lv' := [(2, .int z40), (1, .int z25), (0, .ref (B + 49))]) hx hb dX12_unitProduct_62 rfl hl (by decide) rfl (fun ls hl => ?_)
          have L63 : ∀ (n : Nat) (ls : Array Slot) (H : Heap) (locs : List Loc) (ig42 : sI) (lg43 : sG) (v41 : Int32), lv_has ls 3 [(2, .int v41), (1, .int z25), (0, .ref (B + 49))] → WD B D cA s.heap kd ig42 rg lg43 H locs → IM τ φ υ B kd ig42 rg → Ft B [49, 74] ig lg ig42 lg43 → (0 ≤ v41.toInt) → (v41.toInt ≤ 3) → ((ig42 (B + 49) 31).toInt = 120 * (q : Int) + (m2 : Int) ∧ (ig42 (B + 49) 32).toInt = 120 * (q : Int) + (n8 : Int)) → ((ig42 (B + 49) 35).toInt = 3 * (ks.length : Int) + 3) → (JnU (B + 38) ks.length w1 w2 8 v41.toInt ig31 ig42) → (JcU w1 w2 8 v41.toInt (czB (ig31 (B + 49) 34)) (czB (ig42 (B + 49) 34))) → 3 - v41.toInt < (n : Int) → W p l e (rL (3 * d + 4) 0 0) s m args below meth c H locs 0 0 (MQ below (QcW B D cA (PM τ φ υ B [49, 74] kd ig rg lg (fun r ig' lg' => (r = none ∧ (((ig' (B + 49) 31).toInt = 120 * (q : Int) + (b : Int) ∧ (ig' (B + 49) 32).toInt = (ig (B + 49) 32).toInt) ∧ ∃ (w8 : Un) (c8 : Bool), UvP σ uu (q : Int) X9 (czB (ig (B + 49) 34)) w8 c8 ∧ PlU B (w8 :: ks) ig' ∧ (czB (ig' (B + 49) 34)) = c8))))) args s 0 0 (fun q => B ≤ q)) (F0 m 63 ls []) := by
            intro n63
            induction n63 with
            | zero => intro ls H locs ig42 lg43 v41 hl hw hI hF g63_0 g63_1 g63_2 g63_3 g63_4 g63_5 hmu; exact absurd hmu (by omega)
            | succ n63 ih63 =>
              intro ls H locs ig42 lg43 v41 hl hw hI hF g63_0 g63_1 g63_2 g63_3 g63_4 g63_5 hmu
              have jn9 := g63_4
              have jc9 := g63_5
              refine lv_iload_n hx hb dX12_unitProduct_63 rfl (lv_at hl 0 rfl) ?_
              refine lv_iconst (v := 3) hx hb dX12_unitProduct_64 (by decide) (ti_c 3 (by decide) fun z44 hz44 => ?_)
              refine b_ge (tgt := 103) hx hb dX12_unitProduct_65 (by decide) (fun c65 => ?_) (fun c65 => ?_)
              · refine lv_goto (tgt := 4) hx hb dX12_unitProduct_103 (by decide) ?_
                exact ih4 ls H locs ig42 lg43 (lv_sub hl [2] rfl) hw hI hF (absurd t9 (by omega)) (by omega) (by omega)
              · refine lv_aload_n hx hb dX12_unitProduct_68 rfl (lv_at hl 2 rfl) ?_
                refine r_get C hw (hsh 49 _ rfl) fl_X12_127 (oV_r rfl (hrm (49, 36, 74) (by decide))) dX12_unitProduct_69 ?_
                refine lv_aload_n hx hb dX12_unitProduct_72 rfl (lv_at hl 2 rfl) ?_
                refine r_get C hw (hsh 49 _ rfl) fl_X12_258 (oV_i rfl) dX12_unitProduct_73 (ti_c (ig42 (B + 49) 35).toInt rfl fun z45 hz45 => ?_)
                refine lv_iconst (v := 3) hx hb dX12_unitProduct_76 (by decide) (ti_c 3 (by decide) fun z46 hz46 => ?_)
                refine lv_isub hx hb dX12_unitProduct_77 (tc_sub fun z47 hz47 => ?_)
                first | replace hz47 := hz47 (by omega) | clear hz47
                refine lv_iload_n hx hb dX12_unitProduct_78 rfl (lv_at hl 0 rfl) ?_
                refine lv_iadd hx hb dX12_unitProduct_79 (tc_add fun z48 hz48 => ?_)
                first | replace hz48 := hz48 (by omega) | clear hz48
                refine lv_dup2_11 hx hb dX12_unitProduct_80 rfl rfl ?_
                refine r_iald C hw (hsh 74 _ rfl) (by omega) (by omega) dX12_unitProduct_81 (ti_c (ig42 (B + 74) z48.toInt.toNat).toInt rfl fun z49 hz49 => ?_)
                have l9 : z49 = ucp w1 v41.toInt := i32_inj (by rw [hz49]; exact congrArg Int32.toInt (JnM.l jn9 (by omega) (by omega) (by omega)))
                refine lv_iload_n hx hb dX12_unitProduct_82 rfl (lv_at hl 1 rfl) ?_
                refine lv_aload_n hx hb dX12_unitProduct_83 rfl (lv_at hl 2 rfl) ?_
                refine r_get C hw (hsh 49 _ rfl) fl_X12_127 (oV_r rfl (hrm (49, 36, 74) (by decide))) dX12_unitProduct_84 ?_
                refine lv_aload_n hx hb dX12_unitProduct_87 rfl (lv_at hl 2 rfl) ?_
                refine r_get C hw (hsh 49 _ rfl) fl_X12_258 (oV_i rfl) dX12_unitProduct_88 (ti_c (ig42 (B + 49) 35).toInt rfl fun z51 hz51 => ?_)
                refine lv_iload_n hx hb dX12_unitProduct_91 rfl (lv_at hl 0 rfl) ?_
                refine lv_iadd hx hb dX12_unitProduct_92 (tc_add fun z52 hz52 => ?_)
                first | replace hz52 := hz52 (by omega) | clear hz52
                refine r_iald C hw (hsh 74 _ rfl) (by omega) (by omega) dX12_unitProduct_93 (ti_c (ig42 (B + 74) z52.toInt.toNat).toInt rfl fun z53 hz53 => ?_)
                have r9 : z53 = ucp w2 v41.toInt := i32_inj (by rw [hz53]; exact congrArg Int32.toInt (JnM.r jn9 (by omega) (by omega) (by omega)))
                refine lv_imul hx hb dX12_unitProduct_94 (lv_topi fun z55 hz55 => ?_)
                refine lv_iadd hx hb dX12_unitProduct_95 (lv_topi fun z56 hz56 => ?_)
                refine r_iast C hw (hsh 74 _ rfl) (by omega) (by omega) dX12_unitProduct_96 (fun H locs hH hw => ?_)
                obtain ⟨ig57, eig57⟩ : ∃ f, f = up2 ig42 (B + 74) z48.toInt.toNat z56 := ⟨_, rfl⟩
                rw [← eig57] at hw
                have hF : Ft B [49, 74] ig lg ig57 lg43 := by rw [eig57]; exact hF.pi (by decide)
                have hI : IM τ φ υ B kd ig57 rg := by rw [eig57]; exact hI.pi (by decide) (show okR none _ from trivial)
                have wig57_49_31 : (ig57 (B + 49) 31).toInt = (ig42 (B + 49) 31).toInt := by rw [eig57, up2_a (by omega)]
                have wig57_49_32 : (ig57 (B + 49) 32).toInt = (ig42 (B + 49) 32).toInt := by rw [eig57, up2_a (by omega)]
                have wig57_49_34 : (ig57 (B + 49) 34).toInt = (ig42 (B + 49) 34).toInt := by rw [eig57, up2_a (by omega)]
                have wig57_49_35 : (ig57 (B + 49) 35).toInt = (ig42 (B + 49) 35).toInt := by rw [eig57, up2_a (by omega)]
                have jn8 : JnU (B + 38) ks.length w1 w2 8 (v41.toInt + 1) ig31 ig57 := by rw [eig57]; exact JnM.step jn9 (by omega) (by omega) (by omega) (by rw [hz56, hz55, l9, r9, opU_8 rfl]; exact (mulU (by omega)).2 (by omega))
                have jc8 : JcU w1 w2 8 (v41.toInt + 1) (czB (ig31 (B + 49) 34)) (czB (ig57 (B + 49) 34)) := by rw [show ig57 (B + 49) 34 = ig42 (B + 49) 34 by rw [eig57, up2_a (by omega)]]; exact JcU.mul jc9 (by omega)
                refine tc_inc hx hb dX12_unitProduct_97 hl (k := 0) rfl (by decide) (by decide) (fun z58 hz58 ls hl => ?_)
                first | replace hz58 := hz58 (by omega) | clear hz58
                have hl : lv_has ls 3 [(2, .int z58), (1, .int z25), (0, .ref (B + 49))] := hl
                refine lv_goto (tgt := 63) hx hb dX12_unitProduct_100 (by decide) ?_
                exact ih63 ls H locs ig57 lg43 z58 (lv_sub hl [0, 1, 2] rfl) hw hI hF (by omega) (by omega) (by omega) (by omega) (by rw [show z58.toInt = v41.toInt + 1 by omega]; exact jn8) (by rw [show z58.toInt = v41.toInt + 1 by omega]; exact jc8) (by omega)
          exact L63 ((3 - z40.toInt) + 1).toNat ls H locs ig39 lg33 z40 (lv_sub hl [0, 1, 2] rfl) hw hI hF (by omega) (by omega) (by omega) (by omega) ((by rw [show z40.toInt = 0 by omega]; exact PlU.jn pl2 (fun j9 => by rw [eig39, up2_a (by omega)]))) ((by rw [show z40.toInt = 0 by omega, show ig39 (B + 49) 34 = ig31 (B + 49) 34 by rw [eig39, up2_j (by decide)]]; exact JcU.zero)) (by omega)
        · refine lv_iconst (v := 1) hx hb dX12_unitProduct_31 (by decide) (ti_c 1 (by decide) fun z59 hz59 => ?_)
          refine lv_goto (tgt := 36) hx hb dX12_unitProduct_32 (by decide) ?_
          refine lv_istore_n (lv' := [(1, .int z59), (0, .ref (B + 49))]) hx hb dX12_unitProduct_36 rfl hl (by decide) rfl (fun ls hl => ?_)
          refine lv_aload_n hx hb dX12_unitProduct_37 rfl (lv_at hl 1 rfl) ?_
          refine lv_dup hx hb dX12_unitProduct_38 rfl ?_
          refine r_get C hw (hsh 49 _ rfl) fl_X12_241 (oV_i rfl) dX12_unitProduct_39 (ti_c (ig7 (B + 49) 31).toInt rfl fun z60 hz60 => ?_)
          refine lv_iconst (v := 1) hx hb dX12_unitProduct_42 (by decide) (ti_c 1 (by decide) fun z61 hz61 => ?_)
          refine lv_iadd hx hb dX12_unitProduct_43 (tc_add fun z62 hz62 => ?_)
          first | replace hz62 := hz62 (by omega) | clear hz62
          refine r_puti C hw (hsh 49 _ rfl) fl_X12_241 rfl rfl rfl dX12_unitProduct_44 (fun H locs hH hw => ?_)
          obtain ⟨ig63, eig63⟩ : ∃ f, f = up2 ig7 (B + 49) 31 z62 := ⟨_, rfl⟩
          rw [← eig63] at hw
          have hF : Ft B [49, 74] ig lg ig63 lg8 := by rw [eig63]; exact hF.pi (by decide)
          have hI : IM τ φ υ B kd ig63 rg := by rw [eig63]; exact hI.pi (by decide) (show okR none _ from trivial)
          have wig63 : (ig63 (B + 49) 31).toInt = z62.toInt := by rw [eig63, up2_eq]
          have wig63_49_32 : (ig63 (B + 49) 32).toInt = (ig7 (B + 49) 32).toInt := by rw [eig63, up2_j (by decide)]
          have wig63_49_34 : (ig63 (B + 49) 34).toInt = (ig7 (B + 49) 34).toInt := by rw [eig63, up2_j (by decide)]
          have wig63_49_35 : (ig63 (B + 49) 35).toInt = (ig7 (B + 49) 35).toInt := by rw [eig63, up2_j (by decide)]
          refine lv_aload_n hx hb dX12_unitProduct_47 rfl (lv_at hl 1 rfl) ?_
          refine r_callV (As := []) (rest := []) C hw (hP9 kd ig63 rg lg8 _  σ q n8 (m1 + 1) m2 R vv ee uu y2 (w1 :: ks) (hG.ft hF) (hV.ft hF) hp2 (by omega) (by omega) (by omega) (pl1.ag (by omega) (fun j9 => by rw [eig63, up2_a (by omega)])) (by rw [List.length_cons]; omega) hI) sv_X12_293 (hsh 49 _ rfl) rfl hl.1 rfl (Nat.le_of_ble_eq_true rfl) ⟨by simp only [rL]; omega, by simp only [rL]; omega⟩ ⟨Nat.le_of_ble_eq_true rfl, Nat.le_of_ble_eq_true rfl⟩ dX12_unitProduct_48 (fun r68 kd64 ig65 rg66 lg67 H locs hw hH hp69 => ?_)
          obtain ⟨rfl, rfl, hI, hchp69, hrhp69⟩ := hp69
          have hF : Ft B [49, 74] ig lg ig65 lg67 := Ft.tr hF hchp69 (by decide) (by decide)
          obtain ⟨rfl, hvhp69⟩ := hrhp69
          have rv3 := hvhp69.1
          obtain ⟨w2, c2, uv2, pl2, cl2⟩ := hvhp69.2
          rw [show ig63 (B + 49) 34 = ig7 (B + 49) 34 by rw [eig63, up2_j (by decide)], cl1] at uv2
          have pt2 := pl2.1
          rw [List.length_cons, List.length_cons] at pt2
          refine lv_aload_n hx hb dX12_unitProduct_51 rfl (lv_at hl 1 rfl) ?_
          refine lv_dup hx hb dX12_unitProduct_52 rfl ?_
          refine r_get C hw (hsh 49 _ rfl) fl_X12_258 (oV_i rfl) dX12_unitProduct_53 (ti_c (ig65 (B + 49) 35).toInt rfl fun z70 hz70 => ?_)
          refine lv_iconst (v := 3) hx hb dX12_unitProduct_56 (by decide) (ti_c 3 (by decide) fun z71 hz71 => ?_)
          refine lv_isub hx hb dX12_unitProduct_57 (tc_sub fun z72 hz72 => ?_)
          first | replace hz72 := hz72 (by omega) | clear hz72
          refine r_puti C hw (hsh 49 _ rfl) fl_X12_258 rfl rfl rfl dX12_unitProduct_58 (fun H locs hH hw => ?_)
          obtain ⟨ig73, eig73⟩ : ∃ f, f = up2 ig65 (B + 49) 35 z72 := ⟨_, rfl⟩
          rw [← eig73] at hw
          have hF : Ft B [49, 74] ig lg ig73 lg67 := by rw [eig73]; exact hF.pi (by decide)
          have hI : IM τ φ υ B kd ig73 rg := by rw [eig73]; exact hI.pi (by decide) (show okR none _ from trivial)
          have wig73_49_31 : (ig73 (B + 49) 31).toInt = (ig65 (B + 49) 31).toInt := by rw [eig73, up2_j (by decide)]
          have wig73_49_32 : (ig73 (B + 49) 32).toInt = (ig65 (B + 49) 32).toInt := by rw [eig73, up2_j (by decide)]
          have wig73_49_34 : (ig73 (B + 49) 34).toInt = (ig65 (B + 49) 34).toInt := by rw [eig73, up2_j (by decide)]
          have wig73 : (ig73 (B + 49) 35).toInt = z72.toInt := by rw [eig73, up2_eq]
          refine lv_iconst (v := 0) hx hb dX12_unitProduct_61 (by decide) (ti_c 0 (by decide) fun z74 hz74 => ?_)
          refine lv_istore_n (lv' := [(2, .int z74), (1, .int z59), (0, .ref (B + 49))]) hx hb dX12_unitProduct_62 rfl hl (by decide) rfl (fun ls hl => ?_)
          have L63 : ∀ (n : Nat) (ls : Array Slot) (H : Heap) (locs : List Loc) (ig76 : sI) (lg77 : sG) (v75 : Int32), lv_has ls 3 [(2, .int v75), (1, .int z59), (0, .ref (B + 49))] → WD B D cA s.heap kd ig76 rg lg77 H locs → IM τ φ υ B kd ig76 rg → Ft B [49, 74] ig lg ig76 lg77 → (0 ≤ v75.toInt) → (v75.toInt ≤ 3) → ((ig76 (B + 49) 31).toInt = 120 * (q : Int) + (m2 : Int) ∧ (ig76 (B + 49) 32).toInt = 120 * (q : Int) + (n8 : Int)) → ((ig76 (B + 49) 35).toInt = 3 * (ks.length : Int) + 3) → (JnU (B + 38) ks.length w1 w2 7 v75.toInt ig65 ig76) → (JcU w1 w2 7 v75.toInt (czB (ig65 (B + 49) 34)) (czB (ig76 (B + 49) 34))) → 3 - v75.toInt < (n : Int) → W p l e (rL (3 * d + 4) 0 0) s m args below meth c H locs 0 0 (MQ below (QcW B D cA (PM τ φ υ B [49, 74] kd ig rg lg (fun r ig' lg' => (r = none ∧ (((ig' (B + 49) 31).toInt = 120 * (q : Int) + (b : Int) ∧ (ig' (B + 49) 32).toInt = (ig (B + 49) 32).toInt) ∧ ∃ (w8 : Un) (c8 : Bool), UvP σ uu (q : Int) X9 (czB (ig (B + 49) 34)) w8 c8 ∧ PlU B (w8 :: ks) ig' ∧ (czB (ig' (B + 49) 34)) = c8))))) args s 0 0 (fun q => B ≤ q)) (F0 m 63 ls []) := by
            intro n63
            induction n63 with
            | zero => intro ls H locs ig76 lg77 v75 hl hw hI hF g63_0 g63_1 g63_2 g63_3 g63_4 g63_5 hmu; exact absurd hmu (by omega)
            | succ n63 ih63 =>
              intro ls H locs ig76 lg77 v75 hl hw hI hF g63_0 g63_1 g63_2 g63_3 g63_4 g63_5 hmu
              have jn9 := g63_4
              have jc9 := g63_5
              refine lv_iload_n hx hb dX12_unitProduct_63 rfl (lv_at hl 0 rfl) ?_
              refine lv_iconst (v := 3) hx hb dX12_unitProduct_64 (by decide) (ti_c 3 (by decide) fun z78 hz78 => ?_)
              refine b_ge (tgt := 103) hx hb dX12_unitProduct_65 (by decide) (fun c65 => ?_) (fun c65 => ?_)
              · refine lv_goto (tgt := 4) hx hb dX12_unitProduct_103 (by decide) ?_
                exact ih4 ls H locs ig76 lg77 (lv_sub hl [2] rfl) hw hI hF (⟨k1, m2, acc ++ (y2 ++ [(opS 42, 0, 0)]), opU (opS 42) w1 w2, opC (opS 42) w1 w2 c2, by omega, hc2, UvP.turn hev uv2, ⟨(by rw [opS_codes.1]; exact JnM.fin (by have q9 := g63_4; rw [show v75.toInt = 3 by omega] at q9; exact q9) pl2 (by omega)), (by rw [opS_codes.1, ← cl2]; exact JcU.fin (by have q9 := g63_5; rw [show v75.toInt = 3 by omega] at q9; exact q9))⟩, by omega, by omega⟩) (by omega) (by omega)
              · refine lv_aload_n hx hb dX12_unitProduct_68 rfl (lv_at hl 2 rfl) ?_
                refine r_get C hw (hsh 49 _ rfl) fl_X12_127 (oV_r rfl (hrm (49, 36, 74) (by decide))) dX12_unitProduct_69 ?_
                refine lv_aload_n hx hb dX12_unitProduct_72 rfl (lv_at hl 2 rfl) ?_
                refine r_get C hw (hsh 49 _ rfl) fl_X12_258 (oV_i rfl) dX12_unitProduct_73 (ti_c (ig76 (B + 49) 35).toInt rfl fun z79 hz79 => ?_)
                refine lv_iconst (v := 3) hx hb dX12_unitProduct_76 (by decide) (ti_c 3 (by decide) fun z80 hz80 => ?_)
                refine lv_isub hx hb dX12_unitProduct_77 (tc_sub fun z81 hz81 => ?_)
                first | replace hz81 := hz81 (by omega) | clear hz81
                refine lv_iload_n hx hb dX12_unitProduct_78 rfl (lv_at hl 0 rfl) ?_
                refine lv_iadd hx hb dX12_unitProduct_79 (tc_add fun z82 hz82 => ?_)
                first | replace hz82 := hz82 (by omega) | clear hz82
                refine lv_dup2_11 hx hb dX12_unitProduct_80 rfl rfl ?_
                refine r_iald C hw (hsh 74 _ rfl) (by omega) (by omega) dX12_unitProduct_81 (ti_c (ig76 (B + 74) z82.toInt.toNat).toInt rfl fun z83 hz83 => ?_)
                have l9 : z83 = ucp w1 v75.toInt := i32_inj (by rw [hz83]; exact congrArg Int32.toInt (JnM.l jn9 (by omega) (by omega) (by omega)))
                refine lv_iload_n hx hb dX12_unitProduct_82 rfl (lv_at hl 1 rfl) ?_
                refine lv_aload_n hx hb dX12_unitProduct_83 rfl (lv_at hl 2 rfl) ?_
                refine r_get C hw (hsh 49 _ rfl) fl_X12_127 (oV_r rfl (hrm (49, 36, 74) (by decide))) dX12_unitProduct_84 ?_
                refine lv_aload_n hx hb dX12_unitProduct_87 rfl (lv_at hl 2 rfl) ?_
                refine r_get C hw (hsh 49 _ rfl) fl_X12_258 (oV_i rfl) dX12_unitProduct_88 (ti_c (ig76 (B + 49) 35).toInt rfl fun z85 hz85 => ?_)
                refine lv_iload_n hx hb dX12_unitProduct_91 rfl (lv_at hl 0 rfl) ?_
                refine lv_iadd hx hb dX12_unitProduct_92 (tc_add fun z86 hz86 => ?_)
                first | replace hz86 := hz86 (by omega) | clear hz86
                refine r_iald C hw (hsh 74 _ rfl) (by omega) (by omega) dX12_unitProduct_93 (ti_c (ig76 (B + 74) z86.toInt.toNat).toInt rfl fun z87 hz87 => ?_)
                have r9 : z87 = ucp w2 v75.toInt := i32_inj (by rw [hz87]; exact congrArg Int32.toInt (JnM.r jn9 (by omega) (by omega) (by omega)))
                refine lv_imul hx hb dX12_unitProduct_94 (lv_topi fun z89 hz89 => ?_)
                refine lv_iadd hx hb dX12_unitProduct_95 (lv_topi fun z90 hz90 => ?_)
                refine r_iast C hw (hsh 74 _ rfl) (by omega) (by omega) dX12_unitProduct_96 (fun H locs hH hw => ?_)
                obtain ⟨ig91, eig91⟩ : ∃ f, f = up2 ig76 (B + 74) z82.toInt.toNat z90 := ⟨_, rfl⟩
                rw [← eig91] at hw
                have hF : Ft B [49, 74] ig lg ig91 lg77 := by rw [eig91]; exact hF.pi (by decide)
                have hI : IM τ φ υ B kd ig91 rg := by rw [eig91]; exact hI.pi (by decide) (show okR none _ from trivial)
                have wig91_49_31 : (ig91 (B + 49) 31).toInt = (ig76 (B + 49) 31).toInt := by rw [eig91, up2_a (by omega)]
                have wig91_49_32 : (ig91 (B + 49) 32).toInt = (ig76 (B + 49) 32).toInt := by rw [eig91, up2_a (by omega)]
                have wig91_49_34 : (ig91 (B + 49) 34).toInt = (ig76 (B + 49) 34).toInt := by rw [eig91, up2_a (by omega)]
                have wig91_49_35 : (ig91 (B + 49) 35).toInt = (ig76 (B + 49) 35).toInt := by rw [eig91, up2_a (by omega)]
                have jn8 : JnU (B + 38) ks.length w1 w2 7 (v75.toInt + 1) ig65 ig91 := by rw [eig91]; exact JnM.step jn9 (by omega) (by omega) (by omega) (by rw [hz90, hz89, l9, r9, opU_7 rfl]; exact (mulU (by omega)).1 (by omega))
                have jc8 : JcU w1 w2 7 (v75.toInt + 1) (czB (ig65 (B + 49) 34)) (czB (ig91 (B + 49) 34)) := by rw [show ig91 (B + 49) 34 = ig76 (B + 49) 34 by rw [eig91, up2_a (by omega)]]; exact JcU.mul jc9 (by omega)
                refine tc_inc hx hb dX12_unitProduct_97 hl (k := 0) rfl (by decide) (by decide) (fun z92 hz92 ls hl => ?_)
                first | replace hz92 := hz92 (by omega) | clear hz92
                have hl : lv_has ls 3 [(2, .int z92), (1, .int z59), (0, .ref (B + 49))] := hl
                refine lv_goto (tgt := 63) hx hb dX12_unitProduct_100 (by decide) ?_
                exact ih63 ls H locs ig91 lg77 z92 (lv_sub hl [0, 1, 2] rfl) hw hI hF (by omega) (by omega) (by omega) (by omega) (by rw [show z92.toInt = v75.toInt + 1 by omega]; exact jn8) (by rw [show z92.toInt = v75.toInt + 1 by omega]; exact jc8) (by omega)
          exact L63 ((3 - z74.toInt) + 1).toNat ls H locs ig73 lg67 z74 (lv_sub hl [0, 1, 2] rfl) hw hI hF (by omega) (by omega) (by omega) (by omega) ((by rw [show z74.toInt = 0 by omega]; exact PlU.jn pl2 (fun j9 => by rw [eig73, up2_a (by omega)]))) ((by rw [show z74.toInt = 0 by omega, show ig73 (B + 49) 34 = ig65 (B + 49) 34 by rw [eig73, up2_j (by decide)]]; exact JcU.zero)) (by omega)
      · refine lv_aload_n hx hb dX12_unitProduct_13 rfl (lv_at hl 0 rfl) ?_
        refine lv_bipush (v := 47) hx hb dX12_unitProduct_14 (by decide) (ti_c 47 (by decide) fun z93 hz93 => ?_)
        refine r_callV (As := [.int z93]) (rest := []) C hw (t_X12_isNext l B D cA kd ig7 rg lg8 _ z93 (by omega) hI) sv_X12_273 (hsh 49 _ rfl) rfl hl.1 rfl (Nat.le_of_ble_eq_true rfl) ⟨by simp only [rL]; omega, by simp only [rL]; omega⟩ ⟨Nat.le_of_ble_eq_true rfl, Nat.le_of_ble_eq_true rfl⟩ dX12_unitProduct_16 (fun r98 kd94 ig95 rg96 lg97 H locs hw hH hp99 => ?_)
        obtain ⟨rfl, rfl, rfl, rfl, hzhp99, hrhp99⟩ := hp99
        obtain ⟨z100, rfl, hz100⟩ := hrhp99
        have nb9 := GoS.nc (o := 47) (a := m1) hGn (by omega) (by omega) (by omega) hz93 hz100
        refine z_eq (tgt := 106) hx hb dX12_unitProduct_19 (by decide) (fun c19 => ?_) (fun c19 => ?_)
        · obtain ⟨eb9, ex9⟩ := hCt.off hct (fun o9 w9 => by rcases w9.2 with q9 | q9; (rw [q9] at w9; exact by0 na9 (by omega) w9.1); (rw [q9] at w9; exact by0 nb9 (by omega) w9.1))
          exact r_vret C hw hr hlk (Nat.le_of_ble_eq_true rfl) (Nat.le_of_ble_eq_true rfl) dX12_unitProduct_106 ⟨rfl, rfl, hI, hF, ⟨rfl, ⟨⟨by omega, by omega⟩, w1, c1, (by rw [ex9]; exact hev), pl1, cl1⟩⟩⟩
        · have hs9 : R m1 = (1, 47) := by1 nb9 (by omega)
          have hcm := hCt.on hct (fun _ _ => mu_d) (o := 47) ⟨hs9, Or.inr rfl⟩
          obtain ⟨k1, m2, y2, hp2, hc2⟩ := hcm
          have lt2 := iP.lt d _ _ _ hp2
          have le2 := hCt.le (fun _ _ _ w => iP.lt d _ _ _ w) _ _ _ _ _ hc2
          refine lv_aload_n hx hb dX12_unitProduct_22 rfl (lv_at hl 0 rfl) ?_
          refine lv_bipush (v := 42) hx hb dX12_unitProduct_23 (by decide) (ti_c 42 (by decide) fun z101 hz101 => ?_)
          refine r_callV (As := [.int z101]) (rest := []) C hw (t_X12_isNext l B D cA kd ig7 rg lg8 _ z101 (by omega) hI) sv_X12_273 (hsh 49 _ rfl) rfl hl.1 rfl (Nat.le_of_ble_eq_true rfl) ⟨by simp only [rL]; omega, by simp only [rL]; omega⟩ ⟨Nat.le_of_ble_eq_true rfl, Nat.le_of_ble_eq_true rfl⟩ dX12_unitProduct_25 (fun r106 kd102 ig103 rg104 lg105 H locs hw hH hp107 => ?_)
          obtain ⟨rfl, rfl, rfl, rfl, hzhp107, hrhp107⟩ := hp107
          obtain ⟨z108, rfl, hz108⟩ := hrhp107
          have nd9 := GoS.nc (o := 42) (a := m1) hGn (by omega) (by omega) (by omega) hz101 hz108
          have t9 : z108.toInt = 0 := (by rcases nd9 with ⟨-, q⟩ | ⟨q, -⟩; (rw [hs9] at q; exact absurd (Prod.mk.inj q).2 (by decide)); exact q)
          refine z_eq (tgt := 35) hx hb dX12_unitProduct_28 (by decide) (fun c28 => ?_) (fun c28 => ?_)
          · refine lv_iconst (v := (-1)) hx hb dX12_unitProduct_35 (by decide) (ti_c (-1) (by decide) fun z109 hz109 => ?_)
            refine lv_istore_n (lv' := [(1, .int z109), (0, .ref (B + 49))]) hx hb dX12_unitProduct_36 rfl hl (by decide) rfl (fun ls hl => ?_)
            refine lv_aload_n hx hb dX12_unitProduct_37 rfl (lv_at hl 1 rfl) ?_
            refine lv_dup hx hb dX12_unitProduct_38 rfl ?_
            refine r_get C hw (hsh 49 _ rfl) fl_X12_241 (oV_i rfl) dX12_unitProduct_39 (ti_c (ig7 (B + 49) 31).toInt rfl fun z110 hz110 => ?_)
            refine lv_iconst (v := 1) hx hb dX12_unitProduct_42 (by decide) (ti_c 1 (by decide) fun z111 hz111 => ?_)
            refine lv_iadd hx hb dX12_unitProduct_43 (tc_add fun z112 hz112 => ?_)
            first | replace hz112 := hz112 (by omega) | clear hz112
            refine r_puti C hw (hsh 49 _ rfl) fl_X12_241 rfl rfl rfl dX12_unitProduct_44 (fun H locs hH hw => ?_)
            obtain ⟨ig113, eig113⟩ : ∃ f, f = up2 ig7 (B + 49) 31 z112 := ⟨_, rfl⟩
            rw [← eig113] at hw
            have hF : Ft B [49, 74] ig lg ig113 lg8 := by rw [eig113]; exact hF.pi (by decide)
            have hI : IM τ φ υ B kd ig113 rg := by rw [eig113]; exact hI.pi (by decide) (show okR none _ from trivial)
            have wig113 : (ig113 (B + 49) 31).toInt = z112.toInt := by rw [eig113, up2_eq]
            have wig113_49_32 : (ig113 (B + 49) 32).toInt = (ig7 (B + 49) 32).toInt := by rw [eig113, up2_j (by decide)]
            have wig113_49_34 : (ig113 (B + 49) 34).toInt = (ig7 (B + 49) 34).toInt := by rw [eig113, up2_j (by decide)]
            have wig113_49_35 : (ig113 (B + 49) 35).toInt = (ig7 (B + 49) 35).toInt := by rw [eig113, up2_j (by decide)]
            refine lv_aload_n hx hb dX12_unitProduct_47 rfl (lv_at hl 1 rfl) ?_
            refine r_callV (As := []) (rest := []) C hw (hP9 kd ig113 rg lg8 _  σ q n8 (m1 + 1) m2 R vv ee uu y2 (w1 :: ks) (hG.ft hF) (hV.ft hF) hp2 (by omega) (by omega) (by omega) (pl1.ag (by omega) (fun j9 => by rw [eig113, up2_a (by omega)])) (by rw [List.length_cons]; omega) hI) sv_X12_293 (hsh 49 _ rfl) rfl hl.1 rfl (Nat.le_of_ble_eq_true rfl) ⟨by simp only [rL]; omega, by simp only [rL]; omega⟩ ⟨Nat.le_of_ble_eq_true rfl, Nat.le_of_ble_eq_true rfl⟩ dX12_unitProduct_48 (fun r118 kd114 ig115 rg116 lg117 H locs hw hH hp119 => ?_)
            obtain ⟨rfl, rfl, hI, hchp119, hrhp119⟩ := hp119
            have hF : Ft B [49, 74] ig lg ig115 lg117 := Ft.tr hF hchp119 (by decide) (by decide)
            obtain ⟨rfl, hvhp119⟩ := hrhp119
            have rv3 := hvhp119.1
            obtain ⟨w2, c2, uv2, pl2, cl2⟩ := hvhp119.2
            rw [show ig113 (B + 49) 34 = ig7 (B + 49) 34 by rw [eig113, up2_j (by decide)], cl1] at uv2
            have pt2 := pl2.1
            rw [List.length_cons, List.length_cons] at pt2
            refine lv_aload_n hx hb dX12_unitProduct_51 rfl (lv_at hl 1 rfl) ?_
            refine lv_dup hx hb dX12_unitProduct_52 rfl ?_
            refine r_get C hw (hsh 49 _ rfl) fl_X12_258 (oV_i rfl) dX12_unitProduct_53 (ti_c (ig115 (B + 49) 35).toInt rfl fun z120 hz120 => ?_)
            refine lv_iconst (v := 3) hx hb dX12_unitProduct_56 (by decide) (ti_c 3 (by decide) fun z121 hz121 => ?_)
            refine lv_isub hx hb dX12_unitProduct_57 (tc_sub fun z122 hz122 => ?_)
            first | replace hz122 := hz122 (by omega) | clear hz122
            refine r_puti C hw (hsh 49 _ rfl) fl_X12_258 rfl rfl rfl dX12_unitProduct_58 (fun H locs hH hw => ?_)
            obtain ⟨ig123, eig123⟩ : ∃ f, f = up2 ig115 (B + 49) 35 z122 := ⟨_, rfl⟩
            rw [← eig123] at hw
            have hF : Ft B [49, 74] ig lg ig123 lg117 := by rw [eig123]; exact hF.pi (by decide)
            have hI : IM τ φ υ B kd ig123 rg := by rw [eig123]; exact hI.pi (by decide) (show okR none _ from trivial)
            have wig123_49_31 : (ig123 (B + 49) 31).toInt = (ig115 (B + 49) 31).toInt := by rw [eig123, up2_j (by decide)]
            have wig123_49_32 : (ig123 (B + 49) 32).toInt = (ig115 (B + 49) 32).toInt := by rw [eig123, up2_j (by decide)]
            have wig123_49_34 : (ig123 (B + 49) 34).toInt = (ig115 (B + 49) 34).toInt := by rw [eig123, up2_j (by decide)]
            have wig123 : (ig123 (B + 49) 35).toInt = z122.toInt := by rw [eig123, up2_eq]
            refine lv_iconst (v := 0) hx hb dX12_unitProduct_61 (by decide) (ti_c 0 (by decide) fun z124 hz124 => ?_)
            refine lv_istore_n (lv' := [(2, .int z124), (1, .int z109), (0, .ref (B + 49))]) hx hb dX12_unitProduct_62 rfl hl (by decide) rfl (fun ls hl => ?_)
            have L63 : ∀ (n : Nat) (ls : Array Slot) (H : Heap) (locs : List Loc) (ig126 : sI) (lg127 : sG) (v125 : Int32), lv_has ls 3 [(2, .int v125), (1, .int z109), (0, .ref (B + 49))] → WD B D cA s.heap kd ig126 rg lg127 H locs → IM τ φ υ B kd ig126 rg → Ft B [49, 74] ig lg ig126 lg127 → (0 ≤ v125.toInt) → (v125.toInt ≤ 3) → ((ig126 (B + 49) 31).toInt = 120 * (q : Int) + (m2 : Int) ∧ (ig126 (B + 49) 32).toInt = 120 * (q : Int) + (n8 : Int)) → ((ig126 (B + 49) 35).toInt = 3 * (ks.length : Int) + 3) → (JnU (B + 38) ks.length w1 w2 8 v125.toInt ig115 ig126) → (JcU w1 w2 8 v125.toInt (czB (ig115 (B + 49) 34)) (czB (ig126 (B + 49) 34))) → 3 - v125.toInt < (n : Int) → W p l e (rL (3 * d + 4) 0 0) s m args below meth c H locs 0 0 (MQ below (QcW B D cA (PM τ φ υ B [49, 74] kd ig rg lg (fun r ig' lg' => (r = none ∧ (((ig' (B + 49) 31).toInt = 120 * (q : Int) + (b : Int) ∧ (ig' (B + 49) 32).toInt = (ig (B + 49) 32).toInt) ∧ ∃ (w8 : Un) (c8 : Bool), UvP σ uu (q : Int) X9 (czB (ig (B + 49) 34)) w8 c8 ∧ PlU B (w8 :: ks) ig' ∧ (czB (ig' (B + 49) 34)) = c8))))) args s 0 0 (fun q => B ≤ q)) (F0 m 63 ls []) := by
              intro n63
              induction n63 with
              | zero => intro ls H locs ig126 lg127 v125 hl hw hI hF g63_0 g63_1 g63_2 g63_3 g63_4 g63_5 hmu; exact absurd hmu (by omega)
              | succ n63 ih63 =>
                intro ls H locs ig126 lg127 v125 hl hw hI hF g63_0 g63_1 g63_2 g63_3 g63_4 g63_5 hmu
                have jn9 := g63_4
                have jc9 := g63_5
                refine lv_iload_n hx hb dX12_unitProduct_63 rfl (lv_at hl 0 rfl) ?_
                refine lv_iconst (v := 3) hx hb dX12_unitProduct_64 (by decide) (ti_c 3 (by decide) fun z128 hz128 => ?_)
                refine b_ge (tgt := 103) hx hb dX12_unitProduct_65 (by decide) (fun c65 => ?_) (fun c65 => ?_)
                · refine lv_goto (tgt := 4) hx hb dX12_unitProduct_103 (by decide) ?_
                  exact ih4 ls H locs ig126 lg127 (lv_sub hl [2] rfl) hw hI hF (⟨k1, m2, acc ++ (y2 ++ [(opS 47, 0, 0)]), opU (opS 47) w1 w2, opC (opS 47) w1 w2 c2, by omega, hc2, UvP.turn hev uv2, ⟨(by rw [opS_codes.2.1]; exact JnM.fin (by have q9 := g63_4; rw [show v125.toInt = 3 by omega] at q9; exact q9) pl2 (by omega)), (by rw [opS_codes.2.1, ← cl2]; exact JcU.fin (by have q9 := g63_5; rw [show v125.toInt = 3 by omega] at q9; exact q9))⟩, by omega, by omega⟩) (by omega) (by omega)
                · refine lv_aload_n hx hb dX12_unitProduct_68 rfl (lv_at hl 2 rfl) ?_
                  refine r_get C hw (hsh 49 _ rfl) fl_X12_127 (oV_r rfl (hrm (49, 36, 74) (by decide))) dX12_unitProduct_69 ?_
                  refine lv_aload_n hx hb dX12_unitProduct_72 rfl (lv_at hl 2 rfl) ?_
                  refine r_get C hw (hsh 49 _ rfl) fl_X12_258 (oV_i rfl) dX12_unitProduct_73 (ti_c (ig126 (B + 49) 35).toInt rfl fun z129 hz129 => ?_)
                  refine lv_iconst (v := 3) hx hb dX12_unitProduct_76 (by decide) (ti_c 3 (by decide) fun z130 hz130 => ?_)
                  refine lv_isub hx hb dX12_unitProduct_77 (tc_sub fun z131 hz131 => ?_)
                  first | replace hz131 := hz131 (by omega) | clear hz131
                  refine lv_iload_n hx hb dX12_unitProduct_78 rfl (lv_at hl 0 rfl) ?_
                  refine lv_iadd hx hb dX12_unitProduct_79 (tc_add fun z132 hz132 => ?_)
                  first | replace hz132 := hz132 (by omega) | clear hz132
                  refine lv_dup2_11 hx hb dX12_unitProduct_80 rfl rfl ?_
                  refine r_iald C hw (hsh 74 _ rfl) (by omega) (by omega) dX12_unitProduct_81 (ti_c (ig126 (B + 74) z132.toInt.toNat).toInt rfl fun z133 hz133 => ?_)
                  have l9 : z133 = ucp w1 v125.toInt := i32_inj (by rw [hz133]; exact congrArg Int32.toInt (JnM.l jn9 (by omega) (by omega) (by omega)))
                  refine lv_iload_n hx hb dX12_unitProduct_82 rfl (lv_at hl 1 rfl) ?_
                  refine lv_aload_n hx hb dX12_unitProduct_83 rfl (lv_at hl 2 rfl) ?_
                  refine r_get C hw (hsh 49 _ rfl) fl_X12_127 (oV_r rfl (hrm (49, 36, 74) (by decide))) dX12_unitProduct_84 ?_
                  refine lv_aload_n hx hb dX12_unitProduct_87 rfl (lv_at hl 2 rfl) ?_
                  refine r_get C hw (hsh 49 _ rfl) fl_X12_258 (oV_i rfl) dX12_unitProduct_88 (ti_c (ig126 (B + 49) 35).toInt rfl fun z135 hz135 => ?_)
                  refine lv_iload_n hx hb dX12_unitProduct_91 rfl (lv_at hl 0 rfl) ?_
                  refine lv_iadd hx hb dX12_unitProduct_92 (tc_add fun z136 hz136 => ?_)
                  first | replace hz136 := hz136 (by omega) | clear hz136
                  refine r_iald C hw (hsh 74 _ rfl) (by omega) (by omega) dX12_unitProduct_93 (ti_c (ig126 (B + 74) z136.toInt.toNat).toInt rfl fun z137 hz137 => ?_)
                  have r9 : z137 = ucp w2 v125.toInt := i32_inj (by rw [hz137]; exact congrArg Int32.toInt (JnM.r jn9 (by omega) (by omega) (by omega)))
                  refine lv_imul hx hb dX12_unitProduct_94 (lv_topi fun z139 hz139 => ?_)
                  refine lv_iadd hx hb dX12_unitProduct_95 (lv_topi fun z140 hz140 => ?_)
                  refine r_iast C hw (hsh 74 _ rfl) (by omega) (by omega) dX12_unitProduct_96 (fun H locs hH hw => ?_)
                  obtain ⟨ig141, eig141⟩ : ∃ f, f = up2 ig126 (B + 74) z132.toInt.toNat z140 := ⟨_, rfl⟩
                  rw [← eig141] at hw
                  have hF : Ft B [49, 74] ig lg ig141 lg127 := by rw [eig141]; exact hF.pi (by decide)
                  have hI : IM τ φ υ B kd ig141 rg := by rw [eig141]; exact hI.pi (by decide) (show okR none _ from trivial)
                  have wig141_49_31 : (ig141 (B + 49) 31).toInt = (ig126 (B + 49) 31).toInt := by rw [eig141, up2_a (by omega)]
                  have wig141_49_32 : (ig141 (B + 49) 32).toInt = (ig126 (B + 49) 32).toInt := by rw [eig141, up2_a (by omega)]
                  have wig141_49_34 : (ig141 (B + 49) 34).toInt = (ig126 (B + 49) 34).toInt := by rw [eig141, up2_a (by omega)]
                  have wig141_49_35 : (ig141 (B + 49) 35).toInt = (ig126 (B + 49) 35).toInt := by rw [eig141, up2_a (by omega)]
                  have jn8 : JnU (B + 38) ks.length w1 w2 8 (v125.toInt + 1) ig115 ig141 := by rw [eig141]; exact JnM.step jn9 (by omega) (by omega) (by omega) (by rw [hz140, hz139, l9, r9, opU_8 rfl]; exact (mulU (by omega)).2 (by omega))
                  have jc8 : JcU w1 w2 8 (v125.toInt + 1) (czB (ig115 (B + 49) 34)) (czB (ig141 (B + 49) 34)) := by rw [show ig141 (B + 49) 34 = ig126 (B + 49) 34 by rw [eig141, up2_a (by omega)]]; exact JcU.mul jc9 (by omega)
                  refine tc_inc hx hb dX12_unitProduct_97 hl (k := 0) rfl (by decide) (by decide) (fun z142 hz142 ls hl => ?_)
                  first | replace hz142 := hz142 (by omega) | clear hz142
                  have hl : lv_has ls 3 [(2, .int z142), (1, .int z109), (0, .ref (B + 49))] := hl
                  refine lv_goto (tgt := 63) hx hb dX12_unitProduct_100 (by decide) ?_
                  exact ih63 ls H locs ig141 lg127 z142 (lv_sub hl [0, 1, 2] rfl) hw hI hF (by omega) (by omega) (by omega) (by omega) (by rw [show z142.toInt = v125.toInt + 1 by omega]; exact jn8) (by rw [show z142.toInt = v125.toInt + 1 by omega]; exact jc8) (by omega)
            exact L63 ((3 - z124.toInt) + 1).toNat ls H locs ig123 lg117 z124 (lv_sub hl [0, 1, 2] rfl) hw hI hF (by omega) (by omega) (by omega) (by omega) ((by rw [show z124.toInt = 0 by omega]; exact PlU.jn pl2 (fun j9 => by rw [eig123, up2_a (by omega)]))) ((by rw [show z124.toInt = 0 by omega, show ig123 (B + 49) 34 = ig115 (B + 49) 34 by rw [eig123, up2_j (by decide)]]; exact JcU.zero)) (by omega)
          · refine lv_iconst (v := 1) hx hb dX12_unitProduct_31 (by decide) (ti_c 1 (by decide) fun z143 hz143 => ?_)
            refine lv_goto (tgt := 36) hx hb dX12_unitProduct_32 (by decide) ?_
            refine lv_istore_n (lv' := [(1, .int z143), (0, .ref (B + 49))]) hx hb dX12_unitProduct_36 rfl hl (by decide) rfl (fun ls hl => ?_)
            refine lv_aload_n hx hb dX12_unitProduct_37 rfl (lv_at hl 1 rfl) ?_
            refine lv_dup hx hb dX12_unitProduct_38 rfl ?_
            refine r_get C hw (hsh 49 _ rfl) fl_X12_241 (oV_i rfl) dX12_unitProduct_39 (ti_c (ig7 (B + 49) 31).toInt rfl fun z144 hz144 => ?_)
            refine lv_iconst (v := 1) hx hb dX12_unitProduct_42 (by decide) (ti_c 1 (by decide) fun z145 hz145 => ?_)
            refine lv_iadd hx hb dX12_unitProduct_43 (tc_add fun z146 hz146 => ?_)
            first | replace hz146 := hz146 (by omega) | clear hz146
            refine r_puti C hw (hsh 49 _ rfl) fl_X12_241 rfl rfl rfl dX12_unitProduct_44 (fun H locs hH hw => ?_)
            obtain ⟨ig147, eig147⟩ : ∃ f, f = up2 ig7 (B + 49) 31 z146 := ⟨_, rfl⟩
            rw [← eig147] at hw
            have hF : Ft B [49, 74] ig lg ig147 lg8 := by rw [eig147]; exact hF.pi (by decide)
            have hI : IM τ φ υ B kd ig147 rg := by rw [eig147]; exact hI.pi (by decide) (show okR none _ from trivial)
            have wig147 : (ig147 (B + 49) 31).toInt = z146.toInt := by rw [eig147, up2_eq]
            have wig147_49_32 : (ig147 (B + 49) 32).toInt = (ig7 (B + 49) 32).toInt := by rw [eig147, up2_j (by decide)]
            have wig147_49_34 : (ig147 (B + 49) 34).toInt = (ig7 (B + 49) 34).toInt := by rw [eig147, up2_j (by decide)]
            have wig147_49_35 : (ig147 (B + 49) 35).toInt = (ig7 (B + 49) 35).toInt := by rw [eig147, up2_j (by decide)]
            refine lv_aload_n hx hb dX12_unitProduct_47 rfl (lv_at hl 1 rfl) ?_
            refine r_callV (As := []) (rest := []) C hw (hP9 kd ig147 rg lg8 _  σ q n8 (m1 + 1) m2 R vv ee uu y2 (w1 :: ks) (hG.ft hF) (hV.ft hF) hp2 (by omega) (by omega) (by omega) (pl1.ag (by omega) (fun j9 => by rw [eig147, up2_a (by omega)])) (by rw [List.length_cons]; omega) hI) sv_X12_293 (hsh 49 _ rfl) rfl hl.1 rfl (Nat.le_of_ble_eq_true rfl) ⟨by simp only [rL]; omega, by simp only [rL]; omega⟩ ⟨Nat.le_of_ble_eq_true rfl, Nat.le_of_ble_eq_true rfl⟩ dX12_unitProduct_48 (fun r152 kd148 ig149 rg150 lg151 H locs hw hH hp153 => ?_)
            obtain ⟨rfl, rfl, hI, hchp153, hrhp153⟩ := hp153
            have hF : Ft B [49, 74] ig lg ig149 lg151 := Ft.tr hF hchp153 (by decide) (by decide)
            obtain ⟨rfl, hvhp153⟩ := hrhp153
            have rv3 := hvhp153.1
            obtain ⟨w2, c2, uv2, pl2, cl2⟩ := hvhp153.2
            rw [show ig147 (B + 49) 34 = ig7 (B + 49) 34 by rw [eig147, up2_j (by decide)], cl1] at uv2
            have pt2 := pl2.1
            rw [List.length_cons, List.length_cons] at pt2
            refine lv_aload_n hx hb dX12_unitProduct_51 rfl (lv_at hl 1 rfl) ?_
            refine lv_dup hx hb dX12_unitProduct_52 rfl ?_
            refine r_get C hw (hsh 49 _ rfl) fl_X12_258 (oV_i rfl) dX12_unitProduct_53 (ti_c (ig149 (B + 49) 35).toInt rfl fun z154 hz154 => ?_)
            refine lv_iconst (v := 3) hx hb dX12_unitProduct_56 (by decide) (ti_c 3 (by decide) fun z155 hz155 => ?_)
            refine lv_isub hx hb dX12_unitProduct_57 (tc_sub fun z156 hz156 => ?_)
            first | replace hz156 := hz156 (by omega) | clear hz156
            refine r_puti C hw (hsh 49 _ rfl) fl_X12_258 rfl rfl rfl dX12_unitProduct_58 (fun H locs hH hw => ?_)
            obtain ⟨ig157, eig157⟩ : ∃ f, f = up2 ig149 (B + 49) 35 z156 := ⟨_, rfl⟩
            rw [← eig157] at hw
            have hF : Ft B [49, 74] ig lg ig157 lg151 := by rw [eig157]; exact hF.pi (by decide)
            have hI : IM τ φ υ B kd ig157 rg := by rw [eig157]; exact hI.pi (by decide) (show okR none _ from trivial)
            have wig157_49_31 : (ig157 (B + 49) 31).toInt = (ig149 (B + 49) 31).toInt := by rw [eig157, up2_j (by decide)]
            have wig157_49_32 : (ig157 (B + 49) 32).toInt = (ig149 (B + 49) 32).toInt := by rw [eig157, up2_j (by decide)]
            have wig157_49_34 : (ig157 (B + 49) 34).toInt = (ig149 (B + 49) 34).toInt := by rw [eig157, up2_j (by decide)]
            have wig157 : (ig157 (B + 49) 35).toInt = z156.toInt := by rw [eig157, up2_eq]
            refine lv_iconst (v := 0) hx hb dX12_unitProduct_61 (by decide) (ti_c 0 (by decide) fun z158 hz158 => ?_)
            refine lv_istore_n (lv' := [(2, .int z158), (1, .int z143), (0, .ref (B + 49))]) hx hb dX12_unitProduct_62 rfl hl (by decide) rfl (fun ls hl => ?_)
            have L63 : ∀ (n : Nat) (ls : Array Slot) (H : Heap) (locs : List Loc) (ig160 : sI) (lg161 : sG) (v159 : Int32), lv_has ls 3 [(2, .int v159), (1, .int z143), (0, .ref (B + 49))] → WD B D cA s.heap kd ig160 rg lg161 H locs → IM τ φ υ B kd ig160 rg → Ft B [49, 74] ig lg ig160 lg161 → (0 ≤ v159.toInt) → (v159.toInt ≤ 3) → ((ig160 (B + 49) 31).toInt = 120 * (q : Int) + (m2 : Int) ∧ (ig160 (B + 49) 32).toInt = 120 * (q : Int) + (n8 : Int)) → ((ig160 (B + 49) 35).toInt = 3 * (ks.length : Int) + 3) → (JnU (B + 38) ks.length w1 w2 7 v159.toInt ig149 ig160) → (JcU w1 w2 7 v159.toInt (czB (ig149 (B + 49) 34)) (czB (ig160 (B + 49) 34))) → 3 - v159.toInt < (n : Int) → W p l e (rL (3 * d + 4) 0 0) s m args below meth c H locs 0 0 (MQ below (QcW B D cA (PM τ φ υ B [49, 74] kd ig rg lg (fun r ig' lg' => (r = none ∧ (((ig' (B + 49) 31).toInt = 120 * (q : Int) + (b : Int) ∧ (ig' (B + 49) 32).toInt = (ig (B + 49) 32).toInt) ∧ ∃ (w8 : Un) (c8 : Bool), UvP σ uu (q : Int) X9 (czB (ig (B + 49) 34)) w8 c8 ∧ PlU B (w8 :: ks) ig' ∧ (czB (ig' (B + 49) 34)) = c8))))) args s 0 0 (fun q => B ≤ q)) (F0 m 63 ls []) := by
              intro n63
              induction n63 with
              | zero => intro ls H locs ig160 lg161 v159 hl hw hI hF g63_0 g63_1 g63_2 g63_3 g63_4 g63_5 hmu; exact absurd hmu (by omega)
              | succ n63 ih63 =>
                intro ls H locs ig160 lg161 v159 hl hw hI hF g63_0 g63_1 g63_2 g63_3 g63_4 g63_5 hmu
                have jn9 := g63_4
                have jc9 := g63_5
                refine lv_iload_n hx hb dX12_unitProduct_63 rfl (lv_at hl 0 rfl) ?_
                refine lv_iconst (v := 3) hx hb dX12_unitProduct_64 (by decide) (ti_c 3 (by decide) fun z162 hz162 => ?_)
                refine b_ge (tgt := 103) hx hb dX12_unitProduct_65 (by decide) (fun c65 => ?_) (fun c65 => ?_)
                · refine lv_goto (tgt := 4) hx hb dX12_unitProduct_103 (by decide) ?_
                  exact ih4 ls H locs ig160 lg161 (lv_sub hl [2] rfl) hw hI hF (absurd t9 (by omega)) (by omega) (by omega)
                · refine lv_aload_n hx hb dX12_unitProduct_68 rfl (lv_at hl 2 rfl) ?_
                  refine r_get C hw (hsh 49 _ rfl) fl_X12_127 (oV_r rfl (hrm (49, 36, 74) (by decide))) dX12_unitProduct_69 ?_
                  refine lv_aload_n hx hb dX12_unitProduct_72 rfl (lv_at hl 2 rfl) ?_
                  refine r_get C hw (hsh 49 _ rfl) fl_X12_258 (oV_i rfl) dX12_unitProduct_73 (ti_c (ig160 (B + 49) 35).toInt rfl fun z163 hz163 => ?_)
                  refine lv_iconst (v := 3) hx hb dX12_unitProduct_76 (by decide) (ti_c 3 (by decide) fun z164 hz164 => ?_)
                  refine lv_isub hx hb dX12_unitProduct_77 (tc_sub fun z165 hz165 => ?_)
                  first | replace hz165 := hz165 (by omega) | clear hz165
                  refine lv_iload_n hx hb dX12_unitProduct_78 rfl (lv_at hl 0 rfl) ?_
                  refine lv_iadd hx hb dX12_unitProduct_79 (tc_add fun z166 hz166 => ?_)
                  first | replace hz166 := hz166 (by omega) | clear hz166
                  refine lv_dup2_11 hx hb dX12_unitProduct_80 rfl rfl ?_
                  refine r_iald C hw (hsh 74 _ rfl) (by omega) (by omega) dX12_unitProduct_81 (ti_c (ig160 (B + 74) z166.toInt.toNat).toInt rfl fun z167 hz167 => ?_)
                  have l9 : z167 = ucp w1 v159.toInt := i32_inj (by rw [hz167]; exact congrArg Int32.toInt (JnM.l jn9 (by omega) (by omega) (by omega)))
                  refine lv_iload_n hx hb dX12_unitProduct_82 rfl (lv_at hl 1 rfl) ?_
                  refine lv_aload_n hx hb dX12_unitProduct_83 rfl (lv_at hl 2 rfl) ?_
                  refine r_get C hw (hsh 49 _ rfl) fl_X12_127 (oV_r rfl (hrm (49, 36, 74) (by decide))) dX12_unitProduct_84 ?_
                  refine lv_aload_n hx hb dX12_unitProduct_87 rfl (lv_at hl 2 rfl) ?_
                  refine r_get C hw (hsh 49 _ rfl) fl_X12_258 (oV_i rfl) dX12_unitProduct_88 (ti_c (ig160 (B + 49) 35).toInt rfl fun z169 hz169 => ?_)
                  refine lv_iload_n hx hb dX12_unitProduct_91 rfl (lv_at hl 0 rfl) ?_
                  refine lv_iadd hx hb dX12_unitProduct_92 (tc_add fun z170 hz170 => ?_)
                  first | replace hz170 := hz170 (by omega) | clear hz170
                  refine r_iald C hw (hsh 74 _ rfl) (by omega) (by omega) dX12_unitProduct_93 (ti_c (ig160 (B + 74) z170.toInt.toNat).toInt rfl fun z171 hz171 => ?_)
                  have r9 : z171 = ucp w2 v159.toInt := i32_inj (by rw [hz171]; exact congrArg Int32.toInt (JnM.r jn9 (by omega) (by omega) (by omega)))
                  refine lv_imul hx hb dX12_unitProduct_94 (lv_topi fun z173 hz173 => ?_)
                  refine lv_iadd hx hb dX12_unitProduct_95 (lv_topi fun z174 hz174 => ?_)
                  refine r_iast C hw (hsh 74 _ rfl) (by omega) (by omega) dX12_unitProduct_96 (fun H locs hH hw => ?_)
                  obtain ⟨ig175, eig175⟩ : ∃ f, f = up2 ig160 (B + 74) z166.toInt.toNat z174 := ⟨_, rfl⟩
                  rw [← eig175] at hw
                  have hF : Ft B [49, 74] ig lg ig175 lg161 := by rw [eig175]; exact hF.pi (by decide)
                  have hI : IM τ φ υ B kd ig175 rg := by rw [eig175]; exact hI.pi (by decide) (show okR none _ from trivial)
                  have wig175_49_31 : (ig175 (B + 49) 31).toInt = (ig160 (B + 49) 31).toInt := by rw [eig175, up2_a (by omega)]
                  have wig175_49_32 : (ig175 (B + 49) 32).toInt = (ig160 (B + 49) 32).toInt := by rw [eig175, up2_a (by omega)]
                  have wig175_49_34 : (ig175 (B + 49) 34).toInt = (ig160 (B + 49) 34).toInt := by rw [eig175, up2_a (by omega)]
                  have wig175_49_35 : (ig175 (B + 49) 35).toInt = (ig160 (B + 49) 35).toInt := by rw [eig175, up2_a (by omega)]
                  have jn8 : JnU (B + 38) ks.length w1 w2 7 (v159.toInt + 1) ig149 ig175 := by rw [eig175]; exact JnM.step jn9 (by omega) (by omega) (by omega) (by rw [hz174, hz173, l9, r9, opU_7 rfl]; exact (mulU (by omega)).1 (by omega))
                  have jc8 : JcU w1 w2 7 (v159.toInt + 1) (czB (ig149 (B + 49) 34)) (czB (ig175 (B + 49) 34)) := by rw [show ig175 (B + 49) 34 = ig160 (B + 49) 34 by rw [eig175, up2_a (by omega)]]; exact JcU.mul jc9 (by omega)
                  refine tc_inc hx hb dX12_unitProduct_97 hl (k := 0) rfl (by decide) (by decide) (fun z176 hz176 ls hl => ?_)
                  first | replace hz176 := hz176 (by omega) | clear hz176
                  have hl : lv_has ls 3 [(2, .int z176), (1, .int z143), (0, .ref (B + 49))] := hl
                  refine lv_goto (tgt := 63) hx hb dX12_unitProduct_100 (by decide) ?_
                  exact ih63 ls H locs ig175 lg161 z176 (lv_sub hl [0, 1, 2] rfl) hw hI hF (by omega) (by omega) (by omega) (by omega) (by rw [show z176.toInt = v159.toInt + 1 by omega]; exact jn8) (by rw [show z176.toInt = v159.toInt + 1 by omega]; exact jc8) (by omega)
            exact L63 ((3 - z158.toInt) + 1).toNat ls H locs ig157 lg151 z158 (lv_sub hl [0, 1, 2] rfl) hw hI hF (by omega) (by omega) (by omega) (by omega) ((by rw [show z158.toInt = 0 by omega]; exact PlU.jn pl2 (fun j9 => by rw [eig157, up2_a (by omega)]))) ((by rw [show z158.toInt = 0 by omega, show ig157 (B + 49) 34 = ig149 (B + 49) 34 by rw [eig157, up2_j (by decide)]]; exact JcU.zero)) (by omega)
  exact L4 ((120 * (q : Int) + (b : Int) - (ig2 (B + 49) 31).toInt) + 1).toNat ls H locs ig2 lg4 (lv_sub hl [0] rfl) hw hI hF (⟨n0, m0, y0, w0, c0, by omega, hc0, uv0, ⟨pl0, cl0⟩, by omega, by omega⟩) (by omega) (by omega)

set_option maxHeartbeats 4000000 in
set_option maxRecDepth 100000 in
theorem t_X12_unitEU {υ : Option Int} {τ : Tp} {φ : Option Int} (l : Launch) (B : Nat) (D : va_G) (cA : Nat → ClassId) (kd : sK) (ig : sI) (rg : sR) (lg : sG) (sz : Nat) (σ : Sg) (d q n8 a b : Nat) (R : Rw) (vv ee : Vl) (uu : Us) (X9 : Fm) (ks : List Un) (hQ9 : RXunitProductU τ φ υ l B D cA d) (hG : GoS B q n8 R vv ee ig) (hV : GoU B σ uu ig) (hP : iE R d a b X9) (hbn : b ≤ n8) (hgo : (ig (B + 49) 31).toInt = 120 * (q : Int) + (a : Int)) (hen : (ig (B + 49) 32).toInt = 120 * (q : Int) + (n8 : Int)) (hks : PlU B ks ig) (hkl : ks.length + 2 * d + 3 ≤ 30) (hI : IM τ φ υ B kd ig rg) : MC l B D cA yX12_unitE cX12_unitE 2 none (rL (3 * d + 5) 0 0) [.ref (B + 49)] kd ig rg lg sz (PM τ φ υ B [49, 74] kd ig rg lg (fun r ig' lg' => (r = none ∧ (((ig' (B + 49) 31).toInt = 120 * (q : Int) + (b : Int) ∧ (ig' (B + 49) 32).toInt = (ig (B + 49) 32).toInt) ∧ ∃ (w8 : Un) (c8 : Bool), UvP σ uu (q : Int) X9 (czB (ig (B + 49) 34)) w8 c8 ∧ PlU B (w8 :: ks) ig' ∧ (czB (ig' (B + 49) 34)) = c8)))) := by
  refine MC.of (own := RX12) (by decide +kernel) rfl (Nat.le_of_ble_eq_true rfl) ?_
  intro p e s m args below meth c ls C hr hlk hnm hw hsz hl
  have hx := C.1.1
  have hb := C.1.2.1
  have hown := C.1.2.2.2.1
  have hts := C.1.2.2.2.2
  have hl : lv_has ls 2 [(0, .ref (B + 49))] := hl
  have hF : Ft B [49, 74] ig lg ig lg := Ft.rf
  have hsh := hI.sh
  have hrm := hI.rm
  obtain ⟨n0, m0, y0, hp0, hc0⟩ := hP
  have lt0 := iPd.lt hp0
  have le0 := hCt.le (fun _ _ _ w => iPd.lt w) _ _ _ _ _ hc0
  have hq9 := hG.2.2.2.1
  refine lv_aload_n hx hb dX12_unitE_0 rfl (lv_at hl 0 rfl) ?_
  refine r_callV (As := []) (rest := []) C hw (hQ9 kd ig rg lg _  σ q n8 a m0 R vv ee uu y0 ks (hG.ft hF) (hV.ft hF) hp0 (by omega) (by omega) (by omega) hks (by omega) hI) sv_X12_290 (hsh 49 _ rfl) rfl hl.1 rfl (Nat.le_of_ble_eq_true rfl) ⟨by simp only [rL]; omega, by simp only [rL]; omega⟩ ⟨Nat.le_of_ble_eq_true rfl, Nat.le_of_ble_eq_true rfl⟩ dX12_unitE_1 (fun r5 kd1 ig2 rg3 lg4 H locs hw hH hp6 => ?_)
  obtain ⟨rfl, rfl, hI, hchp6, hrhp6⟩ := hp6
  have hF : Ft B [49, 74] ig lg ig2 lg4 := Ft.tr hF hchp6 (by decide) (by decide)
  obtain ⟨rfl, hvhp6⟩ := hrhp6
  have rv0 := hvhp6.1
  obtain ⟨w0, c0, uv0, pl0, cl0⟩ := hvhp6.2
  have L4 : ∀ (n : Nat) (ls : Array Slot) (H : Heap) (locs : List Loc) (ig7 : sI) (lg8 : sG) , lv_has ls 2 [(0, .ref (B + 49))] → WD B D cA s.heap kd ig7 rg lg8 H locs → IM τ φ υ B kd ig7 rg → Ft B [49, 74] ig lg ig7 lg8 → (∃ (k m1 : Nat) (acc : Fm) (w1 : Un) (c1 : Bool), (ig7 (B + 49) 31).toInt = 120 * (q : Int) + (m1 : Int) ∧ hCt (iPd R d) (hAd (iS R)) k acc m1 b X9 ∧ UvP σ uu (q : Int) acc (czB (ig (B + 49) 34)) w1 c1 ∧ (PlU B (w1 :: ks) ig7 ∧ (czB (ig7 (B + 49) 34)) = c1) ∧ a < m1 ∧ m1 ≤ b) → ((ig7 (B + 49) 32).toInt = 120 * (q : Int) + (n8 : Int)) → 120 * (q : Int) + (b : Int) - (ig7 (B + 49) 31).toInt < (n : Int) → W p l e (rL (3 * d + 5) 0 0) s m args below meth c H locs 0 0 (MQ below (QcW B D cA (PM τ φ υ B [49, 74] kd ig rg lg (fun r ig' lg' => (r = none ∧ (((ig' (B + 49) 31).toInt = 120 * (q : Int) + (b : Int) ∧ (ig' (B + 49) 32).toInt = (ig (B + 49) 32).toInt) ∧ ∃ (w8 : Un) (c8 : Bool), UvP σ uu (q : Int) X9 (czB (ig (B + 49) 34)) w8 c8 ∧ PlU B (w8 :: ks) ig' ∧ (czB (ig' (B + 49) 34)) = c8))))) args s 0 0 (fun q => B ≤ q)) (F0 m 4 ls []) := by
    intro n4
    induction n4 with
    | zero => intro ls H locs ig7 lg8 hl hw hI hF g4_0 g4_1 hmu; exact absurd hmu (by omega)
    | succ n4 ih4 =>
      intro ls H locs ig7 lg8 hl hw hI hF g4_0 g4_1 hmu
      obtain ⟨k9, m1, acc, w1, c1, hgm, hct, hev, ⟨pl1, cl1⟩, hm1, hm2⟩ := g4_0
      have pt1 := pl1.1
      rw [List.length_cons] at pt1
      have hGn := hG.ft hF
      refine lv_aload_n hx hb dX12_unitE_4 rfl (lv_at hl 0 rfl) ?_
      refine lv_bipush (v := 43) hx hb dX12_unitE_5 (by decide) (ti_c 43 (by decide) fun z9 hz9 => ?_)
      refine r_callV (As := [.int z9]) (rest := []) C hw (t_X12_isNext l B D cA kd ig7 rg lg8 _ z9 (by omega) hI) sv_X12_273 (hsh 49 _ rfl) rfl hl.1 rfl (Nat.le_of_ble_eq_true rfl) ⟨by simp only [rL]; omega, by simp only [rL]; omega⟩ ⟨Nat.le_of_ble_eq_true rfl, Nat.le_of_ble_eq_true rfl⟩ dX12_unitE_7 (fun r14 kd10 ig11 rg12 lg13 H locs hw hH hp15 => ?_)
      obtain ⟨rfl, rfl, rfl, rfl, hzhp15, hrhp15⟩ := hp15
      obtain ⟨z16, rfl, hz16⟩ := hrhp15
      have na9 := GoS.nc (o := 43) (a := m1) hGn (by omega) (by omega) (by omega) hz9 hz16
      refine z_ne (tgt := 22) hx hb dX12_unitE_10 (by decide) (fun c10 => ?_) (fun c10 => ?_)
      · have hs9 : R m1 = (1, 43) := by1 na9 (by omega)
        have hcm := hCt.on hct (fun _ _ => ad_d) (o := 43) ⟨hs9, Or.inl rfl⟩
        obtain ⟨k1, m2, y2, hp2, hc2⟩ := hcm
        have lt2 := iPd.lt hp2
        have le2 := hCt.le (fun _ _ _ w => iPd.lt w) _ _ _ _ _ hc2
        refine lv_aload_n hx hb dX12_unitE_22 rfl (lv_at hl 0 rfl) ?_
        refine lv_dup hx hb dX12_unitE_23 rfl ?_
        refine r_get C hw (hsh 49 _ rfl) fl_X12_241 (oV_i rfl) dX12_unitE_24 (ti_c (ig7 (B + 49) 31).toInt rfl fun z17 hz17 => ?_)
        refine lv_iconst (v := 1) hx hb dX12_unitE_27 (by decide) (ti_c 1 (by decide) fun z18 hz18 => ?_)
        refine lv_iadd hx hb dX12_unitE_28 (tc_add fun z19 hz19 => ?_)
        first | replace hz19 := hz19 (by omega) | clear hz19
        refine r_puti C hw (hsh 49 _ rfl) fl_X12_241 rfl rfl rfl dX12_unitE_29 (fun H locs hH hw => ?_)
        obtain ⟨ig20, eig20⟩ : ∃ f, f = up2 ig7 (B + 49) 31 z19 := ⟨_, rfl⟩
        rw [← eig20] at hw
        have hF : Ft B [49, 74] ig lg ig20 lg8 := by rw [eig20]; exact hF.pi (by decide)
        have hI : IM τ φ υ B kd ig20 rg := by rw [eig20]; exact hI.pi (by decide) (show okR none _ from trivial)
        have wig20 : (ig20 (B + 49) 31).toInt = z19.toInt := by rw [eig20, up2_eq]
        have wig20_49_32 : (ig20 (B + 49) 32).toInt = (ig7 (B + 49) 32).toInt := by rw [eig20, up2_j (by decide)]
        have wig20_49_34 : (ig20 (B + 49) 34).toInt = (ig7 (B + 49) 34).toInt := by rw [eig20, up2_j (by decide)]
        have wig20_49_35 : (ig20 (B + 49) 35).toInt = (ig7 (B + 49) 35).toInt := by rw [eig20, up2_j (by decide)]
        refine lv_aload_n hx hb dX12_unitE_32 rfl (lv_at hl 0 rfl) ?_
        refine r_callV (As := []) (rest := []) C hw (hQ9 kd ig20 rg lg8 _  σ q n8 (m1 + 1) m2 R vv ee uu y2 (w1 :: ks) (hG.ft hF) (hV.ft hF) hp2 (by omega) (by omega) (by omega) (pl1.ag (by omega) (fun j9 => by rw [eig20, up2_a (by omega)])) (by rw [List.length_cons]; omega) hI) sv_X12_290 (hsh 49 _ rfl) rfl hl.1 rfl (Nat.le_of_ble_eq_true rfl) ⟨by simp only [rL]; omega, by simp only [rL]; omega⟩ ⟨Nat.le_of_ble_eq_true rfl, Nat.le_of_ble_eq_true rfl⟩ dX12_unitE_33 (fun r25 kd21 ig22 rg23 lg24 H locs hw hH hp26 => ?_)
        obtain ⟨rfl, rfl, hI, hchp26, hrhp26⟩ := hp26
        have hF : Ft B [49, 74] ig lg ig22 lg24 := Ft.tr hF hchp26 (by decide) (by decide)
        obtain ⟨rfl, hvhp26⟩ := hrhp26
        have rv3 := hvhp26.1
        obtain ⟨w2, c2, uv2, pl2, cl2⟩ := hvhp26.2
        rw [show ig20 (B + 49) 34 = ig7 (B + 49) 34 by rw [eig20, up2_j (by decide)], cl1] at uv2
        have pt2 := pl2.1
        rw [List.length_cons, List.length_cons] at pt2
        refine lv_aload_n hx hb dX12_unitE_36 rfl (lv_at hl 0 rfl) ?_
        refine lv_dup hx hb dX12_unitE_37 rfl ?_
        refine r_get C hw (hsh 49 _ rfl) fl_X12_258 (oV_i rfl) dX12_unitE_38 (ti_c (ig22 (B + 49) 35).toInt rfl fun z27 hz27 => ?_)
        refine lv_iconst (v := 3) hx hb dX12_unitE_41 (by decide) (ti_c 3 (by decide) fun z28 hz28 => ?_)
        refine lv_isub hx hb dX12_unitE_42 (tc_sub fun z29 hz29 => ?_)
        first | replace hz29 := hz29 (by omega) | clear hz29
        refine r_puti C hw (hsh 49 _ rfl) fl_X12_258 rfl rfl rfl dX12_unitE_43 (fun H locs hH hw => ?_)
        obtain ⟨ig30, eig30⟩ : ∃ f, f = up2 ig22 (B + 49) 35 z29 := ⟨_, rfl⟩
        rw [← eig30] at hw
        have hF : Ft B [49, 74] ig lg ig30 lg24 := by rw [eig30]; exact hF.pi (by decide)
        have hI : IM τ φ υ B kd ig30 rg := by rw [eig30]; exact hI.pi (by decide) (show okR none _ from trivial)
        have wig30_49_31 : (ig30 (B + 49) 31).toInt = (ig22 (B + 49) 31).toInt := by rw [eig30, up2_j (by decide)]
        have wig30_49_32 : (ig30 (B + 49) 32).toInt = (ig22 (B + 49) 32).toInt := by rw [eig30, up2_j (by decide)]
        have wig30_49_34 : (ig30 (B + 49) 34).toInt = (ig22 (B + 49) 34).toInt := by rw [eig30, up2_j (by decide)]
        have wig30 : (ig30 (B + 49) 35).toInt = z29.toInt := by rw [eig30, up2_eq]
        refine lv_iconst (v := 0) hx hb dX12_unitE_46 (by decide) (ti_c 0 (by decide) fun z31 hz31 => ?_)
        refine lv_istore_n (lv' := [(1, .int z31), (0, .ref (B + 49))]) hx hb dX12_unitE_47 rfl hl (by decide) rfl (fun ls hl => ?_)
        have L48 : ∀ (n : Nat) (ls : Array Slot) (H : Heap) (locs : List Loc) (ig33 : sI) (lg34 : sG) (v32 : Int32), lv_has ls 2 [(1, .int v32), (0, .ref (B + 49))] → WD B D cA s.heap kd ig33 rg lg34 H locs → IM τ φ υ B kd ig33 rg → Ft B [49, 74] ig lg ig33 lg34 → (0 ≤ v32.toInt) → (v32.toInt ≤ 3) → ((ig33 (B + 49) 31).toInt = 120 * (q : Int) + (m2 : Int) ∧ (ig33 (B + 49) 32).toInt = 120 * (q : Int) + (n8 : Int)) → ((ig33 (B + 49) 35).toInt = 3 * (ks.length : Int) + 3) → (JnU (B + 38) ks.length w1 w2 5 v32.toInt ig22 ig33) → (JcU w1 w2 5 v32.toInt (czB (ig22 (B + 49) 34)) (czB (ig33 (B + 49) 34))) → 3 - v32.toInt < (n : Int) → W p l e (rL (3 * d + 5) 0 0) s m args below meth c H locs 0 0 (MQ below (QcW B D cA (PM τ φ υ B [49, 74] kd ig rg lg (fun r ig' lg' => (r = none ∧ (((ig' (B + 49) 31).toInt = 120 * (q : Int) + (b : Int) ∧ (ig' (B + 49) 32).toInt = (ig (B + 49) 32).toInt) ∧ ∃ (w8 : Un) (c8 : Bool), UvP σ uu (q : Int) X9 (czB (ig (B + 49) 34)) w8 c8 ∧ PlU B (w8 :: ks) ig' ∧ (czB (ig' (B + 49) 34)) = c8))))) args s 0 0 (fun q => B ≤ q)) (F0 m 48 ls []) := by
          intro n48
          induction n48 with
          | zero => intro ls H locs ig33 lg34 v32 hl hw hI hF g48_0 g48_1 g48_2 g48_3 g48_4 g48_5 hmu; exact absurd hmu (by omega)
          | succ n48 ih48 =>
            intro ls H locs ig33 lg34 v32 hl hw hI hF g48_0 g48_1 g48_2 g48_3 g48_4 g48_5 hmu
            have jn9 := g48_4
            have jc9 := g48_5
            refine lv_iload_n hx hb dX12_unitE_48 rfl (lv_at hl 0 rfl) ?_
            refine lv_iconst (v := 3) hx hb dX12_unitE_49 (by decide) (ti_c 3 (by decide) fun z35 hz35 => ?_)
            refine b_ge (tgt := 102) hx hb dX12_unitE_50 (by decide) (fun c50 => ?_) (fun c50 => ?_)
            · refine lv_goto (tgt := 4) hx hb dX12_unitE_102 (by decide) ?_
              exact ih4 ls H locs ig33 lg34 (lv_sub hl [1] rfl) hw hI hF (⟨k1, m2, acc ++ (y2 ++ [(opS 43, 0, 0)]), opU (opS 43) w1 w2, opC (opS 43) w1 w2 c2, by omega, hc2, UvP.turn hev uv2, ⟨(by rw [opS_codes.2.2.1]; exact JnM.fin (by have q9 := g48_4; rw [show v32.toInt = 3 by omega] at q9; exact q9) pl2 (by omega)), (by rw [opS_codes.2.2.1, ← cl2]; exact JcU.fin (by have q9 := g48_5; rw [show v32.toInt = 3 by omega] at q9; exact q9))⟩, by omega, by omega⟩) (by omega) (by omega)
            · refine lv_aload_n hx hb dX12_unitE_53 rfl (lv_at hl 1 rfl) ?_
              refine lv_aload_n hx hb dX12_unitE_54 rfl (lv_at hl 1 rfl) ?_
              refine r_get C hw (hsh 49 _ rfl) fl_X12_254 (oV_i rfl) dX12_unitE_55 (ti_c (ig33 (B + 49) 34).toInt rfl fun z36 hz36 => ?_)
              have k37 : 0 ≤ (ig33 (B + 49) 34).toInt ∧ (ig33 (B + 49) 34).toInt ≤ 1 := hI.i 49 34 (by decide) (by decide)
              refine z_ne (tgt := 88) hx hb dX12_unitE_58 (by decide) (fun c58 => ?_) (fun c58 => ?_)
              · refine lv_iconst (v := 1) hx hb dX12_unitE_88 (by decide) (ti_c 1 (by decide) fun z38 hz38 => ?_)
                refine lv_goto (tgt := 93) hx hb dX12_unitE_89 (by decide) ?_
                refine r_puti C hw (hsh 49 _ rfl) fl_X12_254 rfl (nar_b (by omega)) (fit_b (by omega)) dX12_unitE_93 (fun H locs hH hw => ?_)
                obtain ⟨ig39, eig39⟩ : ∃ f, f = up2 ig33 (B + 49) 34 z38 := ⟨_, rfl⟩
                rw [← eig39] at hw
                have hF : Ft B [49, 74] ig lg ig39 lg34 := by rw [eig39]; exact hF.pi (by decide)
                have hI : IM τ φ υ B kd ig39 rg := by rw [eig39]; exact hI.pi (by decide) (show okR (some (0, 1)) _ from ⟨by show (0 : Int) ≤ _; omega, by show _ ≤ (1 : Int); omega⟩)
                have wig39_49_31 : (ig39 (B + 49) 31).toInt = (ig33 (B + 49) 31).toInt := by rw [eig39, up2_j (by decide)]
                have wig39_49_32 : (ig39 (B + 49) 32).toInt = (ig33 (B + 49) 32).toInt := by rw [eig39, up2_j (by decide)]
                have wig39 : (ig39 (B + 49) 34).toInt = z38.toInt := by rw [eig39, up2_eq]
                have wig39_49_35 : (ig39 (B + 49) 35).toInt = (ig33 (B + 49) 35).toInt := by rw [eig39, up2_j (by decide)]
                have jn8 : JnU (B + 38) ks.length w1 w2 5 (v32.toInt + 1) ig22 ig39 := JnM.ag (JnU.stay jn9 (by omega)) (fun j9 => by rw [eig39, up2_a (by omega)])
                have jc8 : JcU w1 w2 5 (v32.toInt + 1) (czB (ig22 (B + 49) 34)) (czB (ig39 (B + 49) 34)) := (by by_cases e9 : ucp w1 v32.toInt = ucp w2 v32.toInt; (have q9 := JcU.same jc9 (by omega) (by omega) (by omega) e9; rw [show czB (ig33 (B + 49) 34) = true from czB_1 (by omega)] at q9; rw [show czB (ig39 (B + 49) 34) = true from czB_1 (by rw [eig39, up2_eq]; omega)]; exact q9); exact JcU.diff jc9 (by omega) (by omega) (by omega) e9 (czB_1 (by rw [eig39, up2_eq]; omega)))
                refine tc_inc hx hb dX12_unitE_96 hl (k := 0) rfl (by decide) (by decide) (fun z40 hz40 ls hl => ?_)
                first | replace hz40 := hz40 (by omega) | clear hz40
                have hl : lv_has ls 2 [(1, .int z40), (0, .ref (B + 49))] := hl
                refine lv_goto (tgt := 48) hx hb dX12_unitE_99 (by decide) ?_
                exact ih48 ls H locs ig39 lg34 z40 (lv_sub hl [0, 1] rfl) hw hI hF (by omega) (by omega) (by omega) (by omega) (by rw [show z40.toInt = v32.toInt + 1 by omega]; exact jn8) (by rw [show z40.toInt = v32.toInt + 1 by omega]; exact jc8) (by omega)
              · refine lv_aload_n hx hb dX12_unitE_61 rfl (lv_at hl 1 rfl) ?_
                refine r_get C hw (hsh 49 _ rfl) fl_X12_127 (oV_r rfl (hrm (49, 36, 74) (by decide))) dX12_unitE_62 ?_
                refine lv_aload_n hx hb dX12_unitE_65 rfl (lv_at hl 1 rfl) ?_
                refine r_get C hw (hsh 49 _ rfl) fl_X12_258 (oV_i rfl) dX12_unitE_66 (ti_c (ig33 (B + 49) 35).toInt rfl fun z41 hz41 => ?_)
                refine lv_iconst (v := 3) hx hb dX12_unitE_69 (by decide) (ti_c 3 (by decide) fun z42 hz42 => ?_)
                refine lv_isub hx hb dX12_unitE_70 (tc_sub fun z43 hz43 => ?_)
                first | replace hz43 := hz43 (by omega) | clear hz43
                refine lv_iload_n hx hb dX12_unitE_71 rfl (lv_at hl 0 rfl) ?_
                refine lv_iadd hx hb dX12_unitE_72 (tc_add fun z44 hz44 => ?_)
                first | replace hz44 := hz44 (by omega) | clear hz44
                refine r_iald C hw (hsh 74 _ rfl) (by omega) (by omega) dX12_unitE_73 (ti_c (ig33 (B + 74) z44.toInt.toNat).toInt rfl fun z45 hz45 => ?_)
                have l9 : z45 = ucp w1 v32.toInt := i32_inj (by rw [hz45]; exact congrArg Int32.toInt (JnM.l jn9 (by omega) (by omega) (by omega)))
                refine lv_aload_n hx hb dX12_unitE_74 rfl (lv_at hl 1 rfl) ?_
                refine r_get C hw (hsh 49 _ rfl) fl_X12_127 (oV_r rfl (hrm (49, 36, 74) (by decide))) dX12_unitE_75 ?_
                refine lv_aload_n hx hb dX12_unitE_78 rfl (lv_at hl 1 rfl) ?_
                refine r_get C hw (hsh 49 _ rfl) fl_X12_258 (oV_i rfl) dX12_unitE_79 (ti_c (ig33 (B + 49) 35).toInt rfl fun z47 hz47 => ?_)
                refine lv_iload_n hx hb dX12_unitE_82 rfl (lv_at hl 0 rfl) ?_
                refine lv_iadd hx hb dX12_unitE_83 (tc_add fun z48 hz48 => ?_)
                first | replace hz48 := hz48 (by omega) | clear hz48
                refine r_iald C hw (hsh 74 _ rfl) (by omega) (by omega) dX12_unitE_84 (ti_c (ig33 (B + 74) z48.toInt.toNat).toInt rfl fun z49 hz49 => ?_)
                have r9 : z49 = ucp w2 v32.toInt := i32_inj (by rw [hz49]; exact congrArg Int32.toInt (JnM.r jn9 (by omega) (by omega) (by omega)))
                refine b_eq (tgt := 92) hx hb dX12_unitE_85 (by decide) (fun c85 => ?_) (fun c85 => ?_)
                · refine lv_iconst (v := 0) hx hb dX12_unitE_92 (by decide) (ti_c 0 (by decide) fun z51 hz51 => ?_)
                  refine r_puti C hw (hsh 49 _ rfl) fl_X12_254 rfl (nar_b (by omega)) (fit_b (by omega)) dX12_unitE_93 (fun H locs hH hw => ?_)
                  obtain ⟨ig52, eig52⟩ : ∃ f, f = up2 ig33 (B + 49) 34 z51 := ⟨_, rfl⟩
                  rw [← eig52] at hw
                  have hF : Ft B [49, 74] ig lg ig52 lg34 := by rw [eig52]; exact hF.pi (by decide)
                  have hI : IM τ φ υ B kd ig52 rg := by rw [eig52]; exact hI.pi (by decide) (show okR (some (0, 1)) _ from ⟨by show (0 : Int) ≤ _; omega, by show _ ≤ (1 : Int); omega⟩)
                  have wig52_49_31 : (ig52 (B + 49) 31).toInt = (ig33 (B + 49) 31).toInt := by rw [eig52, up2_j (by decide)]
                  have wig52_49_32 : (ig52 (B + 49) 32).toInt = (ig33 (B + 49) 32).toInt := by rw [eig52, up2_j (by decide)]
                  have wig52 : (ig52 (B + 49) 34).toInt = z51.toInt := by rw [eig52, up2_eq]
                  have wig52_49_35 : (ig52 (B + 49) 35).toInt = (ig33 (B + 49) 35).toInt := by rw [eig52, up2_j (by decide)]
                  have jn8 : JnU (B + 38) ks.length w1 w2 5 (v32.toInt + 1) ig22 ig52 := JnM.ag (JnU.stay jn9 (by omega)) (fun j9 => by rw [eig52, up2_a (by omega)])
                  have jc8 : JcU w1 w2 5 (v32.toInt + 1) (czB (ig22 (B + 49) 34)) (czB (ig52 (B + 49) 34)) := (by have q9 := JcU.same jc9 (by omega) (by omega) (by omega) (by rw [← l9, ← r9]; exact i32_inj (by omega)); rw [show czB (ig33 (B + 49) 34) = false from czB_0 (by omega)] at q9; rw [show czB (ig52 (B + 49) 34) = false from czB_0 (by rw [eig52, up2_eq]; omega)]; exact q9)
                  refine tc_inc hx hb dX12_unitE_96 hl (k := 0) rfl (by decide) (by decide) (fun z53 hz53 ls hl => ?_)
                  first | replace hz53 := hz53 (by omega) | clear hz53
                  have hl : lv_has ls 2 [(1, .int z53), (0, .ref (B + 49))] := hl
                  refine lv_goto (tgt := 48) hx hb dX12_unitE_99 (by decide) ?_
                  exact ih48 ls H locs ig52 lg34 z53 (lv_sub hl [0, 1] rfl) hw hI hF (by omega) (by omega) (by omega) (by omega) (by rw [show z53.toInt = v32.toInt + 1 by omega]; exact jn8) (by rw [show z53.toInt = v32.toInt + 1 by omega]; exact jc8) (by omega)
                · refine lv_iconst (v := 1) hx hb dX12_unitE_88 (by decide) (ti_c 1 (by decide) fun z54 hz54 => ?_)
                  refine lv_goto (tgt := 93) hx hb dX12_unitE_89 (by decide) ?_
                  refine r_puti C hw (hsh 49 _ rfl) fl_X12_254 rfl (nar_b (by omega)) (fit_b (by omega)) dX12_unitE_93 (fun H locs hH hw => ?_)
                  obtain ⟨ig55, eig55⟩ : ∃ f, f = up2 ig33 (B + 49) 34 z54 := ⟨_, rfl⟩
                  rw [← eig55] at hw
                  have hF : Ft B [49, 74] ig lg ig55 lg34 := by rw [eig55]; exact hF.pi (by decide)
                  have hI : IM τ φ υ B kd ig55 rg := by rw [eig55]; exact hI.pi (by decide) (show okR (some (0, 1)) _ from ⟨by show (0 : Int) ≤ _; omega, by show _ ≤ (1 : Int); omega⟩)
                  have wig55_49_31 : (ig55 (B + 49) 31).toInt = (ig33 (B + 49) 31).toInt := by rw [eig55, up2_j (by decide)]
                  have wig55_49_32 : (ig55 (B + 49) 32).toInt = (ig33 (B + 49) 32).toInt := by rw [eig55, up2_j (by decide)]
                  have wig55 : (ig55 (B + 49) 34).toInt = z54.toInt := by rw [eig55, up2_eq]
                  have wig55_49_35 : (ig55 (B + 49) 35).toInt = (ig33 (B + 49) 35).toInt := by rw [eig55, up2_j (by decide)]
                  have jn8 : JnU (B + 38) ks.length w1 w2 5 (v32.toInt + 1) ig22 ig55 := JnM.ag (JnU.stay jn9 (by omega)) (fun j9 => by rw [eig55, up2_a (by omega)])
                  have jc8 : JcU w1 w2 5 (v32.toInt + 1) (czB (ig22 (B + 49) 34)) (czB (ig55 (B + 49) 34)) := JcU.diff jc9 (by omega) (by omega) (by omega) (fun w9 => c85 (by rw [l9, r9, w9])) (czB_1 (by rw [eig55, up2_eq]; omega))
                  refine tc_inc hx hb dX12_unitE_96 hl (k := 0) rfl (by decide) (by decide) (fun z56 hz56 ls hl => ?_)
                  first | replace hz56 := hz56 (by omega) | clear hz56
                  have hl : lv_has ls 2 [(1, .int z56), (0, .ref (B + 49))] := hl
                  refine lv_goto (tgt := 48) hx hb dX12_unitE_99 (by decide) ?_
                  exact ih48 ls H locs ig55 lg34 z56 (lv_sub hl [0, 1] rfl) hw hI hF (by omega) (by omega) (by omega) (by omega) (by rw [show z56.toInt = v32.toInt + 1 by omega]; exact jn8) (by rw [show z56.toInt = v32.toInt + 1 by omega]; exact jc8) (by omega)
        exact L48 ((3 - z31.toInt) + 1).toNat ls H locs ig30 lg24 z31 (lv_sub hl [0, 1] rfl) hw hI hF (by omega) (by omega) (by omega) (by omega) ((by rw [show z31.toInt = 0 by omega]; exact PlU.jn pl2 (fun j9 => by rw [eig30, up2_a (by omega)]))) ((by rw [show z31.toInt = 0 by omega, show ig30 (B + 49) 34 = ig22 (B + 49) 34 by rw [eig30, up2_j (by decide)]]; exact JcU.zero)) (by omega)
      · refine lv_aload_n hx hb dX12_unitE_13 rfl (lv_at hl 0 rfl) ?_
        refine lv_bipush (v := 45) hx hb dX12_unitE_14 (by decide) (ti_c 45 (by decide) fun z57 hz57 => ?_)
        refine r_callV (As := [.int z57]) (rest := []) C hw (t_X12_isNext l B D cA kd ig7 rg lg8 _ z57 (by omega) hI) sv_X12_273 (hsh 49 _ rfl) rfl hl.1 rfl (Nat.le_of_ble_eq_true rfl) ⟨by simp only [rL]; omega, by simp only [rL]; omega⟩ ⟨Nat.le_of_ble_eq_true rfl, Nat.le_of_ble_eq_true rfl⟩ dX12_unitE_16 (fun r62 kd58 ig59 rg60 lg61 H locs hw hH hp63 => ?_)
        obtain ⟨rfl, rfl, rfl, rfl, hzhp63, hrhp63⟩ := hp63
        obtain ⟨z64, rfl, hz64⟩ := hrhp63
        have nb9 := GoS.nc (o := 45) (a := m1) hGn (by omega) (by omega) (by omega) hz57 hz64
        refine z_eq (tgt := 105) hx hb dX12_unitE_19 (by decide) (fun c19 => ?_) (fun c19 => ?_)
        · obtain ⟨eb9, ex9⟩ := hCt.off hct (fun o9 w9 => by rcases w9.2 with q9 | q9; (rw [q9] at w9; exact by0 na9 (by omega) w9.1); (rw [q9] at w9; exact by0 nb9 (by omega) w9.1))
          exact r_vret C hw hr hlk (Nat.le_of_ble_eq_true rfl) (Nat.le_of_ble_eq_true rfl) dX12_unitE_105 ⟨rfl, rfl, hI, hF, ⟨rfl, ⟨⟨by omega, by omega⟩, w1, c1, (by rw [ex9]; exact hev), pl1, cl1⟩⟩⟩
        · have hs9 : R m1 = (1, 45) := by1 nb9 (by omega)
          have hcm := hCt.on hct (fun _ _ => ad_d) (o := 45) ⟨hs9, Or.inr rfl⟩
          obtain ⟨k1, m2, y2, hp2, hc2⟩ := hcm
          have lt2 := iPd.lt hp2
          have le2 := hCt.le (fun _ _ _ w => iPd.lt w) _ _ _ _ _ hc2
          refine lv_aload_n hx hb dX12_unitE_22 rfl (lv_at hl 0 rfl) ?_
          refine lv_dup hx hb dX12_unitE_23 rfl ?_
          refine r_get C hw (hsh 49 _ rfl) fl_X12_241 (oV_i rfl) dX12_unitE_24 (ti_c (ig7 (B + 49) 31).toInt rfl fun z65 hz65 => ?_)
          refine lv_iconst (v := 1) hx hb dX12_unitE_27 (by decide) (ti_c 1 (by decide) fun z66 hz66 => ?_)
          refine lv_iadd hx hb dX12_unitE_28 (tc_add fun z67 hz67 => ?_)
          first | replace hz67 := hz67 (by omega) | clear hz67
          refine r_puti C hw (hsh 49 _ rfl) fl_X12_241 rfl rfl rfl dX12_unitE_29 (fun H locs hH hw => ?_)
          obtain ⟨ig68, eig68⟩ : ∃ f, f = up2 ig7 (B + 49) 31 z67 := ⟨_, rfl⟩
          rw [← eig68] at hw
          have hF : Ft B [49, 74] ig lg ig68 lg8 := by rw [eig68]; exact hF.pi (by decide)
          have hI : IM τ φ υ B kd ig68 rg := by rw [eig68]; exact hI.pi (by decide) (show okR none _ from trivial)
          have wig68 : (ig68 (B + 49) 31).toInt = z67.toInt := by rw [eig68, up2_eq]
          have wig68_49_32 : (ig68 (B + 49) 32).toInt = (ig7 (B + 49) 32).toInt := by rw [eig68, up2_j (by decide)]
          have wig68_49_34 : (ig68 (B + 49) 34).toInt = (ig7 (B + 49) 34).toInt := by rw [eig68, up2_j (by decide)]
          have wig68_49_35 : (ig68 (B + 49) 35).toInt = (ig7 (B + 49) 35).toInt := by rw [eig68, up2_j (by decide)]
          refine lv_aload_n hx hb dX12_unitE_32 rfl (lv_at hl 0 rfl) ?_
          refine r_callV (As := []) (rest := []) C hw (hQ9 kd ig68 rg lg8 _  σ q n8 (m1 + 1) m2 R vv ee uu y2 (w1 :: ks) (hG.ft hF) (hV.ft hF) hp2 (by omega) (by omega) (by omega) (pl1.ag (by omega) (fun j9 => by rw [eig68, up2_a (by omega)])) (by rw [List.length_cons]; omega) hI) sv_X12_290 (hsh 49 _ rfl) rfl hl.1 rfl (Nat.le_of_ble_eq_true rfl) ⟨by simp only [rL]; omega, by simp only [rL]; omega⟩ ⟨Nat.le_of_ble_eq_true rfl, Nat.le_of_ble_eq_true rfl⟩ dX12_unitE_33 (fun r73 kd69 ig70 rg71 lg72 H locs hw hH hp74 => ?_)
          obtain ⟨rfl, rfl, hI, hchp74, hrhp74⟩ := hp74
          have hF : Ft B [49, 74] ig lg ig70 lg72 := Ft.tr hF hchp74 (by decide) (by decide)
          obtain ⟨rfl, hvhp74⟩ := hrhp74
          have rv3 := hvhp74.1
          obtain ⟨w2, c2, uv2, pl2, cl2⟩ := hvhp74.2
          rw [show ig68 (B + 49) 34 = ig7 (B + 49) 34 by rw [eig68, up2_j (by decide)], cl1] at uv2
          have pt2 := pl2.1
          rw [List.length_cons, List.length_cons] at pt2
          refine lv_aload_n hx hb dX12_unitE_36 rfl (lv_at hl 0 rfl) ?_
          refine lv_dup hx hb dX12_unitE_37 rfl ?_
          refine r_get C hw (hsh 49 _ rfl) fl_X12_258 (oV_i rfl) dX12_unitE_38 (ti_c (ig70 (B + 49) 35).toInt rfl fun z75 hz75 => ?_)
          refine lv_iconst (v := 3) hx hb dX12_unitE_41 (by decide) (ti_c 3 (by decide) fun z76 hz76 => ?_)
          refine lv_isub hx hb dX12_unitE_42 (tc_sub fun z77 hz77 => ?_)
          first | replace hz77 := hz77 (by omega) | clear hz77
          refine r_puti C hw (hsh 49 _ rfl) fl_X12_258 rfl rfl rfl dX12_unitE_43 (fun H locs hH hw => ?_)
          obtain ⟨ig78, eig78⟩ : ∃ f, f = up2 ig70 (B + 49) 35 z77 := ⟨_, rfl⟩
          rw [← eig78] at hw
          have hF : Ft B [49, 74] ig lg ig78 lg72 := by rw [eig78]; exact hF.pi (by decide)
          have hI : IM τ φ υ B kd ig78 rg := by rw [eig78]; exact hI.pi (by decide) (show okR none _ from trivial)
          have wig78_49_31 : (ig78 (B + 49) 31).toInt = (ig70 (B + 49) 31).toInt := by rw [eig78, up2_j (by decide)]
          have wig78_49_32 : (ig78 (B + 49) 32).toInt = (ig70 (B + 49) 32).toInt := by rw [eig78, up2_j (by decide)]
          have wig78_49_34 : (ig78 (B + 49) 34).toInt = (ig70 (B + 49) 34).toInt := by rw [eig78, up2_j (by decide)]
          have wig78 : (ig78 (B + 49) 35).toInt = z77.toInt := by rw [eig78, up2_eq]
          refine lv_iconst (v := 0) hx hb dX12_unitE_46 (by decide) (ti_c 0 (by decide) fun z79 hz79 => ?_)
          refine lv_istore_n (lv' := [(1, .int z79), (0, .ref (B + 49))]) hx hb dX12_unitE_47 rfl hl (by decide) rfl (fun ls hl => ?_)
          have L48 : ∀ (n : Nat) (ls : Array Slot) (H : Heap) (locs : List Loc) (ig81 : sI) (lg82 : sG) (v80 : Int32), lv_has ls 2 [(1, .int v80), (0, .ref (B + 49))] → WD B D cA s.heap kd ig81 rg lg82 H locs → IM τ φ υ B kd ig81 rg → Ft B [49, 74] ig lg ig81 lg82 → (0 ≤ v80.toInt) → (v80.toInt ≤ 3) → ((ig81 (B + 49) 31).toInt = 120 * (q : Int) + (m2 : Int) ∧ (ig81 (B + 49) 32).toInt = 120 * (q : Int) + (n8 : Int)) → ((ig81 (B + 49) 35).toInt = 3 * (ks.length : Int) + 3) → (JnU (B + 38) ks.length w1 w2 6 v80.toInt ig70 ig81) → (JcU w1 w2 6 v80.toInt (czB (ig70 (B + 49) 34)) (czB (ig81 (B + 49) 34))) → 3 - v80.toInt < (n : Int) → W p l e (rL (3 * d + 5) 0 0) s m args below meth c H locs 0 0 (MQ below (QcW B D cA (PM τ φ υ B [49, 74] kd ig rg lg (fun r ig' lg' => (r = none ∧ (((ig' (B + 49) 31).toInt = 120 * (q : Int) + (b : Int) ∧ (ig' (B + 49) 32).toInt = (ig (B + 49) 32).toInt) ∧ ∃ (w8 : Un) (c8 : Bool), UvP σ uu (q : Int) X9 (czB (ig (B + 49) 34)) w8 c8 ∧ PlU B (w8 :: ks) ig' ∧ (czB (ig' (B + 49) 34)) = c8))))) args s 0 0 (fun q => B ≤ q)) (F0 m 48 ls []) := by
            intro n48
            induction n48 with
            | zero => intro ls H locs ig81 lg82 v80 hl hw hI hF g48_0 g48_1 g48_2 g48_3 g48_4 g48_5 hmu; exact absurd hmu (by omega)
            | succ n48 ih48 =>
              intro ls H locs ig81 lg82 v80 hl hw hI hF g48_0 g48_1 g48_2 g48_3 g48_4 g48_5 hmu
              have jn9 := g48_4
              have jc9 := g48_5
              refine lv_iload_n hx hb dX12_unitE_48 rfl (lv_at hl 0 rfl) ?_
              refine lv_iconst (v := 3) hx hb dX12_unitE_49 (by decide) (ti_c 3 (by decide) fun z83 hz83 => ?_)
              refine b_ge (tgt := 102) hx hb dX12_unitE_50 (by decide) (fun c50 => ?_) (fun c50 => ?_)
              · refine lv_goto (tgt := 4) hx hb dX12_unitE_102 (by decide) ?_
                exact ih4 ls H locs ig81 lg82 (lv_sub hl [1] rfl) hw hI hF (⟨k1, m2, acc ++ (y2 ++ [(opS 45, 0, 0)]), opU (opS 45) w1 w2, opC (opS 45) w1 w2 c2, by omega, hc2, UvP.turn hev uv2, ⟨(by rw [opS_codes.2.2.2]; exact JnM.fin (by have q9 := g48_4; rw [show v80.toInt = 3 by omega] at q9; exact q9) pl2 (by omega)), (by rw [opS_codes.2.2.2, ← cl2]; exact JcU.fin (by have q9 := g48_5; rw [show v80.toInt = 3 by omega] at q9; exact q9))⟩, by omega, by omega⟩) (by omega) (by omega)
              · refine lv_aload_n hx hb dX12_unitE_53 rfl (lv_at hl 1 rfl) ?_
                refine lv_aload_n hx hb dX12_unitE_54 rfl (lv_at hl 1 rfl) ?_
                refine r_get C hw (hsh 49 _ rfl) fl_X12_254 (oV_i rfl) dX12_unitE_55 (ti_c (ig81 (B + 49) 34).toInt rfl fun z84 hz84 => ?_)
                have k85 : 0 ≤ (ig81 (B + 49) 34).toInt ∧ (ig81 (B + 49) 34).toInt ≤ 1 := hI.i 49 34 (by decide) (by decide)
                refine z_ne (tgt := 88) hx hb dX12_unitE_58 (by decide) (fun c58 => ?_) (fun c58 => ?_)
                · refine lv_iconst (v := 1) hx hb dX12_unitE_88 (by decide) (ti_c 1 (by decide) fun z86 hz86 => ?_)
                  refine lv_goto (tgt := 93) hx hb dX12_unitE_89 (by decide) ?_
                  refine r_puti C hw (hsh 49 _ rfl) fl_X12_254 rfl (nar_b (by omega)) (fit_b (by omega)) dX12_unitE_93 (fun H locs hH hw => ?_)
                  obtain ⟨ig87, eig87⟩ : ∃ f, f = up2 ig81 (B + 49) 34 z86 := ⟨_, rfl⟩
                  rw [← eig87] at hw
                  have hF : Ft B [49, 74] ig lg ig87 lg82 := by rw [eig87]; exact hF.pi (by decide)
                  have hI : IM τ φ υ B kd ig87 rg := by rw [eig87]; exact hI.pi (by decide) (show okR (some (0, 1)) _ from ⟨by show (0 : Int) ≤ _; omega, by show _ ≤ (1 : Int); omega⟩)
                  have wig87_49_31 : (ig87 (B + 49) 31).toInt = (ig81 (B + 49) 31).toInt := by rw [eig87, up2_j (by decide)]
                  have wig87_49_32 : (ig87 (B + 49) 32).toInt = (ig81 (B + 49) 32).toInt := by rw [eig87, up2_j (by decide)]
                  have wig87 : (ig87 (B + 49) 34).toInt = z86.toInt := by rw [eig87, up2_eq]
                  have wig87_49_35 : (ig87 (B + 49) 35).toInt = (ig81 (B + 49) 35).toInt := by rw [eig87, up2_j (by decide)]
                  have jn8 : JnU (B + 38) ks.length w1 w2 6 (v80.toInt + 1) ig70 ig87 := JnM.ag (JnU.stay jn9 (by omega)) (fun j9 => by rw [eig87, up2_a (by omega)])
                  have jc8 : JcU w1 w2 6 (v80.toInt + 1) (czB (ig70 (B + 49) 34)) (czB (ig87 (B + 49) 34)) := (by by_cases e9 : ucp w1 v80.toInt = ucp w2 v80.toInt; (have q9 := JcU.same jc9 (by omega) (by omega) (by omega) e9; rw [show czB (ig81 (B + 49) 34) = true from czB_1 (by omega)] at q9; rw [show czB (ig87 (B + 49) 34) = true from czB_1 (by rw [eig87, up2_eq]; omega)]; exact q9); exact JcU.diff jc9 (by omega) (by omega) (by omega) e9 (czB_1 (by rw [eig87, up2_eq]; omega)))
                  refine tc_inc hx hb dX12_unitE_96 hl (k := 0) rfl (by decide) (by decide) (fun z88 hz88 ls hl => ?_)
                  first | replace hz88 := hz88 (by omega) | clear hz88
                  have hl : lv_has ls 2 [(1, .int z88), (0, .ref (B + 49))] := hl
                  refine lv_goto (tgt := 48) hx hb dX12_unitE_99 (by decide) ?_
                  exact ih48 ls H locs ig87 lg82 z88 (lv_sub hl [0, 1] rfl) hw hI hF (by omega) (by omega) (by omega) (by omega) (by rw [show z88.toInt = v80.toInt + 1 by omega]; exact jn8) (by rw [show z88.toInt = v80.toInt + 1 by omega]; exact jc8) (by omega)
                · refine lv_aload_n hx hb dX12_unitE_61 rfl (lv_at hl 1 rfl) ?_
                  refine r_get C hw (hsh 49 _ rfl) fl_X12_127 (oV_r rfl (hrm (49, 36, 74) (by decide))) dX12_unitE_62 ?_
                  refine lv_aload_n hx hb dX12_unitE_65 rfl (lv_at hl 1 rfl) ?_
                  refine r_get C hw (hsh 49 _ rfl) fl_X12_258 (oV_i rfl) dX12_unitE_66 (ti_c (ig81 (B + 49) 35).toInt rfl fun z89 hz89 => ?_)
                  refine lv_iconst (v := 3) hx hb dX12_unitE_69 (by decide) (ti_c 3 (by decide) fun z90 hz90 => ?_)
                  refine lv_isub hx hb dX12_unitE_70 (tc_sub fun z91 hz91 => ?_)
                  first | replace hz91 := hz91 (by omega) | clear hz91
                  refine lv_iload_n hx hb dX12_unitE_71 rfl (lv_at hl 0 rfl) ?_
                  refine lv_iadd hx hb dX12_unitE_72 (tc_add fun z92 hz92 => ?_)
                  first | replace hz92 := hz92 (by omega) | clear hz92
                  refine r_iald C hw (hsh 74 _ rfl) (by omega) (by omega) dX12_unitE_73 (ti_c (ig81 (B + 74) z92.toInt.toNat).toInt rfl fun z93 hz93 => ?_)
                  have l9 : z93 = ucp w1 v80.toInt := i32_inj (by rw [hz93]; exact congrArg Int32.toInt (JnM.l jn9 (by omega) (by omega) (by omega)))
                  refine lv_aload_n hx hb dX12_unitE_74 rfl (lv_at hl 1 rfl) ?_
                  refine r_get C hw (hsh 49 _ rfl) fl_X12_127 (oV_r rfl (hrm (49, 36, 74) (by decide))) dX12_unitE_75 ?_
                  refine lv_aload_n hx hb dX12_unitE_78 rfl (lv_at hl 1 rfl) ?_
                  refine r_get C hw (hsh 49 _ rfl) fl_X12_258 (oV_i rfl) dX12_unitE_79 (ti_c (ig81 (B + 49) 35).toInt rfl fun z95 hz95 => ?_)
                  refine lv_iload_n hx hb dX12_unitE_82 rfl (lv_at hl 0 rfl) ?_
                  refine lv_iadd hx hb dX12_unitE_83 (tc_add fun z96 hz96 => ?_)
                  first | replace hz96 := hz96 (by omega) | clear hz96
                  refine r_iald C hw (hsh 74 _ rfl) (by omega) (by omega) dX12_unitE_84 (ti_c (ig81 (B + 74) z96.toInt.toNat).toInt rfl fun z97 hz97 => ?_)
                  have r9 : z97 = ucp w2 v80.toInt := i32_inj (by rw [hz97]; exact congrArg Int32.toInt (JnM.r jn9 (by omega) (by omega) (by omega)))
                  refine b_eq (tgt := 92) hx hb dX12_unitE_85 (by decide) (fun c85 => ?_) (fun c85 => ?_)
                  · refine lv_iconst (v := 0) hx hb dX12_unitE_92 (by decide) (ti_c 0 (by decide) fun z99 hz99 => ?_)
                    refine r_puti C hw (hsh 49 _ rfl) fl_X12_254 rfl (nar_b (by omega)) (fit_b (by omega)) dX12_unitE_93 (fun H locs hH hw => ?_)
                    obtain ⟨ig100, eig100⟩ : ∃ f, f = up2 ig81 (B + 49) 34 z99 := ⟨_, rfl⟩
                    rw [← eig100] at hw
                    have hF : Ft B [49, 74] ig lg ig100 lg82 := by rw [eig100]; exact hF.pi (by decide)
                    have hI : IM τ φ υ B kd ig100 rg := by rw [eig100]; exact hI.pi (by decide) (show okR (some (0, 1)) _ from ⟨by show (0 : Int) ≤ _; omega, by show _ ≤ (1 : Int); omega⟩)
                    have wig100_49_31 : (ig100 (B + 49) 31).toInt = (ig81 (B + 49) 31).toInt := by rw [eig100, up2_j (by decide)]
                    have wig100_49_32 : (ig100 (B + 49) 32).toInt = (ig81 (B + 49) 32).toInt := by rw [eig100, up2_j (by decide)]
                    have wig100 : (ig100 (B + 49) 34).toInt = z99.toInt := by rw [eig100, up2_eq]
                    have wig100_49_35 : (ig100 (B + 49) 35).toInt = (ig81 (B + 49) 35).toInt := by rw [eig100, up2_j (by decide)]
                    have jn8 : JnU (B + 38) ks.length w1 w2 6 (v80.toInt + 1) ig70 ig100 := JnM.ag (JnU.stay jn9 (by omega)) (fun j9 => by rw [eig100, up2_a (by omega)])
                    have jc8 : JcU w1 w2 6 (v80.toInt + 1) (czB (ig70 (B + 49) 34)) (czB (ig100 (B + 49) 34)) := (by have q9 := JcU.same jc9 (by omega) (by omega) (by omega) (by rw [← l9, ← r9]; exact i32_inj (by omega)); rw [show czB (ig81 (B + 49) 34) = false from czB_0 (by omega)] at q9; rw [show czB (ig100 (B + 49) 34) = false from czB_0 (by rw [eig100, up2_eq]; omega)]; exact q9)
                    refine tc_inc hx hb dX12_unitE_96 hl (k := 0) rfl (by decide) (by decide) (fun z101 hz101 ls hl => ?_)
                    first | replace hz101 := hz101 (by omega) | clear hz101
                    have hl : lv_has ls 2 [(1, .int z101), (0, .ref (B + 49))] := hl
                    refine lv_goto (tgt := 48) hx hb dX12_unitE_99 (by decide) ?_
                    exact ih48 ls H locs ig100 lg82 z101 (lv_sub hl [0, 1] rfl) hw hI hF (by omega) (by omega) (by omega) (by omega) (by rw [show z101.toInt = v80.toInt + 1 by omega]; exact jn8) (by rw [show z101.toInt = v80.toInt + 1 by omega]; exact jc8) (by omega)
                  · refine lv_iconst (v := 1) hx hb dX12_unitE_88 (by decide) (ti_c 1 (by decide) fun z102 hz102 => ?_)
                    refine lv_goto (tgt := 93) hx hb dX12_unitE_89 (by decide) ?_
                    refine r_puti C hw (hsh 49 _ rfl) fl_X12_254 rfl (nar_b (by omega)) (fit_b (by omega)) dX12_unitE_93 (fun H locs hH hw => ?_)
                    obtain ⟨ig103, eig103⟩ : ∃ f, f = up2 ig81 (B + 49) 34 z102 := ⟨_, rfl⟩
                    rw [← eig103] at hw
                    have hF : Ft B [49, 74] ig lg ig103 lg82 := by rw [eig103]; exact hF.pi (by decide)
                    have hI : IM τ φ υ B kd ig103 rg := by rw [eig103]; exact hI.pi (by decide) (show okR (some (0, 1)) _ from ⟨by show (0 : Int) ≤ _; omega, by show _ ≤ (1 : Int); omega⟩)
                    have wig103_49_31 : (ig103 (B + 49) 31).toInt = (ig81 (B + 49) 31).toInt := by rw [eig103, up2_j (by decide)]
                    have wig103_49_32 : (ig103 (B + 49) 32).toInt = (ig81 (B + 49) 32).toInt := by rw [eig103, up2_j (by decide)]
                    have wig103 : (ig103 (B + 49) 34).toInt = z102.toInt := by rw [eig103, up2_eq]
                    have wig103_49_35 : (ig103 (B + 49) 35).toInt = (ig81 (B + 49) 35).toInt := by rw [eig103, up2_j (by decide)]
                    have jn8 : JnU (B + 38) ks.length w1 w2 6 (v80.toInt + 1) ig70 ig103 := JnM.ag (JnU.stay jn9 (by omega)) (fun j9 => by rw [eig103, up2_a (by omega)])
                    have jc8 : JcU w1 w2 6 (v80.toInt + 1) (czB (ig70 (B + 49) 34)) (czB (ig103 (B + 49) 34)) := JcU.diff jc9 (by omega) (by omega) (by omega) (fun w9 => c85 (by rw [l9, r9, w9])) (czB_1 (by rw [eig103, up2_eq]; omega))
                    refine tc_inc hx hb dX12_unitE_96 hl (k := 0) rfl (by decide) (by decide) (fun z104 hz104 ls hl => ?_)
                    first | replace hz104 := hz104 (by omega) | clear hz104
                    have hl : lv_has ls 2 [(1, .int z104), (0, .ref (B + 49))] := hl
                    refine lv_goto (tgt := 48) hx hb dX12_unitE_99 (by decide) ?_
                    exact ih48 ls H locs ig103 lg82 z104 (lv_sub hl [0, 1] rfl) hw hI hF (by omega) (by omega) (by omega) (by omega) (by rw [show z104.toInt = v80.toInt + 1 by omega]; exact jn8) (by rw [show z104.toInt = v80.toInt + 1 by omega]; exact jc8) (by omega)
          exact L48 ((3 - z79.toInt) + 1).toNat ls H locs ig78 lg72 z79 (lv_sub hl [0, 1] rfl) hw hI hF (by omega) (by omega) (by omega) (by omega) ((by rw [show z79.toInt = 0 by omega]; exact PlU.jn pl2 (fun j9 => by rw [eig78, up2_a (by omega)]))) ((by rw [show z79.toInt = 0 by omega, show ig78 (B + 49) 34 = ig70 (B + 49) 34 by rw [eig78, up2_j (by decide)]]; exact JcU.zero)) (by omega)
  exact L4 ((120 * (q : Int) + (b : Int) - (ig2 (B + 49) 31).toInt) + 1).toNat ls H locs ig2 lg4 (lv_sub hl [0] rfl) hw hI hF (⟨n0, m0, y0, w0, c0, by omega, hc0, uv0, ⟨pl0, cl0⟩, by omega, by omega⟩) (by omega) (by omega)

theorem t_X12_unitU_all {τ : Tp} {φ υ : Option Int} (l : Launch) (B : Nat) (D : va_G) (cA : Nat → ClassId) : ∀ d, RXunitPartU τ φ υ l B D cA d ∧ RXunitProductU τ φ υ l B D cA d ∧ RXunitEU τ φ υ l B D cA d := by
  intro d
  induction d with
  | zero =>
    have h1 : RXunitPartU τ φ υ l B D cA 0 := fun kd ig rg lg sz σ q n a b R vv ee uu X9 ks q1 q2 q3 q4 q5 q6 q7 q8 hI => t_X12_unitPartU l B D cA kd ig rg lg sz σ 0 q n a b R vv ee uu X9 ks (fun d1 h => by omega) q1 q2 q3 q4 q5 q6 q7 q8 hI
    have h2 : RXunitProductU τ φ υ l B D cA 0 := fun kd ig rg lg sz σ q n a b R vv ee uu X9 ks q1 q2 q3 q4 q5 q6 q7 q8 hI => t_X12_unitProductU l B D cA kd ig rg lg sz σ 0 q n a b R vv ee uu X9 ks h1 q1 q2 q3 q4 q5 q6 q7 q8 hI
    exact ⟨h1, h2, fun kd ig rg lg sz σ q n a b R vv ee uu X9 ks q1 q2 q3 q4 q5 q6 q7 q8 hI => t_X12_unitEU l B D cA kd ig rg lg sz σ 0 q n a b R vv ee uu X9 ks h2 q1 q2 q3 q4 q5 q6 q7 q8 hI⟩
  | succ d ih =>
    have h1 : RXunitPartU τ φ υ l B D cA (d + 1) := fun kd ig rg lg sz σ q n a b R vv ee uu X9 ks q1 q2 q3 q4 q5 q6 q7 q8 hI => t_X12_unitPartU l B D cA kd ig rg lg sz σ (d + 1) q n a b R vv ee uu X9 ks (fun d1 h => by cases h; exact ⟨ih.1, ih.2.2⟩) q1 q2 q3 q4 q5 q6 q7 q8 hI
    have h2 : RXunitProductU τ φ υ l B D cA (d + 1) := fun kd ig rg lg sz σ q n a b R vv ee uu X9 ks q1 q2 q3 q4 q5 q6 q7 q8 hI => t_X12_unitProductU l B D cA kd ig rg lg sz σ (d + 1) q n a b R vv ee uu X9 ks h1 q1 q2 q3 q4 q5 q6 q7 q8 hI
    exact ⟨h1, h2, fun kd ig rg lg sz σ q n a b R vv ee uu X9 ks q1 q2 q3 q4 q5 q6 q7 q8 hI => t_X12_unitEU l B D cA kd ig rg lg sz σ (d + 1) q n a b R vv ee uu X9 ks h2 q1 q2 q3 q4 q5 q6 q7 q8 hI⟩
