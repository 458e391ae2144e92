/-! the steps kept on the tape -/
def TB (B : Nat) (M : Fm) (ig : sI) : Prop := ((ig (B + 1) 12).toInt = (M.length : Int) ∧ M.length ≤ 120) ∧ ∀ i (h : i < M.length), (ig (B + 6) i).toInt = (M[i]).1 ∧ (ig (B + 7) i).toInt = (M[i]).2.1 ∧ (ig (B + 8) i).toInt = (M[i]).2.2
def RZ2 (B : Nat) (τ : Tp) (N h a : Nat) (M : Fm) (ig : sI) : Prop := RZ B τ N h a ig ∧ TB B M ig ∧ M.length ≤ a
def nTB (c j : Nat) : Prop := (c ≠ 1 ∧ c ≠ 6 ∧ c ≠ 7 ∧ c ≠ 8) ∨ (c = 1 ∧ j ≠ 12)
section TBS
variable {τ : Tp} {φ : Option Int} {B N h a i : Nat} {τ : Tp} {ig ig' : sI} {v z : Int32} {M M' : Fm}
theorem TB.ag (t : TB B M ig) (e0 : ig' (B + 1) 12 = ig (B + 1) 12) (e : ∀ c j, c = 6 ∨ c = 7 ∨ c = 8 → ig' (B + c) j = ig (B + c) j) : TB B M ig' := by
  refine ⟨by rw [e0]; exact t.1, fun i hi => ?_⟩
  rw [e 6 i (Or.inl rfl), e 7 i (Or.inr (Or.inl rfl)), e 8 i (Or.inr (Or.inr rfl))]
  exact t.2 i hi
theorem TB.wr (t : TB B M ig) {c j : Nat} (hn : nTB c j) : TB B M (up2 ig (B + c) j v) := by
  unfold nTB at hn
  refine t.ag (up2_n (by omega)) (fun c' j' hc => up2_n (by omega))
theorem TB.nil (h0 : (ig (B + 1) 12).toInt = 0) : TB B [] ig := ⟨⟨by rw [h0]; rfl, by decide⟩, fun i hi => absurd hi (Nat.not_lt_zero i)⟩
theorem TB.add (t : TB B M ig) {x y u w : Int32} {n1 n2 n3 : Nat} (hM : M.length < 120) (e1 : n1 = M.length) (e2 : n2 = M.length) (e3 : n3 = M.length) (hw : w.toInt = (M.length : Int) + 1) : TB B (M ++ [(x.toInt, y.toInt, u.toInt)]) (up2 (up2 (up2 (up2 ig (B + 6) n1 x) (B + 7) n2 y) (B + 8) n3 u) (B + 1) 12 w) := by
  subst e1 e2 e3
  refine ⟨⟨by rw [up2_eq, List.length_append, List.length_singleton]; omega, by rw [List.length_append, List.length_singleton]; omega⟩, fun i hi => ?_⟩
  rw [List.length_append, List.length_singleton] at hi
  rw [up2_n (by omega), up2_n (by omega), up2_n (by omega), up2_n (a := B + 1) (by omega), up2_n (a := B + 8) (by omega), up2_n (a := B + 1) (by omega)]
  by_cases e : i < M.length
  · rw [up2_n (by omega), up2_n (a := B + 7) (by omega), up2_n (a := B + 6) (by omega), up2_n (a := B + 8) (by omega), up2_n (a := B + 7) (by omega), up2_n (a := B + 6) (by omega), List.getElem_append_left e]
    exact t.2 i e
  · obtain rfl : i = M.length := by omega
    rw [List.getElem_append_right (Nat.le_refl _)]
    simp only [Nat.sub_self, List.getElem_cons_zero]
    refine ⟨?_, ?_, ?_⟩
    · rw [up2_eq]
    · rw [up2_eq]
    · rw [up2_eq]
theorem RZ2.nums (r : RZ2 B τ N h a M ig) : ((N ≤ 120 ∧ (ig (B + 1) 6).toInt = (N : Int) + 1) ∧ ((ig (B + 1) 2).toInt = (h : Int) ∧ h < 288) ∧ (ig (B + 1) 7).toInt = (a : Int) ∧ a ≤ N) ∧ M.length ≤ a := ⟨r.1.nums, r.2.2⟩
theorem RZ2.lt (r : RZ2 B τ N h a M ig) (hk : tK τ a ≠ 0) : a < N := r.1.lt hk
theorem RZ2.bd (r : RZ2 B τ N h a M ig) : (0 ≤ tS τ a ∧ tS τ a ≤ 120) ∧ 0 ≤ tV τ a ∧ tV τ a ≤ 999999 := r.1.bd
theorem RZ2.wr (r : RZ2 B τ N h a M ig) {c j : Nat} (hn : nRZ c j ∧ nTB c j) : RZ2 B τ N h a M (up2 ig (B + c) j v) := ⟨r.1.wr hn.1, r.2.1.wr hn.2, r.2.2⟩
theorem RZ2.nx {a1 : Nat} (r : RZ2 B τ N h a M ig) (hv : v.toInt = (a1 : Int)) (h1 : a1 ≤ N) (h2 : a ≤ a1) : RZ2 B τ N h a1 M (up2 ig (B + 1) 7 v) := ⟨r.1.nx hv h1, r.2.1.wr (Or.inr ⟨rfl, by decide⟩), Nat.le_trans r.2.2 h2⟩
theorem RZ2.fw_ne (r : RZ2 B τ N h a M ig) {k : Int} (hk : 0 < k) : fw (tS τ) k a ≠ 0 := r.1.fw_ne hk
theorem RZ2.mk (r : RZ B τ N h a ig) (t : TB B (M ++ M') ig) (hl : M.length + M'.length ≤ a) : RZ2 B τ N h a (M ++ M') ig := ⟨r, t, by rw [List.length_append]; exact hl⟩
/-- a reading's answer: 1 behind what was read and the steps kept, or 0 and the fault -/
def RB2 (B : Nat) (τ : Tp) (N h : Nat) (ig' : sI) (P : Int → Nat → Fm → Prop) (z : Int32) : Prop := ∃ f a' M', P f a' M' ∧ ((f = 0 ∧ z.toInt = 1 ∧ RZ2 B τ N h a' M' ig') ∨ (f ≠ 0 ∧ z.toInt = 0 ∧ (ig' (B + 1) 8).toInt = f))
variable {P Q : Int → Nat → Fm → Prop}
theorem RB2.bz (q : RB2 B τ N h ig P z) : z.toInt = 0 ∨ z.toInt = 1 := by
  obtain ⟨f, a', M', -, ⟨-, e, -⟩ | ⟨-, e, -⟩⟩ := q
  · exact Or.inr e
  · exact Or.inl e
theorem RB2.yes (q : RB2 B τ N h ig P z) (hz : z.toInt ≠ 0) : ∃ a' M', P 0 a' M' ∧ RZ2 B τ N h a' M' ig := by
  obtain ⟨f, a', M', p, ⟨e, -, r⟩ | ⟨-, e, -⟩⟩ := q
  · subst e; exact ⟨a', M', p, r⟩
  · exact (hz e).elim
theorem RB2.no (q : RB2 B τ N h ig P z) (hz : z.toInt = 0) : ∃ f a' M', f ≠ 0 ∧ P f a' M' ∧ (ig (B + 1) 8).toInt = f := by
  obtain ⟨f, a', M', p, ⟨-, e, -⟩ | ⟨e, -, r⟩⟩ := q
  · rw [e] at hz; cases hz
  · exact ⟨f, a', M', e, p, r⟩
theorem RB2.mk {a' : Nat} {M' : Fm} (p : P 0 a' M') (r : RZ2 B τ N h a' M' ig) (hz : z.toInt = 1) : RB2 B τ N h ig P z := ⟨0, a', M', p, Or.inl ⟨rfl, hz, r⟩⟩
theorem RB2.mkf {f : Int} {a' : Nat} {M' : Fm} (p : P f a' M') (hf : f ≠ 0) (h8 : (ig (B + 1) 8).toInt = f) (hz : z.toInt = 0) : RB2 B τ N h ig P z := ⟨f, a', M', p, Or.inr ⟨hf, hz, h8⟩⟩
theorem RB2.to (q : RB2 B τ N h ig P z) (hPQ : ∀ f a M, P f a M → Q f a M) : RB2 B τ N h ig Q z := by
  obtain ⟨f, a', M', p, o⟩ := q
  exact ⟨f, a', M', hPQ f a' M' p, o⟩
/-- what reference() answers -/
def RF2 (B : Nat) (τ : Tp) (N h : Nat) (M : Fm) (ig' : sI) (lc lr : Int) (a : Nat) (z : Int32) : Prop := ∃ f a' c r, pRef (tK τ) (tV τ) (tS τ) lc lr a f a' c r ∧ ((f = 0 ∧ ((0 ≤ z.toInt ∧ colv z.toInt (h : Int) = c ∧ rowv z.toInt (h : Int) = r) ∧ (0 ≤ c ∧ c < 12 ∧ 0 ≤ r ∧ r < 24) ∧ (lc ≤ c ∧ lr ≤ r) ∧ pkR z.toInt ∧ tRf τ h a a' z.toInt) ∧ RZ2 B τ N h a' M ig') ∨ (f ≠ 0 ∧ z.toInt = -1 ∧ (ig' (B + 1) 8).toInt = f))
theorem RF2.yes {lc lr : Int} (q : RF2 B τ N h M ig lc lr a z) (hz : z.toInt ≠ -1) : ∃ a' c r, pRef (tK τ) (tV τ) (tS τ) lc lr a 0 a' c r ∧ ((0 ≤ z.toInt ∧ colv z.toInt (h : Int) = c ∧ rowv z.toInt (h : Int) = r) ∧ (0 ≤ c ∧ c < 12 ∧ 0 ≤ r ∧ r < 24) ∧ (lc ≤ c ∧ lr ≤ r) ∧ pkR z.toInt ∧ tRf τ h a a' z.toInt) ∧ RZ2 B τ N h a' M ig := by
  obtain ⟨f, a', c, r, p, ⟨e, e2, e3⟩ | ⟨-, e, -⟩⟩ := q
  · subst e; exact ⟨a', c, r, p, e2, e3⟩
  · exact (hz e).elim
theorem RF2.no {lc lr : Int} (q : RF2 B τ N h M ig lc lr a z) (hz : z.toInt = -1) : ∃ f a' c r, f ≠ 0 ∧ pRef (tK τ) (tV τ) (tS τ) lc lr a f a' c r ∧ (ig (B + 1) 8).toInt = f := by
  obtain ⟨f, a', c, r, p, ⟨-, ⟨⟨e, -⟩, -⟩, -⟩ | ⟨e, -, e2⟩⟩ := q
  · omega
  · exact ⟨f, a', c, r, e, p, e2⟩
end TBS
/-! what a reading says: its fault, and without one its steps -/
section QS
variable (τ : Tp) (h k a : Nat) (M : Fm) (f : Int) (a' : Nat) (M' : Fm)
def QT (v : Int) : Prop := pTk (tK τ) (tS τ) v a f a' ∧ M' = M
def QS1 : Prop := (∃ c r, pRef (tK τ) (tV τ) (tS τ) 0 0 a f a' c r) ∧ (f = 0 → ∃ w, tRf τ h a a' w ∧ fitW h [(1, w, w)] ∧ M' = M ++ [(1, w, w)])
def QSp : Prop := pSpan (tK τ) (tV τ) (tS τ) (a + 1) f a' ∧ (f = 0 → ∃ b1 b2 w u, tK τ (a + 1) = 40 ∧ tRf τ h (a + 2) b1 w ∧ tK τ b1 = 58 ∧ tRf τ h (b1 + 1) b2 u ∧ tK τ b2 = 41 ∧ a' = b2 + 1 ∧ fitW h [(2, w, u)] ∧ M' = M ++ [(2, w, u)])
def QBr : Prop := (∃ f1 a1, pE (tK τ) (tV τ) (tS τ) k (a + 1) f1 a1 ∧ ((f1 ≠ 0 ∧ f = f1) ∨ (f1 = 0 ∧ pTk (tK τ) (tS τ) 41 a1 f a'))) ∧ (f = 0 → ∃ b y, tEe τ h k (a + 1) b y ∧ fitW h y ∧ tK τ b = 41 ∧ a' = b + 1 ∧ M' = M ++ (y ++ [(3, 0, 0)]))
def QNg : Prop := pPart (tK τ) (tV τ) (tS τ) k (a + 1) f a' ∧ (f = 0 → ∃ y, tPa τ h k (a + 1) a' y ∧ fitW h y ∧ M' = M ++ (y ++ [(4, 0, 0)]))
def QP : Prop := pPart (tK τ) (tV τ) (tS τ) k a f a' ∧ (f = 0 → ∃ y, tPa τ h k a a' y ∧ fitW h y ∧ M' = M ++ y)
def QX : Prop := pProd (tK τ) (tV τ) (tS τ) k a f a' ∧ (f = 0 → ∃ y, tPr τ h k a a' y ∧ fitW h y ∧ M' = M ++ y)
def QE : Prop := pE (tK τ) (tV τ) (tS τ) k a f a' ∧ (f = 0 → ∃ y, tEe τ h k a a' y ∧ fitW h y ∧ M' = M ++ y)
end QS
section QSS
variable {τ : Tp} {h k a : Nat} {M : Fm} {f : Int} {a' : Nat} {M' : Fm}
theorem QP.br (e : tK τ a = 40) (p : QBr τ h k a M f a' M') : QP τ h (k + 1) a M f a' M' := ⟨pPart.br e p.1, fun hf => by
  obtain ⟨b, y, q1, q2, q3, q4, q5⟩ := p.2 hf
  exact ⟨y ++ [(3, 0, 0)], Or.inr (Or.inr (Or.inr (Or.inl ⟨⟨e, by decide, by decide⟩, b, y, q1, ⟨q3, by decide, by decide⟩, q4, rfl⟩))), q2.app (fitW.op ⟨(show ¬ (3 : Int) = 1 by decide), (show ¬ (3 : Int) = 2 by decide)⟩), q5⟩⟩
theorem QP.ng (e : tK τ a = 45) (p : QNg τ h k a M f a' M') : QP τ h (k + 1) a M f a' M' := ⟨pPart.ng e p.1, fun hf => by
  obtain ⟨y, q1, q2, q3⟩ := p.2 hf
  exact ⟨y ++ [(4, 0, 0)], Or.inr (Or.inr (Or.inl ⟨⟨e, by decide, by decide⟩, y, q1, rfl⟩)), q2.app (fitW.op ⟨(show ¬ (4 : Int) = 1 by decide), (show ¬ (4 : Int) = 2 by decide)⟩), q3⟩⟩
theorem QP.sp (e : tK τ a = 119 ∧ tV τ a = 26) (p : QSp τ h a M f a' M') : QP τ h (k + 1) a M f a' M' := ⟨pPart.sp e p.1, fun hf => by
  obtain ⟨b1, b2, w, u, q1, q2, q3, q4, q5, q6, q7, q8⟩ := p.2 hf
  exact ⟨[(2, w, u)], Or.inr (Or.inl ⟨w, u, ⟨e, ⟨q1, by decide, by decide⟩, b1, b2, q2, ⟨q3, by decide, by decide⟩, q4, ⟨q5, by decide, by decide⟩, q6⟩, rfl⟩), q7, q8⟩⟩
theorem QP.rf (e : (tK τ a = 119 ∧ tV τ a < 12) ∨ tK τ a = 36) (p : QS1 τ h a M f a' M') : QP τ h (k + 1) a M f a' M' := ⟨pPart.rf e p.1, fun hf => by
  obtain ⟨w, q1, q2, q3⟩ := p.2 hf
  exact ⟨[(1, w, w)], Or.inr (Or.inr (Or.inr (Or.inr ⟨w, q1, rfl⟩))), q2, q3⟩⟩
theorem QP.num (e : tK τ a = 110) : QP τ h (k + 1) a M 0 (a + 1) (M ++ [(0, tV τ a, 0)]) := ⟨pPart.num e, fun _ => ⟨[(0, tV τ a, 0)], Or.inl ⟨tV τ a, ⟨e, rfl⟩, rfl, rfl⟩, fitW.op ⟨(show ¬ (0 : Int) = 1 by decide), (show ¬ (0 : Int) = 2 by decide)⟩, rfl⟩⟩
theorem QP.bad (p : pPart (tK τ) (tV τ) (tS τ) k a f a') (hf : f ≠ 0) : QP τ h k a M f a' M' := ⟨p, fun e => (hf e).elim⟩
end QSS

set_option maxHeartbeats 4000000 in
set_option maxRecDepth 100000 in
theorem t_X7_takeE {τ : Tp} (l : Launch) (B : Nat) (D : va_G) (cA : Nat → ClassId) (kd : sK) (ig : sI) (rg : sR) (lg : sG) (sz : Nat) (x : Int32) (N h a : Nat) (M : Fm) (hR : RZ2 B τ N h a M ig) (hx0 : 1 ≤ x.toInt ∧ x.toInt ≤ 126) (hI : IC τ B kd ig rg) : MC l B D cA yX7_take cX7_take 2 (some .boolean) (rL 1 0 0) [.ref (B + 1), .int x] kd ig rg lg sz (PI 1022 τ B none kd ig rg lg (fun r kd' ig' rg' lg' => ∃ z : Int32, r = some (.int z) ∧ RB2 B τ N h ig' (fun f a' M' => QT τ a M f a' M' x.toInt) z)) := by
  refine MC.of (own := RX7) (by decide +kernel) rfl (Nat.le_of_ble_eq_true rfl) ?_
  intro p e s m args below meth c ls C hr hlk hnm hw hsz hl
  have hx := C.1.1
  have hb := C.1.2.1
  have hown := C.1.2.2.2.1
  have hts := C.1.2.2.2.2
  have hl : lv_has ls 2 [(0, .ref (B + 1)), (1, .int x)] := hl
  have hN : Nx 1022 B none kd ig rg lg kd ig rg lg := Nx.rf
  have hsh := hI.sh
  have hrs := hI.rs
  obtain ⟨⟨⟨hN0, h6⟩, ⟨h2, hh⟩, h7, haN⟩, hMa⟩ := hR.nums
  refine lv_aload_n hx hb dX7_take_0 rfl (lv_at hl 0 rfl) ?_
  refine r_callV (As := []) (rest := []) C hw (t_X7_kind l B D cA kd ig rg lg _  N h a hR.1 hI) sv_X7_57 (hsh 1 _ rfl) rfl hl.1 rfl (Nat.le_of_ble_eq_true rfl) ⟨Nat.le_of_ble_eq_true rfl, Nat.le_of_ble_eq_true rfl⟩ ⟨Nat.le_of_ble_eq_true rfl, Nat.le_of_ble_eq_true rfl⟩ dX7_take_1 (fun r5 kd1 ig2 rg3 lg4 H locs hw hH hp6 => ?_)
  obtain ⟨rfl, rfl, rfl, rfl, hzhp6, hrhp6⟩ := hp6
  obtain ⟨z7, rfl, hz7⟩ := hrhp6
  refine lv_iload_n hx hb dX7_take_4 rfl (lv_at hl 1 rfl) ?_
  refine b_eq (tgt := 14) hx hb dX7_take_5 (by decide) (fun c5 => ?_) (fun c5 => ?_)
  · refine lv_aload_n hx hb dX7_take_14 rfl (lv_at hl 0 rfl) ?_
    refine lv_dup hx hb dX7_take_15 rfl ?_
    refine r_get C hw (hsh 1 _ rfl) fl_X7_50 (oV_i rfl) dX7_take_16 (ti_c (ig (B + 1) 7).toInt rfl fun z8 hz8 => ?_)
    refine lv_iconst (v := 1) hx hb dX7_take_19 (by decide) (ti_c 1 (by decide) fun z9 hz9 => ?_)
    refine lv_iadd hx hb dX7_take_20 (tc_add fun z10 hz10 => ?_)
    first | replace hz10 := hz10 (by omega) | clear hz10
    refine r_puti C hw (hsh 1 _ rfl) fl_X7_50 rfl rfl rfl dX7_take_21 (fun H locs hH hw => ?_)
    obtain ⟨ig11, eig11⟩ : ∃ f, f = up2 ig (B + 1) 7 z10 := ⟨_, rfl⟩
    rw [← eig11] at hw
    have hN : Nx 1022 B none kd ig rg lg kd ig11 rg lg := by rw [eig11]; exact hN.pi (by omega)
    have hI : IC τ B kd ig11 rg := by rw [eig11]; exact hI.pi (show okR none _ from trivial)
    have hlt := hR.lt (show tK τ a ≠ 0 from by omega)
    have hR : RZ2 B τ N h (a + 1) M ig11 := by rw [eig11]; exact hR.nx (by omega) (by omega) (by omega)
    obtain ⟨⟨⟨hN0, h6⟩, ⟨h2, hh⟩, h7, haN⟩, hMa⟩ := hR.nums
    refine lv_iconst (v := 1) hx hb dX7_take_24 (by decide) (ti_c 1 (by decide) fun z12 hz12 => ?_)
    exact r_iret C hw hr hlk (nar_b (by omega)) (Nat.le_of_ble_eq_true rfl) (Nat.le_of_ble_eq_true rfl) dX7_take_25 ⟨hI, hN, ⟨_, rfl, RB2.mk ⟨Or.inl ⟨(show tK τ a = x.toInt by omega), rfl, rfl⟩, rfl⟩ hR (by omega)⟩⟩
  · refine lv_aload_n hx hb dX7_take_8 rfl (lv_at hl 0 rfl) ?_
    refine lv_iconst (v := 1) hx hb dX7_take_9 (by decide) (ti_c 1 (by decide) fun z13 hz13 => ?_)
    refine r_callV (As := [.int z13]) (rest := []) C hw (t_X7_wrong l B D cA kd ig rg lg _ z13 N h a hR.1 (by omega) hI) sv_X7_61 (hsh 1 _ rfl) rfl hl.1 rfl (Nat.le_of_ble_eq_true rfl) ⟨Nat.le_of_ble_eq_true rfl, Nat.le_of_ble_eq_true rfl⟩ ⟨Nat.le_of_ble_eq_true rfl, Nat.le_of_ble_eq_true rfl⟩ dX7_take_10 (fun r18 kd14 ig15 rg16 lg17 H locs hw hH hp19 => ?_)
    obtain ⟨hI, hchp19, hrhp19⟩ := hp19
    have hN := hN.tr hchp19
    have hsh := hI.sh
    have hrs := hI.rs
    obtain ⟨z20, rfl, hz20⟩ := hrhp19
    obtain ⟨wz, w8⟩ := hz20
    exact r_iret C hw hr hlk (nar_b (by omega)) (Nat.le_of_ble_eq_true rfl) (Nat.le_of_ble_eq_true rfl) dX7_take_13 ⟨hI, hN, ⟨_, rfl, RB2.mkf (a' := 0) (M' := M) ⟨Or.inr ⟨fun q => absurd q (show ¬ tK τ a = x.toInt by omega), rfl⟩, rfl⟩ (hR.fw_ne (by decide)) (by rw [w8]; unfold fw; omega) (by omega)⟩⟩

set_option maxHeartbeats 4000000 in
set_option maxRecDepth 100000 in
theorem t_X7_addE {τ : Tp} (l : Launch) (B : Nat) (D : va_G) (cA : Nat → ClassId) (kd : sK) (ig : sI) (rg : sR) (lg : sG) (sz : Nat) (x : Int32) (y : Int32) (u : Int32) (N h a : Nat) (M : Fm) (hR : RZ B τ N h a ig) (hT : TB B M ig) (hM : M.length < 120) (hI : IC τ B kd ig rg) : MC l B D cA yX7_add cX7_add 4 none (rL 0 0 0) [.ref (B + 1), .int x, .int y, .int u] kd ig rg lg sz (PI 1022 τ B none kd ig rg lg (fun r kd' ig' rg' lg' => (r = none ∧ (RZ B τ N h a ig' ∧ TB B (M ++ [(x.toInt, y.toInt, u.toInt)]) ig')))) := by
  refine MC.of (own := RX7) (by decide +kernel) rfl (Nat.le_of_ble_eq_true rfl) ?_
  intro p e s m args below meth c ls C hr hlk hnm hw hsz hl
  have hx := C.1.1
  have hb := C.1.2.1
  have hown := C.1.2.2.2.1
  have hts := C.1.2.2.2.2
  have hl : lv_has ls 4 [(0, .ref (B + 1)), (1, .int x), (2, .int y), (3, .int u)] := hl
  have hN : Nx 1022 B none kd ig rg lg kd ig rg lg := Nx.rf
  have hsh := hI.sh
  have hrs := hI.rs
  have hT1 := hT.1
  refine lv_aload_n hx hb dX7_add_0 rfl (lv_at hl 0 rfl) ?_
  refine r_get C hw (hsh 1 _ rfl) fl_X7_41 (oV_i rfl) dX7_add_1 (ti_c (ig (B + 1) 12).toInt rfl fun z1 hz1 => ?_)
  have k2 : 0 ≤ (ig (B + 1) 12).toInt ∧ (ig (B + 1) 12).toInt ≤ 120 := hI.i 1 12 (by decide)
  refine lv_bipush (v := 120) hx hb dX7_add_4 (by decide) (ti_c 120 (by decide) fun z3 hz3 => ?_)
  refine b_ge (tgt := 49) hx hb dX7_add_6 (by decide) (fun c6 => ?_) (fun c6 => ?_)
  · exact absurd c6 (by omega)
  · refine lv_aload_n hx hb dX7_add_9 rfl (lv_at hl 0 rfl) ?_
    refine r_get C hw (hsh 1 _ rfl) fl_X7_29 (oV_r rfl (hrs (1, 9, 6) (by decide))) dX7_add_10 ?_
    refine lv_aload_n hx hb dX7_add_13 rfl (lv_at hl 0 rfl) ?_
    refine r_get C hw (hsh 1 _ rfl) fl_X7_41 (oV_i rfl) dX7_add_14 (ti_c (ig (B + 1) 12).toInt rfl fun z4 hz4 => ?_)
    have k5 : 0 ≤ (ig (B + 1) 12).toInt ∧ (ig (B + 1) 12).toInt ≤ 120 := hI.i 1 12 (by decide)
    refine lv_iload_n hx hb dX7_add_17 rfl (lv_at hl 1 rfl) ?_
    refine r_iast C hw (hsh 6 _ rfl) (by omega) (by omega) dX7_add_18 (fun H locs hH hw => ?_)
    obtain ⟨ig6, eig6⟩ : ∃ f, f = up2 ig (B + 6) z4.toInt.toNat x := ⟨_, rfl⟩
    rw [← eig6] at hw
    have hN : Nx 1022 B none kd ig rg lg kd ig6 rg lg := by rw [eig6]; exact hN.pi (by omega)
    have hI : IC τ B kd ig6 rg := by rw [eig6]; exact hI.pi (show okR none _ from trivial)
    have wig6_1_12 : (ig6 (B + 1) 12).toInt = (ig (B + 1) 12).toInt := by rw [eig6, up2_a (by omega)]
    have hR : RZ B τ N h a ig6 := by rw [eig6]; exact hR.wr (Or.inl (by decide))
    refine lv_aload_n hx hb dX7_add_19 rfl (lv_at hl 0 rfl) ?_
    refine r_get C hw (hsh 1 _ rfl) fl_X7_32 (oV_r rfl (hrs (1, 10, 7) (by decide))) dX7_add_20 ?_
    refine lv_aload_n hx hb dX7_add_23 rfl (lv_at hl 0 rfl) ?_
    refine r_get C hw (hsh 1 _ rfl) fl_X7_41 (oV_i rfl) dX7_add_24 (ti_c (ig6 (B + 1) 12).toInt rfl fun z7 hz7 => ?_)
    have k8 : 0 ≤ (ig6 (B + 1) 12).toInt ∧ (ig6 (B + 1) 12).toInt ≤ 120 := hI.i 1 12 (by decide)
    refine lv_iload_n hx hb dX7_add_27 rfl (lv_at hl 2 rfl) ?_
    refine r_iast C hw (hsh 7 _ rfl) (by omega) (by omega) dX7_add_28 (fun H locs hH hw => ?_)
    obtain ⟨ig9, eig9⟩ : ∃ f, f = up2 ig6 (B + 7) z7.toInt.toNat y := ⟨_, rfl⟩
    rw [← eig9] at hw
    have hN : Nx 1022 B none kd ig rg lg kd ig9 rg lg := by rw [eig9]; exact hN.pi (by omega)
    have hI : IC τ B kd ig9 rg := by rw [eig9]; exact hI.pi (show okR none _ from trivial)
    have wig9_1_12 : (ig9 (B + 1) 12).toInt = (ig6 (B + 1) 12).toInt := by rw [eig9, up2_a (by omega)]
    have hR : RZ B τ N h a ig9 := by rw [eig9]; exact hR.wr (Or.inl (by decide))
    refine lv_aload_n hx hb dX7_add_29 rfl (lv_at hl 0 rfl) ?_
    refine r_get C hw (hsh 1 _ rfl) fl_X7_35 (oV_r rfl (hrs (1, 11, 8) (by decide))) dX7_add_30 ?_
    refine lv_aload_n hx hb dX7_add_33 rfl (lv_at hl 0 rfl) ?_
    refine r_get C hw (hsh 1 _ rfl) fl_X7_41 (oV_i rfl) dX7_add_34 (ti_c (ig9 (B + 1) 12).toInt rfl fun z10 hz10 => ?_)
    have k11 : 0 ≤ (ig9 (B + 1) 12).toInt ∧ (ig9 (B + 1) 12).toInt ≤ 120 := hI.i 1 12 (by decide)
    refine lv_iload_n hx hb dX7_add_37 rfl (lv_at hl 3 rfl) ?_
    refine r_iast C hw (hsh 8 _ rfl) (by omega) (by omega) dX7_add_38 (fun H locs hH hw => ?_)
    obtain ⟨ig12, eig12⟩ : ∃ f, f = up2 ig9 (B + 8) z10.toInt.toNat u := ⟨_, rfl⟩
    rw [← eig12] at hw
    have hN : Nx 1022 B none kd ig rg lg kd ig12 rg lg := by rw [eig12]; exact hN.pi (by omega)
    have hI : IC τ B kd ig12 rg := by rw [eig12]; exact hI.pi (show okR none _ from trivial)
    have wig12_1_12 : (ig12 (B + 1) 12).toInt = (ig9 (B + 1) 12).toInt := by rw [eig12, up2_a (by omega)]
    have hR : RZ B τ N h a ig12 := by rw [eig12]; exact hR.wr (Or.inl (by decide))
    refine lv_aload_n hx hb dX7_add_39 rfl (lv_at hl 0 rfl) ?_
    refine lv_dup hx hb dX7_add_40 rfl ?_
    refine r_get C hw (hsh 1 _ rfl) fl_X7_41 (oV_i rfl) dX7_add_41 (ti_c (ig12 (B + 1) 12).toInt rfl fun z13 hz13 => ?_)
    have k14 : 0 ≤ (ig12 (B + 1) 12).toInt ∧ (ig12 (B + 1) 12).toInt ≤ 120 := hI.i 1 12 (by decide)
    refine lv_iconst (v := 1) hx hb dX7_add_44 (by decide) (ti_c 1 (by decide) fun z15 hz15 => ?_)
    refine lv_iadd hx hb dX7_add_45 (tc_add fun z16 hz16 => ?_)
    first | replace hz16 := hz16 (by omega) | clear hz16
    refine r_puti C hw (hsh 1 _ rfl) fl_X7_41 rfl rfl rfl dX7_add_46 (fun H locs hH hw => ?_)
    obtain ⟨ig17, eig17⟩ : ∃ f, f = up2 ig12 (B + 1) 12 z16 := ⟨_, rfl⟩
    rw [← eig17] at hw
    have hN : Nx 1022 B none kd ig rg lg kd ig17 rg lg := by rw [eig17]; exact hN.pi (by omega)
    have hI : IC τ B kd ig17 rg := by rw [eig17]; exact hI.pi (show okR (some (0, 120)) _ from ⟨by show (0 : Int) ≤ _; omega, by show _ ≤ (120 : Int); omega⟩)
    have wig17 : (ig17 (B + 1) 12).toInt = z16.toInt := by rw [eig17, up2_eq]
    have hR : RZ B τ N h a ig17 := by rw [eig17]; exact hR.wr (Or.inr (by decide))
    exact r_vret C hw hr hlk (Nat.le_of_ble_eq_true rfl) (Nat.le_of_ble_eq_true rfl) dX7_add_49 ⟨hI, hN, ⟨rfl, ⟨hR, by rw [eig17, eig12, eig9, eig6]; exact hT.add hM (by omega) (by omega) (by omega) (by omega)⟩⟩⟩

set_option maxHeartbeats 4000000 in
set_option maxRecDepth 100000 in
theorem t_X4_referenceW {τ : Tp} (l : Launch) (B : Nat) (D : va_G) (cA : Nat → ClassId) (kd : sK) (ig : sI) (rg : sR) (lg : sG) (sz : Nat) (x : Int32) (y : Int32) (u : Int32) (w : Int32) (hy : y.toInt = 0 ∨ y.toInt = 1) (hu : u.toInt = 0 ∨ u.toInt = 1) (hx0 : 0 ≤ x.toInt ∧ x.toInt < 288) (hw0 : 0 ≤ w.toInt ∧ w.toInt < 288) (hI : IC τ B kd ig rg) : MC l B D cA yX4_reference cX4_reference 7 (some .int) (rL 0 0 0) [.int x, .int y, .int u, .int w] kd ig rg lg sz (Pu kd ig rg lg sz (fun r => ∃ z : Int32, r = some (.int z) ∧ z.toInt = pkW y.toInt u.toInt (x.toInt % 12) (x.toInt / 12) w.toInt)) := by
  refine MC.of (own := RX4) (by decide +kernel) rfl (Nat.le_of_ble_eq_true rfl) ?_
  intro p e s m args below meth c ls C hr hlk hnm hw hsz hl
  have hx := C.1.1
  have hb := C.1.2.1
  have hown := C.1.2.2.2.1
  have hts := C.1.2.2.2.2
  have hl : lv_has ls 7 [(0, .int x), (1, .int y), (2, .int u), (3, .int w)] := hl
  have hsh := hI.sh
  have hrs := hI.rs
  refine lv_iload_n hx hb dX4_reference_0 rfl (lv_at hl 0 rfl) ?_
  refine lv_bipush (v := 12) hx hb dX4_reference_1 (by decide) (ti_c 12 (by decide) fun z1 hz1 => ?_)
  refine lv_irem hx hb dX4_reference_3 (ne0_of (by omega)) (tc_rem 12 hz1 (by decide) fun z2 bz2 hz2 => ?_)
  first | replace hz2 := hz2 (by omega) | clear hz2
  refine lv_istore (lv' := [(4, .int z2), (0, .int x), (1, .int y), (2, .int u), (3, .int w)]) hx hb dX4_reference_4 hl (by decide) rfl (fun ls hl => ?_)
  refine lv_iload_n hx hb dX4_reference_6 rfl (lv_at hl 1 rfl) ?_
  refine lv_bipush (v := 12) hx hb dX4_reference_7 (by decide) (ti_c 12 (by decide) fun z3 hz3 => ?_)
  refine lv_idiv hx hb dX4_reference_9 (ne0_of (by omega)) (tc_div 12 hz3 (by decide) fun z4 bz4 hz4 => ?_)
  first | replace hz4 := hz4 (by omega) | clear hz4
  refine lv_istore (lv' := [(5, .int z4), (4, .int z2), (0, .int x), (1, .int y), (2, .int u), (3, .int w)]) hx hb dX4_reference_10 hl (by decide) rfl (fun ls hl => ?_)
  refine lv_iconst (v := 0) hx hb dX4_reference_12 (by decide) (ti_c 0 (by decide) fun z5 hz5 => ?_)
  refine lv_istore (lv' := [(6, .int z5), (5, .int z4), (4, .int z2), (0, .int x), (1, .int y), (2, .int u), (3, .int w)]) hx hb dX4_reference_13 hl (by decide) rfl (fun ls hl => ?_)
  refine lv_iload hx hb dX4_reference_15 (lv_at hl 0 rfl) ?_
  refine lv_iload_n hx hb dX4_reference_17 rfl (lv_at hl 4 rfl) ?_
  have J48 : ∀ (ls : Array Slot) (H : Heap) (locs : List Loc) (u6 : Int32), lv_has ls 7 [(5, .int z4), (2, .int u), (3, .int w)] → WD B D cA s.heap kd ig rg lg H locs → H.size = sz → ((y.toInt = 1 ∧ u6.toInt = 8192 + 128 * (x.toInt % 12)) ∨ (y.toInt = 0 ∧ u6.toInt = 128 * (x.toInt % 12 - w.toInt % 12 + 32))) → W p l e (rL 0 0 0) s m args below meth c H locs 0 0 (MQ below (QcW B D cA (Pu kd ig rg lg sz (fun r => ∃ z : Int32, r = some (.int z) ∧ z.toInt = pkW y.toInt u.toInt (x.toInt % 12) (x.toInt / 12) w.toInt))) args s 0 0 (fun q => B ≤ q)) (F0 m 48 ls [.int u6, .int z5]) := by
    intro ls H locs u6 hl hw hsz g48_0
    refine lv_iadd hx hb dX4_reference_48 (tc_add fun z7 hz7 => ?_)
    first | replace hz7 := hz7 (by omega) | clear hz7
    refine lv_istore (lv' := [(6, .int z7), (5, .int z4), (2, .int u), (3, .int w)]) hx hb dX4_reference_49 hl (by decide) rfl (fun ls hl => ?_)
    refine lv_iload hx hb dX4_reference_51 (lv_at hl 0 rfl) ?_
    refine lv_iload_n hx hb dX4_reference_53 rfl (lv_at hl 2 rfl) ?_
    have J75 : ∀ (ls : Array Slot) (H : Heap) (locs : List Loc) (u8 : Int32), lv_has ls 7 [] → WD B D cA s.heap kd ig rg lg H locs → H.size = sz → ((u.toInt = 1 ∧ u8.toInt = 64 + x.toInt / 12) ∨ (u.toInt = 0 ∧ u8.toInt = x.toInt / 12 - w.toInt / 12 + 32)) → W p l e (rL 0 0 0) s m args below meth c H locs 0 0 (MQ below (QcW B D cA (Pu kd ig rg lg sz (fun r => ∃ z : Int32, r = some (.int z) ∧ z.toInt = pkW y.toInt u.toInt (x.toInt % 12) (x.toInt / 12) w.toInt))) args s 0 0 (fun q => B ≤ q)) (F0 m 75 ls [.int u8, .int z7]) := by
      intro ls H locs u8 hl hw hsz g75_0
      refine lv_iadd hx hb dX4_reference_75 (tc_add fun z9 hz9 => ?_)
      first | replace hz9 := hz9 (by omega) | clear hz9
      refine lv_istore (lv' := [(6, .int z9)]) hx hb dX4_reference_76 hl (by decide) rfl (fun ls hl => ?_)
      refine lv_iload hx hb dX4_reference_78 (lv_at hl 0 rfl) ?_
      exact r_iret C hw hr hlk rfl (Nat.le_of_ble_eq_true rfl) (Nat.le_of_ble_eq_true rfl) dX4_reference_80 ⟨rfl, rfl, rfl, rfl, hsz, ⟨_, rfl, by unfold pkW; split <;> split <;> omega⟩⟩
    refine z_eq (tgt := 65) hx hb dX4_reference_54 (by decide) (fun c54 => ?_) (fun c54 => ?_)
    · refine lv_iload hx hb dX4_reference_65 (lv_at hl 1 rfl) ?_
      refine lv_iload_n hx hb dX4_reference_67 rfl (lv_at hl 3 rfl) ?_
      refine lv_bipush (v := 12) hx hb dX4_reference_68 (by decide) (ti_c 12 (by decide) fun z10 hz10 => ?_)
      refine lv_idiv hx hb dX4_reference_70 (ne0_of (by omega)) (tc_div 12 hz10 (by decide) fun z11 bz11 hz11 => ?_)
      first | replace hz11 := hz11 (by omega) | clear hz11
      refine lv_isub hx hb dX4_reference_71 (tc_sub fun z12 hz12 => ?_)
      first | replace hz12 := hz12 (by omega) | clear hz12
      refine lv_bipush (v := 32) hx hb dX4_reference_72 (by decide) (ti_c 32 (by decide) fun z13 hz13 => ?_)
      refine lv_iadd hx hb dX4_reference_74 (tc_add fun z14 hz14 => ?_)
      first | replace hz14 := hz14 (by omega) | clear hz14
      exact J75 ls H locs z14 (lv_sub hl [] rfl) hw hsz (by omega)
    · refine lv_bipush (v := 64) hx hb dX4_reference_57 (by decide) (ti_c 64 (by decide) fun z15 hz15 => ?_)
      refine lv_iload hx hb dX4_reference_59 (lv_at hl 1 rfl) ?_
      refine lv_iadd hx hb dX4_reference_61 (tc_add fun z16 hz16 => ?_)
      first | replace hz16 := hz16 (by omega) | clear hz16
      refine lv_goto (tgt := 75) hx hb dX4_reference_62 (by decide) ?_
      exact J75 ls H locs z16 (lv_sub hl [] rfl) hw hsz (by omega)
  refine z_eq (tgt := 34) hx hb dX4_reference_18 (by decide) (fun c18 => ?_) (fun c18 => ?_)
  · refine lv_iload hx hb dX4_reference_34 (lv_at hl 2 rfl) ?_
    refine lv_iload_n hx hb dX4_reference_36 rfl (lv_at hl 6 rfl) ?_
    refine lv_bipush (v := 12) hx hb dX4_reference_37 (by decide) (ti_c 12 (by decide) fun z17 hz17 => ?_)
    refine lv_irem hx hb dX4_reference_39 (ne0_of (by omega)) (tc_rem 12 hz17 (by decide) fun z18 bz18 hz18 => ?_)
    first | replace hz18 := hz18 (by omega) | clear hz18
    refine lv_isub hx hb dX4_reference_40 (tc_sub fun z19 hz19 => ?_)
    first | replace hz19 := hz19 (by omega) | clear hz19
    refine lv_bipush (v := 32) hx hb dX4_reference_41 (by decide) (ti_c 32 (by decide) fun z20 hz20 => ?_)
    refine lv_iadd hx hb dX4_reference_43 (tc_add fun z21 hz21 => ?_)
    first | replace hz21 := hz21 (by omega) | clear hz21
    refine lv_sipush (v := 128) hx hb dX4_reference_44 (by decide) (ti_c 128 (by decide) fun z22 hz22 => ?_)
    refine lv_imul hx hb dX4_reference_47 (tc_mulR 128 hz22 fun z23 hz23 => ?_)
    first | replace hz23 := hz23 (by omega) | clear hz23
    exact J48 ls s.heap [] z23 (lv_sub hl [1, 5, 6] rfl) hw hsz (by omega)
  · refine lv_sipush (v := 8192) hx hb dX4_reference_21 (by decide) (ti_c 8192 (by decide) fun z24 hz24 => ?_)
    refine lv_iload hx hb dX4_reference_24 (lv_at hl 2 rfl) ?_
    refine lv_sipush (v := 128) hx hb dX4_reference_26 (by decide) (ti_c 128 (by decide) fun z25 hz25 => ?_)
    refine lv_imul hx hb dX4_reference_29 (tc_mulR 128 hz25 fun z26 hz26 => ?_)
    first | replace hz26 := hz26 (by omega) | clear hz26
    refine lv_iadd hx hb dX4_reference_30 (tc_add fun z27 hz27 => ?_)
    first | replace hz27 := hz27 (by omega) | clear hz27
    refine lv_goto (tgt := 48) hx hb dX4_reference_31 (by decide) ?_
    exact J48 ls s.heap [] z27 (lv_sub hl [1, 5, 6] rfl) hw hsz (by omega)

set_option maxHeartbeats 4000000 in
set_option maxRecDepth 100000 in
theorem t_X7_referenceE {τ : Tp} (l : Launch) (B : Nat) (D : va_G) (cA : Nat → ClassId) (kd : sK) (ig : sI) (rg : sR) (lg : sG) (sz : Nat) (x : Int32) (y : Int32) (N h a : Nat) (M : Fm) (hR : RZ2 B τ N h a M ig) (hI : IC τ B kd ig rg) : MC l B D cA yX7_reference cX7_reference 9 (some .int) (rL 1 0 0) [.ref (B + 1), .int x, .int y] kd ig rg lg sz (PI 1022 τ B none kd ig rg lg (fun r kd' ig' rg' lg' => ∃ z : Int32, r = some (.int z) ∧ RF2 B τ N h M ig' x.toInt y.toInt a z)) := by
  refine MC.of (own := RX7) (by decide +kernel) rfl (Nat.le_of_ble_eq_true rfl) ?_
  intro p e s m args below meth c ls C hr hlk hnm hw hsz hl
  have hx := C.1.1
  have hb := C.1.2.1
  have hown := C.1.2.2.2.1
  have hts := C.1.2.2.2.2
  have hl : lv_has ls 9 [(0, .ref (B + 1)), (1, .int x), (2, .int y)] := hl
  have hN : Nx 1022 B none kd ig rg lg kd ig rg lg := Nx.rf
  have hsh := hI.sh
  have hrs := hI.rs
  obtain ⟨⟨⟨hN0, h6⟩, ⟨h2, hh⟩, h7, haN⟩, hMa⟩ := hR.nums
  have bx := i32_bd x
  have by0 := i32_bd y
  refine lv_aload_n hx hb dX7_reference_0 rfl (lv_at hl 0 rfl) ?_
  refine r_callV (As := []) (rest := []) C hw (t_X7_kind l B D cA kd ig rg lg _  N h a hR.1 hI) sv_X7_57 (hsh 1 _ rfl) rfl hl.1 rfl (Nat.le_of_ble_eq_true rfl) ⟨Nat.le_of_ble_eq_true rfl, Nat.le_of_ble_eq_true rfl⟩ ⟨Nat.le_of_ble_eq_true rfl, Nat.le_of_ble_eq_true rfl⟩ dX7_reference_1 (fun r5 kd1 ig2 rg3 lg4 H locs hw hH hp6 => ?_)
  obtain ⟨rfl, rfl, rfl, rfl, hzhp6, hrhp6⟩ := hp6
  obtain ⟨z7, rfl, hz7⟩ := hrhp6
  refine lv_bipush (v := 36) hx hb dX7_reference_4 (by decide) (ti_c 36 (by decide) fun z8 hz8 => ?_)
  have J14 : ∀ (ls : Array Slot) (H : Heap) (locs : List Loc) (kd10 : sK) (ig11 : sI) (rg12 : sR) (lg13 : sG) (u9 : Int32), lv_has ls 9 [(0, .ref (B + 1)), (1, .int x), (2, .int y)] → WD B D cA s.heap kd10 ig11 rg12 lg13 H locs → IC τ B kd10 ig11 rg12 → Nx 1022 B none kd ig rg lg kd10 ig11 rg12 lg13 → (RZ2 B τ N h a M ig11) → ((u9.toInt = 1 ∧ tK τ a = 36) ∨ (u9.toInt = 0 ∧ tK τ a ≠ 36)) → W p l e (rL 1 0 0) s m args below meth c H locs 0 0 (MQ below (QcW B D cA (PI 1022 τ B none kd ig rg lg (fun r kd' ig' rg' lg' => ∃ z : Int32, r = some (.int z) ∧ RF2 B τ N h M ig' x.toInt y.toInt a z))) args s 0 0 (fun q => B ≤ q)) (F0 m 14 ls [.int u9]) := by
    intro ls H locs kd10 ig11 rg12 lg13 u9 hl hw hI hN g14_0 g14_1
    have hsh := hI.sh
    have hrs := hI.rs
    have hR := g14_0
    obtain ⟨⟨⟨hN0, h6⟩, ⟨h2, hh⟩, h7, haN⟩, hMa⟩ := hR.nums
    have hb30 := g14_1
    refine lv_istore_n (lv' := [(3, .int u9), (0, .ref (B + 1)), (1, .int x), (2, .int y)]) hx hb dX7_reference_14 rfl hl (by decide) rfl (fun ls hl => ?_)
    refine lv_aload_n hx hb dX7_reference_15 rfl (lv_at hl 1 rfl) ?_
    refine lv_dup hx hb dX7_reference_16 rfl ?_
    refine r_get C hw (hsh 1 _ rfl) fl_X7_50 (oV_i rfl) dX7_reference_17 (ti_c (ig11 (B + 1) 7).toInt rfl fun z14 hz14 => ?_)
    refine lv_iload_n hx hb dX7_reference_20 rfl (lv_at hl 0 rfl) ?_
    have J29 : ∀ (ls : Array Slot) (H : Heap) (locs : List Loc) (kd16 : sK) (ig17 : sI) (rg18 : sR) (lg19 : sG) (u15 : Int32), lv_has ls 9 [(3, .int u9), (0, .ref (B + 1)), (1, .int x), (2, .int y)] → WD B D cA s.heap kd16 ig17 rg18 lg19 H locs → IC τ B kd16 ig17 rg18 → Nx 1022 B none kd ig rg lg kd16 ig17 rg18 lg19 → (RZ2 B τ N h a M ig17) → (u15.toInt = u9.toInt) → W p l e (rL 1 0 0) s m args below meth c H locs 0 0 (MQ below (QcW B D cA (PI 1022 τ B none kd ig rg lg (fun r kd' ig' rg' lg' => ∃ z : Int32, r = some (.int z) ∧ RF2 B τ N h M ig' x.toInt y.toInt a z))) args s 0 0 (fun q => B ≤ q)) (F0 m 29 ls [.int u15, .int z14, .ref (B + 1)]) := by
      intro ls H locs kd16 ig17 rg18 lg19 u15 hl hw hI hN g29_0 g29_1
      have hsh := hI.sh
      have hrs := hI.rs
      have hR := g29_0
      obtain ⟨⟨⟨hN0, h6⟩, ⟨h2, hh⟩, h7, haN⟩, hMa⟩ := hR.nums
      refine lv_iadd hx hb dX7_reference_29 (tc_add fun z20 hz20 => ?_)
      first | replace hz20 := hz20 (by omega) | clear hz20
      refine r_puti C hw (hsh 1 _ rfl) fl_X7_50 rfl rfl rfl dX7_reference_30 (fun H locs hH hw => ?_)
      obtain ⟨ig21, eig21⟩ : ∃ f, f = up2 ig17 (B + 1) 7 z20 := ⟨_, rfl⟩
      rw [← eig21] at hw
      have hN : Nx 1022 B none kd ig rg lg kd16 ig21 rg18 lg19 := by rw [eig21]; exact hN.pi (by omega)
      have hI : IC τ B kd16 ig21 rg18 := by rw [eig21]; exact hI.pi (show okR none _ from trivial)
      obtain ⟨ad22, dlad22, ead22, dfad22⟩ : ∃ q : Nat, dol (tK τ) a q ∧ z20.toInt = (q : Int) ∧ dlf τ a q u9.toInt := (by
        rcases hb30 with ⟨q1, q2⟩ | ⟨q1, q2⟩
        · exact ⟨a + 1, Or.inl ⟨q2, rfl⟩, by omega, Or.inl ⟨q2, rfl, q1⟩⟩
        · exact ⟨a, Or.inr ⟨q2, rfl⟩, by omega, Or.inr ⟨q2, rfl, q1⟩⟩)
      have lad22 : ad22 ≤ N ∧ a ≤ ad22 := (by
        rcases dlad22 with ⟨q1, q2⟩ | ⟨q1, q2⟩
        · have := hR.lt (show tK τ a ≠ 0 by unfold sg at q1; omega); omega
        · omega)
      have hR : RZ2 B τ N h ad22 M ig21 := by rw [eig21]; exact hR.nx (by omega) lad22.1 lad22.2
      obtain ⟨⟨⟨hN0, h6⟩, ⟨h2, hh⟩, h7, haN⟩, hMa⟩ := hR.nums
      have hbd := hR.bd
      refine lv_aload_n hx hb dX7_reference_33 rfl (lv_at hl 1 rfl) ?_
      refine r_callV (As := []) (rest := []) C hw (t_X7_amount l B D cA kd16 ig21 rg18 lg19 _  N h ad22 hR.1 hI) sv_X7_128 (hsh 1 _ rfl) rfl hl.1 rfl (Nat.le_of_ble_eq_true rfl) ⟨Nat.le_of_ble_eq_true rfl, Nat.le_of_ble_eq_true rfl⟩ ⟨Nat.le_of_ble_eq_true rfl, Nat.le_of_ble_eq_true rfl⟩ dX7_reference_34 (fun r27 kd23 ig24 rg25 lg26 H locs hw hH hp28 => ?_)
      obtain ⟨rfl, rfl, rfl, rfl, hzhp28, hrhp28⟩ := hp28
      obtain ⟨z29, rfl, hz29⟩ := hrhp28
      refine lv_istore (lv' := [(4, .int z29), (3, .int u9), (0, .ref (B + 1)), (1, .int x), (2, .int y)]) hx hb dX7_reference_37 hl (by decide) rfl (fun ls hl => ?_)
      refine lv_aload_n hx hb dX7_reference_39 rfl (lv_at hl 2 rfl) ?_
      refine r_callV (As := []) (rest := []) C hw (t_X7_kind l B D cA kd16 ig21 rg18 lg19 _  N h ad22 hR.1 hI) sv_X7_57 (hsh 1 _ rfl) rfl hl.1 rfl (Nat.le_of_ble_eq_true rfl) ⟨Nat.le_of_ble_eq_true rfl, Nat.le_of_ble_eq_true rfl⟩ ⟨Nat.le_of_ble_eq_true rfl, Nat.le_of_ble_eq_true rfl⟩ dX7_reference_40 (fun r34 kd30 ig31 rg32 lg33 H locs hw hH hp35 => ?_)
      obtain ⟨rfl, rfl, rfl, rfl, hzhp35, hrhp35⟩ := hp35
      obtain ⟨z36, rfl, hz36⟩ := hrhp35
      refine lv_iload hx hb dX7_reference_43 (lv_at hl 0 rfl) ?_
      refine lv_iload_n hx hb dX7_reference_45 rfl (lv_at hl 3 rfl) ?_
      refine r_callS (As := [.int z36, .int z29, .int x]) (rest := []) C hw (t_X7_columnFault l B D cA kd16 ig21 rg18 lg19 _ z36 z29 x  hI) ss_X7_149 rfl hl.1 rfl (Nat.le_of_ble_eq_true rfl) ⟨Nat.le_of_ble_eq_true rfl, Nat.le_of_ble_eq_true rfl⟩ ⟨Nat.le_of_ble_eq_true rfl, Nat.le_of_ble_eq_true rfl⟩ dX7_reference_46 (fun r41 kd37 ig38 rg39 lg40 H locs hw hH hp42 => ?_)
      obtain ⟨rfl, rfl, rfl, rfl, hzhp42, hrhp42⟩ := hp42
      obtain ⟨z43, rfl, hz43⟩ := hrhp42
      refine lv_istore (lv' := [(5, .int z43), (4, .int z29), (3, .int u9), (0, .ref (B + 1)), (1, .int x), (2, .int y)]) hx hb dX7_reference_49 hl (by decide) rfl (fun ls hl => ?_)
      refine lv_iload hx hb dX7_reference_51 (lv_at hl 0 rfl) ?_
      refine z_eq (tgt := 65) hx hb dX7_reference_53 (by decide) (fun c53 => ?_) (fun c53 => ?_)
      · refine lv_aload_n hx hb dX7_reference_65 rfl (lv_at hl 3 rfl) ?_
        refine lv_dup hx hb dX7_reference_66 rfl ?_
        refine r_get C hw (hsh 1 _ rfl) fl_X7_50 (oV_i rfl) dX7_reference_67 (ti_c (ig21 (B + 1) 7).toInt rfl fun z44 hz44 => ?_)
        refine lv_iconst (v := 1) hx hb dX7_reference_70 (by decide) (ti_c 1 (by decide) fun z45 hz45 => ?_)
        refine lv_iadd hx hb dX7_reference_71 (tc_add fun z46 hz46 => ?_)
        first | replace hz46 := hz46 (by omega) | clear hz46
        refine r_puti C hw (hsh 1 _ rfl) fl_X7_50 rfl rfl rfl dX7_reference_72 (fun H locs hH hw => ?_)
        obtain ⟨ig47, eig47⟩ : ∃ f, f = up2 ig21 (B + 1) 7 z46 := ⟨_, rfl⟩
        rw [← eig47] at hw
        have hN : Nx 1022 B none kd ig rg lg kd16 ig47 rg18 lg19 := by rw [eig47]; exact hN.pi (by omega)
        have hI : IC τ B kd16 ig47 rg18 := by rw [eig47]; exact hI.pi (show okR none _ from trivial)
        have hlt := hR.lt (show tK τ ad22 ≠ 0 from by omega)
        have hR : RZ2 B τ N h (ad22 + 1) M ig47 := by rw [eig47]; exact hR.nx (by omega) (by omega) (by omega)
        obtain ⟨⟨⟨hN0, h6⟩, ⟨h2, hh⟩, h7, haN⟩, hMa⟩ := hR.nums
        refine lv_aload_n hx hb dX7_reference_75 rfl (lv_at hl 3 rfl) ?_
        refine r_callV (As := []) (rest := []) C hw (t_X7_kind l B D cA kd16 ig47 rg18 lg19 _  N h (ad22 + 1) hR.1 hI) sv_X7_57 (hsh 1 _ rfl) rfl hl.1 rfl (Nat.le_of_ble_eq_true rfl) ⟨Nat.le_of_ble_eq_true rfl, Nat.le_of_ble_eq_true rfl⟩ ⟨Nat.le_of_ble_eq_true rfl, Nat.le_of_ble_eq_true rfl⟩ dX7_reference_76 (fun r52 kd48 ig49 rg50 lg51 H locs hw hH hp53 => ?_)
        obtain ⟨rfl, rfl, rfl, rfl, hzhp53, hrhp53⟩ := hp53
        obtain ⟨z54, rfl, hz54⟩ := hrhp53
        refine lv_bipush (v := 36) hx hb dX7_reference_79 (by decide) (ti_c 36 (by decide) fun z55 hz55 => ?_)
        have J89 : ∀ (ls : Array Slot) (H : Heap) (locs : List Loc) (kd57 : sK) (ig58 : sI) (rg59 : sR) (lg60 : sG) (u56 : Int32), lv_has ls 9 [(4, .int z29), (3, .int u9), (0, .ref (B + 1)), (2, .int y)] → WD B D cA s.heap kd57 ig58 rg59 lg60 H locs → IC τ B kd57 ig58 rg59 → Nx 1022 B none kd ig rg lg kd57 ig58 rg59 lg60 → (RZ2 B τ N h (ad22 + 1) M ig58) → ((u56.toInt = 1 ∧ tK τ (ad22 + 1) = 36) ∨ (u56.toInt = 0 ∧ tK τ (ad22 + 1) ≠ 36)) → W p l e (rL 1 0 0) s m args below meth c H locs 0 0 (MQ below (QcW B D cA (PI 1022 τ B none kd ig rg lg (fun r kd' ig' rg' lg' => ∃ z : Int32, r = some (.int z) ∧ RF2 B τ N h M ig' x.toInt y.toInt a z))) args s 0 0 (fun q => B ≤ q)) (F0 m 89 ls [.int u56]) := by
          intro ls H locs kd57 ig58 rg59 lg60 u56 hl hw hI hN g89_0 g89_1
          have hsh := hI.sh
          have hrs := hI.rs
          have hR := g89_0
          obtain ⟨⟨⟨hN0, h6⟩, ⟨h2, hh⟩, h7, haN⟩, hMa⟩ := hR.nums
          have hb107 := g89_1
          refine lv_istore (lv' := [(6, .int u56), (4, .int z29), (3, .int u9), (0, .ref (B + 1)), (2, .int y)]) hx hb dX7_reference_89 hl (by decide) rfl (fun ls hl => ?_)
          refine lv_aload_n hx hb dX7_reference_91 rfl (lv_at hl 3 rfl) ?_
          refine lv_dup hx hb dX7_reference_92 rfl ?_
          refine r_get C hw (hsh 1 _ rfl) fl_X7_50 (oV_i rfl) dX7_reference_93 (ti_c (ig58 (B + 1) 7).toInt rfl fun z61 hz61 => ?_)
          refine lv_iload hx hb dX7_reference_96 (lv_at hl 0 rfl) ?_
          have J106 : ∀ (ls : Array Slot) (H : Heap) (locs : List Loc) (kd63 : sK) (ig64 : sI) (rg65 : sR) (lg66 : sG) (u62 : Int32), lv_has ls 9 [(6, .int u56), (4, .int z29), (3, .int u9), (0, .ref (B + 1)), (2, .int y)] → WD B D cA s.heap kd63 ig64 rg65 lg66 H locs → IC τ B kd63 ig64 rg65 → Nx 1022 B none kd ig rg lg kd63 ig64 rg65 lg66 → (RZ2 B τ N h (ad22 + 1) M ig64) → (u62.toInt = u56.toInt) → W p l e (rL 1 0 0) s m args below meth c H locs 0 0 (MQ below (QcW B D cA (PI 1022 τ B none kd ig rg lg (fun r kd' ig' rg' lg' => ∃ z : Int32, r = some (.int z) ∧ RF2 B τ N h M ig' x.toInt y.toInt a z))) args s 0 0 (fun q => B ≤ q)) (F0 m 106 ls [.int u62, .int z61, .ref (B + 1)]) := by
            intro ls H locs kd63 ig64 rg65 lg66 u62 hl hw hI hN g106_0 g106_1
            have hsh := hI.sh
            have hrs := hI.rs
            have hR := g106_0
            obtain ⟨⟨⟨hN0, h6⟩, ⟨h2, hh⟩, h7, haN⟩, hMa⟩ := hR.nums
            refine lv_iadd hx hb dX7_reference_106 (tc_add fun z67 hz67 => ?_)
            first | replace hz67 := hz67 (by omega) | clear hz67
            refine r_puti C hw (hsh 1 _ rfl) fl_X7_50 rfl rfl rfl dX7_reference_107 (fun H locs hH hw => ?_)
            obtain ⟨ig68, eig68⟩ : ∃ f, f = up2 ig64 (B + 1) 7 z67 := ⟨_, rfl⟩
            rw [← eig68] at hw
            have hN : Nx 1022 B none kd ig rg lg kd63 ig68 rg65 lg66 := by rw [eig68]; exact hN.pi (by omega)
            have hI : IC τ B kd63 ig68 rg65 := by rw [eig68]; exact hI.pi (show okR none _ from trivial)
            obtain ⟨ad69, dlad69, ead69, dfad69⟩ : ∃ q : Nat, dol (tK τ) (ad22 + 1) q ∧ z67.toInt = (q : Int) ∧ dlf τ (ad22 + 1) q u56.toInt := (by
              rcases hb107 with ⟨q1, q2⟩ | ⟨q1, q2⟩
              · exact ⟨(ad22 + 1) + 1, Or.inl ⟨q2, rfl⟩, by omega, Or.inl ⟨q2, rfl, q1⟩⟩
              · exact ⟨(ad22 + 1), Or.inr ⟨q2, rfl⟩, by omega, Or.inr ⟨q2, rfl, q1⟩⟩)
            have lad69 : ad69 ≤ N ∧ (ad22 + 1) ≤ ad69 := (by
              rcases dlad69 with ⟨q1, q2⟩ | ⟨q1, q2⟩
              · have := hR.lt (show tK τ (ad22 + 1) ≠ 0 by unfold sg at q1; omega); omega
              · omega)
            have hR : RZ2 B τ N h ad69 M ig68 := by rw [eig68]; exact hR.nx (by omega) lad69.1 lad69.2
            obtain ⟨⟨⟨hN0, h6⟩, ⟨h2, hh⟩, h7, haN⟩, hMa⟩ := hR.nums
            have hbd := hR.bd
            refine lv_aload_n hx hb dX7_reference_110 rfl (lv_at hl 3 rfl) ?_
            refine r_callV (As := []) (rest := []) C hw (t_X7_amount l B D cA kd63 ig68 rg65 lg66 _  N h ad69 hR.1 hI) sv_X7_128 (hsh 1 _ rfl) rfl hl.1 rfl (Nat.le_of_ble_eq_true rfl) ⟨Nat.le_of_ble_eq_true rfl, Nat.le_of_ble_eq_true rfl⟩ ⟨Nat.le_of_ble_eq_true rfl, Nat.le_of_ble_eq_true rfl⟩ dX7_reference_111 (fun r74 kd70 ig71 rg72 lg73 H locs hw hH hp75 => ?_)
            obtain ⟨rfl, rfl, rfl, rfl, hzhp75, hrhp75⟩ := hp75
            obtain ⟨z76, rfl, hz76⟩ := hrhp75
            refine lv_iconst (v := 1) hx hb dX7_reference_114 (by decide) (ti_c 1 (by decide) fun z77 hz77 => ?_)
            refine lv_isub hx hb dX7_reference_115 (tc_sub fun z78 hz78 => ?_)
            first | replace hz78 := hz78 (by omega) | clear hz78
            refine lv_istore (lv' := [(7, .int z78), (6, .int u56), (4, .int z29), (3, .int u9), (0, .ref (B + 1)), (2, .int y)]) hx hb dX7_reference_116 hl (by decide) rfl (fun ls hl => ?_)
            refine lv_aload_n hx hb dX7_reference_118 rfl (lv_at hl 4 rfl) ?_
            refine r_callV (As := []) (rest := []) C hw (t_X7_kind l B D cA kd63 ig68 rg65 lg66 _  N h ad69 hR.1 hI) sv_X7_57 (hsh 1 _ rfl) rfl hl.1 rfl (Nat.le_of_ble_eq_true rfl) ⟨Nat.le_of_ble_eq_true rfl, Nat.le_of_ble_eq_true rfl⟩ ⟨Nat.le_of_ble_eq_true rfl, Nat.le_of_ble_eq_true rfl⟩ dX7_reference_119 (fun r83 kd79 ig80 rg81 lg82 H locs hw hH hp84 => ?_)
            obtain ⟨rfl, rfl, rfl, rfl, hzhp84, hrhp84⟩ := hp84
            obtain ⟨z85, rfl, hz85⟩ := hrhp84
            refine lv_iload hx hb dX7_reference_122 (lv_at hl 0 rfl) ?_
            refine lv_iload_n hx hb dX7_reference_124 rfl (lv_at hl 5 rfl) ?_
            refine r_callS (As := [.int z85, .int z78, .int y]) (rest := []) C hw (t_X7_rowFault l B D cA kd63 ig68 rg65 lg66 _ z85 z78 y  hI) ss_X7_153 rfl hl.1 rfl (Nat.le_of_ble_eq_true rfl) ⟨Nat.le_of_ble_eq_true rfl, Nat.le_of_ble_eq_true rfl⟩ ⟨Nat.le_of_ble_eq_true rfl, Nat.le_of_ble_eq_true rfl⟩ dX7_reference_125 (fun r90 kd86 ig87 rg88 lg89 H locs hw hH hp91 => ?_)
            obtain ⟨rfl, rfl, rfl, rfl, hzhp91, hrhp91⟩ := hp91
            obtain ⟨z92, rfl, hz92⟩ := hrhp91
            refine lv_istore (lv' := [(8, .int z92), (7, .int z78), (6, .int u56), (4, .int z29), (3, .int u9), (0, .ref (B + 1)), (2, .int y)]) hx hb dX7_reference_128 hl (by decide) rfl (fun ls hl => ?_)
            refine lv_iload hx hb dX7_reference_130 (lv_at hl 0 rfl) ?_
            refine z_eq (tgt := 144) hx hb dX7_reference_132 (by decide) (fun c132 => ?_) (fun c132 => ?_)
            · refine lv_aload_n hx hb dX7_reference_144 rfl (lv_at hl 5 rfl) ?_
              refine lv_dup hx hb dX7_reference_145 rfl ?_
              refine r_get C hw (hsh 1 _ rfl) fl_X7_50 (oV_i rfl) dX7_reference_146 (ti_c (ig68 (B + 1) 7).toInt rfl fun z93 hz93 => ?_)
              refine lv_iconst (v := 1) hx hb dX7_reference_149 (by decide) (ti_c 1 (by decide) fun z94 hz94 => ?_)
              refine lv_iadd hx hb dX7_reference_150 (tc_add fun z95 hz95 => ?_)
              first | replace hz95 := hz95 (by omega) | clear hz95
              refine r_puti C hw (hsh 1 _ rfl) fl_X7_50 rfl rfl rfl dX7_reference_151 (fun H locs hH hw => ?_)
              obtain ⟨ig96, eig96⟩ : ∃ f, f = up2 ig68 (B + 1) 7 z95 := ⟨_, rfl⟩
              rw [← eig96] at hw
              have hN : Nx 1022 B none kd ig rg lg kd63 ig96 rg65 lg66 := by rw [eig96]; exact hN.pi (by omega)
              have hI : IC τ B kd63 ig96 rg65 := by rw [eig96]; exact hI.pi (show okR none _ from trivial)
              have hlt := hR.lt (show tK τ ad69 ≠ 0 from by omega)
              have hR : RZ2 B τ N h (ad69 + 1) M ig96 := by rw [eig96]; exact hR.nx (by omega) (by omega) (by omega)
              obtain ⟨⟨⟨hN0, h6⟩, ⟨h2, hh⟩, h7, haN⟩, hMa⟩ := hR.nums
              refine lv_iload hx hb dX7_reference_154 (lv_at hl 1 rfl) ?_
              refine lv_bipush (v := 12) hx hb dX7_reference_156 (by decide) (ti_c 12 (by decide) fun z97 hz97 => ?_)
              refine lv_imul hx hb dX7_reference_158 (tc_mulR 12 hz97 fun z98 hz98 => ?_)
              first | replace hz98 := hz98 (by omega) | clear hz98
              refine lv_iload hx hb dX7_reference_159 (lv_at hl 3 rfl) ?_
              refine lv_iadd hx hb dX7_reference_161 (tc_add fun z99 hz99 => ?_)
              first | replace hz99 := hz99 (by omega) | clear hz99
              refine lv_iload_n hx hb dX7_reference_162 rfl (lv_at hl 4 rfl) ?_
              refine lv_iload hx hb dX7_reference_163 (lv_at hl 2 rfl) ?_
              refine lv_aload_n hx hb dX7_reference_165 rfl (lv_at hl 5 rfl) ?_
              refine r_get C hw (hsh 1 _ rfl) fl_X7_38 (oV_i rfl) dX7_reference_166 (ti_c (ig96 (B + 1) 2).toInt rfl fun z100 hz100 => ?_)
              have hhm : z100.toInt = (h : Int) := by omega
              refine r_callS (As := [.int z99, .int u9, .int u56, .int z100]) (rest := []) C hw (t_X4_referenceW l B D cA kd63 ig96 rg65 lg66 _ z99 u9 u56 z100 (by omega) (by omega) (by omega) (by omega) hI) ss_X7_156 rfl hl.1 rfl (Nat.le_of_ble_eq_true rfl) ⟨Nat.le_of_ble_eq_true rfl, Nat.le_of_ble_eq_true rfl⟩ ⟨Nat.le_of_ble_eq_true rfl, Nat.le_of_ble_eq_true rfl⟩ dX7_reference_169 (fun r105 kd101 ig102 rg103 lg104 H locs hw hH hp106 => ?_)
              obtain ⟨rfl, rfl, rfl, rfl, hzhp106, hrhp106⟩ := hp106
              obtain ⟨z107, rfl, hz107⟩ := hrhp106
              have ew : z107.toInt = pkW u9.toInt u56.toInt (tV τ ad22) (tV τ ad69 - 1) (h : Int) := by rw [hz107, show z99.toInt % 12 = tV τ ad22 by omega, show z99.toInt / 12 = tV τ ad69 - 1 by omega, hhm]
              exact r_iret C hw hr hlk rfl (Nat.le_of_ble_eq_true rfl) (Nat.le_of_ble_eq_true rfl) dX7_reference_172 ⟨hI, hN, ⟨_, rfl, (by have k9 := pkW_ok (cf := u9.toInt) (rf := u56.toInt) (c := tV τ ad22) (r := tV τ ad69 - 1) (h := (h : Int)) (by omega) (by omega) (by omega) (dlf.b dfad22).2 (dlf.b dfad69).2; rw [← ew] at k9; exact ⟨0, ad69 + 1, tV τ ad22, tV τ ad69 - 1, pRef.ok dlad22 (by omega) (by omega) dlad69 (by omega), Or.inl ⟨rfl, ⟨⟨k9.1.1, k9.2.1, k9.2.2⟩, by omega, by omega, k9.1, ad22, ad69, u9.toInt, u56.toInt, dfad22, by omega, dfad69, by omega, rfl, ew⟩, hR⟩⟩)⟩⟩
            · refine lv_aload_n hx hb dX7_reference_135 rfl (lv_at hl 5 rfl) ?_
              refine lv_iload hx hb dX7_reference_136 (lv_at hl 0 rfl) ?_
              refine r_callV (As := [.int z92]) (rest := []) C hw (t_X7_wrong l B D cA kd63 ig68 rg65 lg66 _ z92 N h ad69 hR.1 (by omega) hI) sv_X7_61 (hsh 1 _ rfl) rfl hl.1 rfl (Nat.le_of_ble_eq_true rfl) ⟨Nat.le_of_ble_eq_true rfl, Nat.le_of_ble_eq_true rfl⟩ ⟨Nat.le_of_ble_eq_true rfl, Nat.le_of_ble_eq_true rfl⟩ dX7_reference_138 (fun r112 kd108 ig109 rg110 lg111 H locs hw hH hp113 => ?_)
              obtain ⟨hI, hchp113, hrhp113⟩ := hp113
              have hN := hN.tr hchp113
              have hsh := hI.sh
              have hrs := hI.rs
              obtain ⟨z114, rfl, hz114⟩ := hrhp113
              obtain ⟨wz, w8⟩ := hz114
              refine lv_pop hx hb dX7_reference_141 rfl ?_
              refine lv_iconst (v := (-1)) hx hb dX7_reference_142 (by decide) (ti_c (-1) (by decide) fun z115 hz115 => ?_)
              exact r_iret C hw hr hlk rfl (Nat.le_of_ble_eq_true rfl) (Nat.le_of_ble_eq_true rfl) dX7_reference_143 ⟨hI, hN, ⟨_, rfl, ⟨fw (tS τ) z92.toInt ad69, 0, tV τ ad22, 0, pRef.rF dlad22 (by omega) (by omega) dlad69 (by omega), Or.inr ⟨hR.fw_ne (by omega), by omega, w8⟩⟩⟩⟩
          refine z_eq (tgt := 105) hx hb dX7_reference_98 (by decide) (fun c98 => ?_) (fun c98 => ?_)
          · refine lv_iconst (v := 0) hx hb dX7_reference_105 (by decide) (ti_c 0 (by decide) fun z116 hz116 => ?_)
            exact J106 ls H locs kd57 ig58 rg59 lg60 z116 (lv_sub hl [0, 1, 2, 3, 4] rfl) hw hI hN (hR) (by omega)
          · refine lv_iconst (v := 1) hx hb dX7_reference_101 (by decide) (ti_c 1 (by decide) fun z117 hz117 => ?_)
            refine lv_goto (tgt := 106) hx hb dX7_reference_102 (by decide) ?_
            exact J106 ls H locs kd57 ig58 rg59 lg60 z117 (lv_sub hl [0, 1, 2, 3, 4] rfl) hw hI hN (hR) (by omega)
        refine b_ne (tgt := 88) hx hb dX7_reference_81 (by decide) (fun c81 => ?_) (fun c81 => ?_)
        · refine lv_iconst (v := 0) hx hb dX7_reference_88 (by decide) (ti_c 0 (by decide) fun z118 hz118 => ?_)
          exact J89 ls H locs kd16 ig47 rg18 lg19 z118 (lv_sub hl [1, 2, 3, 5] rfl) hw hI hN (hR) (by omega)
        · refine lv_iconst (v := 1) hx hb dX7_reference_84 (by decide) (ti_c 1 (by decide) fun z119 hz119 => ?_)
          refine lv_goto (tgt := 89) hx hb dX7_reference_85 (by decide) ?_
          exact J89 ls H locs kd16 ig47 rg18 lg19 z119 (lv_sub hl [1, 2, 3, 5] rfl) hw hI hN (hR) (by omega)
      · refine lv_aload_n hx hb dX7_reference_56 rfl (lv_at hl 3 rfl) ?_
        refine lv_iload hx hb dX7_reference_57 (lv_at hl 0 rfl) ?_
        refine r_callV (As := [.int z43]) (rest := []) C hw (t_X7_wrong l B D cA kd16 ig21 rg18 lg19 _ z43 N h ad22 hR.1 (by omega) hI) sv_X7_61 (hsh 1 _ rfl) rfl hl.1 rfl (Nat.le_of_ble_eq_true rfl) ⟨Nat.le_of_ble_eq_true rfl, Nat.le_of_ble_eq_true rfl⟩ ⟨Nat.le_of_ble_eq_true rfl, Nat.le_of_ble_eq_true rfl⟩ dX7_reference_59 (fun r124 kd120 ig121 rg122 lg123 H locs hw hH hp125 => ?_)
        obtain ⟨hI, hchp125, hrhp125⟩ := hp125
        have hN := hN.tr hchp125
        have hsh := hI.sh
        have hrs := hI.rs
        obtain ⟨z126, rfl, hz126⟩ := hrhp125
        obtain ⟨wz, w8⟩ := hz126
        refine lv_pop hx hb dX7_reference_62 rfl ?_
        refine lv_iconst (v := (-1)) hx hb dX7_reference_63 (by decide) (ti_c (-1) (by decide) fun z127 hz127 => ?_)
        exact r_iret C hw hr hlk rfl (Nat.le_of_ble_eq_true rfl) (Nat.le_of_ble_eq_true rfl) dX7_reference_64 ⟨hI, hN, ⟨_, rfl, ⟨fw (tS τ) z43.toInt ad22, 0, 0, 0, pRef.cF dlad22 (by omega), Or.inr ⟨hR.fw_ne (by omega), by omega, w8⟩⟩⟩⟩
    refine z_eq (tgt := 28) hx hb dX7_reference_21 (by decide) (fun c21 => ?_) (fun c21 => ?_)
    · refine lv_iconst (v := 0) hx hb dX7_reference_28 (by decide) (ti_c 0 (by decide) fun z128 hz128 => ?_)
      exact J29 ls H locs kd10 ig11 rg12 lg13 z128 (lv_sub hl [0, 1, 2, 3] rfl) hw hI hN (hR) (by omega)
    · refine lv_iconst (v := 1) hx hb dX7_reference_24 (by decide) (ti_c 1 (by decide) fun z129 hz129 => ?_)
      refine lv_goto (tgt := 29) hx hb dX7_reference_25 (by decide) ?_
      exact J29 ls H locs kd10 ig11 rg12 lg13 z129 (lv_sub hl [0, 1, 2, 3] rfl) hw hI hN (hR) (by omega)
  refine b_ne (tgt := 13) hx hb dX7_reference_6 (by decide) (fun c6 => ?_) (fun c6 => ?_)
  · refine lv_iconst (v := 0) hx hb dX7_reference_13 (by decide) (ti_c 0 (by decide) fun z130 hz130 => ?_)
    exact J14 ls H locs kd ig rg lg z130 (lv_sub hl [0, 1, 2] rfl) hw hI hN (hR) (by omega)
  · refine lv_iconst (v := 1) hx hb dX7_reference_9 (by decide) (ti_c 1 (by decide) fun z131 hz131 => ?_)
    refine lv_goto (tgt := 14) hx hb dX7_reference_10 (by decide) ?_
    exact J14 ls H locs kd ig rg lg z131 (lv_sub hl [0, 1, 2] rfl) hw hI hN (hR) (by omega)

set_option maxHeartbeats 4000000 in
set_option maxRecDepth 100000 in
theorem t_X7_singleE {τ : Tp} (l : Launch) (B : Nat) (D : va_G) (cA : Nat → ClassId) (kd : sK) (ig : sI) (rg : sR) (lg : sG) (sz : Nat) (N h a : Nat) (M : Fm) (hR : RZ2 B τ N h a M ig) (hI : IC τ B kd ig rg) : MC l B D cA yX7_single cX7_single 2 (some .boolean) (rL 2 0 0) [.ref (B + 1)] kd ig rg lg sz (PI 1022 τ B none kd ig rg lg (fun r kd' ig' rg' lg' => ∃ z : Int32, r = some (.int z) ∧ RB2 B τ N h ig' (QS1 τ h a M) z)) := by
  refine MC.of (own := RX7) (by decide +kernel) rfl (Nat.le_of_ble_eq_true rfl) ?_
  intro p e s m args below meth c ls C hr hlk hnm hw hsz hl
  have hx := C.1.1
  have hb := C.1.2.1
  have hown := C.1.2.2.2.1
  have hts := C.1.2.2.2.2
  have hl : lv_has ls 2 [(0, .ref (B + 1))] := hl
  have hN : Nx 1022 B none kd ig rg lg kd ig rg lg := Nx.rf
  have hsh := hI.sh
  have hrs := hI.rs
  obtain ⟨⟨⟨hN0, h6⟩, ⟨h2, hh⟩, h7, haN⟩, hMa⟩ := hR.nums
  refine lv_aload_n hx hb dX7_single_0 rfl (lv_at hl 0 rfl) ?_
  refine lv_iconst (v := 0) hx hb dX7_single_1 (by decide) (ti_c 0 (by decide) fun z1 hz1 => ?_)
  refine lv_iconst (v := 0) hx hb dX7_single_2 (by decide) (ti_c 0 (by decide) fun z2 hz2 => ?_)
  refine r_callV (As := [.int z1, .int z2]) (rest := []) C hw (t_X7_referenceE l B D cA kd ig rg lg _ z1 z2 N h a M hR hI) sv_X7_140 (hsh 1 _ rfl) rfl hl.1 rfl (Nat.le_of_ble_eq_true rfl) ⟨Nat.le_of_ble_eq_true rfl, Nat.le_of_ble_eq_true rfl⟩ ⟨Nat.le_of_ble_eq_true rfl, Nat.le_of_ble_eq_true rfl⟩ dX7_single_3 (fun r7 kd3 ig4 rg5 lg6 H locs hw hH hp8 => ?_)
  obtain ⟨hI, hchp8, hrhp8⟩ := hp8
  have hN := hN.tr hchp8
  have hsh := hI.sh
  have hrs := hI.rs
  obtain ⟨z9, rfl, hz9⟩ := hrhp8
  have rf := hz9
  rw [hz1, hz2] at rf
  refine lv_istore_n (lv' := [(1, .int z9), (0, .ref (B + 1))]) hx hb dX7_single_6 rfl hl (by decide) rfl (fun ls hl => ?_)
  refine lv_iload_n hx hb dX7_single_7 rfl (lv_at hl 0 rfl) ?_
  refine lv_iconst (v := (-1)) hx hb dX7_single_8 (by decide) (ti_c (-1) (by decide) fun z10 hz10 => ?_)
  refine b_ne (tgt := 14) hx hb dX7_single_9 (by decide) (fun c9 => ?_) (fun c9 => ?_)
  · obtain ⟨a9, c9, r9, p9, ⟨q1, q2, q3, q4, q5⟩, hR⟩ := RF2.yes rf (by omega)
    have lt9 := q5.lt
    obtain ⟨⟨⟨hN0, h6⟩, ⟨h2, hh⟩, h7, haN⟩, hMa2⟩ := hR.nums
    refine lv_aload_n hx hb dX7_single_14 rfl (lv_at hl 1 rfl) ?_
    refine lv_iconst (v := 1) hx hb dX7_single_15 (by decide) (ti_c 1 (by decide) fun z11 hz11 => ?_)
    refine lv_iload_n hx hb dX7_single_16 rfl (lv_at hl 0 rfl) ?_
    refine lv_iload_n hx hb dX7_single_17 rfl (lv_at hl 0 rfl) ?_
    refine r_callV (As := [.int z11, .int z9, .int z9]) (rest := []) C hw (t_X7_addE l B D cA kd3 ig4 rg5 lg6 _ z11 z9 z9 N h a9 M hR.1 hR.2.1 (by first | omega | (simp only [List.length_append, List.length_singleton, List.length_nil] at *; omega)) hI) sv_X7_112 (hsh 1 _ rfl) rfl hl.1 rfl (Nat.le_of_ble_eq_true rfl) ⟨Nat.le_of_ble_eq_true rfl, Nat.le_of_ble_eq_true rfl⟩ ⟨Nat.le_of_ble_eq_true rfl, Nat.le_of_ble_eq_true rfl⟩ dX7_single_18 (fun r16 kd12 ig13 rg14 lg15 H locs hw hH hp17 => ?_)
    obtain ⟨hI, hchp17, hrhp17⟩ := hp17
    have hN := hN.tr hchp17
    have hsh := hI.sh
    have hrs := hI.rs
    obtain ⟨rfl, hvhp17⟩ := hrhp17
    have hs9 : (z11.toInt, z9.toInt, z9.toInt) = (1, z9.toInt, z9.toInt) := by rw [hz11]
    obtain ⟨hR1, hT1⟩ := hvhp17
    rw [hs9] at hT1
    have hR : RZ2 B τ N h a9 (M ++ [(1, z9.toInt, z9.toInt)]) ig13 := RZ2.mk hR1 hT1 (by first | omega | (simp only [List.length_append, List.length_singleton] at *; omega))
    refine lv_iconst (v := 1) hx hb dX7_single_21 (by decide) (ti_c 1 (by decide) fun z18 hz18 => ?_)
    exact r_iret C hw hr hlk (nar_b (by omega)) (Nat.le_of_ble_eq_true rfl) (Nat.le_of_ble_eq_true rfl) dX7_single_22 ⟨hI, hN, ⟨_, rfl, RB2.mk ⟨⟨c9, r9, p9⟩, fun _ => ⟨_, q5, fitW.rd ⟨⟨by omega, by omega⟩, q4⟩ ⟨⟨by omega, by omega⟩, q4⟩ ⟨Int.le_refl _, Int.le_refl _⟩, rfl⟩⟩ hR (by omega)⟩⟩
  · obtain ⟨f9, a9, c9, r9, hf9, p9, h89⟩ := RF2.no rf (by omega)
    refine lv_iconst (v := 0) hx hb dX7_single_12 (by decide) (ti_c 0 (by decide) fun z19 hz19 => ?_)
    exact r_iret C hw hr hlk (nar_b (by omega)) (Nat.le_of_ble_eq_true rfl) (Nat.le_of_ble_eq_true rfl) dX7_single_13 ⟨hI, hN, ⟨_, rfl, RB2.mkf (M' := M) ⟨⟨c9, r9, p9⟩, fun e => (hf9 e).elim⟩ hf9 h89 (by omega)⟩⟩

set_option maxHeartbeats 4000000 in
set_option maxRecDepth 100000 in
theorem t_X7_spanE {τ : Tp} (l : Launch) (B : Nat) (D : va_G) (cA : Nat → ClassId) (kd : sK) (ig : sI) (rg : sR) (lg : sG) (sz : Nat) (N h a : Nat) (M : Fm) (hR : RZ2 B τ N h a M ig) (hk : tK τ a ≠ 0) (hI : IC τ B kd ig rg) : MC l B D cA yX7_span cX7_span 3 (some .boolean) (rL 2 0 0) [.ref (B + 1)] kd ig rg lg sz (PI 1022 τ B none kd ig rg lg (fun r kd' ig' rg' lg' => ∃ z : Int32, r = some (.int z) ∧ RB2 B τ N h ig' (QSp τ h a M) z)) := by
  refine MC.of (own := RX7) (by decide +kernel) rfl (Nat.le_of_ble_eq_true rfl) ?_
  intro p e s m args below meth c ls C hr hlk hnm hw hsz hl
  have hx := C.1.1
  have hb := C.1.2.1
  have hown := C.1.2.2.2.1
  have hts := C.1.2.2.2.2
  have hl : lv_has ls 3 [(0, .ref (B + 1))] := hl
  have hN : Nx 1022 B none kd ig rg lg kd ig rg lg := Nx.rf
  have hsh := hI.sh
  have hrs := hI.rs
  obtain ⟨⟨⟨hN0, h6⟩, ⟨h2, hh⟩, h7, haN⟩, hMa⟩ := hR.nums
  refine lv_aload_n hx hb dX7_span_0 rfl (lv_at hl 0 rfl) ?_
  refine lv_dup hx hb dX7_span_1 rfl ?_
  refine r_get C hw (hsh 1 _ rfl) fl_X7_50 (oV_i rfl) dX7_span_2 (ti_c (ig (B + 1) 7).toInt rfl fun z1 hz1 => ?_)
  refine lv_iconst (v := 1) hx hb dX7_span_5 (by decide) (ti_c 1 (by decide) fun z2 hz2 => ?_)
  refine lv_iadd hx hb dX7_span_6 (tc_add fun z3 hz3 => ?_)
  first | replace hz3 := hz3 (by omega) | clear hz3
  refine r_puti C hw (hsh 1 _ rfl) fl_X7_50 rfl rfl rfl dX7_span_7 (fun H locs hH hw => ?_)
  obtain ⟨ig4, eig4⟩ : ∃ f, f = up2 ig (B + 1) 7 z3 := ⟨_, rfl⟩
  rw [← eig4] at hw
  have hN : Nx 1022 B none kd ig rg lg kd ig4 rg lg := by rw [eig4]; exact hN.pi (by omega)
  have hI : IC τ B kd ig4 rg := by rw [eig4]; exact hI.pi (show okR none _ from trivial)
  have hlt := hR.lt (show tK τ a ≠ 0 from hk)
  have hR : RZ2 B τ N h (a + 1) M ig4 := by rw [eig4]; exact hR.nx (by omega) (by omega) (by omega)
  obtain ⟨⟨⟨hN0, h6⟩, ⟨h2, hh⟩, h7, haN⟩, hMa⟩ := hR.nums
  refine lv_aload_n hx hb dX7_span_10 rfl (lv_at hl 0 rfl) ?_
  refine lv_bipush (v := 40) hx hb dX7_span_11 (by decide) (ti_c 40 (by decide) fun z5 hz5 => ?_)
  refine r_callV (As := [.int z5]) (rest := []) C hw (t_X7_takeE l B D cA kd ig4 rg lg _ z5 N h (a + 1) M hR (by omega) hI) sv_X7_137 (hsh 1 _ rfl) rfl hl.1 rfl (Nat.le_of_ble_eq_true rfl) ⟨Nat.le_of_ble_eq_true rfl, Nat.le_of_ble_eq_true rfl⟩ ⟨Nat.le_of_ble_eq_true rfl, Nat.le_of_ble_eq_true rfl⟩ dX7_span_13 (fun r10 kd6 ig7 rg8 lg9 H locs hw hH hp11 => ?_)
  obtain ⟨hI, hchp11, hrhp11⟩ := hp11
  have hN := hN.tr hchp11
  have hsh := hI.sh
  have hrs := hI.rs
  obtain ⟨z12, rfl, hz12⟩ := hrhp11
  have bz12 := RB2.bz hz12
  have rb1 := hz12
  rw [hz5] at rb1
  refine z_ne (tgt := 21) hx hb dX7_span_16 (by decide) (fun c16 => ?_) (fun c16 => ?_)
  · obtain ⟨a9, M9, p9, hR⟩ := RB2.yes rb1 (by omega)
    obtain ⟨p9, e9⟩ := p9
    replace e9 := e9.symm
    subst e9
    obtain ⟨s1, rfl⟩ := pTk.yes fw_ne p9
    obtain ⟨⟨⟨hN0, h6⟩, ⟨h2, hh⟩, h7, haN⟩, hMa⟩ := hR.nums
    refine lv_aload_n hx hb dX7_span_21 rfl (lv_at hl 0 rfl) ?_
    refine lv_iconst (v := 0) hx hb dX7_span_22 (by decide) (ti_c 0 (by decide) fun z13 hz13 => ?_)
    refine lv_iconst (v := 0) hx hb dX7_span_23 (by decide) (ti_c 0 (by decide) fun z14 hz14 => ?_)
    refine r_callV (As := [.int z13, .int z14]) (rest := []) C hw (t_X7_referenceE l B D cA kd6 ig7 rg8 lg9 _ z13 z14 N h (a + 1 + 1) M hR hI) sv_X7_140 (hsh 1 _ rfl) rfl hl.1 rfl (Nat.le_of_ble_eq_true rfl) ⟨Nat.le_of_ble_eq_true rfl, Nat.le_of_ble_eq_true rfl⟩ ⟨Nat.le_of_ble_eq_true rfl, Nat.le_of_ble_eq_true rfl⟩ dX7_span_24 (fun r19 kd15 ig16 rg17 lg18 H locs hw hH hp20 => ?_)
    obtain ⟨hI, hchp20, hrhp20⟩ := hp20
    have hN := hN.tr hchp20
    have hsh := hI.sh
    have hrs := hI.rs
    obtain ⟨z21, rfl, hz21⟩ := hrhp20
    have rf := hz21
    rw [hz13, hz14] at rf
    refine lv_istore_n (lv' := [(1, .int z21), (0, .ref (B + 1))]) hx hb dX7_span_27 rfl hl (by decide) rfl (fun ls hl => ?_)
    refine lv_iload_n hx hb dX7_span_28 rfl (lv_at hl 0 rfl) ?_
    refine lv_iconst (v := (-1)) hx hb dX7_span_29 (by decide) (ti_c (-1) (by decide) fun z22 hz22 => ?_)
    have J42 : ∀ (ls : Array Slot) (H : Heap) (locs : List Loc) (kd23 : sK) (ig24 : sI) (rg25 : sR) (lg26 : sG) , lv_has ls 3 [] → WD B D cA s.heap kd23 ig24 rg25 lg26 H locs → IC τ B kd23 ig24 rg25 → Nx 1022 B none kd ig rg lg kd23 ig24 rg25 lg26 → (∃ f a9, f ≠ 0 ∧ pSpan (tK τ) (tV τ) (tS τ) (a + 1) f a9 ∧ (ig24 (B + 1) 8).toInt = f) → W p l e (rL 2 0 0) s m args below meth c H locs 0 0 (MQ below (QcW B D cA (PI 1022 τ B none kd ig rg lg (fun r kd' ig' rg' lg' => ∃ z : Int32, r = some (.int z) ∧ RB2 B τ N h ig' (QSp τ h a M) z))) args s 0 0 (fun q => B ≤ q)) (F0 m 42 ls []) := by
      intro ls H locs kd23 ig24 rg25 lg26 hl hw hI hN g42_0
      have hsh := hI.sh
      have hrs := hI.rs
      obtain ⟨f9, a9, hf9, p9, h89⟩ := g42_0
      refine lv_iconst (v := 0) hx hb dX7_span_42 (by decide) (ti_c 0 (by decide) fun z27 hz27 => ?_)
      exact r_iret C hw hr hlk (nar_b (by omega)) (Nat.le_of_ble_eq_true rfl) (Nat.le_of_ble_eq_true rfl) dX7_span_43 ⟨hI, hN, ⟨_, rfl, RB2.mkf (M' := M) ⟨p9, fun e => (hf9 e).elim⟩ hf9 h89 (by omega)⟩⟩
    refine b_eq (tgt := 42) hx hb dX7_span_30 (by decide) (fun c30 => ?_) (fun c30 => ?_)
    · exact J42 ls H locs kd15 ig16 rg17 lg18 (lv_sub hl [] rfl) hw hI hN ((by obtain ⟨f9, a9, c9, r9, hf9, p9, h89⟩ := RF2.no rf (by omega); exact ⟨f9, 0, hf9, Or.inr ⟨s1, f9, a9, c9, r9, p9, Or.inl ⟨hf9, rfl⟩⟩, h89⟩))
    · obtain ⟨a1, c1, r1, p1, ⟨q1, bq1, qq1, qk1, qt1⟩, hR⟩ := RF2.yes rf (by omega)
      have lt1 := qt1.lt
      obtain ⟨⟨⟨hN0, h6⟩, ⟨h2, hh⟩, h7, haN⟩, hMa⟩ := hR.nums
      refine lv_aload_n hx hb dX7_span_33 rfl (lv_at hl 1 rfl) ?_
      refine lv_bipush (v := 58) hx hb dX7_span_34 (by decide) (ti_c 58 (by decide) fun z28 hz28 => ?_)
      refine r_callV (As := [.int z28]) (rest := []) C hw (t_X7_takeE l B D cA kd15 ig16 rg17 lg18 _ z28 N h a1 M hR (by omega) hI) sv_X7_137 (hsh 1 _ rfl) rfl hl.1 rfl (Nat.le_of_ble_eq_true rfl) ⟨Nat.le_of_ble_eq_true rfl, Nat.le_of_ble_eq_true rfl⟩ ⟨Nat.le_of_ble_eq_true rfl, Nat.le_of_ble_eq_true rfl⟩ dX7_span_36 (fun r33 kd29 ig30 rg31 lg32 H locs hw hH hp34 => ?_)
      obtain ⟨hI, hchp34, hrhp34⟩ := hp34
      have hN := hN.tr hchp34
      have hsh := hI.sh
      have hrs := hI.rs
      obtain ⟨z35, rfl, hz35⟩ := hrhp34
      have bz35 := RB2.bz hz35
      have rb2 := hz35
      rw [hz28] at rb2
      refine z_ne (tgt := 44) hx hb dX7_span_39 (by decide) (fun c39 => ?_) (fun c39 => ?_)
      · obtain ⟨a9, M9, p9, hR⟩ := RB2.yes rb2 (by omega)
        obtain ⟨p9, e9⟩ := p9
        replace e9 := e9.symm
        subst e9
        obtain ⟨s2, rfl⟩ := pTk.yes fw_ne p9
        obtain ⟨⟨⟨hN0, h6⟩, ⟨h2, hh⟩, h7, haN⟩, hMa⟩ := hR.nums
        refine lv_aload_n hx hb dX7_span_44 rfl (lv_at hl 1 rfl) ?_
        refine lv_iload_n hx hb dX7_span_45 rfl (lv_at hl 0 rfl) ?_
        refine lv_aload_n hx hb dX7_span_46 rfl (lv_at hl 1 rfl) ?_
        refine r_get C hw (hsh 1 _ rfl) fl_X7_38 (oV_i rfl) dX7_span_47 (ti_c (ig30 (B + 1) 2).toInt rfl fun z36 hz36 => ?_)
        refine r_callS (As := [.int z21, .int z36]) (rest := [.ref (B + 1)]) C hw (t_X4_columnOfE l B D cA kd29 ig30 rg31 lg32 _ z21 z36 (by omega) (by omega) hI) ss_X7_143 rfl hl.1 rfl (Nat.le_of_ble_eq_true rfl) ⟨Nat.le_of_ble_eq_true rfl, Nat.le_of_ble_eq_true rfl⟩ ⟨Nat.le_of_ble_eq_true rfl, Nat.le_of_ble_eq_true rfl⟩ dX7_span_50 (fun r41 kd37 ig38 rg39 lg40 H locs hw hH hp42 => ?_)
        obtain ⟨rfl, rfl, rfl, rfl, hzhp42, hrhp42⟩ := hp42
        obtain ⟨z43, rfl, hz43⟩ := hrhp42
        refine lv_iload_n hx hb dX7_span_53 rfl (lv_at hl 0 rfl) ?_
        refine lv_aload_n hx hb dX7_span_54 rfl (lv_at hl 1 rfl) ?_
        refine r_get C hw (hsh 1 _ rfl) fl_X7_38 (oV_i rfl) dX7_span_55 (ti_c (ig30 (B + 1) 2).toInt rfl fun z44 hz44 => ?_)
        refine r_callS (As := [.int z21, .int z44]) (rest := [.int z43, .ref (B + 1)]) C hw (t_X4_rowOfE l B D cA kd29 ig30 rg31 lg32 _ z21 z44 (by omega) (by omega) hI) ss_X7_146 rfl hl.1 rfl (Nat.le_of_ble_eq_true rfl) ⟨Nat.le_of_ble_eq_true rfl, Nat.le_of_ble_eq_true rfl⟩ ⟨Nat.le_of_ble_eq_true rfl, Nat.le_of_ble_eq_true rfl⟩ dX7_span_58 (fun r49 kd45 ig46 rg47 lg48 H locs hw hH hp50 => ?_)
        obtain ⟨rfl, rfl, rfl, rfl, hzhp50, hrhp50⟩ := hp50
        obtain ⟨z51, rfl, hz51⟩ := hrhp50
        have ec : z43.toInt = c1 := by rw [hz43, show z36.toInt = (h : Int) by omega]; exact q1.2.1
        have er : z51.toInt = r1 := by rw [hz51, show z44.toInt = (h : Int) by omega]; exact q1.2.2
        refine r_callV (As := [.int z43, .int z51]) (rest := []) C hw (t_X7_referenceE l B D cA kd29 ig30 rg31 lg32 _ z43 z51 N h (a1 + 1) M hR hI) sv_X7_140 (hsh 1 _ rfl) rfl hl.1 rfl (Nat.le_of_ble_eq_true rfl) ⟨Nat.le_of_ble_eq_true rfl, Nat.le_of_ble_eq_true rfl⟩ ⟨Nat.le_of_ble_eq_true rfl, Nat.le_of_ble_eq_true rfl⟩ dX7_span_61 (fun r56 kd52 ig53 rg54 lg55 H locs hw hH hp57 => ?_)
        obtain ⟨hI, hchp57, hrhp57⟩ := hp57
        have hN := hN.tr hchp57
        have hsh := hI.sh
        have hrs := hI.rs
        obtain ⟨z58, rfl, hz58⟩ := hrhp57
        have rf2 := hz58
        rw [ec, er] at rf2
        refine lv_istore_n (lv' := [(2, .int z58), (1, .int z21), (0, .ref (B + 1))]) hx hb dX7_span_64 rfl hl (by decide) rfl (fun ls hl => ?_)
        refine lv_iload_n hx hb dX7_span_65 rfl (lv_at hl 0 rfl) ?_
        refine lv_iconst (v := (-1)) hx hb dX7_span_66 (by decide) (ti_c (-1) (by decide) fun z59 hz59 => ?_)
        have J79 : ∀ (ls : Array Slot) (H : Heap) (locs : List Loc) (kd60 : sK) (ig61 : sI) (rg62 : sR) (lg63 : sG) , lv_has ls 3 [] → WD B D cA s.heap kd60 ig61 rg62 lg63 H locs → IC τ B kd60 ig61 rg62 → Nx 1022 B none kd ig rg lg kd60 ig61 rg62 lg63 → (∃ f a9, f ≠ 0 ∧ pSpan (tK τ) (tV τ) (tS τ) (a + 1) f a9 ∧ (ig61 (B + 1) 8).toInt = f) → W p l e (rL 2 0 0) s m args below meth c H locs 0 0 (MQ below (QcW B D cA (PI 1022 τ B none kd ig rg lg (fun r kd' ig' rg' lg' => ∃ z : Int32, r = some (.int z) ∧ RB2 B τ N h ig' (QSp τ h a M) z))) args s 0 0 (fun q => B ≤ q)) (F0 m 79 ls []) := by
          intro ls H locs kd60 ig61 rg62 lg63 hl hw hI hN g79_0
          have hsh := hI.sh
          have hrs := hI.rs
          obtain ⟨f9, a9, hf9, p9, h89⟩ := g79_0
          refine lv_iconst (v := 0) hx hb dX7_span_79 (by decide) (ti_c 0 (by decide) fun z64 hz64 => ?_)
          exact r_iret C hw hr hlk (nar_b (by omega)) (Nat.le_of_ble_eq_true rfl) (Nat.le_of_ble_eq_true rfl) dX7_span_80 ⟨hI, hN, ⟨_, rfl, RB2.mkf (M' := M) ⟨p9, fun e => (hf9 e).elim⟩ hf9 h89 (by omega)⟩⟩
        refine b_eq (tgt := 79) hx hb dX7_span_67 (by decide) (fun c67 => ?_) (fun c67 => ?_)
        · exact J79 ls H locs kd52 ig53 rg54 lg55 (lv_sub hl [] rfl) hw hI hN ((by obtain ⟨f9, a9, c9, r9, hf9, p9, h89⟩ := RF2.no rf2 (by omega); exact ⟨f9, 0, hf9, Or.inr ⟨s1, 0, a1, c1, r1, p1, Or.inr (Or.inr ⟨rfl, s2, f9, a9, c9, r9, p9, Or.inl ⟨hf9, rfl⟩⟩)⟩, h89⟩))
        · obtain ⟨a2, c2, r2, p2, ⟨q2, bq2, qq2, qk2, qt2⟩, hR⟩ := RF2.yes rf2 (by omega)
          have lt2 := qt2.lt
          obtain ⟨⟨⟨hN0, h6⟩, ⟨h2, hh⟩, h7, haN⟩, hMa⟩ := hR.nums
          refine lv_aload_n hx hb dX7_span_70 rfl (lv_at hl 2 rfl) ?_
          refine lv_bipush (v := 41) hx hb dX7_span_71 (by decide) (ti_c 41 (by decide) fun z65 hz65 => ?_)
          refine r_callV (As := [.int z65]) (rest := []) C hw (t_X7_takeE l B D cA kd52 ig53 rg54 lg55 _ z65 N h a2 M hR (by omega) hI) sv_X7_137 (hsh 1 _ rfl) rfl hl.1 rfl (Nat.le_of_ble_eq_true rfl) ⟨Nat.le_of_ble_eq_true rfl, Nat.le_of_ble_eq_true rfl⟩ ⟨Nat.le_of_ble_eq_true rfl, Nat.le_of_ble_eq_true rfl⟩ dX7_span_73 (fun r70 kd66 ig67 rg68 lg69 H locs hw hH hp71 => ?_)
          obtain ⟨hI, hchp71, hrhp71⟩ := hp71
          have hN := hN.tr hchp71
          have hsh := hI.sh
          have hrs := hI.rs
          obtain ⟨z72, rfl, hz72⟩ := hrhp71
          have bz72 := RB2.bz hz72
          have rb3 := hz72
          rw [hz65] at rb3
          refine z_ne (tgt := 81) hx hb dX7_span_76 (by decide) (fun c76 => ?_) (fun c76 => ?_)
          · obtain ⟨a9, M9, p9, hR⟩ := RB2.yes rb3 (by omega)
            obtain ⟨p9, e9⟩ := p9
            replace e9 := e9.symm
            subst e9
            obtain ⟨s3, rfl⟩ := pTk.yes fw_ne p9
            obtain ⟨⟨⟨hN0, h6⟩, ⟨h2, hh⟩, h7, haN⟩, hMa⟩ := hR.nums
            refine lv_aload_n hx hb dX7_span_81 rfl (lv_at hl 2 rfl) ?_
            refine lv_iconst (v := 2) hx hb dX7_span_82 (by decide) (ti_c 2 (by decide) fun z73 hz73 => ?_)
            refine lv_iload_n hx hb dX7_span_83 rfl (lv_at hl 1 rfl) ?_
            refine lv_iload_n hx hb dX7_span_84 rfl (lv_at hl 0 rfl) ?_
            refine r_callV (As := [.int z73, .int z21, .int z58]) (rest := []) C hw (t_X7_addE l B D cA kd66 ig67 rg68 lg69 _ z73 z21 z58 N h (a2 + 1) M hR.1 hR.2.1 (by first | omega | (simp only [List.length_append, List.length_singleton, List.length_nil] at *; omega)) hI) sv_X7_112 (hsh 1 _ rfl) rfl hl.1 rfl (Nat.le_of_ble_eq_true rfl) ⟨Nat.le_of_ble_eq_true rfl, Nat.le_of_ble_eq_true rfl⟩ ⟨Nat.le_of_ble_eq_true rfl, Nat.le_of_ble_eq_true rfl⟩ dX7_span_85 (fun r78 kd74 ig75 rg76 lg77 H locs hw hH hp79 => ?_)
            obtain ⟨hI, hchp79, hrhp79⟩ := hp79
            have hN := hN.tr hchp79
            have hsh := hI.sh
            have hrs := hI.rs
            obtain ⟨rfl, hvhp79⟩ := hrhp79
            have hs9 : (z73.toInt, z21.toInt, z58.toInt) = (2, z21.toInt, z58.toInt) := by rw [hz73]
            obtain ⟨hR1, hT1⟩ := hvhp79
            rw [hs9] at hT1
            have hR : RZ2 B τ N h (a2 + 1) (M ++ [(2, z21.toInt, z58.toInt)]) ig75 := RZ2.mk hR1 hT1 (by first | omega | (simp only [List.length_append, List.length_singleton] at *; omega))
            refine lv_iconst (v := 1) hx hb dX7_span_88 (by decide) (ti_c 1 (by decide) fun z80 hz80 => ?_)
            exact r_iret C hw hr hlk (nar_b (by omega)) (Nat.le_of_ble_eq_true rfl) (Nat.le_of_ble_eq_true rfl) dX7_span_89 ⟨hI, hN, ⟨_, rfl, RB2.mk ⟨Or.inr ⟨s1, 0, a1, c1, r1, p1, Or.inr (Or.inr ⟨rfl, s2, 0, a2, c2, r2, p2, Or.inr ⟨rfl, Or.inl ⟨s3, rfl, rfl⟩⟩⟩)⟩, fun _ => ⟨a1, a2, _, _, s1, qt1, s2, qt2, s3, rfl, fitW.rd ⟨⟨by omega, by omega⟩, qk1⟩ ⟨⟨by omega, by omega⟩, qk2⟩ ⟨by omega, by omega⟩, rfl⟩⟩ hR (by omega)⟩⟩
          · exact J79 ls H locs kd66 ig67 rg68 lg69 (lv_sub hl [] rfl) hw hI hN ((by obtain ⟨f9, a9, M9, hf9, p9, h89⟩ := RB2.no rb3 (by omega); exact ⟨f9, a9, hf9, Or.inr ⟨s1, 0, a1, c1, r1, p1, Or.inr (Or.inr ⟨rfl, s2, 0, a2, c2, r2, p2, Or.inr ⟨rfl, p9.1⟩⟩)⟩, h89⟩))
      · exact J42 ls H locs kd29 ig30 rg31 lg32 (lv_sub hl [] rfl) hw hI hN ((by obtain ⟨f9, a9, M9, hf9, p9, h89⟩ := RB2.no rb2 (by omega); exact ⟨f9, 0, hf9, Or.inr ⟨s1, 0, a1, c1, r1, p1, Or.inr (Or.inl ⟨rfl, (pTk.no p9.1 hf9).1, (pTk.no p9.1 hf9).2⟩)⟩, h89⟩))
  · obtain ⟨f9, a9, M9, hf9, p9, h89⟩ := RB2.no rb1 (by omega)
    refine lv_iconst (v := 0) hx hb dX7_span_19 (by decide) (ti_c 0 (by decide) fun z81 hz81 => ?_)
    exact r_iret C hw hr hlk (nar_b (by omega)) (Nat.le_of_ble_eq_true rfl) (Nat.le_of_ble_eq_true rfl) dX7_span_20 ⟨hI, hN, ⟨_, rfl, RB2.mkf (a' := 0) (M' := M) ⟨Or.inl (pTk.no p9.1 hf9), fun e => (hf9 e).elim⟩ hf9 h89 (by omega)⟩⟩

def RPartE (τ : Tp) (l : Launch) (B : Nat) (D : va_G) (cA : Nat → ClassId) (k : Nat) : Prop := ∀ (kd : sK) (ig : sI) (rg : sR) (lg : sG) (sz : Nat) (x : Int32) (N h a : Nat) (M : Fm), RZ2 B τ N h a M ig → x.toInt = 8 - (k : Int) → IC τ B kd ig rg → MC l B D cA yX7_part cX7_part 2 (some .boolean) (rL (4 * k + 9) 0 0) [.ref (B + 1), .int x] kd ig rg lg sz (PI 1022 τ B none kd ig rg lg (fun r kd' ig' rg' lg' => ∃ z : Int32, r = some (.int z) ∧ RB2 B τ N h ig' (QP τ h k a M) z))
def RProdE (τ : Tp) (l : Launch) (B : Nat) (D : va_G) (cA : Nat → ClassId) (k : Nat) : Prop := ∀ (kd : sK) (ig : sI) (rg : sR) (lg : sG) (sz : Nat) (x : Int32) (N h a : Nat) (M : Fm), RZ2 B τ N h a M ig → x.toInt = 8 - (k : Int) → IC τ B kd ig rg → MC l B D cA yX7_product cX7_product 4 (some .boolean) (rL (4 * k + 10) 0 0) [.ref (B + 1), .int x] kd ig rg lg sz (PI 1022 τ B none kd ig rg lg (fun r kd' ig' rg' lg' => ∃ z : Int32, r = some (.int z) ∧ RB2 B τ N h ig' (QX τ h k a M) z))
def RSumE (τ : Tp) (l : Launch) (B : Nat) (D : va_G) (cA : Nat → ClassId) (k : Nat) : Prop := ∀ (kd : sK) (ig : sI) (rg : sR) (lg : sG) (sz : Nat) (x : Int32) (N h a : Nat) (M : Fm), RZ2 B τ N h a M ig → x.toInt = 8 - (k : Int) → IC τ B kd ig rg → MC l B D cA yX7_sum cX7_sum 4 (some .boolean) (rL (4 * k + 11) 0 0) [.ref (B + 1), .int x] kd ig rg lg sz (PI 1022 τ B none kd ig rg lg (fun r kd' ig' rg' lg' => ∃ z : Int32, r = some (.int z) ∧ RB2 B τ N h ig' (QE τ h k a M) z))

set_option maxHeartbeats 4000000 in
set_option maxRecDepth 100000 in
theorem t_X7_bracketsE {τ : Tp} (l : Launch) (B : Nat) (D : va_G) (cA : Nat → ClassId) (kd : sK) (ig : sI) (rg : sR) (lg : sG) (sz : Nat) (x : Int32) (N h a : Nat) (M : Fm) (hR : RZ2 B τ N h a M ig) (k : Nat) (hS : RSumE τ l B D cA k) (hx7 : x.toInt = 7 - (k : Int)) (hk : tK τ a ≠ 0) (hI : IC τ B kd ig rg) : MC l B D cA yX7_brackets cX7_brackets 2 (some .boolean) (rL (4 * k + 12) 0 0) [.ref (B + 1), .int x] kd ig rg lg sz (PI 1022 τ B none kd ig rg lg (fun r kd' ig' rg' lg' => ∃ z : Int32, r = some (.int z) ∧ RB2 B τ N h ig' (QBr τ h k a M) z)) := by
  refine MC.of (own := RX7) (by decide +kernel) rfl (Nat.le_of_ble_eq_true rfl) ?_
  intro p e s m args below meth c ls C hr hlk hnm hw hsz hl
  have hx := C.1.1
  have hb := C.1.2.1
  have hown := C.1.2.2.2.1
  have hts := C.1.2.2.2.2
  have hl : lv_has ls 2 [(0, .ref (B + 1)), (1, .int x)] := hl
  have hN : Nx 1022 B none kd ig rg lg kd ig rg lg := Nx.rf
  have hsh := hI.sh
  have hrs := hI.rs
  obtain ⟨⟨⟨hN0, h6⟩, ⟨h2, hh⟩, h7, haN⟩, hMa⟩ := hR.nums
  have bx := i32_bd x
  refine lv_aload_n hx hb dX7_brackets_0 rfl (lv_at hl 0 rfl) ?_
  refine lv_dup hx hb dX7_brackets_1 rfl ?_
  refine r_get C hw (hsh 1 _ rfl) fl_X7_50 (oV_i rfl) dX7_brackets_2 (ti_c (ig (B + 1) 7).toInt rfl fun z1 hz1 => ?_)
  refine lv_iconst (v := 1) hx hb dX7_brackets_5 (by decide) (ti_c 1 (by decide) fun z2 hz2 => ?_)
  refine lv_iadd hx hb dX7_brackets_6 (tc_add fun z3 hz3 => ?_)
  first | replace hz3 := hz3 (by omega) | clear hz3
  refine r_puti C hw (hsh 1 _ rfl) fl_X7_50 rfl rfl rfl dX7_brackets_7 (fun H locs hH hw => ?_)
  obtain ⟨ig4, eig4⟩ : ∃ f, f = up2 ig (B + 1) 7 z3 := ⟨_, rfl⟩
  rw [← eig4] at hw
  have hN : Nx 1022 B none kd ig rg lg kd ig4 rg lg := by rw [eig4]; exact hN.pi (by omega)
  have hI : IC τ B kd ig4 rg := by rw [eig4]; exact hI.pi (show okR none _ from trivial)
  have hlt := hR.lt (show tK τ a ≠ 0 from hk)
  have hR : RZ2 B τ N h (a + 1) M ig4 := by rw [eig4]; exact hR.nx (by omega) (by omega) (by omega)
  obtain ⟨⟨⟨hN0, h6⟩, ⟨h2, hh⟩, h7, haN⟩, hMa⟩ := hR.nums
  refine lv_aload_n hx hb dX7_brackets_10 rfl (lv_at hl 0 rfl) ?_
  refine lv_iload_n hx hb dX7_brackets_11 rfl (lv_at hl 1 rfl) ?_
  refine lv_iconst (v := 1) hx hb dX7_brackets_12 (by decide) (ti_c 1 (by decide) fun z5 hz5 => ?_)
  refine lv_iadd hx hb dX7_brackets_13 (tc_add fun z6 hz6 => ?_)
  first | replace hz6 := hz6 (by omega) | clear hz6
  refine r_callV (As := [.int z6]) (rest := []) C hw (hS kd ig4 rg lg _ z6 N h (a + 1) M hR (by omega) hI) sv_X7_53 (hsh 1 _ rfl) rfl hl.1 rfl (Nat.le_of_ble_eq_true rfl) ⟨by simp only [rL]; omega, by simp only [rL]; omega⟩ ⟨Nat.le_of_ble_eq_true rfl, Nat.le_of_ble_eq_true rfl⟩ dX7_brackets_14 (fun r11 kd7 ig8 rg9 lg10 H locs hw hH hp12 => ?_)
  obtain ⟨hI, hchp12, hrhp12⟩ := hp12
  have hN := hN.tr hchp12
  have hsh := hI.sh
  have hrs := hI.rs
  obtain ⟨z13, rfl, hz13⟩ := hrhp12
  have bz13 := RB2.bz hz13
  have rb1 := hz13
  have J29 : ∀ (ls : Array Slot) (H : Heap) (locs : List Loc) (kd14 : sK) (ig15 : sI) (rg16 : sR) (lg17 : sG) , lv_has ls 2 [] → WD B D cA s.heap kd14 ig15 rg16 lg17 H locs → IC τ B kd14 ig15 rg16 → Nx 1022 B none kd ig rg lg kd14 ig15 rg16 lg17 → (∃ f a9, f ≠ 0 ∧ (∃ f1 a1, pE (tK τ) (tV τ) (tS τ) k (a + 1) f1 a1 ∧ ((f1 ≠ 0 ∧ f = f1) ∨ (f1 = 0 ∧ pTk (tK τ) (tS τ) 41 a1 f a9))) ∧ (ig15 (B + 1) 8).toInt = f) → W p l e (rL (4 * k + 12) 0 0) s m args below meth c H locs 0 0 (MQ below (QcW B D cA (PI 1022 τ B none kd ig rg lg (fun r kd' ig' rg' lg' => ∃ z : Int32, r = some (.int z) ∧ RB2 B τ N h ig' (QBr τ h k a M) z))) args s 0 0 (fun q => B ≤ q)) (F0 m 29 ls []) := by
    intro ls H locs kd14 ig15 rg16 lg17 hl hw hI hN g29_0
    have hsh := hI.sh
    have hrs := hI.rs
    obtain ⟨f9, a9, hf9, p9, h89⟩ := g29_0
    refine lv_iconst (v := 0) hx hb dX7_brackets_29 (by decide) (ti_c 0 (by decide) fun z18 hz18 => ?_)
    exact r_iret C hw hr hlk (nar_b (by omega)) (Nat.le_of_ble_eq_true rfl) (Nat.le_of_ble_eq_true rfl) dX7_brackets_30 ⟨hI, hN, ⟨_, rfl, RB2.mkf (M' := M) ⟨p9, fun e => (hf9 e).elim⟩ hf9 h89 (by omega)⟩⟩
  refine z_eq (tgt := 29) hx hb dX7_brackets_17 (by decide) (fun c17 => ?_) (fun c17 => ?_)
  · exact J29 ls H locs kd7 ig8 rg9 lg10 (lv_sub hl [] rfl) hw hI hN ((by obtain ⟨f9, a9, M9, hf9, p9, h89⟩ := RB2.no rb1 (by omega); exact ⟨f9, 0, hf9, ⟨f9, a9, p9.1, Or.inl ⟨hf9, rfl⟩⟩, h89⟩))
  · obtain ⟨a1, M1, p1, hR⟩ := RB2.yes rb1 (by omega)
    obtain ⟨y1, y2, y3, rfl⟩ := p1.2 rfl
    have ln1 := tEe.ln k _ _ _ y2
    obtain ⟨⟨⟨hN0, h6⟩, ⟨h2, hh⟩, h7, haN⟩, hMa⟩ := hR.nums
    refine lv_aload_n hx hb dX7_brackets_20 rfl (lv_at hl 0 rfl) ?_
    refine lv_bipush (v := 41) hx hb dX7_brackets_21 (by decide) (ti_c 41 (by decide) fun z19 hz19 => ?_)
    refine r_callV (As := [.int z19]) (rest := []) C hw (t_X7_takeE l B D cA kd7 ig8 rg9 lg10 _ z19 N h a1 (M ++ y1) hR (by omega) hI) sv_X7_137 (hsh 1 _ rfl) rfl hl.1 rfl (Nat.le_of_ble_eq_true rfl) ⟨by simp only [rL]; omega, by simp only [rL]; omega⟩ ⟨Nat.le_of_ble_eq_true rfl, Nat.le_of_ble_eq_true rfl⟩ dX7_brackets_23 (fun r24 kd20 ig21 rg22 lg23 H locs hw hH hp25 => ?_)
    obtain ⟨hI, hchp25, hrhp25⟩ := hp25
    have hN := hN.tr hchp25
    have hsh := hI.sh
    have hrs := hI.rs
    obtain ⟨z26, rfl, hz26⟩ := hrhp25
    have bz26 := RB2.bz hz26
    have rb2 := hz26
    rw [hz19] at rb2
    refine z_ne (tgt := 31) hx hb dX7_brackets_26 (by decide) (fun c26 => ?_) (fun c26 => ?_)
    · obtain ⟨a9, M9, p9, hR⟩ := RB2.yes rb2 (by omega)
      obtain ⟨p9, e9⟩ := p9
      replace e9 := e9.symm
      subst e9
      obtain ⟨s3, rfl⟩ := pTk.yes fw_ne p9
      obtain ⟨⟨⟨hN0, h6⟩, ⟨h2, hh⟩, h7, haN⟩, hMa⟩ := hR.nums
      refine lv_aload_n hx hb dX7_brackets_31 rfl (lv_at hl 0 rfl) ?_
      refine lv_iconst (v := 3) hx hb dX7_brackets_32 (by decide) (ti_c 3 (by decide) fun z27 hz27 => ?_)
      refine lv_iconst (v := 0) hx hb dX7_brackets_33 (by decide) (ti_c 0 (by decide) fun z28 hz28 => ?_)
      refine lv_iconst (v := 0) hx hb dX7_brackets_34 (by decide) (ti_c 0 (by decide) fun z29 hz29 => ?_)
      refine r_callV (As := [.int z27, .int z28, .int z29]) (rest := []) C hw (t_X7_addE l B D cA kd20 ig21 rg22 lg23 _ z27 z28 z29 N h (a1 + 1) (M ++ y1) hR.1 hR.2.1 (by first | omega | (simp only [List.length_append, List.length_singleton, List.length_nil] at *; omega)) hI) sv_X7_112 (hsh 1 _ rfl) rfl hl.1 rfl (Nat.le_of_ble_eq_true rfl) ⟨by simp only [rL]; omega, by simp only [rL]; omega⟩ ⟨Nat.le_of_ble_eq_true rfl, Nat.le_of_ble_eq_true rfl⟩ dX7_brackets_35 (fun r34 kd30 ig31 rg32 lg33 H locs hw hH hp35 => ?_)
      obtain ⟨hI, hchp35, hrhp35⟩ := hp35
      have hN := hN.tr hchp35
      have hsh := hI.sh
      have hrs := hI.rs
      obtain ⟨rfl, hvhp35⟩ := hrhp35
      have hs9 : (z27.toInt, z28.toInt, z29.toInt) = (3, 0, 0) := by rw [hz27, hz28, hz29]
      obtain ⟨hR1, hT1⟩ := hvhp35
      rw [hs9] at hT1
      have hR : RZ2 B τ N h (a1 + 1) ((M ++ y1) ++ [(3, 0, 0)]) ig31 := RZ2.mk hR1 hT1 (by first | omega | (simp only [List.length_append, List.length_singleton] at *; omega))
      refine lv_iconst (v := 1) hx hb dX7_brackets_38 (by decide) (ti_c 1 (by decide) fun z36 hz36 => ?_)
      exact r_iret C hw hr hlk (nar_b (by omega)) (Nat.le_of_ble_eq_true rfl) (Nat.le_of_ble_eq_true rfl) dX7_brackets_39 ⟨hI, hN, ⟨_, rfl, RB2.mk ⟨⟨0, a1, p1.1, Or.inr ⟨rfl, Or.inl ⟨s3, rfl, rfl⟩⟩⟩, fun _ => ⟨a1, y1, y2, y3, s3, rfl, List.append_assoc _ _ _⟩⟩ hR (by omega)⟩⟩
    · exact J29 ls H locs kd20 ig21 rg22 lg23 (lv_sub hl [] rfl) hw hI hN ((by obtain ⟨f9, a9, M9, hf9, p9, h89⟩ := RB2.no rb2 (by omega); exact ⟨f9, a9, hf9, ⟨0, a1, p1.1, Or.inr ⟨rfl, p9.1⟩⟩, h89⟩))

set_option maxHeartbeats 4000000 in
set_option maxRecDepth 100000 in
theorem t_X7_negatedE {τ : Tp} (l : Launch) (B : Nat) (D : va_G) (cA : Nat → ClassId) (kd : sK) (ig : sI) (rg : sR) (lg : sG) (sz : Nat) (x : Int32) (N h a : Nat) (M : Fm) (hR : RZ2 B τ N h a M ig) (k : Nat) (hP : RPartE τ l B D cA k) (hx7 : x.toInt = 7 - (k : Int)) (hk : tK τ a ≠ 0) (hI : IC τ B kd ig rg) : MC l B D cA yX7_negated cX7_negated 2 (some .boolean) (rL (4 * k + 12) 0 0) [.ref (B + 1), .int x] kd ig rg lg sz (PI 1022 τ B none kd ig rg lg (fun r kd' ig' rg' lg' => ∃ z : Int32, r = some (.int z) ∧ RB2 B τ N h ig' (QNg τ h k a M) z)) := by
  refine MC.of (own := RX7) (by decide +kernel) rfl (Nat.le_of_ble_eq_true rfl) ?_
  intro p e s m args below meth c ls C hr hlk hnm hw hsz hl
  have hx := C.1.1
  have hb := C.1.2.1
  have hown := C.1.2.2.2.1
  have hts := C.1.2.2.2.2
  have hl : lv_has ls 2 [(0, .ref (B + 1)), (1, .int x)] := hl
  have hN : Nx 1022 B none kd ig rg lg kd ig rg lg := Nx.rf
  have hsh := hI.sh
  have hrs := hI.rs
  obtain ⟨⟨⟨hN0, h6⟩, ⟨h2, hh⟩, h7, haN⟩, hMa⟩ := hR.nums
  have bx := i32_bd x
  refine lv_aload_n hx hb dX7_negated_0 rfl (lv_at hl 0 rfl) ?_
  refine lv_dup hx hb dX7_negated_1 rfl ?_
  refine r_get C hw (hsh 1 _ rfl) fl_X7_50 (oV_i rfl) dX7_negated_2 (ti_c (ig (B + 1) 7).toInt rfl fun z1 hz1 => ?_)
  refine lv_iconst (v := 1) hx hb dX7_negated_5 (by decide) (ti_c 1 (by decide) fun z2 hz2 => ?_)
  refine lv_iadd hx hb dX7_negated_6 (tc_add fun z3 hz3 => ?_)
  first | replace hz3 := hz3 (by omega) | clear hz3
  refine r_puti C hw (hsh 1 _ rfl) fl_X7_50 rfl rfl rfl dX7_negated_7 (fun H locs hH hw => ?_)
  obtain ⟨ig4, eig4⟩ : ∃ f, f = up2 ig (B + 1) 7 z3 := ⟨_, rfl⟩
  rw [← eig4] at hw
  have hN : Nx 1022 B none kd ig rg lg kd ig4 rg lg := by rw [eig4]; exact hN.pi (by omega)
  have hI : IC τ B kd ig4 rg := by rw [eig4]; exact hI.pi (show okR none _ from trivial)
  have hlt := hR.lt (show tK τ a ≠ 0 from hk)
  have hR : RZ2 B τ N h (a + 1) M ig4 := by rw [eig4]; exact hR.nx (by omega) (by omega) (by omega)
  obtain ⟨⟨⟨hN0, h6⟩, ⟨h2, hh⟩, h7, haN⟩, hMa⟩ := hR.nums
  refine lv_aload_n hx hb dX7_negated_10 rfl (lv_at hl 0 rfl) ?_
  refine lv_iload_n hx hb dX7_negated_11 rfl (lv_at hl 1 rfl) ?_
  refine lv_iconst (v := 1) hx hb dX7_negated_12 (by decide) (ti_c 1 (by decide) fun z5 hz5 => ?_)
  refine lv_iadd hx hb dX7_negated_13 (tc_add fun z6 hz6 => ?_)
  first | replace hz6 := hz6 (by omega) | clear hz6
  refine r_callV (As := [.int z6]) (rest := []) C hw (hP kd ig4 rg lg _ z6 N h (a + 1) M hR (by omega) hI) sv_X7_115 (hsh 1 _ rfl) rfl hl.1 rfl (Nat.le_of_ble_eq_true rfl) ⟨by simp only [rL]; omega, by simp only [rL]; omega⟩ ⟨Nat.le_of_ble_eq_true rfl, Nat.le_of_ble_eq_true rfl⟩ dX7_negated_14 (fun r11 kd7 ig8 rg9 lg10 H locs hw hH hp12 => ?_)
  obtain ⟨hI, hchp12, hrhp12⟩ := hp12
  have hN := hN.tr hchp12
  have hsh := hI.sh
  have hrs := hI.rs
  obtain ⟨z13, rfl, hz13⟩ := hrhp12
  have bz13 := RB2.bz hz13
  have rb1 := hz13
  refine z_ne (tgt := 22) hx hb dX7_negated_17 (by decide) (fun c17 => ?_) (fun c17 => ?_)
  · obtain ⟨a9, M1, p9, hR⟩ := RB2.yes rb1 (by omega)
    obtain ⟨y1, y2, y3, rfl⟩ := p9.2 rfl
    have ln1 := tPa.ln k _ _ _ y2
    obtain ⟨⟨⟨hN0, h6⟩, ⟨h2, hh⟩, h7, haN⟩, hMa⟩ := hR.nums
    refine lv_aload_n hx hb dX7_negated_22 rfl (lv_at hl 0 rfl) ?_
    refine lv_iconst (v := 4) hx hb dX7_negated_23 (by decide) (ti_c 4 (by decide) fun z14 hz14 => ?_)
    refine lv_iconst (v := 0) hx hb dX7_negated_24 (by decide) (ti_c 0 (by decide) fun z15 hz15 => ?_)
    refine lv_iconst (v := 0) hx hb dX7_negated_25 (by decide) (ti_c 0 (by decide) fun z16 hz16 => ?_)
    refine r_callV (As := [.int z14, .int z15, .int z16]) (rest := []) C hw (t_X7_addE l B D cA kd7 ig8 rg9 lg10 _ z14 z15 z16 N h a9 (M ++ y1) hR.1 hR.2.1 (by first | omega | (simp only [List.length_append, List.length_singleton, List.length_nil] at *; omega)) hI) sv_X7_112 (hsh 1 _ rfl) rfl hl.1 rfl (Nat.le_of_ble_eq_true rfl) ⟨by simp only [rL]; omega, by simp only [rL]; omega⟩ ⟨Nat.le_of_ble_eq_true rfl, Nat.le_of_ble_eq_true rfl⟩ dX7_negated_26 (fun r21 kd17 ig18 rg19 lg20 H locs hw hH hp22 => ?_)
    obtain ⟨hI, hchp22, hrhp22⟩ := hp22
    have hN := hN.tr hchp22
    have hsh := hI.sh
    have hrs := hI.rs
    obtain ⟨rfl, hvhp22⟩ := hrhp22
    have hs9 : (z14.toInt, z15.toInt, z16.toInt) = (4, 0, 0) := by rw [hz14, hz15, hz16]
    obtain ⟨hR1, hT1⟩ := hvhp22
    rw [hs9] at hT1
    have hR : RZ2 B τ N h a9 ((M ++ y1) ++ [(4, 0, 0)]) ig18 := RZ2.mk hR1 hT1 (by first | omega | (simp only [List.length_append, List.length_singleton] at *; omega))
    refine lv_iconst (v := 1) hx hb dX7_negated_29 (by decide) (ti_c 1 (by decide) fun z23 hz23 => ?_)
    exact r_iret C hw hr hlk (nar_b (by omega)) (Nat.le_of_ble_eq_true rfl) (Nat.le_of_ble_eq_true rfl) dX7_negated_30 ⟨hI, hN, ⟨_, rfl, RB2.mk ⟨p9.1, fun _ => ⟨y1, y2, y3, List.append_assoc _ _ _⟩⟩ hR (by omega)⟩⟩
  · obtain ⟨f9, a9, M9, hf9, p9, h89⟩ := RB2.no rb1 (by omega)
    refine lv_iconst (v := 0) hx hb dX7_negated_20 (by decide) (ti_c 0 (by decide) fun z24 hz24 => ?_)
    exact r_iret C hw hr hlk (nar_b (by omega)) (Nat.le_of_ble_eq_true rfl) (Nat.le_of_ble_eq_true rfl) dX7_negated_21 ⟨hI, hN, ⟨_, rfl, RB2.mkf (M' := M) ⟨p9.1, fun e => (hf9 e).elim⟩ hf9 h89 (by omega)⟩⟩

set_option maxHeartbeats 4000000 in
set_option maxRecDepth 100000 in
theorem t_X7_partE {τ : Tp} (l : Launch) (B : Nat) (D : va_G) (cA : Nat → ClassId) (kd : sK) (ig : sI) (rg : sR) (lg : sG) (sz : Nat) (x : Int32) (N h a : Nat) (M : Fm) (hR : RZ2 B τ N h a M ig) (k : Nat) (hrec : ∀ k1, k = k1 + 1 → RSumE τ l B D cA k1 ∧ RPartE τ l B D cA k1) (hxk : x.toInt = 8 - (k : Int)) (hI : IC τ B kd ig rg) : MC l B D cA yX7_part cX7_part 2 (some .boolean) (rL (4 * k + 9) 0 0) [.ref (B + 1), .int x] kd ig rg lg sz (PI 1022 τ B none kd ig rg lg (fun r kd' ig' rg' lg' => ∃ z : Int32, r = some (.int z) ∧ RB2 B τ N h ig' (QP τ h k a M) z)) := by
  refine MC.of (own := RX7) (by decide +kernel) rfl (Nat.le_of_ble_eq_true rfl) ?_
  intro p e s m args below meth c ls C hr hlk hnm hw hsz hl
  have hx := C.1.1
  have hb := C.1.2.1
  have hown := C.1.2.2.2.1
  have hts := C.1.2.2.2.2
  have hl : lv_has ls 2 [(0, .ref (B + 1)), (1, .int x)] := hl
  have hN : Nx 1022 B none kd ig rg lg kd ig rg lg := Nx.rf
  have hsh := hI.sh
  have hrs := hI.rs
  obtain ⟨⟨⟨hN0, h6⟩, ⟨h2, hh⟩, h7, haN⟩, hMa⟩ := hR.nums
  refine lv_aload_n hx hb dX7_part_0 rfl (lv_at hl 0 rfl) ?_
  refine r_callV (As := []) (rest := []) C hw (t_X7_startsPart l B D cA kd ig rg lg _  N h a hR.1 hI) sv_X7_118 (hsh 1 _ rfl) rfl hl.1 rfl (Nat.le_of_ble_eq_true rfl) ⟨by simp only [rL]; omega, by simp only [rL]; omega⟩ ⟨Nat.le_of_ble_eq_true rfl, Nat.le_of_ble_eq_true rfl⟩ dX7_part_1 (fun r5 kd1 ig2 rg3 lg4 H locs hw hH hp6 => ?_)
  obtain ⟨rfl, rfl, rfl, rfl, hzhp6, hrhp6⟩ := hp6
  obtain ⟨z7, rfl, hz7⟩ := hrhp6
  have hst := hz7
  refine z_ne (tgt := 13) hx hb dX7_part_4 (by decide) (fun c4 => ?_) (fun c4 => ?_)
  · refine lv_iload_n hx hb dX7_part_13 rfl (lv_at hl 1 rfl) ?_
    refine lv_bipush (v := 8) hx hb dX7_part_14 (by decide) (ti_c 8 (by decide) fun z8 hz8 => ?_)
    refine b_lt (tgt := 25) hx hb dX7_part_16 (by decide) (fun c16 => ?_) (fun c16 => ?_)
    · obtain ⟨k1, hk1⟩ : ∃ k1, k = k1 + 1 := ⟨k - 1, by omega⟩
      obtain ⟨hS, hP⟩ := hrec k1 hk1
      have hsp : sPt (tK τ) (tV τ) a := (by rcases hst with ⟨-, q⟩ | ⟨q, -⟩; exact q; omega)
      simp only [sPt, oCol, sg] at hsp
      refine lv_aload_n hx hb dX7_part_25 rfl (lv_at hl 0 rfl) ?_
      refine r_callV (As := []) (rest := []) C hw (t_X7_kind l B D cA kd ig rg lg _  N h a hR.1 hI) sv_X7_57 (hsh 1 _ rfl) rfl hl.1 rfl (Nat.le_of_ble_eq_true rfl) ⟨by simp only [rL]; omega, by simp only [rL]; omega⟩ ⟨Nat.le_of_ble_eq_true rfl, Nat.le_of_ble_eq_true rfl⟩ dX7_part_26 (fun r13 kd9 ig10 rg11 lg12 H locs hw hH hp14 => ?_)
      obtain ⟨rfl, rfl, rfl, rfl, hzhp14, hrhp14⟩ := hp14
      obtain ⟨z15, rfl, hz15⟩ := hrhp14
      by_cases s29_40 : z15.toInt = 40
      · refine lv_lookup hx hb dX7_part_29 (by decide) (off := 35) (by rw [s29_40]; rfl) (tgt := 64) (by decide) ?_
        refine lv_aload_n hx hb dX7_part_64 rfl (lv_at hl 0 rfl) ?_
        refine lv_iload_n hx hb dX7_part_65 rfl (lv_at hl 1 rfl) ?_
        refine r_callV (As := [.int x]) (rest := []) C hw (t_X7_bracketsE l B D cA kd ig rg lg _ x N h a M hR k1 hS (by omega) (by omega) hI) sv_X7_122 (hsh 1 _ rfl) rfl hl.1 rfl (Nat.le_of_ble_eq_true rfl) ⟨by simp only [rL]; omega, by simp only [rL]; omega⟩ ⟨Nat.le_of_ble_eq_true rfl, Nat.le_of_ble_eq_true rfl⟩ dX7_part_66 (fun r20 kd16 ig17 rg18 lg19 H locs hw hH hp21 => ?_)
        obtain ⟨hI, hchp21, hrhp21⟩ := hp21
        have hN := hN.tr hchp21
        have hsh := hI.sh
        have hrs := hI.rs
        obtain ⟨z22, rfl, hz22⟩ := hrhp21
        have bz22 := RB2.bz hz22
        have rb1 := hz22
        exact r_iret C hw hr hlk (nar_b (by omega)) (Nat.le_of_ble_eq_true rfl) (Nat.le_of_ble_eq_true rfl) dX7_part_69 ⟨hI, hN, ⟨_, rfl, rb1.to (fun f a9 M9 p => by rw [hk1]; exact QP.br (by omega) p)⟩⟩
      by_cases s29_45 : z15.toInt = 45
      · refine lv_lookup hx hb dX7_part_29 (by decide) (off := 41) (by rw [s29_45]; rfl) (tgt := 70) (by decide) ?_
        refine lv_aload_n hx hb dX7_part_70 rfl (lv_at hl 0 rfl) ?_
        refine lv_iload_n hx hb dX7_part_71 rfl (lv_at hl 1 rfl) ?_
        refine r_callV (As := [.int x]) (rest := []) C hw (t_X7_negatedE l B D cA kd ig rg lg _ x N h a M hR k1 hP (by omega) (by omega) hI) sv_X7_125 (hsh 1 _ rfl) rfl hl.1 rfl (Nat.le_of_ble_eq_true rfl) ⟨by simp only [rL]; omega, by simp only [rL]; omega⟩ ⟨Nat.le_of_ble_eq_true rfl, Nat.le_of_ble_eq_true rfl⟩ dX7_part_72 (fun r27 kd23 ig24 rg25 lg26 H locs hw hH hp28 => ?_)
        obtain ⟨hI, hchp28, hrhp28⟩ := hp28
        have hN := hN.tr hchp28
        have hsh := hI.sh
        have hrs := hI.rs
        obtain ⟨z29, rfl, hz29⟩ := hrhp28
        have bz29 := RB2.bz hz29
        have rb1 := hz29
        exact r_iret C hw hr hlk (nar_b (by omega)) (Nat.le_of_ble_eq_true rfl) (Nat.le_of_ble_eq_true rfl) dX7_part_75 ⟨hI, hN, ⟨_, rfl, rb1.to (fun f a9 M9 p => by rw [hk1]; exact QP.ng (by omega) p)⟩⟩
      by_cases s29_110 : z15.toInt = 110
      · refine lv_lookup hx hb dX7_part_29 (by decide) (off := 47) (by rw [s29_110]; rfl) (tgt := 76) (by decide) ?_
        refine lv_aload_n hx hb dX7_part_76 rfl (lv_at hl 0 rfl) ?_
        refine lv_iconst (v := 0) hx hb dX7_part_77 (by decide) (ti_c 0 (by decide) fun z30 hz30 => ?_)
        refine lv_aload_n hx hb dX7_part_78 rfl (lv_at hl 0 rfl) ?_
        refine r_callV (As := []) (rest := [.int z30, .ref (B + 1)]) C hw (t_X7_amount l B D cA kd ig rg lg _  N h a hR.1 hI) sv_X7_128 (hsh 1 _ rfl) rfl hl.1 rfl (Nat.le_of_ble_eq_true rfl) ⟨by simp only [rL]; omega, by simp only [rL]; omega⟩ ⟨Nat.le_of_ble_eq_true rfl, Nat.le_of_ble_eq_true rfl⟩ dX7_part_79 (fun r35 kd31 ig32 rg33 lg34 H locs hw hH hp36 => ?_)
        obtain ⟨rfl, rfl, rfl, rfl, hzhp36, hrhp36⟩ := hp36
        obtain ⟨z37, rfl, hz37⟩ := hrhp36
        refine lv_iconst (v := 0) hx hb dX7_part_82 (by decide) (ti_c 0 (by decide) fun z38 hz38 => ?_)
        have hlt0 := hR.lt (show tK τ a ≠ 0 by omega)
        refine r_callV (As := [.int z30, .int z37, .int z38]) (rest := []) C hw (t_X7_addE l B D cA kd ig rg lg _ z30 z37 z38 N h a M hR.1 hR.2.1 (by first | omega | (simp only [List.length_append, List.length_singleton, List.length_nil] at *; omega)) hI) sv_X7_112 (hsh 1 _ rfl) rfl hl.1 rfl (Nat.le_of_ble_eq_true rfl) ⟨by simp only [rL]; omega, by simp only [rL]; omega⟩ ⟨Nat.le_of_ble_eq_true rfl, Nat.le_of_ble_eq_true rfl⟩ dX7_part_83 (fun r43 kd39 ig40 rg41 lg42 H locs hw hH hp44 => ?_)
        obtain ⟨hI, hchp44, hrhp44⟩ := hp44
        have hN := hN.tr hchp44
        have hsh := hI.sh
        have hrs := hI.rs
        obtain ⟨rfl, hvhp44⟩ := hrhp44
        have h7c := hvhp44.1.2.2.2.1
        refine lv_aload_n hx hb dX7_part_86 rfl (lv_at hl 0 rfl) ?_
        refine lv_dup hx hb dX7_part_87 rfl ?_
        refine r_get C hw (hsh 1 _ rfl) fl_X7_50 (oV_i rfl) dX7_part_88 (ti_c (ig40 (B + 1) 7).toInt rfl fun z45 hz45 => ?_)
        refine lv_iconst (v := 1) hx hb dX7_part_91 (by decide) (ti_c 1 (by decide) fun z46 hz46 => ?_)
        refine lv_iadd hx hb dX7_part_92 (tc_add fun z47 hz47 => ?_)
        first | replace hz47 := hz47 (by omega) | clear hz47
        refine r_puti C hw (hsh 1 _ rfl) fl_X7_50 rfl rfl rfl dX7_part_93 (fun H locs hH hw => ?_)
        obtain ⟨ig48, eig48⟩ : ∃ f, f = up2 ig40 (B + 1) 7 z47 := ⟨_, rfl⟩
        rw [← eig48] at hw
        have hN : Nx 1022 B none kd ig rg lg kd39 ig48 rg41 lg42 := by rw [eig48]; exact hN.pi (by omega)
        have hI : IC τ B kd39 ig48 rg41 := by rw [eig48]; exact hI.pi (show okR none _ from trivial)
        have hlt := hR.lt (show tK τ a ≠ 0 by omega)
        obtain ⟨hR1, hT1⟩ := hvhp44
        have hs9 : (z30.toInt, z37.toInt, z38.toInt) = (0, tV τ a, 0) := by rw [hz30, hz37, hz38]
        rw [hs9] at hT1
        have h7b := hR1.2.2.2.1
        have hR : RZ2 B τ N h (a + 1) (M ++ [(0, tV τ a, 0)]) ig48 := by rw [eig48]; exact ⟨hR1.nx (by omega) (by omega), hT1.wr (Or.inr ⟨rfl, by decide⟩), by rw [List.length_append, List.length_singleton]; omega⟩
        refine lv_iconst (v := 1) hx hb dX7_part_96 (by decide) (ti_c 1 (by decide) fun z49 hz49 => ?_)
        exact r_iret C hw hr hlk (nar_b (by omega)) (Nat.le_of_ble_eq_true rfl) (Nat.le_of_ble_eq_true rfl) dX7_part_97 ⟨hI, hN, ⟨_, rfl, RB2.mk (by rw [hk1]; exact QP.num (by omega)) hR (by omega)⟩⟩
      refine lv_lookup hx hb dX7_part_29 (by decide) (off := 69) (by show Op.lookupswitch.offset [(40, 35), (45, 41), (110, 47)] 69 _ = _; rw [los s29_40, los s29_45, los s29_110]; rfl) (tgt := 98) (by decide) ?_
      refine lv_aload_n hx hb dX7_part_98 rfl (lv_at hl 0 rfl) ?_
      refine r_callV (As := []) (rest := []) C hw (t_X7_kind l B D cA kd ig rg lg _  N h a hR.1 hI) sv_X7_57 (hsh 1 _ rfl) rfl hl.1 rfl (Nat.le_of_ble_eq_true rfl) ⟨by simp only [rL]; omega, by simp only [rL]; omega⟩ ⟨Nat.le_of_ble_eq_true rfl, Nat.le_of_ble_eq_true rfl⟩ dX7_part_99 (fun r54 kd50 ig51 rg52 lg53 H locs hw hH hp55 => ?_)
      obtain ⟨rfl, rfl, rfl, rfl, hzhp55, hrhp55⟩ := hp55
      obtain ⟨z56, rfl, hz56⟩ := hrhp55
      refine lv_bipush (v := 119) hx hb dX7_part_102 (by decide) (ti_c 119 (by decide) fun z57 hz57 => ?_)
      have J127 : ∀ (ls : Array Slot) (H : Heap) (locs : List Loc) (kd59 : sK) (ig60 : sI) (rg61 : sR) (lg62 : sG) (u58 : Int32), lv_has ls 2 [] → WD B D cA s.heap kd59 ig60 rg61 lg62 H locs → IC τ B kd59 ig60 rg61 → Nx 1022 B none kd ig rg lg kd59 ig60 rg61 lg62 → (RB2 B τ N h ig60 (QP τ h k a M) u58) → W p l e (rL (4 * k + 9) 0 0) s m args below meth c H locs 0 0 (MQ below (QcW B D cA (PI 1022 τ B none kd ig rg lg (fun r kd' ig' rg' lg' => ∃ z : Int32, r = some (.int z) ∧ RB2 B τ N h ig' (QP τ h k a M) z))) args s 0 0 (fun q => B ≤ q)) (F0 m 127 ls [.int u58]) := by
        intro ls H locs kd59 ig60 rg61 lg62 u58 hl hw hI hN g127_0
        have hsh := hI.sh
        have hrs := hI.rs
        have b127 := RB2.bz g127_0
        exact r_iret C hw hr hlk (nar_b (by omega)) (Nat.le_of_ble_eq_true rfl) (Nat.le_of_ble_eq_true rfl) dX7_part_127 ⟨hI, hN, ⟨_, rfl, g127_0⟩⟩
      have J123 : ∀ (ls : Array Slot) (H : Heap) (locs : List Loc) (kd63 : sK) (ig64 : sI) (rg65 : sR) (lg66 : sG) , lv_has ls 2 [(0, .ref (B + 1))] → WD B D cA s.heap kd63 ig64 rg65 lg66 H locs → IC τ B kd63 ig64 rg65 → Nx 1022 B none kd ig rg lg kd63 ig64 rg65 lg66 → (RZ2 B τ N h a M ig64) → (tK τ a = 36 ∨ (tK τ a = 119 ∧ tV τ a < 12)) → W p l e (rL (4 * k + 9) 0 0) s m args below meth c H locs 0 0 (MQ below (QcW B D cA (PI 1022 τ B none kd ig rg lg (fun r kd' ig' rg' lg' => ∃ z : Int32, r = some (.int z) ∧ RB2 B τ N h ig' (QP τ h k a M) z))) args s 0 0 (fun q => B ≤ q)) (F0 m 123 ls []) := by
        intro ls H locs kd63 ig64 rg65 lg66 hl hw hI hN g123_0 g123_1
        have hsh := hI.sh
        have hrs := hI.rs
        have hR := g123_0
        obtain ⟨⟨⟨hN0, h6⟩, ⟨h2, hh⟩, h7, haN⟩, hMa⟩ := hR.nums
        refine lv_aload_n hx hb dX7_part_123 rfl (lv_at hl 0 rfl) ?_
        refine r_callV (As := []) (rest := []) C hw (t_X7_singleE l B D cA kd63 ig64 rg65 lg66 _  N h a M hR hI) sv_X7_134 (hsh 1 _ rfl) rfl hl.1 rfl (Nat.le_of_ble_eq_true rfl) ⟨by simp only [rL]; omega, by simp only [rL]; omega⟩ ⟨Nat.le_of_ble_eq_true rfl, Nat.le_of_ble_eq_true rfl⟩ dX7_part_124 (fun r71 kd67 ig68 rg69 lg70 H locs hw hH hp72 => ?_)
        obtain ⟨hI, hchp72, hrhp72⟩ := hp72
        have hN := hN.tr hchp72
        have hsh := hI.sh
        have hrs := hI.rs
        obtain ⟨z73, rfl, hz73⟩ := hrhp72
        have bz73 := RB2.bz hz73
        exact J127 ls H locs kd67 ig68 rg69 lg70 z73 (lv_sub hl [] rfl) hw hI hN (hz73.to (fun f a9 M9 p => by rw [hk1]; exact QP.rf (by omega) p))
      refine b_ne (tgt := 123) hx hb dX7_part_104 (by decide) (fun c104 => ?_) (fun c104 => ?_)
      · exact J123 ls H locs kd ig rg lg (lv_sub hl [0] rfl) hw hI hN (hR) (by omega)
      · refine lv_aload_n hx hb dX7_part_107 rfl (lv_at hl 0 rfl) ?_
        refine r_callV (As := []) (rest := []) C hw (t_X7_amount l B D cA kd ig rg lg _  N h a hR.1 hI) sv_X7_128 (hsh 1 _ rfl) rfl hl.1 rfl (Nat.le_of_ble_eq_true rfl) ⟨by simp only [rL]; omega, by simp only [rL]; omega⟩ ⟨Nat.le_of_ble_eq_true rfl, Nat.le_of_ble_eq_true rfl⟩ dX7_part_108 (fun r78 kd74 ig75 rg76 lg77 H locs hw hH hp79 => ?_)
        obtain ⟨rfl, rfl, rfl, rfl, hzhp79, hrhp79⟩ := hp79
        obtain ⟨z80, rfl, hz80⟩ := hrhp79
        refine lv_bipush (v := 26) hx hb dX7_part_111 (by decide) (ti_c 26 (by decide) fun z81 hz81 => ?_)
        refine b_ne (tgt := 123) hx hb dX7_part_113 (by decide) (fun c113 => ?_) (fun c113 => ?_)
        · exact J123 ls H locs kd ig rg lg (lv_sub hl [0] rfl) hw hI hN (hR) (by omega)
        · refine lv_aload_n hx hb dX7_part_116 rfl (lv_at hl 0 rfl) ?_
          refine r_callV (As := []) (rest := []) C hw (t_X7_spanE l B D cA kd ig rg lg _  N h a M hR (by omega) hI) sv_X7_131 (hsh 1 _ rfl) rfl hl.1 rfl (Nat.le_of_ble_eq_true rfl) ⟨by simp only [rL]; omega, by simp only [rL]; omega⟩ ⟨Nat.le_of_ble_eq_true rfl, Nat.le_of_ble_eq_true rfl⟩ dX7_part_117 (fun r86 kd82 ig83 rg84 lg85 H locs hw hH hp87 => ?_)
          obtain ⟨hI, hchp87, hrhp87⟩ := hp87
          have hN := hN.tr hchp87
          have hsh := hI.sh
          have hrs := hI.rs
          obtain ⟨z88, rfl, hz88⟩ := hrhp87
          have bz88 := RB2.bz hz88
          have rb1 := hz88
          refine lv_goto (tgt := 127) hx hb dX7_part_120 (by decide) ?_
          exact J127 ls H locs kd82 ig83 rg84 lg85 z88 (lv_sub hl [] rfl) hw hI hN (hz88.to (fun f a9 M9 p => by rw [hk1]; exact QP.sp (by omega) p))
    · refine lv_aload_n hx hb dX7_part_19 rfl (lv_at hl 0 rfl) ?_
      refine lv_iconst (v := 5) hx hb dX7_part_20 (by decide) (ti_c 5 (by decide) fun z89 hz89 => ?_)
      refine r_callV (As := [.int z89]) (rest := []) C hw (t_X7_wrong l B D cA kd ig rg lg _ z89 N h a hR.1 (by omega) hI) sv_X7_61 (hsh 1 _ rfl) rfl hl.1 rfl (Nat.le_of_ble_eq_true rfl) ⟨by simp only [rL]; omega, by simp only [rL]; omega⟩ ⟨Nat.le_of_ble_eq_true rfl, Nat.le_of_ble_eq_true rfl⟩ dX7_part_21 (fun r94 kd90 ig91 rg92 lg93 H locs hw hH hp95 => ?_)
      obtain ⟨hI, hchp95, hrhp95⟩ := hp95
      have hN := hN.tr hchp95
      have hsh := hI.sh
      have hrs := hI.rs
      obtain ⟨z96, rfl, hz96⟩ := hrhp95
      obtain ⟨wz, w8⟩ := hz96
      exact r_iret C hw hr hlk (nar_b (by omega)) (Nat.le_of_ble_eq_true rfl) (Nat.le_of_ble_eq_true rfl) dX7_part_24 ⟨hI, hN, ⟨_, rfl, RB2.mkf (f := fw (tS τ) 5 a) (a' := 0) (M' := M) (QP.bad (by have e0 : k = 0 := (by omega); subst e0; exact Or.inr ⟨by rcases hst with ⟨-, q⟩ | ⟨q, -⟩; exact q; omega, rfl⟩) (hR.fw_ne (by decide))) (hR.fw_ne (by decide)) (by rw [w8]; unfold fw; omega) (by omega)⟩⟩
  · refine lv_aload_n hx hb dX7_part_7 rfl (lv_at hl 0 rfl) ?_
    refine lv_iconst (v := 1) hx hb dX7_part_8 (by decide) (ti_c 1 (by decide) fun z97 hz97 => ?_)
    refine r_callV (As := [.int z97]) (rest := []) C hw (t_X7_wrong l B D cA kd ig rg lg _ z97 N h a hR.1 (by omega) hI) sv_X7_61 (hsh 1 _ rfl) rfl hl.1 rfl (Nat.le_of_ble_eq_true rfl) ⟨by simp only [rL]; omega, by simp only [rL]; omega⟩ ⟨Nat.le_of_ble_eq_true rfl, Nat.le_of_ble_eq_true rfl⟩ dX7_part_9 (fun r102 kd98 ig99 rg100 lg101 H locs hw hH hp103 => ?_)
    obtain ⟨hI, hchp103, hrhp103⟩ := hp103
    have hN := hN.tr hchp103
    have hsh := hI.sh
    have hrs := hI.rs
    obtain ⟨z104, rfl, hz104⟩ := hrhp103
    obtain ⟨wz, w8⟩ := hz104
    exact r_iret C hw hr hlk (nar_b (by omega)) (Nat.le_of_ble_eq_true rfl) (Nat.le_of_ble_eq_true rfl) dX7_part_12 ⟨hI, hN, ⟨_, rfl, RB2.mkf (f := fw (tS τ) 1 a) (a' := 0) (M' := M) (QP.bad (pPart.no (by rcases hst with ⟨q, -⟩ | ⟨-, q⟩; omega; exact q)) (hR.fw_ne (by decide))) (hR.fw_ne (by decide)) (by rw [w8]; unfold fw; omega) (by omega)⟩⟩

set_option maxHeartbeats 4000000 in
set_option maxRecDepth 100000 in
theorem t_X7_productE {τ : Tp} (l : Launch) (B : Nat) (D : va_G) (cA : Nat → ClassId) (kd : sK) (ig : sI) (rg : sR) (lg : sG) (sz : Nat) (x : Int32) (N h a : Nat) (M : Fm) (hR : RZ2 B τ N h a M ig) (k : Nat) (hP : RPartE τ l B D cA k) (hxk : x.toInt = 8 - (k : Int)) (hI : IC τ B kd ig rg) : MC l B D cA yX7_product cX7_product 4 (some .boolean) (rL (4 * k + 10) 0 0) [.ref (B + 1), .int x] kd ig rg lg sz (PI 1022 τ B none kd ig rg lg (fun r kd' ig' rg' lg' => ∃ z : Int32, r = some (.int z) ∧ RB2 B τ N h ig' (QX τ h k a M) z)) := by
  refine MC.of (own := RX7) (by decide +kernel) rfl (Nat.le_of_ble_eq_true rfl) ?_
  intro p e s m args below meth c ls C hr hlk hnm hw hsz hl
  have hx := C.1.1
  have hb := C.1.2.1
  have hown := C.1.2.2.2.1
  have hts := C.1.2.2.2.2
  have hl : lv_has ls 4 [(0, .ref (B + 1)), (1, .int x)] := hl
  have hN : Nx 1022 B none kd ig rg lg kd ig rg lg := Nx.rf
  have hsh := hI.sh
  have hrs := hI.rs
  obtain ⟨⟨⟨hN0, h6⟩, ⟨h2, hh⟩, h7, haN⟩, hMa⟩ := hR.nums
  refine lv_aload_n hx hb dX7_product_0 rfl (lv_at hl 0 rfl) ?_
  refine lv_iload_n hx hb dX7_product_1 rfl (lv_at hl 1 rfl) ?_
  refine r_callV (As := [.int x]) (rest := []) C hw (hP kd ig rg lg _ x N h a M hR (by omega) hI) sv_X7_115 (hsh 1 _ rfl) rfl hl.1 rfl (Nat.le_of_ble_eq_true rfl) ⟨by simp only [rL]; omega, by simp only [rL]; omega⟩ ⟨Nat.le_of_ble_eq_true rfl, Nat.le_of_ble_eq_true rfl⟩ dX7_product_2 (fun r5 kd1 ig2 rg3 lg4 H locs hw hH hp6 => ?_)
  obtain ⟨hI, hchp6, hrhp6⟩ := hp6
  have hN := hN.tr hchp6
  have hsh := hI.sh
  have hrs := hI.rs
  obtain ⟨z7, rfl, hz7⟩ := hrhp6
  have bz7 := RB2.bz hz7
  have rb1 := hz7
  refine z_ne (tgt := 10) hx hb dX7_product_5 (by decide) (fun c5 => ?_) (fun c5 => ?_)
  · obtain ⟨c0, M9, p9, hR⟩ := RB2.yes rb1 (by omega)
    obtain ⟨y1, y2, y3, rfl⟩ := p9.2 rfl
    obtain ⟨⟨⟨hN0, h6⟩, ⟨h2, hh⟩, h7, haN⟩, hMa⟩ := hR.nums
    have l9 := pPart.lt k _ _ p9.1
    refine lv_iconst (v := 0) hx hb dX7_product_10 (by decide) (ti_c 0 (by decide) fun z8 hz8 => ?_)
    refine lv_istore_n (lv' := [(2, .int z8), (0, .ref (B + 1)), (1, .int x)]) hx hb dX7_product_11 rfl hl (by decide) rfl (fun ls hl => ?_)
    have L12 : ∀ (n : Nat) (ls : Array Slot) (H : Heap) (locs : List Loc) (kd10 : sK) (ig11 : sI) (rg12 : sR) (lg13 : sG) (v9 : Int32), lv_has ls 4 [(2, .int v9), (0, .ref (B + 1)), (1, .int x)] → WD B D cA s.heap kd10 ig11 rg12 lg13 H locs → IC τ B kd10 ig11 rg12 → Nx 1022 B none kd ig rg lg kd10 ig11 rg12 lg13 → (∃ n cc acc, (qCh (pPart (tK τ) (tV τ) (tS τ) k) (sMu (tK τ)) n a cc ∧ hK (tPa τ h k) (hMu (tSi τ)) a acc cc ∧ fitW h acc) ∧ RZ2 B τ N h cc (M ++ acc) ig11 ∧ v9.toInt < (cc : Int)) → (0 ≤ v9.toInt) → (v9.toInt ≤ 120) → 120 - v9.toInt < (n : Int) → W p l e (rL (4 * k + 10) 0 0) s m args below meth c H locs 0 0 (MQ below (QcW B D cA (PI 1022 τ B none kd ig rg lg (fun r kd' ig' rg' lg' => ∃ z : Int32, r = some (.int z) ∧ RB2 B τ N h ig' (QX τ h k a M) z))) args s 0 0 (fun q => B ≤ q)) (F0 m 12 ls []) := by
      intro n12
      induction n12 with
      | zero => intro ls H locs kd10 ig11 rg12 lg13 v9 hl hw hI hN g12_0 g12_1 g12_2 hmu; exact absurd hmu (by omega)
      | succ n12 ih12 =>
        intro ls H locs kd10 ig11 rg12 lg13 v9 hl hw hI hN g12_0 g12_1 g12_2 hmu
        have hsh := hI.sh
        have hrs := hI.rs
        obtain ⟨n, cc, acc, ⟨hq, hk9, hf⟩, hR, hic⟩ := g12_0
        obtain ⟨⟨⟨hN0, h6⟩, ⟨h2, hh⟩, h7, haN⟩, hMa⟩ := hR.nums
        have hic2 := hic
        refine lv_iload_n hx hb dX7_product_12 rfl (lv_at hl 0 rfl) ?_
        refine lv_bipush (v := 120) hx hb dX7_product_13 (by decide) (ti_c 120 (by decide) fun z14 hz14 => ?_)
        refine b_ge (tgt := 86) hx hb dX7_product_15 (by decide) (fun c15 => ?_) (fun c15 => ?_)
        · exact absurd c15 (by omega)
        · refine lv_aload_n hx hb dX7_product_18 rfl (lv_at hl 1 rfl) ?_
          refine r_callV (As := []) (rest := []) C hw (t_X7_kind l B D cA kd10 ig11 rg12 lg13 _  N h cc hR.1 hI) sv_X7_57 (hsh 1 _ rfl) rfl hl.1 rfl (Nat.le_of_ble_eq_true rfl) ⟨by simp only [rL]; omega, by simp only [rL]; omega⟩ ⟨Nat.le_of_ble_eq_true rfl, Nat.le_of_ble_eq_true rfl⟩ dX7_product_19 (fun r19 kd15 ig16 rg17 lg18 H locs hw hH hp20 => ?_)
          obtain ⟨rfl, rfl, rfl, rfl, hzhp20, hrhp20⟩ := hp20
          obtain ⟨z21, rfl, hz21⟩ := hrhp20
          refine lv_bipush (v := 42) hx hb dX7_product_22 (by decide) (ti_c 42 (by decide) fun z22 hz22 => ?_)
          have J36 : ∀ (ls : Array Slot) (H : Heap) (locs : List Loc) (kd23 : sK) (ig24 : sI) (rg25 : sR) (lg26 : sG) , lv_has ls 4 [(2, .int v9), (0, .ref (B + 1)), (1, .int x)] → WD B D cA s.heap kd23 ig24 rg25 lg26 H locs → IC τ B kd23 ig24 rg25 → Nx 1022 B none kd ig rg lg kd23 ig24 rg25 lg26 → (RZ2 B τ N h cc (M ++ acc) ig24) → (tK τ cc = 42 ∨ tK τ cc = 47) → W p l e (rL (4 * k + 10) 0 0) s m args below meth c H locs 0 0 (MQ below (QcW B D cA (PI 1022 τ B none kd ig rg lg (fun r kd' ig' rg' lg' => ∃ z : Int32, r = some (.int z) ∧ RB2 B τ N h ig' (QX τ h k a M) z))) args s 0 0 (fun q => B ≤ q)) (F0 m 36 ls []) := by
            intro ls H locs kd23 ig24 rg25 lg26 hl hw hI hN g36_0 g36_1
            have hsh := hI.sh
            have hrs := hI.rs
            have hR := g36_0
            obtain ⟨⟨⟨hN0, h6⟩, ⟨h2, hh⟩, h7, haN⟩, hMa⟩ := hR.nums
            have hs : tK τ cc = 42 ∨ tK τ cc = 47 := g36_1
            refine lv_aload_n hx hb dX7_product_36 rfl (lv_at hl 1 rfl) ?_
            refine r_callV (As := []) (rest := []) C hw (t_X7_kind l B D cA kd23 ig24 rg25 lg26 _  N h cc hR.1 hI) sv_X7_57 (hsh 1 _ rfl) rfl hl.1 rfl (Nat.le_of_ble_eq_true rfl) ⟨by simp only [rL]; omega, by simp only [rL]; omega⟩ ⟨Nat.le_of_ble_eq_true rfl, Nat.le_of_ble_eq_true rfl⟩ dX7_product_37 (fun r31 kd27 ig28 rg29 lg30 H locs hw hH hp32 => ?_)
            obtain ⟨rfl, rfl, rfl, rfl, hzhp32, hrhp32⟩ := hp32
            obtain ⟨z33, rfl, hz33⟩ := hrhp32
            refine lv_bipush (v := 42) hx hb dX7_product_40 (by decide) (ti_c 42 (by decide) fun z34 hz34 => ?_)
            have J52 : ∀ (ls : Array Slot) (H : Heap) (locs : List Loc) (kd36 : sK) (ig37 : sI) (rg38 : sR) (lg39 : sG) (u35 : Int32), lv_has ls 4 [(2, .int v9), (0, .ref (B + 1)), (1, .int x)] → WD B D cA s.heap kd36 ig37 rg38 lg39 H locs → IC τ B kd36 ig37 rg38 → Nx 1022 B none kd ig rg lg kd36 ig37 rg38 lg39 → (u35.toInt = opS (tK τ cc)) → (RZ2 B τ N h cc (M ++ acc) ig37) → W p l e (rL (4 * k + 10) 0 0) s m args below meth c H locs 0 0 (MQ below (QcW B D cA (PI 1022 τ B none kd ig rg lg (fun r kd' ig' rg' lg' => ∃ z : Int32, r = some (.int z) ∧ RB2 B τ N h ig' (QX τ h k a M) z))) args s 0 0 (fun q => B ≤ q)) (F0 m 52 ls [.int u35]) := by
              intro ls H locs kd36 ig37 rg38 lg39 u35 hl hw hI hN g52_0 g52_1
              have hsh := hI.sh
              have hrs := hI.rs
              have hR := g52_1
              obtain ⟨⟨⟨hN0, h6⟩, ⟨h2, hh⟩, h7, haN⟩, hMa⟩ := hR.nums
              refine lv_istore_n (lv' := [(3, .int u35), (2, .int v9), (0, .ref (B + 1)), (1, .int x)]) hx hb dX7_product_52 rfl hl (by decide) rfl (fun ls hl => ?_)
              refine lv_aload_n hx hb dX7_product_53 rfl (lv_at hl 2 rfl) ?_
              refine lv_dup hx hb dX7_product_54 rfl ?_
              refine r_get C hw (hsh 1 _ rfl) fl_X7_50 (oV_i rfl) dX7_product_55 (ti_c (ig37 (B + 1) 7).toInt rfl fun z40 hz40 => ?_)
              refine lv_iconst (v := 1) hx hb dX7_product_58 (by decide) (ti_c 1 (by decide) fun z41 hz41 => ?_)
              refine lv_iadd hx hb dX7_product_59 (tc_add fun z42 hz42 => ?_)
              first | replace hz42 := hz42 (by omega) | clear hz42
              refine r_puti C hw (hsh 1 _ rfl) fl_X7_50 rfl rfl rfl dX7_product_60 (fun H locs hH hw => ?_)
              obtain ⟨ig43, eig43⟩ : ∃ f, f = up2 ig37 (B + 1) 7 z42 := ⟨_, rfl⟩
              rw [← eig43] at hw
              have hN : Nx 1022 B none kd ig rg lg kd36 ig43 rg38 lg39 := by rw [eig43]; exact hN.pi (by omega)
              have hI : IC τ B kd36 ig43 rg38 := by rw [eig43]; exact hI.pi (show okR none _ from trivial)
              have hlt := hR.lt (show tK τ cc ≠ 0 from by omega)
              have hR : RZ2 B τ N h (cc + 1) (M ++ acc) ig43 := by rw [eig43]; exact hR.nx (by omega) (by omega) (by omega)
              obtain ⟨⟨⟨hN0, h6⟩, ⟨h2, hh⟩, h7, haN⟩, hMa⟩ := hR.nums
              refine lv_aload_n hx hb dX7_product_63 rfl (lv_at hl 2 rfl) ?_
              refine lv_iload_n hx hb dX7_product_64 rfl (lv_at hl 3 rfl) ?_
              refine r_callV (As := [.int x]) (rest := []) C hw (hP kd36 ig43 rg38 lg39 _ x N h (cc + 1) (M ++ acc) hR (by omega) hI) sv_X7_115 (hsh 1 _ rfl) rfl hl.1 rfl (Nat.le_of_ble_eq_true rfl) ⟨by simp only [rL]; omega, by simp only [rL]; omega⟩ ⟨Nat.le_of_ble_eq_true rfl, Nat.le_of_ble_eq_true rfl⟩ dX7_product_65 (fun r48 kd44 ig45 rg46 lg47 H locs hw hH hp49 => ?_)
              obtain ⟨hI, hchp49, hrhp49⟩ := hp49
              have hN := hN.tr hchp49
              have hsh := hI.sh
              have hrs := hI.rs
              obtain ⟨z50, rfl, hz50⟩ := hrhp49
              have bz50 := RB2.bz hz50
              have rb2 := hz50
              refine z_ne (tgt := 73) hx hb dX7_product_68 (by decide) (fun c68 => ?_) (fun c68 => ?_)
              · obtain ⟨c9, M9, p9, hR⟩ := RB2.yes rb2 (by omega)
                obtain ⟨y1, y2, y3, rfl⟩ := p9.2 rfl
                have ln1 := tPa.ln k _ _ _ y2
                obtain ⟨⟨⟨hN0, h6⟩, ⟨h2, hh⟩, h7, haN⟩, hMa⟩ := hR.nums
                have l9 := pPart.lt k _ _ p9.1
                refine lv_aload_n hx hb dX7_product_73 rfl (lv_at hl 2 rfl) ?_
                refine lv_iload_n hx hb dX7_product_74 rfl (lv_at hl 0 rfl) ?_
                refine lv_iconst (v := 0) hx hb dX7_product_75 (by decide) (ti_c 0 (by decide) fun z51 hz51 => ?_)
                refine lv_iconst (v := 0) hx hb dX7_product_76 (by decide) (ti_c 0 (by decide) fun z52 hz52 => ?_)
                refine r_callV (As := [.int u35, .int z51, .int z52]) (rest := []) C hw (t_X7_addE l B D cA kd44 ig45 rg46 lg47 _ u35 z51 z52 N h c9 (M ++ acc ++ y1) hR.1 hR.2.1 (by first | omega | (simp only [List.length_append, List.length_singleton, List.length_nil] at *; omega)) hI) sv_X7_112 (hsh 1 _ rfl) rfl hl.1 rfl (Nat.le_of_ble_eq_true rfl) ⟨by simp only [rL]; omega, by simp only [rL]; omega⟩ ⟨Nat.le_of_ble_eq_true rfl, Nat.le_of_ble_eq_true rfl⟩ dX7_product_77 (fun r57 kd53 ig54 rg55 lg56 H locs hw hH hp58 => ?_)
                obtain ⟨hI, hchp58, hrhp58⟩ := hp58
                have hN := hN.tr hchp58
                have hsh := hI.sh
                have hrs := hI.rs
                obtain ⟨rfl, hvhp58⟩ := hrhp58
                have hs9 : (u35.toInt, z51.toInt, z52.toInt) = (opS (tK τ cc), 0, 0) := by rw [g52_0, hz51, hz52]
                obtain ⟨hR1, hT1⟩ := hvhp58
                rw [hs9] at hT1
                have hR : RZ2 B τ N h c9 ((M ++ acc ++ y1) ++ [(opS (tK τ cc), 0, 0)]) ig54 := RZ2.mk hR1 hT1 (by first | omega | (simp only [List.length_append, List.length_singleton] at *; omega))
                refine tc_inc hx hb dX7_product_80 hl (k := 1) rfl (by decide) (by decide) (fun z59 hz59 ls hl => ?_)
                first | replace hz59 := hz59 (by omega) | clear hz59
                have hl : lv_has ls 4 [(2, .int z59), (3, .int u35), (0, .ref (B + 1)), (1, .int x)] := hl
                refine lv_goto (tgt := 12) hx hb dX7_product_83 (by decide) ?_
                exact ih12 ls H locs kd53 ig54 rg55 lg56 z59 (lv_sub hl [0, 2, 3] rfl) hw hI hN (⟨n + 1, c9, acc ++ (y1 ++ [(opS (tK τ cc), 0, 0)]), ⟨qCh.snoc n a cc c9 hq (show sMu (tK τ) cc from hs) p9.1, hk9.turn (o := tK τ cc) ⟨⟨rfl, by omega, by omega⟩, by omega⟩ y2, hf.app (y3.app fitW.ops)⟩, (by have q9 := hR; rw [List.append_assoc, List.append_assoc] at q9; exact q9), by omega⟩) (by omega) (by omega) (by omega)
              · obtain ⟨f9, a9, M9, hf9, p9, h89⟩ := RB2.no rb2 (by omega)
                refine lv_iconst (v := 0) hx hb dX7_product_71 (by decide) (ti_c 0 (by decide) fun z60 hz60 => ?_)
                exact r_iret C hw hr hlk (nar_b (by omega)) (Nat.le_of_ble_eq_true rfl) (Nat.le_of_ble_eq_true rfl) dX7_product_72 ⟨hI, hN, ⟨_, rfl, RB2.mkf (M' := M) ⟨Or.inr ⟨n, cc, hq, Or.inr ⟨hs, hf9, p9.1⟩⟩, fun e => (hf9 e).elim⟩ hf9 h89 (by omega)⟩⟩
            refine b_ne (tgt := 50) hx hb dX7_product_42 (by decide) (fun c42 => ?_) (fun c42 => ?_)
            · refine lv_bipush (v := 8) hx hb dX7_product_50 (by decide) (ti_c 8 (by decide) fun z61 hz61 => ?_)
              exact J52 ls H locs kd23 ig24 rg25 lg26 z61 (lv_sub hl [0, 1, 2] rfl) hw hI hN (by rw [show tK τ cc = 47 by omega]; exact hz61) (hR)
            · refine lv_bipush (v := 7) hx hb dX7_product_45 (by decide) (ti_c 7 (by decide) fun z62 hz62 => ?_)
              refine lv_goto (tgt := 52) hx hb dX7_product_47 (by decide) ?_
              exact J52 ls H locs kd23 ig24 rg25 lg26 z62 (lv_sub hl [0, 1, 2] rfl) hw hI hN (by rw [show tK τ cc = 42 by omega]; exact hz62) (hR)
          refine b_eq (tgt := 36) hx hb dX7_product_24 (by decide) (fun c24 => ?_) (fun c24 => ?_)
          · exact J36 ls H locs kd10 ig11 rg12 lg13 (lv_sub hl [0, 1, 2] rfl) hw hI hN (hR) (by omega)
          · refine lv_aload_n hx hb dX7_product_27 rfl (lv_at hl 1 rfl) ?_
            refine r_callV (As := []) (rest := []) C hw (t_X7_kind l B D cA kd10 ig11 rg12 lg13 _  N h cc hR.1 hI) sv_X7_57 (hsh 1 _ rfl) rfl hl.1 rfl (Nat.le_of_ble_eq_true rfl) ⟨by simp only [rL]; omega, by simp only [rL]; omega⟩ ⟨Nat.le_of_ble_eq_true rfl, Nat.le_of_ble_eq_true rfl⟩ dX7_product_28 (fun r67 kd63 ig64 rg65 lg66 H locs hw hH hp68 => ?_)
            obtain ⟨rfl, rfl, rfl, rfl, hzhp68, hrhp68⟩ := hp68
            obtain ⟨z69, rfl, hz69⟩ := hrhp68
            refine lv_bipush (v := 47) hx hb dX7_product_31 (by decide) (ti_c 47 (by decide) fun z70 hz70 => ?_)
            refine b_ne (tgt := 86) hx hb dX7_product_33 (by decide) (fun c33 => ?_) (fun c33 => ?_)
            · refine lv_iconst (v := 1) hx hb dX7_product_86 (by decide) (ti_c 1 (by decide) fun z71 hz71 => ?_)
              exact r_iret C hw hr hlk (nar_b (by omega)) (Nat.le_of_ble_eq_true rfl) (Nat.le_of_ble_eq_true rfl) dX7_product_87 ⟨hI, hN, ⟨_, rfl, RB2.mk ⟨Or.inr ⟨n, cc, hq, Or.inl ⟨(by unfold sMu sg; omega), rfl, rfl⟩⟩, fun _ => ⟨acc, hk9.fin (fun o9 q9 => by have q1 := q9.1.1; have q2 := q9.2; omega), hf, rfl⟩⟩ hR (by omega)⟩⟩
            · exact J36 ls H locs kd10 ig11 rg12 lg13 (lv_sub hl [0, 1, 2] rfl) hw hI hN (hR) (by omega)
    exact L12 ((120 - z8.toInt) + 1).toNat ls H locs kd1 ig2 rg3 lg4 z8 (lv_sub hl [0, 1, 2] rfl) hw hI hN (⟨0, c0, y1, ⟨p9.1, hK.one y2, y3⟩, hR, by omega⟩) (by omega) (by omega) (by omega)
  · obtain ⟨f9, a9, M9, hf9, p9, h89⟩ := RB2.no rb1 (by omega)
    refine lv_iconst (v := 0) hx hb dX7_product_8 (by decide) (ti_c 0 (by decide) fun z72 hz72 => ?_)
    exact r_iret C hw hr hlk (nar_b (by omega)) (Nat.le_of_ble_eq_true rfl) (Nat.le_of_ble_eq_true rfl) dX7_product_9 ⟨hI, hN, ⟨_, rfl, RB2.mkf (M' := M) ⟨Or.inl ⟨hf9, p9.1⟩, fun e => (hf9 e).elim⟩ hf9 h89 (by omega)⟩⟩

set_option maxHeartbeats 4000000 in
set_option maxRecDepth 100000 in
theorem t_X7_sumE {τ : Tp} (l : Launch) (B : Nat) (D : va_G) (cA : Nat → ClassId) (kd : sK) (ig : sI) (rg : sR) (lg : sG) (sz : Nat) (x : Int32) (N h a : Nat) (M : Fm) (hR : RZ2 B τ N h a M ig) (k : Nat) (hQ : RProdE τ l B D cA k) (hxk : x.toInt = 8 - (k : Int)) (hI : IC τ B kd ig rg) : MC l B D cA yX7_sum cX7_sum 4 (some .boolean) (rL (4 * k + 11) 0 0) [.ref (B + 1), .int x] kd ig rg lg sz (PI 1022 τ B none kd ig rg lg (fun r kd' ig' rg' lg' => ∃ z : Int32, r = some (.int z) ∧ RB2 B τ N h ig' (QE τ h k a M) z)) := by
  refine MC.of (own := RX7) (by decide +kernel) rfl (Nat.le_of_ble_eq_true rfl) ?_
  intro p e s m args below meth c ls C hr hlk hnm hw hsz hl
  have hx := C.1.1
  have hb := C.1.2.1
  have hown := C.1.2.2.2.1
  have hts := C.1.2.2.2.2
  have hl : lv_has ls 4 [(0, .ref (B + 1)), (1, .int x)] := hl
  have hN : Nx 1022 B none kd ig rg lg kd ig rg lg := Nx.rf
  have hsh := hI.sh
  have hrs := hI.rs
  obtain ⟨⟨⟨hN0, h6⟩, ⟨h2, hh⟩, h7, haN⟩, hMa⟩ := hR.nums
  refine lv_aload_n hx hb dX7_sum_0 rfl (lv_at hl 0 rfl) ?_
  refine lv_iload_n hx hb dX7_sum_1 rfl (lv_at hl 1 rfl) ?_
  refine r_callV (As := [.int x]) (rest := []) C hw (hQ kd ig rg lg _ x N h a M hR (by omega) hI) sv_X7_109 (hsh 1 _ rfl) rfl hl.1 rfl (Nat.le_of_ble_eq_true rfl) ⟨by simp only [rL]; omega, by simp only [rL]; omega⟩ ⟨Nat.le_of_ble_eq_true rfl, Nat.le_of_ble_eq_true rfl⟩ dX7_sum_2 (fun r5 kd1 ig2 rg3 lg4 H locs hw hH hp6 => ?_)
  obtain ⟨hI, hchp6, hrhp6⟩ := hp6
  have hN := hN.tr hchp6
  have hsh := hI.sh
  have hrs := hI.rs
  obtain ⟨z7, rfl, hz7⟩ := hrhp6
  have bz7 := RB2.bz hz7
  have rb1 := hz7
  refine z_ne (tgt := 10) hx hb dX7_sum_5 (by decide) (fun c5 => ?_) (fun c5 => ?_)
  · obtain ⟨c0, M9, p9, hR⟩ := RB2.yes rb1 (by omega)
    obtain ⟨y1, y2, y3, rfl⟩ := p9.2 rfl
    obtain ⟨⟨⟨hN0, h6⟩, ⟨h2, hh⟩, h7, haN⟩, hMa⟩ := hR.nums
    have l9 := pProd.lt k _ _ p9.1
    refine lv_iconst (v := 0) hx hb dX7_sum_10 (by decide) (ti_c 0 (by decide) fun z8 hz8 => ?_)
    refine lv_istore_n (lv' := [(2, .int z8), (0, .ref (B + 1)), (1, .int x)]) hx hb dX7_sum_11 rfl hl (by decide) rfl (fun ls hl => ?_)
    have L12 : ∀ (n : Nat) (ls : Array Slot) (H : Heap) (locs : List Loc) (kd10 : sK) (ig11 : sI) (rg12 : sR) (lg13 : sG) (v9 : Int32), lv_has ls 4 [(2, .int v9), (0, .ref (B + 1)), (1, .int x)] → WD B D cA s.heap kd10 ig11 rg12 lg13 H locs → IC τ B kd10 ig11 rg12 → Nx 1022 B none kd ig rg lg kd10 ig11 rg12 lg13 → (∃ n cc acc, (qCh (pProd (tK τ) (tV τ) (tS τ) k) (sAd (tK τ)) n a cc ∧ hK (tPr τ h k) (hAd (tSi τ)) a acc cc ∧ fitW h acc) ∧ RZ2 B τ N h cc (M ++ acc) ig11 ∧ v9.toInt < (cc : Int)) → (0 ≤ v9.toInt) → (v9.toInt ≤ 120) → 120 - v9.toInt < (n : Int) → W p l e (rL (4 * k + 11) 0 0) s m args below meth c H locs 0 0 (MQ below (QcW B D cA (PI 1022 τ B none kd ig rg lg (fun r kd' ig' rg' lg' => ∃ z : Int32, r = some (.int z) ∧ RB2 B τ N h ig' (QE τ h k a M) z))) args s 0 0 (fun q => B ≤ q)) (F0 m 12 ls []) := by
      intro n12
      induction n12 with
      | zero => intro ls H locs kd10 ig11 rg12 lg13 v9 hl hw hI hN g12_0 g12_1 g12_2 hmu; exact absurd hmu (by omega)
      | succ n12 ih12 =>
        intro ls H locs kd10 ig11 rg12 lg13 v9 hl hw hI hN g12_0 g12_1 g12_2 hmu
        have hsh := hI.sh
        have hrs := hI.rs
        obtain ⟨n, cc, acc, ⟨hq, hk9, hf⟩, hR, hic⟩ := g12_0
        obtain ⟨⟨⟨hN0, h6⟩, ⟨h2, hh⟩, h7, haN⟩, hMa⟩ := hR.nums
        have hic2 := hic
        refine lv_iload_n hx hb dX7_sum_12 rfl (lv_at hl 0 rfl) ?_
        refine lv_bipush (v := 120) hx hb dX7_sum_13 (by decide) (ti_c 120 (by decide) fun z14 hz14 => ?_)
        refine b_ge (tgt := 85) hx hb dX7_sum_15 (by decide) (fun c15 => ?_) (fun c15 => ?_)
        · exact absurd c15 (by omega)
        · refine lv_aload_n hx hb dX7_sum_18 rfl (lv_at hl 1 rfl) ?_
          refine r_callV (As := []) (rest := []) C hw (t_X7_kind l B D cA kd10 ig11 rg12 lg13 _  N h cc hR.1 hI) sv_X7_57 (hsh 1 _ rfl) rfl hl.1 rfl (Nat.le_of_ble_eq_true rfl) ⟨by simp only [rL]; omega, by simp only [rL]; omega⟩ ⟨Nat.le_of_ble_eq_true rfl, Nat.le_of_ble_eq_true rfl⟩ dX7_sum_19 (fun r19 kd15 ig16 rg17 lg18 H locs hw hH hp20 => ?_)
          obtain ⟨rfl, rfl, rfl, rfl, hzhp20, hrhp20⟩ := hp20
          obtain ⟨z21, rfl, hz21⟩ := hrhp20
          refine lv_bipush (v := 43) hx hb dX7_sum_22 (by decide) (ti_c 43 (by decide) fun z22 hz22 => ?_)
          have J36 : ∀ (ls : Array Slot) (H : Heap) (locs : List Loc) (kd23 : sK) (ig24 : sI) (rg25 : sR) (lg26 : sG) , lv_has ls 4 [(2, .int v9), (0, .ref (B + 1)), (1, .int x)] → WD B D cA s.heap kd23 ig24 rg25 lg26 H locs → IC τ B kd23 ig24 rg25 → Nx 1022 B none kd ig rg lg kd23 ig24 rg25 lg26 → (RZ2 B τ N h cc (M ++ acc) ig24) → (tK τ cc = 43 ∨ tK τ cc = 45) → W p l e (rL (4 * k + 11) 0 0) s m args below meth c H locs 0 0 (MQ below (QcW B D cA (PI 1022 τ B none kd ig rg lg (fun r kd' ig' rg' lg' => ∃ z : Int32, r = some (.int z) ∧ RB2 B τ N h ig' (QE τ h k a M) z))) args s 0 0 (fun q => B ≤ q)) (F0 m 36 ls []) := by
            intro ls H locs kd23 ig24 rg25 lg26 hl hw hI hN g36_0 g36_1
            have hsh := hI.sh
            have hrs := hI.rs
            have hR := g36_0
            obtain ⟨⟨⟨hN0, h6⟩, ⟨h2, hh⟩, h7, haN⟩, hMa⟩ := hR.nums
            have hs : tK τ cc = 43 ∨ tK τ cc = 45 := g36_1
            refine lv_aload_n hx hb dX7_sum_36 rfl (lv_at hl 1 rfl) ?_
            refine r_callV (As := []) (rest := []) C hw (t_X7_kind l B D cA kd23 ig24 rg25 lg26 _  N h cc hR.1 hI) sv_X7_57 (hsh 1 _ rfl) rfl hl.1 rfl (Nat.le_of_ble_eq_true rfl) ⟨by simp only [rL]; omega, by simp only [rL]; omega⟩ ⟨Nat.le_of_ble_eq_true rfl, Nat.le_of_ble_eq_true rfl⟩ dX7_sum_37 (fun r31 kd27 ig28 rg29 lg30 H locs hw hH hp32 => ?_)
            obtain ⟨rfl, rfl, rfl, rfl, hzhp32, hrhp32⟩ := hp32
            obtain ⟨z33, rfl, hz33⟩ := hrhp32
            refine lv_bipush (v := 43) hx hb dX7_sum_40 (by decide) (ti_c 43 (by decide) fun z34 hz34 => ?_)
            have J51 : ∀ (ls : Array Slot) (H : Heap) (locs : List Loc) (kd36 : sK) (ig37 : sI) (rg38 : sR) (lg39 : sG) (u35 : Int32), lv_has ls 4 [(2, .int v9), (0, .ref (B + 1)), (1, .int x)] → WD B D cA s.heap kd36 ig37 rg38 lg39 H locs → IC τ B kd36 ig37 rg38 → Nx 1022 B none kd ig rg lg kd36 ig37 rg38 lg39 → (u35.toInt = opS (tK τ cc)) → (RZ2 B τ N h cc (M ++ acc) ig37) → W p l e (rL (4 * k + 11) 0 0) s m args below meth c H locs 0 0 (MQ below (QcW B D cA (PI 1022 τ B none kd ig rg lg (fun r kd' ig' rg' lg' => ∃ z : Int32, r = some (.int z) ∧ RB2 B τ N h ig' (QE τ h k a M) z))) args s 0 0 (fun q => B ≤ q)) (F0 m 51 ls [.int u35]) := by
              intro ls H locs kd36 ig37 rg38 lg39 u35 hl hw hI hN g51_0 g51_1
              have hsh := hI.sh
              have hrs := hI.rs
              have hR := g51_1
              obtain ⟨⟨⟨hN0, h6⟩, ⟨h2, hh⟩, h7, haN⟩, hMa⟩ := hR.nums
              refine lv_istore_n (lv' := [(3, .int u35), (2, .int v9), (0, .ref (B + 1)), (1, .int x)]) hx hb dX7_sum_51 rfl hl (by decide) rfl (fun ls hl => ?_)
              refine lv_aload_n hx hb dX7_sum_52 rfl (lv_at hl 2 rfl) ?_
              refine lv_dup hx hb dX7_sum_53 rfl ?_
              refine r_get C hw (hsh 1 _ rfl) fl_X7_50 (oV_i rfl) dX7_sum_54 (ti_c (ig37 (B + 1) 7).toInt rfl fun z40 hz40 => ?_)
              refine lv_iconst (v := 1) hx hb dX7_sum_57 (by decide) (ti_c 1 (by decide) fun z41 hz41 => ?_)
              refine lv_iadd hx hb dX7_sum_58 (tc_add fun z42 hz42 => ?_)
              first | replace hz42 := hz42 (by omega) | clear hz42
              refine r_puti C hw (hsh 1 _ rfl) fl_X7_50 rfl rfl rfl dX7_sum_59 (fun H locs hH hw => ?_)
              obtain ⟨ig43, eig43⟩ : ∃ f, f = up2 ig37 (B + 1) 7 z42 := ⟨_, rfl⟩
              rw [← eig43] at hw
              have hN : Nx 1022 B none kd ig rg lg kd36 ig43 rg38 lg39 := by rw [eig43]; exact hN.pi (by omega)
              have hI : IC τ B kd36 ig43 rg38 := by rw [eig43]; exact hI.pi (show okR none _ from trivial)
              have hlt := hR.lt (show tK τ cc ≠ 0 from by omega)
              have hR : RZ2 B τ N h (cc + 1) (M ++ acc) ig43 := by rw [eig43]; exact hR.nx (by omega) (by omega) (by omega)
              obtain ⟨⟨⟨hN0, h6⟩, ⟨h2, hh⟩, h7, haN⟩, hMa⟩ := hR.nums
              refine lv_aload_n hx hb dX7_sum_62 rfl (lv_at hl 2 rfl) ?_
              refine lv_iload_n hx hb dX7_sum_63 rfl (lv_at hl 3 rfl) ?_
              refine r_callV (As := [.int x]) (rest := []) C hw (hQ kd36 ig43 rg38 lg39 _ x N h (cc + 1) (M ++ acc) hR (by omega) hI) sv_X7_109 (hsh 1 _ rfl) rfl hl.1 rfl (Nat.le_of_ble_eq_true rfl) ⟨by simp only [rL]; omega, by simp only [rL]; omega⟩ ⟨Nat.le_of_ble_eq_true rfl, Nat.le_of_ble_eq_true rfl⟩ dX7_sum_64 (fun r48 kd44 ig45 rg46 lg47 H locs hw hH hp49 => ?_)
              obtain ⟨hI, hchp49, hrhp49⟩ := hp49
              have hN := hN.tr hchp49
              have hsh := hI.sh
              have hrs := hI.rs
              obtain ⟨z50, rfl, hz50⟩ := hrhp49
              have bz50 := RB2.bz hz50
              have rb2 := hz50
              refine z_ne (tgt := 72) hx hb dX7_sum_67 (by decide) (fun c67 => ?_) (fun c67 => ?_)
              · obtain ⟨c9, M9, p9, hR⟩ := RB2.yes rb2 (by omega)
                obtain ⟨y1, y2, y3, rfl⟩ := p9.2 rfl
                have ln1 := tPr.ln k _ _ _ y2
                obtain ⟨⟨⟨hN0, h6⟩, ⟨h2, hh⟩, h7, haN⟩, hMa⟩ := hR.nums
                have l9 := pProd.lt k _ _ p9.1
                refine lv_aload_n hx hb dX7_sum_72 rfl (lv_at hl 2 rfl) ?_
                refine lv_iload_n hx hb dX7_sum_73 rfl (lv_at hl 0 rfl) ?_
                refine lv_iconst (v := 0) hx hb dX7_sum_74 (by decide) (ti_c 0 (by decide) fun z51 hz51 => ?_)
                refine lv_iconst (v := 0) hx hb dX7_sum_75 (by decide) (ti_c 0 (by decide) fun z52 hz52 => ?_)
                refine r_callV (As := [.int u35, .int z51, .int z52]) (rest := []) C hw (t_X7_addE l B D cA kd44 ig45 rg46 lg47 _ u35 z51 z52 N h c9 (M ++ acc ++ y1) hR.1 hR.2.1 (by first | omega | (simp only [List.length_append, List.length_singleton, List.length_nil] at *; omega)) hI) sv_X7_112 (hsh 1 _ rfl) rfl hl.1 rfl (Nat.le_of_ble_eq_true rfl) ⟨by simp only [rL]; omega, by simp only [rL]; omega⟩ ⟨Nat.le_of_ble_eq_true rfl, Nat.le_of_ble_eq_true rfl⟩ dX7_sum_76 (fun r57 kd53 ig54 rg55 lg56 H locs hw hH hp58 => ?_)
                obtain ⟨hI, hchp58, hrhp58⟩ := hp58
                have hN := hN.tr hchp58
                have hsh := hI.sh
                have hrs := hI.rs
                obtain ⟨rfl, hvhp58⟩ := hrhp58
                have hs9 : (u35.toInt, z51.toInt, z52.toInt) = (opS (tK τ cc), 0, 0) := by rw [g51_0, hz51, hz52]
                obtain ⟨hR1, hT1⟩ := hvhp58
                rw [hs9] at hT1
                have hR : RZ2 B τ N h c9 ((M ++ acc ++ y1) ++ [(opS (tK τ cc), 0, 0)]) ig54 := RZ2.mk hR1 hT1 (by first | omega | (simp only [List.length_append, List.length_singleton] at *; omega))
                refine tc_inc hx hb dX7_sum_79 hl (k := 1) rfl (by decide) (by decide) (fun z59 hz59 ls hl => ?_)
                first | replace hz59 := hz59 (by omega) | clear hz59
                have hl : lv_has ls 4 [(2, .int z59), (3, .int u35), (0, .ref (B + 1)), (1, .int x)] := hl
                refine lv_goto (tgt := 12) hx hb dX7_sum_82 (by decide) ?_
                exact ih12 ls H locs kd53 ig54 rg55 lg56 z59 (lv_sub hl [0, 2, 3] rfl) hw hI hN (⟨n + 1, c9, acc ++ (y1 ++ [(opS (tK τ cc), 0, 0)]), ⟨qCh.snoc n a cc c9 hq (show sAd (tK τ) cc from hs) p9.1, hk9.turn (o := tK τ cc) ⟨⟨rfl, by omega, by omega⟩, by omega⟩ y2, hf.app (y3.app fitW.ops)⟩, (by have q9 := hR; rw [List.append_assoc, List.append_assoc] at q9; exact q9), by omega⟩) (by omega) (by omega) (by omega)
              · obtain ⟨f9, a9, M9, hf9, p9, h89⟩ := RB2.no rb2 (by omega)
                refine lv_iconst (v := 0) hx hb dX7_sum_70 (by decide) (ti_c 0 (by decide) fun z60 hz60 => ?_)
                exact r_iret C hw hr hlk (nar_b (by omega)) (Nat.le_of_ble_eq_true rfl) (Nat.le_of_ble_eq_true rfl) dX7_sum_71 ⟨hI, hN, ⟨_, rfl, RB2.mkf (M' := M) ⟨Or.inr ⟨n, cc, hq, Or.inr ⟨hs, hf9, p9.1⟩⟩, fun e => (hf9 e).elim⟩ hf9 h89 (by omega)⟩⟩
            refine b_ne (tgt := 49) hx hb dX7_sum_42 (by decide) (fun c42 => ?_) (fun c42 => ?_)
            · refine lv_bipush (v := 6) hx hb dX7_sum_49 (by decide) (ti_c 6 (by decide) fun z61 hz61 => ?_)
              exact J51 ls H locs kd23 ig24 rg25 lg26 z61 (lv_sub hl [0, 1, 2] rfl) hw hI hN (by rw [show tK τ cc = 45 by omega]; exact hz61) (hR)
            · refine lv_iconst (v := 5) hx hb dX7_sum_45 (by decide) (ti_c 5 (by decide) fun z62 hz62 => ?_)
              refine lv_goto (tgt := 51) hx hb dX7_sum_46 (by decide) ?_
              exact J51 ls H locs kd23 ig24 rg25 lg26 z62 (lv_sub hl [0, 1, 2] rfl) hw hI hN (by rw [show tK τ cc = 43 by omega]; exact hz62) (hR)
          refine b_eq (tgt := 36) hx hb dX7_sum_24 (by decide) (fun c24 => ?_) (fun c24 => ?_)
          · exact J36 ls H locs kd10 ig11 rg12 lg13 (lv_sub hl [0, 1, 2] rfl) hw hI hN (hR) (by omega)
          · refine lv_aload_n hx hb dX7_sum_27 rfl (lv_at hl 1 rfl) ?_
            refine r_callV (As := []) (rest := []) C hw (t_X7_kind l B D cA kd10 ig11 rg12 lg13 _  N h cc hR.1 hI) sv_X7_57 (hsh 1 _ rfl) rfl hl.1 rfl (Nat.le_of_ble_eq_true rfl) ⟨by simp only [rL]; omega, by simp only [rL]; omega⟩ ⟨Nat.le_of_ble_eq_true rfl, Nat.le_of_ble_eq_true rfl⟩ dX7_sum_28 (fun r67 kd63 ig64 rg65 lg66 H locs hw hH hp68 => ?_)
            obtain ⟨rfl, rfl, rfl, rfl, hzhp68, hrhp68⟩ := hp68
            obtain ⟨z69, rfl, hz69⟩ := hrhp68
            refine lv_bipush (v := 45) hx hb dX7_sum_31 (by decide) (ti_c 45 (by decide) fun z70 hz70 => ?_)
            refine b_ne (tgt := 85) hx hb dX7_sum_33 (by decide) (fun c33 => ?_) (fun c33 => ?_)
            · refine lv_iconst (v := 1) hx hb dX7_sum_85 (by decide) (ti_c 1 (by decide) fun z71 hz71 => ?_)
              exact r_iret C hw hr hlk (nar_b (by omega)) (Nat.le_of_ble_eq_true rfl) (Nat.le_of_ble_eq_true rfl) dX7_sum_86 ⟨hI, hN, ⟨_, rfl, RB2.mk ⟨Or.inr ⟨n, cc, hq, Or.inl ⟨(by unfold sAd sg; omega), rfl, rfl⟩⟩, fun _ => ⟨acc, hk9.fin (fun o9 q9 => by have q1 := q9.1.1; have q2 := q9.2; omega), hf, rfl⟩⟩ hR (by omega)⟩⟩
            · exact J36 ls H locs kd10 ig11 rg12 lg13 (lv_sub hl [0, 1, 2] rfl) hw hI hN (hR) (by omega)
    exact L12 ((120 - z8.toInt) + 1).toNat ls H locs kd1 ig2 rg3 lg4 z8 (lv_sub hl [0, 1, 2] rfl) hw hI hN (⟨0, c0, y1, ⟨p9.1, hK.one y2, y3⟩, hR, by omega⟩) (by omega) (by omega) (by omega)
  · obtain ⟨f9, a9, M9, hf9, p9, h89⟩ := RB2.no rb1 (by omega)
    refine lv_iconst (v := 0) hx hb dX7_sum_8 (by decide) (ti_c 0 (by decide) fun z72 hz72 => ?_)
    exact r_iret C hw hr hlk (nar_b (by omega)) (Nat.le_of_ble_eq_true rfl) (Nat.le_of_ble_eq_true rfl) dX7_sum_9 ⟨hI, hN, ⟨_, rfl, RB2.mkf (M' := M) ⟨Or.inl ⟨hf9, p9.1⟩, fun e => (hf9 e).elim⟩ hf9 h89 (by omega)⟩⟩

theorem t_X7_allE (τ : Tp) (l : Launch) (B : Nat) (D : va_G) (cA : Nat → ClassId) : ∀ k, RPartE τ l B D cA k ∧ RProdE τ l B D cA k ∧ RSumE τ l B D cA k := by
  intro k
  induction k with
  | zero =>
    have h1 : RPartE τ l B D cA 0 := fun kd ig rg lg sz x N h a M hR hx hI => t_X7_partE l B D cA kd ig rg lg sz x N h a M hR 0 (fun k1 h => by omega) hx hI
    have h2 : RProdE τ l B D cA 0 := fun kd ig rg lg sz x N h a M hR hx hI => t_X7_productE l B D cA kd ig rg lg sz x N h a M hR 0 h1 hx hI
    exact ⟨h1, h2, fun kd ig rg lg sz x N h a M hR hx hI => t_X7_sumE l B D cA kd ig rg lg sz x N h a M hR 0 h2 hx hI⟩
  | succ k ih =>
    have h1 : RPartE τ l B D cA (k + 1) := fun kd ig rg lg sz x N h a M hR hx hI => t_X7_partE l B D cA kd ig rg lg sz x N h a M hR (k + 1) (fun k1 h => by cases h; exact ⟨ih.2.2, ih.1⟩) hx hI
    have h2 : RProdE τ l B D cA (k + 1) := fun kd ig rg lg sz x N h a M hR hx hI => t_X7_productE l B D cA kd ig rg lg sz x N h a M hR (k + 1) h1 hx hI
    exact ⟨h1, h2, fun kd ig rg lg sz x N h a M hR hx hI => t_X7_sumE l B D cA kd ig rg lg sz x N h a M hR (k + 1) h2 hx hI⟩

set_option maxHeartbeats 4000000 in
set_option maxRecDepth 100000 in
theorem t_X7_addTokenE {τ : Tp} (l : Launch) (B : Nat) (D : va_G) (cA : Nat → ClassId) (kd : sK) (ig : sI) (rg : sR) (lg : sG) (sz : Nat) (x : Int32) (y : Int32) (u : Int32) (k i : Nat) (w : Int) (h6 : (ig (B + 1) 6).toInt = (k : Int)) (hk0 : k ≤ 120) (hy : y.toInt = (i : Int)) (hw0 : (x.toInt = 0 ∧ w = 0) ∨ (i < τ.length ∧ u.toInt = (tE τ i : Int) ∧ x.toInt = kAt τ i ∧ w = vAt τ i)) (hI : IC τ B kd ig rg) : MC l B D cA yX7_addToken cX7_addToken 4 none (rL 1 0 0) [.ref (B + 1), .int x, .int y, .int u] kd ig rg lg sz (PI 1022 τ B none kd ig rg lg (fun r kd' ig' rg' lg' => (r = none ∧ (AT B k x.toInt y.toInt w ig ig' ∧ (ig' (B + 1) 12).toInt = (ig (B + 1) 12).toInt)))) := by
  refine MC.of (own := RX7) (by decide +kernel) rfl (Nat.le_of_ble_eq_true rfl) ?_
  intro p e s m args below meth c ls C hr hlk hnm hw hsz hl
  have hx := C.1.1
  have hb := C.1.2.1
  have hown := C.1.2.2.2.1
  have hts := C.1.2.2.2.2
  have hl : lv_has ls 4 [(0, .ref (B + 1)), (1, .int x), (2, .int y), (3, .int u)] := hl
  have hN : Nx 1022 B none kd ig rg lg kd ig rg lg := Nx.rf
  have hsh := hI.sh
  have hrs := hI.rs
  refine lv_aload_n hx hb dX7_addToken_0 rfl (lv_at hl 0 rfl) ?_
  refine r_get C hw (hsh 1 _ rfl) fl_X7_69 (oV_i rfl) dX7_addToken_1 (ti_c (ig (B + 1) 6).toInt rfl fun z1 hz1 => ?_)
  have k2 : 0 ≤ (ig (B + 1) 6).toInt ∧ (ig (B + 1) 6).toInt ≤ 121 := hI.i 1 6 (by decide)
  refine lv_bipush (v := 120) hx hb dX7_addToken_4 (by decide) (ti_c 120 (by decide) fun z3 hz3 => ?_)
  refine b_gt (tgt := 79) hx hb dX7_addToken_6 (by decide) (fun c6 => ?_) (fun c6 => ?_)
  · exact absurd c6 (by omega)
  · refine lv_aload_n hx hb dX7_addToken_9 rfl (lv_at hl 0 rfl) ?_
    refine r_get C hw (hsh 1 _ rfl) fl_X7_19 (oV_r rfl (hrs (1, 3, 3) (by decide))) dX7_addToken_10 ?_
    refine lv_aload_n hx hb dX7_addToken_13 rfl (lv_at hl 0 rfl) ?_
    refine r_get C hw (hsh 1 _ rfl) fl_X7_69 (oV_i rfl) dX7_addToken_14 (ti_c (ig (B + 1) 6).toInt rfl fun z4 hz4 => ?_)
    have k5 : 0 ≤ (ig (B + 1) 6).toInt ∧ (ig (B + 1) 6).toInt ≤ 121 := hI.i 1 6 (by decide)
    refine lv_iload_n hx hb dX7_addToken_17 rfl (lv_at hl 1 rfl) ?_
    refine r_iast C hw (hsh 3 _ rfl) (by omega) (by omega) dX7_addToken_18 (fun H locs hH hw => ?_)
    obtain ⟨ig6, eig6⟩ : ∃ f, f = up2 ig (B + 3) z4.toInt.toNat x := ⟨_, rfl⟩
    rw [← eig6] at hw
    have hN : Nx 1022 B none kd ig rg lg kd ig6 rg lg := by rw [eig6]; exact hN.pi (by omega)
    have hI : IC τ B kd ig6 rg := by rw [eig6]; exact hI.pi (show okR none _ from trivial)
    have wig6_1_6 : (ig6 (B + 1) 6).toInt = (ig (B + 1) 6).toInt := by rw [eig6, up2_a (by omega)]
    have wig6_1_12 : (ig6 (B + 1) 12).toInt = (ig (B + 1) 12).toInt := by rw [eig6, up2_a (by omega)]
    refine lv_aload_n hx hb dX7_addToken_19 rfl (lv_at hl 0 rfl) ?_
    refine r_get C hw (hsh 1 _ rfl) fl_X7_26 (oV_r rfl (hrs (1, 5, 5) (by decide))) dX7_addToken_20 ?_
    refine lv_aload_n hx hb dX7_addToken_23 rfl (lv_at hl 0 rfl) ?_
    refine r_get C hw (hsh 1 _ rfl) fl_X7_69 (oV_i rfl) dX7_addToken_24 (ti_c (ig6 (B + 1) 6).toInt rfl fun z7 hz7 => ?_)
    have k8 : 0 ≤ (ig6 (B + 1) 6).toInt ∧ (ig6 (B + 1) 6).toInt ≤ 121 := hI.i 1 6 (by decide)
    refine lv_iload_n hx hb dX7_addToken_27 rfl (lv_at hl 2 rfl) ?_
    refine r_iast C hw (hsh 5 _ rfl) (by omega) (by omega) dX7_addToken_28 (fun H locs hH hw => ?_)
    obtain ⟨ig9, eig9⟩ : ∃ f, f = up2 ig6 (B + 5) z7.toInt.toNat y := ⟨_, rfl⟩
    rw [← eig9] at hw
    have hN : Nx 1022 B none kd ig rg lg kd ig9 rg lg := by rw [eig9]; exact hN.pi (by omega)
    have hI : IC τ B kd ig9 rg := by rw [eig9]; exact hI.pi (show okR none _ from trivial)
    have wig9_1_6 : (ig9 (B + 1) 6).toInt = (ig6 (B + 1) 6).toInt := by rw [eig9, up2_a (by omega)]
    have wig9_1_12 : (ig9 (B + 1) 12).toInt = (ig6 (B + 1) 12).toInt := by rw [eig9, up2_a (by omega)]
    refine lv_aload_n hx hb dX7_addToken_29 rfl (lv_at hl 0 rfl) ?_
    refine r_get C hw (hsh 1 _ rfl) fl_X7_23 (oV_r rfl (hrs (1, 4, 4) (by decide))) dX7_addToken_30 ?_
    refine lv_aload_n hx hb dX7_addToken_33 rfl (lv_at hl 0 rfl) ?_
    refine r_get C hw (hsh 1 _ rfl) fl_X7_69 (oV_i rfl) dX7_addToken_34 (ti_c (ig9 (B + 1) 6).toInt rfl fun z10 hz10 => ?_)
    have k11 : 0 ≤ (ig9 (B + 1) 6).toInt ∧ (ig9 (B + 1) 6).toInt ≤ 121 := hI.i 1 6 (by decide)
    refine lv_iload_n hx hb dX7_addToken_37 rfl (lv_at hl 1 rfl) ?_
    refine lv_bipush (v := 119) hx hb dX7_addToken_38 (by decide) (ti_c 119 (by decide) fun z12 hz12 => ?_)
    have J68 : ∀ (ls : Array Slot) (H : Heap) (locs : List Loc) (kd14 : sK) (ig15 : sI) (rg16 : sR) (lg17 : sG) (u13 : Int32), lv_has ls 4 [(0, .ref (B + 1))] → WD B D cA s.heap kd14 ig15 rg16 lg17 H locs → IC τ B kd14 ig15 rg16 → Nx 1022 B none kd ig rg lg kd14 ig15 rg16 lg17 → (A2 B k x.toInt y.toInt ig ig15) → (u13.toInt = w) → ((ig15 (B + 1) 6).toInt = (k : Int)) → ((ig15 (B + 1) 12).toInt = (ig (B + 1) 12).toInt) → W p l e (rL 1 0 0) s m args below meth c H locs 0 0 (MQ below (QcW B D cA (PI 1022 τ B none kd ig rg lg (fun r kd' ig' rg' lg' => (r = none ∧ (AT B k x.toInt y.toInt w ig ig' ∧ (ig' (B + 1) 12).toInt = (ig (B + 1) 12).toInt))))) args s 0 0 (fun q => B ≤ q)) (F0 m 68 ls [.int u13, .int z10, .ref (B + 4)]) := by
      intro ls H locs kd14 ig15 rg16 lg17 u13 hl hw hI hN g68_0 g68_1 g68_2 g68_3
      have hsh := hI.sh
      have hrs := hI.rs
      refine r_iast C hw (hsh 4 _ rfl) (by omega) (by omega) dX7_addToken_68 (fun H locs hH hw => ?_)
      obtain ⟨ig18, eig18⟩ : ∃ f, f = up2 ig15 (B + 4) z10.toInt.toNat u13 := ⟨_, rfl⟩
      rw [← eig18] at hw
      have hN : Nx 1022 B none kd ig rg lg kd14 ig18 rg16 lg17 := by rw [eig18]; exact hN.pi (by omega)
      have hI : IC τ B kd14 ig18 rg16 := by rw [eig18]; exact hI.pi (show okR none _ from trivial)
      have wig18_1_6 : (ig18 (B + 1) 6).toInt = (ig15 (B + 1) 6).toInt := by rw [eig18, up2_a (by omega)]
      have wig18_1_12 : (ig18 (B + 1) 12).toInt = (ig15 (B + 1) 12).toInt := by rw [eig18, up2_a (by omega)]
      have hx4 := g68_0
      refine lv_aload_n hx hb dX7_addToken_69 rfl (lv_at hl 0 rfl) ?_
      refine lv_dup hx hb dX7_addToken_70 rfl ?_
      refine r_get C hw (hsh 1 _ rfl) fl_X7_69 (oV_i rfl) dX7_addToken_71 (ti_c (ig18 (B + 1) 6).toInt rfl fun z19 hz19 => ?_)
      have k20 : 0 ≤ (ig18 (B + 1) 6).toInt ∧ (ig18 (B + 1) 6).toInt ≤ 121 := hI.i 1 6 (by decide)
      refine lv_iconst (v := 1) hx hb dX7_addToken_74 (by decide) (ti_c 1 (by decide) fun z21 hz21 => ?_)
      refine lv_iadd hx hb dX7_addToken_75 (tc_add fun z22 hz22 => ?_)
      first | replace hz22 := hz22 (by omega) | clear hz22
      refine r_puti C hw (hsh 1 _ rfl) fl_X7_69 rfl rfl rfl dX7_addToken_76 (fun H locs hH hw => ?_)
      obtain ⟨ig23, eig23⟩ : ∃ f, f = up2 ig18 (B + 1) 6 z22 := ⟨_, rfl⟩
      rw [← eig23] at hw
      have hN : Nx 1022 B none kd ig rg lg kd14 ig23 rg16 lg17 := by rw [eig23]; exact hN.pi (by omega)
      have hI : IC τ B kd14 ig23 rg16 := by rw [eig23]; exact hI.pi (show okR (some (0, 121)) _ from ⟨by show (0 : Int) ≤ _; omega, by show _ ≤ (121 : Int); omega⟩)
      have wig23 : (ig23 (B + 1) 6).toInt = z22.toInt := by rw [eig23, up2_eq]
      have wig23_1_12 : (ig23 (B + 1) 12).toInt = (ig18 (B + 1) 12).toInt := by rw [eig23, up2_j (by decide)]
      exact r_vret C hw hr hlk (Nat.le_of_ble_eq_true rfl) (Nat.le_of_ble_eq_true rfl) dX7_addToken_79 ⟨hI, hN, ⟨rfl, ⟨(by rw [eig23, eig18]; exact A2.fin g68_0 (by omega) (by omega) (by omega)), by omega⟩⟩⟩
    refine b_ne (tgt := 52) hx hb dX7_addToken_40 (by decide) (fun c40 => ?_) (fun c40 => ?_)
    · refine lv_iload_n hx hb dX7_addToken_52 rfl (lv_at hl 1 rfl) ?_
      refine lv_bipush (v := 110) hx hb dX7_addToken_53 (by decide) (ti_c 110 (by decide) fun z24 hz24 => ?_)
      refine b_ne (tgt := 67) hx hb dX7_addToken_55 (by decide) (fun c55 => ?_) (fun c55 => ?_)
      · refine lv_iconst (v := 0) hx hb dX7_addToken_67 (by decide) (ti_c 0 (by decide) fun z25 hz25 => ?_)
        exact J68 ls H locs kd ig9 rg lg z25 (lv_sub hl [0] rfl) hw hI hN ((by rw [eig9, eig6]; exact A2.mk h6 (by omega) (by omega) rfl rfl)) ((by rcases hw0 with ⟨-, q⟩ | ⟨-, -, q1, q2⟩; omega; rw [q2, vAt_0 (by omega) (by omega)]; omega)) (by omega) (by omega)
      · refine lv_aload_n hx hb dX7_addToken_58 rfl (lv_at hl 0 rfl) ?_
        refine lv_iload_n hx hb dX7_addToken_59 rfl (lv_at hl 2 rfl) ?_
        refine lv_iload_n hx hb dX7_addToken_60 rfl (lv_at hl 3 rfl) ?_
        refine r_callV (As := [.int y, .int u]) (rest := [.int z10, .ref (B + 4)]) C hw (t_X7_digitsAmount l B D cA kd ig9 rg lg _ y u i (by omega) (by omega) (by omega) (by omega) hI) sv_X7_106 (hsh 1 _ rfl) rfl hl.1 rfl (Nat.le_of_ble_eq_true rfl) ⟨Nat.le_of_ble_eq_true rfl, Nat.le_of_ble_eq_true rfl⟩ ⟨Nat.le_of_ble_eq_true rfl, Nat.le_of_ble_eq_true rfl⟩ dX7_addToken_61 (fun r30 kd26 ig27 rg28 lg29 H locs hw hH hp31 => ?_)
        obtain ⟨rfl, rfl, rfl, rfl, hzhp31, hrhp31⟩ := hp31
        obtain ⟨z32, rfl, hz32⟩ := hrhp31
        refine lv_goto (tgt := 68) hx hb dX7_addToken_64 (by decide) ?_
        exact J68 ls H locs kd ig9 rg lg z32 (lv_sub hl [0] rfl) hw hI hN ((by rw [eig9, eig6]; exact A2.mk h6 (by omega) (by omega) rfl rfl)) ((by rcases hw0 with ⟨q, -⟩ | ⟨-, -, q1, q2⟩; omega; rw [q2, vAt_n (by omega)]; exact hz32)) (by omega) (by omega)
    · refine lv_aload_n hx hb dX7_addToken_43 rfl (lv_at hl 0 rfl) ?_
      refine lv_iload_n hx hb dX7_addToken_44 rfl (lv_at hl 2 rfl) ?_
      refine lv_iload_n hx hb dX7_addToken_45 rfl (lv_at hl 3 rfl) ?_
      refine r_callV (As := [.int y, .int u]) (rest := [.int z10, .ref (B + 4)]) C hw (t_X7_wordAmount l B D cA kd ig9 rg lg _ y u i (by omega) (by omega) (by omega) (by omega) hI) sv_X7_103 (hsh 1 _ rfl) rfl hl.1 rfl (Nat.le_of_ble_eq_true rfl) ⟨Nat.le_of_ble_eq_true rfl, Nat.le_of_ble_eq_true rfl⟩ ⟨Nat.le_of_ble_eq_true rfl, Nat.le_of_ble_eq_true rfl⟩ dX7_addToken_46 (fun r37 kd33 ig34 rg35 lg36 H locs hw hH hp38 => ?_)
      obtain ⟨rfl, rfl, rfl, rfl, hzhp38, hrhp38⟩ := hp38
      obtain ⟨z39, rfl, hz39⟩ := hrhp38
      refine lv_goto (tgt := 68) hx hb dX7_addToken_49 (by decide) ?_
      exact J68 ls H locs kd ig9 rg lg z39 (lv_sub hl [0] rfl) hw hI hN ((by rw [eig9, eig6]; exact A2.mk h6 (by omega) (by omega) rfl rfl)) ((by rcases hw0 with ⟨q, -⟩ | ⟨-, -, q1, q2⟩; omega; rw [q2, vAt_w (by omega)]; exact hz39)) (by omega) (by omega)

set_option maxHeartbeats 4000000 in
set_option maxRecDepth 100000 in
theorem t_X7_findTokensE {τ : Tp} (l : Launch) (B : Nat) (D : va_G) (cA : Nat → ClassId) (kd : sK) (ig : sI) (rg : sR) (lg : sG) (sz : Nat) (hP : Prt τ) (hI : IC τ B kd ig rg) : MC l B D cA yX7_findTokens cX7_findTokens 3 none (rL 5 0 0) [.ref (B + 1)] kd ig rg lg sz (PI 1022 τ B none kd ig rg lg (fun r kd' ig' rg' lg' => (r = none ∧ (((∃ N, CK B τ N ig') ∧ (ig' (B + 1) 2).toInt = (ig (B + 1) 2).toInt) ∧ (ig' (B + 1) 12).toInt = (ig (B + 1) 12).toInt)))) := by
  refine MC.of (own := RX7) (by decide +kernel) rfl (Nat.le_of_ble_eq_true rfl) ?_
  intro p e s m args below meth c ls C hr hlk hnm hw hsz hl
  have hx := C.1.1
  have hb := C.1.2.1
  have hown := C.1.2.2.2.1
  have hts := C.1.2.2.2.2
  have hl : lv_has ls 3 [(0, .ref (B + 1))] := hl
  have hN : Nx 1022 B none kd ig rg lg kd ig rg lg := Nx.rf
  have hsh := hI.sh
  have hrs := hI.rs
  obtain ⟨hlen, hl120⟩ := hI.len
  refine lv_aload_n hx hb dX7_findTokens_0 rfl (lv_at hl 0 rfl) ?_
  refine lv_iconst (v := 0) hx hb dX7_findTokens_1 (by decide) (ti_c 0 (by decide) fun z1 hz1 => ?_)
  refine r_puti C hw (hsh 1 _ rfl) fl_X7_69 rfl rfl rfl dX7_findTokens_2 (fun H locs hH hw => ?_)
  obtain ⟨ig2, eig2⟩ : ∃ f, f = up2 ig (B + 1) 6 z1 := ⟨_, rfl⟩
  rw [← eig2] at hw
  have hN : Nx 1022 B none kd ig rg lg kd ig2 rg lg := by rw [eig2]; exact hN.pi (by omega)
  have hI : IC τ B kd ig2 rg := by rw [eig2]; exact hI.pi (show okR (some (0, 121)) _ from ⟨by show (0 : Int) ≤ _; omega, by show _ ≤ (121 : Int); omega⟩)
  have wig2_1_1 : (ig2 (B + 1) 1).toInt = (ig (B + 1) 1).toInt := by rw [eig2, up2_j (by decide)]
  have wig2_1_12 : (ig2 (B + 1) 12).toInt = (ig (B + 1) 12).toInt := by rw [eig2, up2_j (by decide)]
  refine lv_iconst (v := 0) hx hb dX7_findTokens_5 (by decide) (ti_c 0 (by decide) fun z3 hz3 => ?_)
  refine lv_istore_n (lv' := [(1, .int z3), (0, .ref (B + 1))]) hx hb dX7_findTokens_6 rfl hl (by decide) rfl (fun ls hl => ?_)
  refine lv_iconst (v := 0) hx hb dX7_findTokens_7 (by decide) (ti_c 0 (by decide) fun z4 hz4 => ?_)
  refine lv_istore_n (lv' := [(2, .int z4), (1, .int z3), (0, .ref (B + 1))]) hx hb dX7_findTokens_8 rfl hl (by decide) rfl (fun ls hl => ?_)
  have L9 : ∀ (n : Nat) (ls : Array Slot) (H : Heap) (locs : List Loc) (kd6 : sK) (ig7 : sI) (rg8 : sR) (lg9 : sG) (v5 : Int32), lv_has ls 3 [(2, .int v5), (0, .ref (B + 1))] → WD B D cA s.heap kd6 ig7 rg8 lg9 H locs → IC τ B kd6 ig7 rg8 → Nx 1022 B none kd ig rg lg kd6 ig7 rg8 lg9 → (∃ i k : Nat, v5.toInt = (i : Int) ∧ CT B τ i k ig7) → ((ig7 (B + 1) 2).toInt = (ig (B + 1) 2).toInt) → (v5.toInt ≤ (τ.length : Int)) → ((ig7 (B + 1) 12).toInt = (ig (B + 1) 12).toInt) → (τ.length : Int) - v5.toInt < (n : Int) → W p l e (rL 5 0 0) s m args below meth c H locs 0 0 (MQ below (QcW B D cA (PI 1022 τ B none kd ig rg lg (fun r kd' ig' rg' lg' => (r = none ∧ (((∃ N, CK B τ N ig') ∧ (ig' (B + 1) 2).toInt = (ig (B + 1) 2).toInt) ∧ (ig' (B + 1) 12).toInt = (ig (B + 1) 12).toInt))))) args s 0 0 (fun q => B ≤ q)) (F0 m 9 ls []) := by
    intro n9
    induction n9 with
    | zero => intro ls H locs kd6 ig7 rg8 lg9 v5 hl hw hI hN g9_0 g9_1 g9_2 g9_3 hmu; exact absurd hmu (by omega)
    | succ n9 ih9 =>
      intro ls H locs kd6 ig7 rg8 lg9 v5 hl hw hI hN g9_0 g9_1 g9_2 g9_3 hmu
      have hsh := hI.sh
      have hrs := hI.rs
      obtain ⟨i, k, hi, hct⟩ := g9_0
      obtain ⟨hki, hit, hk6⟩ := hct.le
      obtain ⟨hlen, hl120⟩ := hI.len
      refine lv_iload_n hx hb dX7_findTokens_9 rfl (lv_at hl 0 rfl) ?_
      refine lv_aload_n hx hb dX7_findTokens_10 rfl (lv_at hl 1 rfl) ?_
      refine r_get C hw (hsh 1 _ rfl) fl_X7_15 (oV_i rfl) dX7_findTokens_11 (ti_c (ig7 (B + 1) 1).toInt rfl fun z10 hz10 => ?_)
      have k11 : 0 ≤ (ig7 (B + 1) 1).toInt ∧ (ig7 (B + 1) 1).toInt ≤ 120 := hI.i 1 1 (by decide)
      refine b_ge (tgt := 57) hx hb dX7_findTokens_14 (by decide) (fun c14 => ?_) (fun c14 => ?_)
      · refine lv_aload_n hx hb dX7_findTokens_57 rfl (lv_at hl 1 rfl) ?_
        refine lv_iconst (v := 0) hx hb dX7_findTokens_58 (by decide) (ti_c 0 (by decide) fun z12 hz12 => ?_)
        refine lv_aload_n hx hb dX7_findTokens_59 rfl (lv_at hl 1 rfl) ?_
        refine r_get C hw (hsh 1 _ rfl) fl_X7_15 (oV_i rfl) dX7_findTokens_60 (ti_c (ig7 (B + 1) 1).toInt rfl fun z13 hz13 => ?_)
        have k14 : 0 ≤ (ig7 (B + 1) 1).toInt ∧ (ig7 (B + 1) 1).toInt ≤ 120 := hI.i 1 1 (by decide)
        refine lv_aload_n hx hb dX7_findTokens_63 rfl (lv_at hl 1 rfl) ?_
        refine r_get C hw (hsh 1 _ rfl) fl_X7_15 (oV_i rfl) dX7_findTokens_64 (ti_c (ig7 (B + 1) 1).toInt rfl fun z15 hz15 => ?_)
        have k16 : 0 ≤ (ig7 (B + 1) 1).toInt ∧ (ig7 (B + 1) 1).toInt ≤ 120 := hI.i 1 1 (by decide)
        refine r_callV (As := [.int z12, .int z13, .int z15]) (rest := []) C hw (t_X7_addTokenE l B D cA kd6 ig7 rg8 lg9 _ z12 z13 z15 k i 0 (by omega) (by omega) (by omega) (Or.inl ⟨by omega, rfl⟩) hI) sv_X7_85 (hsh 1 _ rfl) rfl hl.1 rfl (Nat.le_of_ble_eq_true rfl) ⟨Nat.le_of_ble_eq_true rfl, Nat.le_of_ble_eq_true rfl⟩ ⟨Nat.le_of_ble_eq_true rfl, Nat.le_of_ble_eq_true rfl⟩ dX7_findTokens_67 (fun r21 kd17 ig18 rg19 lg20 H locs hw hH hp22 => ?_)
        obtain ⟨hI, hchp22, hrhp22⟩ := hp22
        have hN := hN.tr hchp22
        have hsh := hI.sh
        have hrs := hI.rs
        obtain ⟨rfl, hvhp22⟩ := hrhp22
        exact r_vret C hw hr hlk (Nat.le_of_ble_eq_true rfl) (Nat.le_of_ble_eq_true rfl) dX7_findTokens_70 ⟨hI, hN, ⟨rfl, ⟨⟨⟨k, hct.fin hl120 (by omega) (by have q := hvhp22.1; rw [hz12, show z13.toInt = (i : Int) by omega] at q; exact q)⟩, by have q := hvhp22.1.2.2.2; omega⟩, by omega⟩⟩⟩
      · have hil : i < τ.length := by omega
        have tg := tE_gt hl120 hil
        refine lv_iload_n hx hb dX7_findTokens_17 rfl (lv_at hl 0 rfl) ?_
        refine lv_iconst (v := 1) hx hb dX7_findTokens_18 (by decide) (ti_c 1 (by decide) fun z23 hz23 => ?_)
        refine lv_iadd hx hb dX7_findTokens_19 (tc_add fun z24 hz24 => ?_)
        first | replace hz24 := hz24 (by omega) | clear hz24
        refine lv_aload_n hx hb dX7_findTokens_20 rfl (lv_at hl 1 rfl) ?_
        refine lv_iload_n hx hb dX7_findTokens_21 rfl (lv_at hl 0 rfl) ?_
        refine r_callV (As := [.int v5]) (rest := [.int z24]) C hw (t_X7_endOfToken l B D cA kd6 ig7 rg8 lg9 _ v5 i (by omega) (by omega) hI) sv_X7_72 (hsh 1 _ rfl) rfl hl.1 rfl (Nat.le_of_ble_eq_true rfl) ⟨Nat.le_of_ble_eq_true rfl, Nat.le_of_ble_eq_true rfl⟩ ⟨Nat.le_of_ble_eq_true rfl, Nat.le_of_ble_eq_true rfl⟩ dX7_findTokens_22 (fun r29 kd25 ig26 rg27 lg28 H locs hw hH hp30 => ?_)
        obtain ⟨rfl, rfl, rfl, rfl, hzhp30, hrhp30⟩ := hp30
        obtain ⟨z31, rfl, hz31⟩ := hrhp30
        refine r_max C ss_X7_76 hl.1 (Nat.le_of_ble_eq_true rfl) (Nat.le_of_ble_eq_true rfl) (Nat.le_of_ble_eq_true rfl) (Nat.le_of_ble_eq_true rfl) dX7_findTokens_25 (fun z32 hz32 => ?_)
        refine lv_istore_n (lv' := [(1, .int z32), (2, .int v5), (0, .ref (B + 1))]) hx hb dX7_findTokens_28 rfl hl (by decide) rfl (fun ls hl => ?_)
        refine lv_aload_n hx hb dX7_findTokens_29 rfl (lv_at hl 2 rfl) ?_
        refine r_get C hw (hsh 1 _ rfl) fl_X7_9 (oV_r rfl (hrs (1, 0, 2) (by decide))) dX7_findTokens_30 ?_
        refine lv_iload_n hx hb dX7_findTokens_33 rfl (lv_at hl 1 rfl) ?_
        refine r_cald C hw (hsh 2 _ rfl) (by omega) (by omega) dX7_findTokens_34 (ti_c (ig7 (B + 2) v5.toInt.toNat).toInt rfl fun z33 hz33 => ?_)
        have hch : z33.toInt = ch τ (i) := by rw [hz33]; exact hI.tchn (by omega) (by omega)
        refine lv_bipush (v := 32) hx hb dX7_findTokens_35 (by decide) (ti_c 32 (by decide) fun z34 hz34 => ?_)
        have J52 : ∀ (ls : Array Slot) (H : Heap) (locs : List Loc) (kd35 : sK) (ig36 : sI) (rg37 : sR) (lg38 : sG) , lv_has ls 3 [(1, .int z32), (0, .ref (B + 1))] → WD B D cA s.heap kd35 ig36 rg37 lg38 H locs → IC τ B kd35 ig36 rg37 → Nx 1022 B none kd ig rg lg kd35 ig36 rg37 lg38 → (∃ i2 k2 : Nat, z32.toInt = (i2 : Int) ∧ i < i2 ∧ CT B τ i2 k2 ig36) → ((ig36 (B + 1) 2).toInt = (ig (B + 1) 2).toInt) → ((ig36 (B + 1) 12).toInt = (ig (B + 1) 12).toInt) → W p l e (rL 5 0 0) s m args below meth c H locs 0 0 (MQ below (QcW B D cA (PI 1022 τ B none kd ig rg lg (fun r kd' ig' rg' lg' => (r = none ∧ (((∃ N, CK B τ N ig') ∧ (ig' (B + 1) 2).toInt = (ig (B + 1) 2).toInt) ∧ (ig' (B + 1) 12).toInt = (ig (B + 1) 12).toInt))))) args s 0 0 (fun q => B ≤ q)) (F0 m 52 ls []) := by
          intro ls H locs kd35 ig36 rg37 lg38 hl hw hI hN g52_0 g52_1 g52_2
          have hsh := hI.sh
          have hrs := hI.rs
          obtain ⟨i2, k2, hi2, hii, hct2⟩ := g52_0
          have hhm2 := g52_1
          obtain ⟨hki2, hit2, hk62⟩ := hct2.le
          refine lv_iload_n hx hb dX7_findTokens_52 rfl (lv_at hl 0 rfl) ?_
          refine lv_istore_n (lv' := [(2, .int z32), (1, .int z32), (0, .ref (B + 1))]) hx hb dX7_findTokens_53 rfl hl (by decide) rfl (fun ls hl => ?_)
          refine lv_goto (tgt := 9) hx hb dX7_findTokens_54 (by decide) ?_
          exact ih9 ls H locs kd35 ig36 rg37 lg38 z32 (lv_sub hl [0, 2] rfl) hw hI hN (⟨i2, k2, by omega, hct2⟩) (hhm2) (by omega) (by omega) (by omega)
        refine b_eq (tgt := 52) hx hb dX7_findTokens_37 (by decide) (fun c37 => ?_) (fun c37 => ?_)
        · exact J52 ls H locs kd6 ig7 rg8 lg9 (lv_sub hl [0, 2] rfl) hw hI hN (⟨i + 1, k, by rw [← tE_b (i := i) (τ := τ) (by omega)]; omega, by omega, hct.bl hl120 (by omega)⟩) (g9_1) (by omega)
        · refine lv_aload_n hx hb dX7_findTokens_40 rfl (lv_at hl 2 rfl) ?_
          refine lv_aload_n hx hb dX7_findTokens_41 rfl (lv_at hl 2 rfl) ?_
          refine lv_iload_n hx hb dX7_findTokens_42 rfl (lv_at hl 1 rfl) ?_
          refine lv_iload_n hx hb dX7_findTokens_43 rfl (lv_at hl 0 rfl) ?_
          refine r_callV (As := [.int v5, .int z32]) (rest := [.ref (B + 1)]) C hw (t_X7_kindOf l B D cA kd6 ig7 rg8 lg9 _ v5 z32 i (by omega) (by omega) (by omega) hP hI) sv_X7_82 (hsh 1 _ rfl) rfl hl.1 rfl (Nat.le_of_ble_eq_true rfl) ⟨Nat.le_of_ble_eq_true rfl, Nat.le_of_ble_eq_true rfl⟩ ⟨Nat.le_of_ble_eq_true rfl, Nat.le_of_ble_eq_true rfl⟩ dX7_findTokens_44 (fun r43 kd39 ig40 rg41 lg42 H locs hw hH hp44 => ?_)
          obtain ⟨rfl, rfl, rfl, rfl, hzhp44, hrhp44⟩ := hp44
          obtain ⟨z45, rfl, hz45⟩ := hrhp44
          refine lv_iload_n hx hb dX7_findTokens_47 rfl (lv_at hl 1 rfl) ?_
          refine lv_iload_n hx hb dX7_findTokens_48 rfl (lv_at hl 0 rfl) ?_
          refine r_callV (As := [.int z45, .int v5, .int z32]) (rest := []) C hw (t_X7_addTokenE l B D cA kd6 ig7 rg8 lg9 _ z45 v5 z32 k i (vAt τ i) (by omega) (by omega) (by omega) (Or.inr ⟨by omega, by omega, by omega, rfl⟩) hI) sv_X7_85 (hsh 1 _ rfl) rfl hl.1 rfl (Nat.le_of_ble_eq_true rfl) ⟨Nat.le_of_ble_eq_true rfl, Nat.le_of_ble_eq_true rfl⟩ ⟨Nat.le_of_ble_eq_true rfl, Nat.le_of_ble_eq_true rfl⟩ dX7_findTokens_49 (fun r50 kd46 ig47 rg48 lg49 H locs hw hH hp51 => ?_)
          obtain ⟨hI, hchp51, hrhp51⟩ := hp51
          have hN := hN.tr hchp51
          have hsh := hI.sh
          have hrs := hI.rs
          obtain ⟨rfl, hvhp51⟩ := hrhp51
          exact J52 ls H locs kd46 ig47 rg48 lg49 (lv_sub hl [0, 2] rfl) hw hI hN (⟨tE τ i, k + 1, by omega, by omega, hct.add hl120 hil (by omega) (by have q := hvhp51.1; rw [hz45, hi] at q; exact q)⟩) (by have q := hvhp51.1.2.2.2; omega) (by omega)
  exact L9 (((τ.length : Int) - z4.toInt) + 1).toNat ls H locs kd ig2 rg lg z4 (lv_sub hl [0, 2] rfl) hw hI hN (⟨0, 0, by omega, CT.init (by rw [eig2, up2_eq]; omega)⟩) (by rw [eig2, up2_j (by decide)]) (by omega) (by omega) (by omega)

set_option maxHeartbeats 4000000 in
set_option maxRecDepth 100000 in
theorem t_X7_readE {τ : Tp} (l : Launch) (B : Nat) (D : va_G) (cA : Nat → ClassId) (kd : sK) (ig : sI) (rg : sR) (lg : sG) (sz : Nat) (x : Int32) (hx0 : 0 ≤ x.toInt ∧ x.toInt < 288) (hP : Prt τ) (hI : IC τ B kd ig rg) : MC l B D cA yX7_read cX7_read 2 (some (.object "SheetDoctor$Formula")) (rL 44 4 363) [.ref (B + 1), .int x] kd ig rg lg sz (PI 1022 τ B none kd ig rg lg (fun r kd' ig' rg' lg' => ((r = some .null ∧ ∃ f, f ≠ 0 ∧ pTop (tK τ) (tV τ) (tS τ) f ∧ (ig' (B + 1) 8).toInt = f) ∨ ∃ f L, r = some (.ref f) ∧ FnL B kd' ig' rg' f L ∧ pTop (tK τ) (tV τ) (tS τ) 0 ∧ tTop τ x.toInt.toNat L ∧ fitW x.toInt.toNat L))) := by
  refine MC.of (own := RX7) (by decide +kernel) rfl (Nat.le_of_ble_eq_true rfl) ?_
  intro p e s m args below meth c ls C hr hlk hnm hw hsz hl
  have hx := C.1.1
  have hb := C.1.2.1
  have hown := C.1.2.2.2.1
  have hts := C.1.2.2.2.2
  have hl : lv_has ls 2 [(0, .ref (B + 1)), (1, .int x)] := hl
  have hN : Nx 1022 B none kd ig rg lg kd ig rg lg := Nx.rf
  have hsh := hI.sh
  have hrs := hI.rs
  refine lv_aload_n hx hb dX7_read_0 rfl (lv_at hl 0 rfl) ?_
  refine lv_iload_n hx hb dX7_read_1 rfl (lv_at hl 1 rfl) ?_
  refine r_puti C hw (hsh 1 _ rfl) fl_X7_38 rfl rfl rfl dX7_read_2 (fun H locs hH hw => ?_)
  obtain ⟨ig1, eig1⟩ : ∃ f, f = up2 ig (B + 1) 2 x := ⟨_, rfl⟩
  rw [← eig1] at hw
  have hN : Nx 1022 B none kd ig rg lg kd ig1 rg lg := by rw [eig1]; exact hN.pi (by omega)
  have hI : IC τ B kd ig1 rg := by rw [eig1]; exact hI.pi (show okR none _ from trivial)
  have wig1 : (ig1 (B + 1) 2).toInt = x.toInt := by rw [eig1, up2_eq]
  have wig1_1_12 : (ig1 (B + 1) 12).toInt = (ig (B + 1) 12).toInt := by rw [eig1, up2_j (by decide)]
  refine lv_aload_n hx hb dX7_read_5 rfl (lv_at hl 0 rfl) ?_
  refine lv_iconst (v := 0) hx hb dX7_read_6 (by decide) (ti_c 0 (by decide) fun z2 hz2 => ?_)
  refine r_puti C hw (hsh 1 _ rfl) fl_X7_41 rfl rfl rfl dX7_read_7 (fun H locs hH hw => ?_)
  obtain ⟨ig3, eig3⟩ : ∃ f, f = up2 ig1 (B + 1) 12 z2 := ⟨_, rfl⟩
  rw [← eig3] at hw
  have hN : Nx 1022 B none kd ig rg lg kd ig3 rg lg := by rw [eig3]; exact hN.pi (by omega)
  have hI : IC τ B kd ig3 rg := by rw [eig3]; exact hI.pi (show okR (some (0, 120)) _ from ⟨by show (0 : Int) ≤ _; omega, by show _ ≤ (120 : Int); omega⟩)
  have wig3_1_2 : (ig3 (B + 1) 2).toInt = (ig1 (B + 1) 2).toInt := by rw [eig3, up2_j (by decide)]
  have wig3 : (ig3 (B + 1) 12).toInt = z2.toInt := by rw [eig3, up2_eq]
  refine lv_aload_n hx hb dX7_read_10 rfl (lv_at hl 0 rfl) ?_
  refine lv_iconst (v := 0) hx hb dX7_read_11 (by decide) (ti_c 0 (by decide) fun z4 hz4 => ?_)
  refine r_puti C hw (hsh 1 _ rfl) fl_X7_44 rfl rfl rfl dX7_read_12 (fun H locs hH hw => ?_)
  obtain ⟨ig5, eig5⟩ : ∃ f, f = up2 ig3 (B + 1) 8 z4 := ⟨_, rfl⟩
  rw [← eig5] at hw
  have hN : Nx 1022 B none kd ig rg lg kd ig5 rg lg := by rw [eig5]; exact hN.pi (by omega)
  have hI : IC τ B kd ig5 rg := by rw [eig5]; exact hI.pi (show okR none _ from trivial)
  have wig5_1_2 : (ig5 (B + 1) 2).toInt = (ig3 (B + 1) 2).toInt := by rw [eig5, up2_j (by decide)]
  have wig5_1_12 : (ig5 (B + 1) 12).toInt = (ig3 (B + 1) 12).toInt := by rw [eig5, up2_j (by decide)]
  refine lv_aload_n hx hb dX7_read_15 rfl (lv_at hl 0 rfl) ?_
  refine r_callV (As := []) (rest := []) C hw (t_X7_findTokensE l B D cA kd ig5 rg lg _  hP hI) sv_X7_47 (hsh 1 _ rfl) rfl hl.1 rfl (Nat.le_of_ble_eq_true rfl) ⟨Nat.le_of_ble_eq_true rfl, Nat.le_of_ble_eq_true rfl⟩ ⟨Nat.le_of_ble_eq_true rfl, Nat.le_of_ble_eq_true rfl⟩ dX7_read_16 (fun r10 kd6 ig7 rg8 lg9 H locs hw hH hp11 => ?_)
  obtain ⟨hI, hchp11, hrhp11⟩ := hp11
  have hN := hN.tr hchp11
  have hsh := hI.sh
  have hrs := hI.rs
  obtain ⟨rfl, hvhp11⟩ := hrhp11
  obtain ⟨⟨⟨N, hck⟩, hhm⟩, hk12⟩ := hvhp11
  refine lv_aload_n hx hb dX7_read_19 rfl (lv_at hl 0 rfl) ?_
  refine lv_iconst (v := 0) hx hb dX7_read_20 (by decide) (ti_c 0 (by decide) fun z12 hz12 => ?_)
  refine r_puti C hw (hsh 1 _ rfl) fl_X7_50 rfl rfl rfl dX7_read_21 (fun H locs hH hw => ?_)
  obtain ⟨ig13, eig13⟩ : ∃ f, f = up2 ig7 (B + 1) 7 z12 := ⟨_, rfl⟩
  rw [← eig13] at hw
  have hN : Nx 1022 B none kd ig rg lg kd6 ig13 rg8 lg9 := by rw [eig13]; exact hN.pi (by omega)
  have hI : IC τ B kd6 ig13 rg8 := by rw [eig13]; exact hI.pi (show okR none _ from trivial)
  have wig13_1_2 : (ig13 (B + 1) 2).toInt = (ig7 (B + 1) 2).toInt := by rw [eig13, up2_j (by decide)]
  have wig13_1_12 : (ig13 (B + 1) 12).toInt = (ig7 (B + 1) 12).toInt := by rw [eig13, up2_j (by decide)]
  have hR : RZ2 B τ N x.toInt.toNat 0 [] ig13 := ⟨RZ.of (by rw [eig13]; exact hck.wr (Or.inr (by decide))) (by rw [eig13, up2_j (by decide)]; omega) (by omega) (by rw [eig13, up2_eq]; omega), TB.nil (by rw [eig13, up2_j (by decide)]; omega), Nat.le_refl _⟩
  refine lv_aload_n hx hb dX7_read_24 rfl (lv_at hl 0 rfl) ?_
  refine lv_iconst (v := 0) hx hb dX7_read_25 (by decide) (ti_c 0 (by decide) fun z14 hz14 => ?_)
  refine r_callV (As := [.int z14]) (rest := []) C hw ((t_X7_allE τ l B D cA 8).2.2 kd6 ig13 rg8 lg9 _ z14 N x.toInt.toNat 0 [] hR (by omega) hI) sv_X7_53 (hsh 1 _ rfl) rfl hl.1 rfl (Nat.le_of_ble_eq_true rfl) ⟨Nat.le_of_ble_eq_true rfl, Nat.le_of_ble_eq_true rfl⟩ ⟨Nat.le_of_ble_eq_true rfl, Nat.le_of_ble_eq_true rfl⟩ dX7_read_26 (fun r19 kd15 ig16 rg17 lg18 H locs hw hH hp20 => ?_)
  obtain ⟨hI, hchp20, hrhp20⟩ := hp20
  have hN := hN.tr hchp20
  have hsh := hI.sh
  have hrs := hI.rs
  obtain ⟨z21, rfl, hz21⟩ := hrhp20
  have bz21 := RB2.bz hz21
  have rb1 := hz21
  refine z_ne (tgt := 34) hx hb dX7_read_29 (by decide) (fun c29 => ?_) (fun c29 => ?_)
  · obtain ⟨a1, M1, p1, hR⟩ := RB2.yes rb1 (by omega)
    obtain ⟨y1, y2, y3, y4⟩ := p1.2 rfl
    rw [List.nil_append] at y4
    subst y4
    have h12 := hR.2.1.1
    refine lv_aload_n hx hb dX7_read_34 rfl (lv_at hl 0 rfl) ?_
    refine r_callV (As := []) (rest := []) C hw (t_X7_kind l B D cA kd15 ig16 rg17 lg18 _  N x.toInt.toNat a1 hR.1 hI) sv_X7_57 (hsh 1 _ rfl) rfl hl.1 rfl (Nat.le_of_ble_eq_true rfl) ⟨Nat.le_of_ble_eq_true rfl, Nat.le_of_ble_eq_true rfl⟩ ⟨Nat.le_of_ble_eq_true rfl, Nat.le_of_ble_eq_true rfl⟩ dX7_read_35 (fun r26 kd22 ig23 rg24 lg25 H locs hw hH hp27 => ?_)
    obtain ⟨rfl, rfl, rfl, rfl, hzhp27, hrhp27⟩ := hp27
    obtain ⟨z28, rfl, hz28⟩ := hrhp27
    refine z_eq (tgt := 49) hx hb dX7_read_38 (by decide) (fun c38 => ?_) (fun c38 => ?_)
    · obtain ⟨h29, sh29⟩ : ∃ h, H.size = h := ⟨_, rfl⟩
      have oh29 : kd15 h29 = none := by have h9 := hw.fresh; rw [sh29] at h9; exact h9
      have bh29 : B + 80 ≤ h29 := by have h9 := hw.lt (hsh 79 _ rfl); omega
      have noh29 := hN.no oh29
      have hI := IC.new (k := 4) (n := 0) hI oh29 bh29
      have hN := Nx.new (k := 4) (n := 0) hN oh29 bh29
      refine r_new (k := 4) (t0 := tyX4) C hw rfl (by decide) rfl inT4 tyX4_ok dfX4 cl_X7_64 it_4 id_4 (Nat.le_of_ble_eq_true rfl) (Nat.le_of_ble_eq_true rfl) dX7_read_49 sh29 (fun H hsz hw => ?_)
      obtain ⟨kd30, ekd30⟩ : ∃ f, f = upK kd15 h29 4 0 := ⟨_, rfl⟩
      obtain ⟨ig31, eig31⟩ : ∃ f, f = upR ig16 h29 0 := ⟨_, rfl⟩
      obtain ⟨rg32, erg32⟩ : ∃ f, f = upR rg17 h29 none := ⟨_, rfl⟩
      have kh29 : kd30 h29 = some (4, 0) := by rw [ekd30, upK_eq]
      have rnh29 : ∀ j, rg32 h29 j = none := fun j => by rw [erg32, upR_eq]
      rw [← ekd30, ← eig31, ← erg32] at hw hI hN
      have hsh := hI.sh
      have hrs := hI.rs
      refine lv_dup hx hb dX7_read_52 rfl ?_
      refine lv_aload_n hx hb dX7_read_53 rfl (lv_at hl 0 rfl) ?_
      refine r_get C hw (hsh 1 _ rfl) fl_X7_29 (oV_r rfl (hrs (1, 9, 6) (by decide))) dX7_read_54 ?_
      refine lv_aload_n hx hb dX7_read_57 rfl (lv_at hl 0 rfl) ?_
      refine r_get C hw (hsh 1 _ rfl) fl_X7_32 (oV_r rfl (hrs (1, 10, 7) (by decide))) dX7_read_58 ?_
      refine lv_aload_n hx hb dX7_read_61 rfl (lv_at hl 0 rfl) ?_
      refine r_get C hw (hsh 1 _ rfl) fl_X7_35 (oV_r rfl (hrs (1, 11, 8) (by decide))) dX7_read_62 ?_
      refine lv_aload_n hx hb dX7_read_65 rfl (lv_at hl 0 rfl) ?_
      refine r_get C hw (hsh 1 _ rfl) fl_X7_41 (oV_i rfl) dX7_read_66 (ti_c (ig31 (B + 1) 12).toInt rfl fun z33 hz33 => ?_)
      have k34 : 0 ≤ (ig31 (B + 1) 12).toInt ∧ (ig31 (B + 1) 12).toInt ≤ 120 := hI.i 1 12 (by decide)
      have tb2 : TB B M1 ig31 := by rw [eig31]; exact hR.2.1.ag (upR_ne (by omega)) (fun c j hc => upR_ne (by omega))
      have h13 := tb2.1
      refine r_callI (As := [.ref (B + 6), .ref (B + 7), .ref (B + 8), .int z33]) (rest := [.ref h29]) C hw (t_X4_initE l B D cA kd30 ig31 rg32 lg18 _ h29 kh29 bh29 (rnh29 2) (B + 6) 120 (hsh 6 _ rfl) (B + 7) 120 (hsh 7 _ rfl) (B + 8) 120 (hsh 8 _ rfl) z33 (by omega) (by omega) M1 (by omega) (fun i h => (tb2.2 i h).1) (fun i h => (tb2.2 i h).2.1) (fun i h => (tb2.2 i h).2.2) hI) sc_X7_66 rfl hl.1 rfl (Nat.le_of_ble_eq_true rfl) ⟨Nat.le_of_ble_eq_true rfl, Nat.le_of_ble_eq_true rfl⟩ ⟨Nat.le_of_ble_eq_true rfl, Nat.le_of_ble_eq_true rfl⟩ dX7_read_69 (fun r39 kd35 ig36 rg37 lg38 H locs hw hH hp40 => ?_)
      obtain ⟨hI, hchp40, hrhp40⟩ := hp40
      have kh29 := Nx.k hchp40 kh29
      have hN := hN.trx hchp40 noh29
      have hsh := hI.sh
      have hrs := hI.rs
      obtain ⟨rfl, hL41, frhL41, dshL41⟩ := hrhp40
      have lehL41 := hL41.le
      exact r_aret C hw hr hlk (Or.inr ⟨_, rfl⟩) (Nat.le_of_ble_eq_true rfl) (Nat.le_of_ble_eq_true rfl) dX7_read_72 ⟨hI, hN, Or.inr ⟨_, _, rfl, hL41, ⟨0, a1, p1.1, Or.inr (Or.inr ⟨rfl, by omega, rfl⟩)⟩, ⟨a1, y2, by omega⟩, y3⟩⟩
    · refine lv_aload_n hx hb dX7_read_41 rfl (lv_at hl 0 rfl) ?_
      refine lv_iconst (v := 1) hx hb dX7_read_42 (by decide) (ti_c 1 (by decide) fun z42 hz42 => ?_)
      refine r_callV (As := [.int z42]) (rest := []) C hw (t_X7_wrong l B D cA kd15 ig16 rg17 lg18 _ z42 N x.toInt.toNat a1 hR.1 (by omega) hI) sv_X7_61 (hsh 1 _ rfl) rfl hl.1 rfl (Nat.le_of_ble_eq_true rfl) ⟨Nat.le_of_ble_eq_true rfl, Nat.le_of_ble_eq_true rfl⟩ ⟨Nat.le_of_ble_eq_true rfl, Nat.le_of_ble_eq_true rfl⟩ dX7_read_43 (fun r47 kd43 ig44 rg45 lg46 H locs hw hH hp48 => ?_)
      obtain ⟨hI, hchp48, hrhp48⟩ := hp48
      have hN := hN.tr hchp48
      have hsh := hI.sh
      have hrs := hI.rs
      obtain ⟨z49, rfl, hz49⟩ := hrhp48
      obtain ⟨wz, w8⟩ := hz49
      refine lv_pop hx hb dX7_read_46 rfl ?_
      refine lv_null hx hb dX7_read_47 ?_
      exact r_aret C hw hr hlk (Or.inl rfl) (Nat.le_of_ble_eq_true rfl) (Nat.le_of_ble_eq_true rfl) dX7_read_48 ⟨hI, hN, Or.inl ⟨rfl, fw (tS τ) 1 a1, hR.fw_ne (by decide), ⟨0, a1, p1.1, Or.inr (Or.inl ⟨rfl, by omega, rfl⟩)⟩, (by rw [w8]; unfold fw; omega)⟩⟩
  · obtain ⟨f9, a9, M9, hf9, p9, h89⟩ := RB2.no rb1 (by omega)
    refine lv_null hx hb dX7_read_32 ?_
    exact r_aret C hw hr hlk (Or.inl rfl) (Nat.le_of_ble_eq_true rfl) (Nat.le_of_ble_eq_true rfl) dX7_read_33 ⟨hI, hN, Or.inl ⟨rfl, f9, hf9, ⟨f9, a9, p9.1, Or.inl ⟨hf9, rfl⟩⟩, h89⟩⟩
