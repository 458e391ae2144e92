/-! THE REFERENCE works a row out -/
def RyA (B : Nat) (σ : Sg) (ig : sI) (x n : Nat) : Prop := ∀ q, q < n → Rd σ x q → (ig (B + 73) q).toInt ≠ 0
def RyN (B : Nat) (σ : Sg) (ig : sI) (x : Nat) : Prop := ∃ q, q < 288 ∧ Rd σ x q ∧ (ig (B + 73) q).toInt = 0
theorem RyA.s {B x n : Nat} {σ : Sg} {ig : sI} (h : RyA B σ ig x n) (hn : Rd σ x n → (ig (B + 73) n).toInt ≠ 0) : RyA B σ ig x (n + 1) := fun q hq r => by
  by_cases c : q = n
  · subst c; exact hn r
  · exact h q (by omega) r
theorem mtS_st {v e : Vl} {l : List Int} {a : Int32 × Int32} {q : Int} {s m s2 m2 : Int32} (h : (s, m) = l.foldl (mtS v e) a) (h2 : s2 = s + v q.toNat) (h3 : m2 = if m = 0 then e q.toNat else m) : (s2, m2) = (l ++ [q]).foldl (mtS v e) a := by
  rw [List.foldl_append, ← h, h2, h3]
  rfl
theorem opV_42 {x y : Int32} : opV (opS 42) x y = x * y := by simp [opV, opS]
theorem opV_47 {x y : Int32} : opV (opS 47) x y = if y = 0 then 0 else x / y := by simp [opV, opS]
theorem opV_43 {x y : Int32} : opV (opS 43) x y = x + y := by simp [opV, opS]
theorem opV_45 {x y : Int32} : opV (opS 45) x y = x - y := by simp [opV, opS]
theorem opM_42 {y m : Int32} : opM (opS 42) y m = m := by simp [opM, opS]
theorem opM_43 {y m : Int32} : opM (opS 43) y m = m := by simp [opM, opS]
theorem opM_45 {y m : Int32} : opM (opS 45) y m = m := by simp [opM, opS]
theorem opM_47 {y m : Int32} : opM (opS 47) y m = if y = 0 ∧ m = 0 then 1 else m := by simp [opM, opS]
theorem opQ_0 {x y : Int32} (h : y.toInt = 0) : opV (opS 47) x y = 0 := by rw [opV_47, if_pos (i32_z h)]
theorem opQ_1 {x y : Int32} (h : y.toInt ≠ 0) : opV (opS 47) x y = x / y := by rw [opV_47, if_neg (fun q => h (by rw [q]; rfl))]
theorem opN_1 {y m : Int32} (h : y.toInt ≠ 0) : opM (opS 47) y m = m := by rw [opM_47, if_neg (fun q => h (by rw [q.1]; rfl))]
theorem opN_2 {y m : Int32} (h : m.toInt ≠ 0) : opM (opS 47) y m = m := by rw [opM_47, if_neg (fun q => h (by rw [q.2]; rfl))]
theorem opN_0 {y m : Int32} (h : y.toInt = 0) (h2 : m.toInt = 0) : opM (opS 47) y m = 1 := by rw [opM_47, if_pos ⟨i32_z h, i32_z h2⟩]
/-- the row that is worked out: its items, the values so far -/
def GoS (B q n : Nat) (R : Rw) (v e : Vl) (ig : sI) : Prop := mR B ig (q : Int) q = R ∧ (ig (B + 66) = v ∧ ig (B + 67) = e) ∧ (ig (B + 58) q).toInt = (n : Int) ∧ (n ≤ 120 ∧ q < 288) ∧ ∀ k, k < n → itO B ig (120 * q + k) ∧ rOk B ig (120 * q + k)
section GOS
variable {B q n a c d : Nat} {R : Rw} {v e : Vl} {ig ig' : sI} {lg lg' : sG} {x : Fm} {o : Int} {T : List Nat}
theorem GoS.ft (h : GoS B q n R v e ig) (hF : Ft B T ig lg ig' lg') (hT : ∀ t ∈ T, ¬ (54 ≤ t ∧ t ≤ 58) ∧ t ≠ 66 ∧ t ≠ 67 := by decide) : GoS B q n R v e ig' := by
  have e1 : ∀ c j, (54 ≤ c ∧ c ≤ 58) ∨ c = 66 ∨ c = 67 → ig' (B + c) j = ig (B + c) j := fun c j hc => hF.i c j (fun t ht w => by have := hT t ht; omega)
  obtain ⟨h1, ⟨h2, h3⟩, h4, h5, h6⟩ := h
  refine ⟨by rw [mR.ag (e1 58 q (by omega)) (fun c k a b _ => e1 c _ (by omega))]; exact h1, ⟨by rw [← h2]; exact funext fun j => e1 66 j (by omega), by rw [← h3]; exact funext fun j => e1 67 j (by omega)⟩, by rw [e1 58 q (by omega)]; exact h4, h5, fun k hk => ⟨(h6 k hk).1.ag (fun c a b => e1 c _ (by omega)), ?_⟩⟩
  have := (h6 k hk).2
  unfold rOk mK mA mB at this ⊢
  rw [e1 54 _ (by omega), e1 55 _ (by omega), e1 56 _ (by omega)]
  exact this
theorem GoS.ri (h : GoS B q n R v e ig) (ha : a < n) : R a = itR B ig (q : Int) (120 * q + a) := by rw [← h.1]; exact mR_in (by rw [h.2.2.1]; omega) rfl
theorem GoS.oo (h : GoS B q n R v e ig) : R n = (4, 0) := by
  rw [← h.1]
  unfold mR
  rw [if_neg (by rw [h.2.2.1]; omega)]
theorem itR_k {i : Nat} {h : Int} : (itR B ig h i).1 = mK B ig i := by
  unfold itR
  split
  · rename_i c; exact c.symm
  · split
    · rename_i c; exact c.symm
    · rfl
theorem itR_a {i : Nat} {h : Int} (h3 : mK B ig i ≠ 3) (h2 : mK B ig i ≠ 2) : (itR B ig h i).2 = mA B ig i := by
  unfold itR
  rw [if_neg h3, if_neg h2]
/-- a sign comes next -/
theorem GoS.nx (h : GoS B q n R v e ig) (ha : a ≤ n) : ((120 * (q : Int) + (a : Int) < 120 * (q : Int) + (n : Int)) ∧ (ig (B + 54) (120 * q + a)).toInt = 1 ∧ (ig (B + 55) (120 * q + a)).toInt = o) ↔ R a = (1, o) := by
  constructor
  · rintro ⟨w1, w2, w3⟩
    have k1 : mK B ig (120 * q + a) = 1 := w2
    rw [h.ri (by omega)]
    refine Prod.ext ?_ ?_
    · rw [itR_k, k1]
    · rw [itR_a (by omega) (by omega)]; exact w3
  · intro w
    by_cases c : a < n
    · rw [h.ri c] at w
      have k1 : mK B ig (120 * q + a) = 1 := by rw [← itR_k (h := (q : Int)), w]
      have k2 : mA B ig (120 * q + a) = o := by rw [← itR_a (h := (q : Int)) (by omega) (by omega), w]
      exact ⟨by omega, k1, k2⟩
    · obtain rfl : a = n := by omega
      rw [h.oo] at w
      exact absurd (Prod.mk.inj w).1 (by decide)
theorem GoS.nc (h : GoS B q n R v e ig) (ha : a ≤ n) (hg : (ig (B + 49) 31).toInt = 120 * (q : Int) + (a : Int)) (he : (ig (B + 49) 32).toInt = 120 * (q : Int) + (n : Int)) {z y : Int32} (hy : y.toInt = o) (f : (z.toInt = 1 ∧ (ig (B + 49) 31).toInt < (ig (B + 49) 32).toInt ∧ (ig (B + 54) (ig (B + 49) 31).toInt.toNat).toInt = 1 ∧ (ig (B + 55) (ig (B + 49) 31).toInt.toNat).toInt = y.toInt) ∨ (z.toInt = 0 ∧ ¬ ((ig (B + 49) 31).toInt < (ig (B + 49) 32).toInt ∧ (ig (B + 54) (ig (B + 49) 31).toInt.toNat).toInt = 1 ∧ (ig (B + 55) (ig (B + 49) 31).toInt.toNat).toInt = y.toInt))) : (z.toInt = 1 ∧ R a = (1, o)) ∨ (z.toInt = 0 ∧ ¬ R a = (1, o)) := by
  rw [hg, he, hy, show (120 * (q : Int) + (a : Int)).toNat = 120 * q + a by omega, h.nx ha] at f
  exact f
theorem RfI.ft {h w : Int} {i : Nat} (f : RfI B ig h i w) (hF : Ft B T ig lg ig' lg') (hT : ∀ t ∈ T, t ≠ 55 ∧ t ≠ 56 := by decide) : RfI B ig' h i w := by
  unfold RfI
  rw [hF.i 55 i (fun t ht w => (hT t ht).1 w.symm), hF.i 56 i (fun t ht w => (hT t ht).2 w.symm)]
  exact f
theorem iP.inv (h : iP R d a c x) : ∃ d1, d = d1 + 1 ∧ ((∃ w, R a = (0, w) ∧ c = a + 1 ∧ x = [(0, w, 0)]) ∨ (∃ w u, R a = (2, 0) ∧ R (a + 2) = (3, w) ∧ R (a + 4) = (3, u) ∧ c = a + 6 ∧ x = [(2, w, u)]) ∨ (R a = (1, 45) ∧ ∃ y, iP R d1 (a + 1) c y ∧ x = y ++ [(4, 0, 0)]) ∨ (R a = (1, 40) ∧ ∃ b y, iE R d1 (a + 1) b y ∧ R b = (1, 41) ∧ c = b + 1 ∧ x = y ++ [(3, 0, 0)]) ∨ ∃ w, R a = (3, w) ∧ c = a + 1 ∧ x = [(1, w, w)]) := by
  cases d with
  | zero => exact h.elim
  | succ d =>
    refine ⟨d, rfl, ?_⟩
    rcases h with ⟨w, p1, p2, p3⟩ | ⟨w, u, p1, p2⟩ | ⟨p1, z, p2, p3⟩ | ⟨p1, b, z, p2, p3, p4, p5⟩ | ⟨w, p1, p2⟩
    · exact Or.inl ⟨w, p1, p2, p3⟩
    · obtain ⟨s1, s2, b1, b2, ⟨s3, q1⟩, s4, ⟨s5, q2⟩, s6, q3⟩ := p1
      subst q1 q2
      exact Or.inr (Or.inl ⟨w, u, s1, s3, s5, by omega, p2⟩)
    · exact Or.inr (Or.inr (Or.inl ⟨p1, z, p2, p3⟩))
    · exact Or.inr (Or.inr (Or.inr (Or.inl ⟨p1, b, z, p2, p3, p4, p5⟩)))
    · exact Or.inr (Or.inr (Or.inr (Or.inr ⟨w, p1.1, p1.2, p2⟩)))
theorem iP.inv0 (h : iP R d a c x) (h0 : (R a).1 = 0) : c = a + 1 ∧ x = [(0, (R a).2, 0)] := by
  obtain ⟨_, _, ⟨w, e, p1, p2⟩ | ⟨_, _, e, _⟩ | ⟨e, _⟩ | ⟨e, _⟩ | ⟨_, e, _⟩⟩ := h.inv
  · rw [e]; exact ⟨p1, p2⟩
  all_goals (rw [e] at h0; exact absurd h0 (by simp))
theorem iP.inv3 (h : iP R d a c x) (h0 : (R a).1 = 3) : c = a + 1 ∧ x = [(1, (R a).2, (R a).2)] := by
  obtain ⟨_, _, ⟨_, e, _⟩ | ⟨_, _, e, _⟩ | ⟨e, _⟩ | ⟨e, _⟩ | ⟨w, e, p1, p2⟩⟩ := h.inv
  case inr.inr.inr.inr => rw [e]; exact ⟨p1, p2⟩
  all_goals (rw [e] at h0; exact absurd h0 (by simp))
theorem iP.inv2 (h : iP R d a c x) (h0 : (R a).1 = 2) : ∃ w u, R (a + 2) = (3, w) ∧ R (a + 4) = (3, u) ∧ c = a + 6 ∧ x = [(2, w, u)] := by
  obtain ⟨_, _, ⟨_, e, _⟩ | ⟨w, u, e, p1, p2, p3, p4⟩ | ⟨e, _⟩ | ⟨e, _⟩ | ⟨_, e, _⟩⟩ := h.inv
  case inr.inl => exact ⟨w, u, p1, p2, p3, p4⟩
  all_goals (rw [e] at h0; exact absurd h0 (by simp))
theorem iP.inv45 (h : iP R d a c x) (h0 : (R a).1 ≠ 0) (h3 : (R a).1 ≠ 3) (h2 : (R a).1 ≠ 2) (hs : (R a).2 = 45) : ∃ d1 y, d = d1 + 1 ∧ iP R d1 (a + 1) c y ∧ x = y ++ [(4, 0, 0)] := by
  obtain ⟨d1, ed, ⟨_, e, _⟩ | ⟨_, _, e, _⟩ | ⟨e, y, p1, p2⟩ | ⟨e, _⟩ | ⟨_, e, _⟩⟩ := h.inv
  · rw [e] at h0; exact absurd rfl h0
  · rw [e] at h2; exact absurd rfl h2
  · exact ⟨d1, y, ed, p1, p2⟩
  · rw [e] at hs; exact absurd hs (by decide)
  · rw [e] at h3; exact absurd rfl h3
theorem iP.inv40 (h : iP R d a c x) (h0 : (R a).1 ≠ 0) (h3 : (R a).1 ≠ 3) (h2 : (R a).1 ≠ 2) (hs : (R a).2 ≠ 45) : ∃ d1 b y, d = d1 + 1 ∧ iE R d1 (a + 1) b y ∧ R b = (1, 41) ∧ c = b + 1 ∧ x = y ++ [(3, 0, 0)] := by
  obtain ⟨d1, ed, ⟨_, e, _⟩ | ⟨_, _, e, _⟩ | ⟨e, _⟩ | ⟨e, b, y, p1, p2, p3, p4⟩ | ⟨_, e, _⟩⟩ := h.inv
  · rw [e] at h0; exact absurd rfl h0
  · rw [e] at h2; exact absurd rfl h2
  · rw [e] at hs; exact absurd rfl hs
  · exact ⟨d1, b, y, ed, p1, p2, p3, p4⟩
  · rw [e] at h3; exact absurd rfl h3
/-- the chain goes on where a sign of its stands, and only there -/
theorem hCt.on {P : Nat → Nat → Fm → Prop} {s : Nat → Int → Prop} {k b : Nat} {acc : Fm} (h : hCt P s k acc b c x) (hs : ∀ o1 o2, s b o1 → s b o2 → o1 = o2) {o : Int} (ho : s b o) : ∃ k1 m y, P (b + 1) m y ∧ hCt P s k1 (acc ++ (y ++ [(opS o, 0, 0)])) m c x := by
  cases k with
  | zero => exact absurd ho (h.1 o)
  | succ k =>
    obtain ⟨o2, m, y, h1, h2, h3⟩ := h
    obtain rfl := hs o2 o h1 ho
    exact ⟨k, m, y, h2, h3⟩
theorem hCt.off {P : Nat → Nat → Fm → Prop} {s : Nat → Int → Prop} {k b : Nat} {acc : Fm} (h : hCt P s k acc b c x) (hn : ∀ o, ¬ s b o) : c = b ∧ x = acc := by
  cases k with
  | zero => exact h.2
  | succ k =>
    obtain ⟨o2, m, y, h1, _⟩ := h
    exact absurd h1 (hn o2)
theorem mu_d {b : Nat} {o1 o2 : Int} (h1 : hMu (iS R) b o1) (h2 : hMu (iS R) b o2) : o1 = o2 := by
  have a1 : R b = (1, o1) := h1.1
  have a2 : R b = (1, o2) := h2.1
  rw [a1] at a2
  exact (Prod.mk.inj a2).2
theorem ad_d {b : Nat} {o1 o2 : Int} (h1 : hAd (iS R) b o1) (h2 : hAd (iS R) b o2) : o1 = o2 := by
  have a1 : R b = (1, o1) := h1.1
  have a2 : R b = (1, o2) := h2.1
  rw [a1] at a2
  exact (Prod.mk.inj a2).2
theorem spS_one {v e : Vl} {m : Int32} {ww hh tt : Int} : spS v e m (tt, ww, ww) hh = (v (rowv ww hh * 12 + colv ww hh).toNat, if m = 0 then e (rowv ww hh * 12 + colv ww hh).toNat else m) := by
  unfold spS
  rw [plS_one]
  show mtS v e (0, m) _ = _
  unfold mtS
  rw [Int32.zero_add]
end GOS
set_option maxHeartbeats 4000000 in
set_option maxRecDepth 100000 in
theorem t_X12_isReadyE {υ : Option Int} {τ : Tp} {φ : Option Int} (l : Launch) (B : Nat) (D : va_G) (cA : Nat → ClassId) (kd : sK) (ig : sI) (rg : sR) (lg : sG) (sz : Nat) (x : Int32) (hx0 : 0 ≤ x.toInt ∧ x.toInt < 288) (σ : Sg) (hP : RdP B σ 288 lg) (hI : IM τ φ υ B kd ig rg) : MC l B D cA yX12_isReady cX12_isReady 4 (some .boolean) (rL 1 0 0) [.ref (B + 49), .int x] kd ig rg lg sz (Pu kd ig rg lg sz (fun r => ∃ z : Int32, r = some (.int z) ∧ ((z.toInt = 1 ∧ RyA B σ ig x.toInt.toNat 288) ∨ (z.toInt = 0 ∧ RyN B σ ig x.toInt.toNat)))) := by
  refine MC.of (own := RX12) (by decide +kernel) rfl (Nat.le_of_ble_eq_true rfl) ?_
  intro p e s m args below meth c ls C hr hlk hnm hw hsz hl
  have hx := C.1.1
  have hb := C.1.2.1
  have hown := C.1.2.2.2.1
  have hts := C.1.2.2.2.2
  have hl : lv_has ls 4 [(0, .ref (B + 49)), (1, .int x)] := hl
  have hsh := hI.sh
  have hrm := hI.rm
  refine lv_iconst (v := 1) hx hb dX12_isReady_0 (by decide) (ti_c 1 (by decide) fun z1 hz1 => ?_)
  refine lv_istore_n (lv' := [(2, .int z1), (0, .ref (B + 49)), (1, .int x)]) hx hb dX12_isReady_1 rfl hl (by decide) rfl (fun ls hl => ?_)
  refine lv_iconst (v := 0) hx hb dX12_isReady_2 (by decide) (ti_c 0 (by decide) fun z2 hz2 => ?_)
  refine lv_istore_n (lv' := [(3, .int z2), (2, .int z1), (0, .ref (B + 49)), (1, .int x)]) hx hb dX12_isReady_3 rfl hl (by decide) rfl (fun ls hl => ?_)
  have L4 : ∀ (n : Nat) (ls : Array Slot) (H : Heap) (locs : List Loc) (v3 : Int32) (v4 : Int32), lv_has ls 4 [(3, .int v3), (2, .int v4), (0, .ref (B + 49)), (1, .int x)] → WD B D cA s.heap kd ig rg lg H locs → H.size = sz → (0 ≤ v3.toInt) → (v3.toInt ≤ 288) → ((v4.toInt = 1 ∧ RyA B σ ig x.toInt.toNat v3.toInt.toNat) ∨ (v4.toInt = 0 ∧ RyN B σ ig x.toInt.toNat)) → 288 - v3.toInt < (n : Int) → W p l e (rL 1 0 0) s m args below meth c H locs 0 0 (MQ below (QcW B D cA (Pu kd ig rg lg sz (fun r => ∃ z : Int32, r = some (.int z) ∧ ((z.toInt = 1 ∧ RyA B σ ig x.toInt.toNat 288) ∨ (z.toInt = 0 ∧ RyN B σ ig x.toInt.toNat))))) args s 0 0 (fun q => B ≤ q)) (F0 m 4 ls []) := by
    intro n4
    induction n4 with
    | zero => intro ls H locs v3 v4 hl hw hsz g4_0 g4_1 g4_2 hmu; exact absurd hmu (by omega)
    | succ n4 ih4 =>
      intro ls H locs v3 v4 hl hw hsz g4_0 g4_1 g4_2 hmu
      refine lv_iload_n hx hb dX12_isReady_4 rfl (lv_at hl 0 rfl) ?_
      refine lv_sipush (v := 288) hx hb dX12_isReady_5 (by decide) (ti_c 288 (by decide) fun z5 hz5 => ?_)
      refine b_ge (tgt := 48) hx hb dX12_isReady_8 (by decide) (fun c8 => ?_) (fun c8 => ?_)
      · refine lv_iload_n hx hb dX12_isReady_48 rfl (lv_at hl 1 rfl) ?_
        exact r_iret C hw hr hlk (nar_b (by omega)) (Nat.le_of_ble_eq_true rfl) (Nat.le_of_ble_eq_true rfl) dX12_isReady_49 ⟨rfl, rfl, rfl, rfl, hsz, ⟨_, rfl, (by rcases g4_2 with ⟨q8, q9⟩ | q9; (first | exact absurd q8 (by omega) | exact Or.inl ⟨q8, by rw [show v3.toInt.toNat = 288 by omega] at q9; exact q9⟩); exact Or.inr q9)⟩⟩
      · refine lv_iload_n hx hb dX12_isReady_11 rfl (lv_at hl 1 rfl) ?_
        refine z_eq (tgt := 48) hx hb dX12_isReady_12 (by decide) (fun c12 => ?_) (fun c12 => ?_)
        · refine lv_iload_n hx hb dX12_isReady_48 rfl (lv_at hl 1 rfl) ?_
          exact r_iret C hw hr hlk (nar_b (by omega)) (Nat.le_of_ble_eq_true rfl) (Nat.le_of_ble_eq_true rfl) dX12_isReady_49 ⟨rfl, rfl, rfl, rfl, hsz, ⟨_, rfl, (by rcases g4_2 with ⟨q8, q9⟩ | q9; (first | exact absurd q8 (by omega) | exact Or.inl ⟨q8, by rw [show v3.toInt.toNat = 288 by omega] at q9; exact q9⟩); exact Or.inr q9)⟩⟩
        · have ra9 : RyA B σ ig x.toInt.toNat v3.toInt.toNat := (by rcases g4_2 with ⟨-, q⟩ | ⟨q, -⟩; exact q; omega)
          refine lv_aload_n hx hb dX12_isReady_15 rfl (lv_at hl 2 rfl) ?_
          refine r_get C hw (hsh 49 _ rfl) fl_X12_124 (oV_r rfl (hrm (49, 30, 73) (by decide))) dX12_isReady_16 ?_
          refine lv_iload_n hx hb dX12_isReady_19 rfl (lv_at hl 0 rfl) ?_
          refine r_zald C hw (hsh 73 _ rfl) (by omega) (by omega) dX12_isReady_20 (ti_c (ig (B + 73) v3.toInt.toNat).toInt rfl fun z6 hz6 => ?_)
          have J41 : ∀ (ls : Array Slot) (H : Heap) (locs : List Loc) (u8 : Int32), lv_has ls 4 [(3, .int v3), (0, .ref (B + 49)), (1, .int x)] → WD B D cA s.heap kd ig rg lg H locs → H.size = sz → ((u8.toInt = 1 ∧ RyA B σ ig x.toInt.toNat (v3.toInt.toNat + 1)) ∨ (u8.toInt = 0 ∧ RyN B σ ig x.toInt.toNat)) → W p l e (rL 1 0 0) s m args below meth c H locs 0 0 (MQ below (QcW B D cA (Pu kd ig rg lg sz (fun r => ∃ z : Int32, r = some (.int z) ∧ ((z.toInt = 1 ∧ RyA B σ ig x.toInt.toNat 288) ∨ (z.toInt = 0 ∧ RyN B σ ig x.toInt.toNat))))) args s 0 0 (fun q => B ≤ q)) (F0 m 41 ls [.int u8]) := by
            intro ls H locs u8 hl hw hsz g41_0
            refine lv_istore_n (lv' := [(2, .int u8), (3, .int v3), (0, .ref (B + 49)), (1, .int x)]) hx hb dX12_isReady_41 rfl hl (by decide) rfl (fun ls hl => ?_)
            refine tc_inc hx hb dX12_isReady_42 hl (k := 1) rfl (by decide) (by decide) (fun z9 hz9 ls hl => ?_)
            first | replace hz9 := hz9 (by omega) | clear hz9
            have hl : lv_has ls 4 [(3, .int z9), (2, .int u8), (0, .ref (B + 49)), (1, .int x)] := hl
            refine lv_goto (tgt := 4) hx hb dX12_isReady_45 (by decide) ?_
            exact ih4 ls H locs z9 u8 (lv_sub hl [0, 1, 2, 3] rfl) hw hsz (by omega) (by omega) (by rw [show z9.toInt.toNat = v3.toInt.toNat + 1 by omega]; exact g41_0) (by omega)
          have J36 : ∀ (ls : Array Slot) (H : Heap) (locs : List Loc) , lv_has ls 4 [(3, .int v3), (0, .ref (B + 49)), (1, .int x)] → WD B D cA s.heap kd ig rg lg H locs → H.size = sz → (Rd σ x.toInt.toNat v3.toInt.toNat → (ig (B + 73) v3.toInt.toNat).toInt ≠ 0) → W p l e (rL 1 0 0) s m args below meth c H locs 0 0 (MQ below (QcW B D cA (Pu kd ig rg lg sz (fun r => ∃ z : Int32, r = some (.int z) ∧ ((z.toInt = 1 ∧ RyA B σ ig x.toInt.toNat 288) ∨ (z.toInt = 0 ∧ RyN B σ ig x.toInt.toNat))))) args s 0 0 (fun q => B ≤ q)) (F0 m 36 ls []) := by
            intro ls H locs  hl hw hsz g36_0
            refine lv_iconst (v := 1) hx hb dX12_isReady_36 (by decide) (ti_c 1 (by decide) fun z10 hz10 => ?_)
            refine lv_goto (tgt := 41) hx hb dX12_isReady_37 (by decide) ?_
            exact J41 ls H locs z10 (lv_sub hl [0, 1, 2] rfl) hw hsz (Or.inl ⟨by omega, ra9.s g36_0⟩)
          refine z_ne (tgt := 36) hx hb dX12_isReady_21 (by decide) (fun c21 => ?_) (fun c21 => ?_)
          · exact J36 ls H locs (lv_sub hl [0, 2, 3] rfl) hw hsz (fun _ => by omega)
          · refine lv_aload_n hx hb dX12_isReady_24 rfl (lv_at hl 2 rfl) ?_
            refine r_get C hw (hsh 49 _ rfl) fl_X12_96 (oV_r rfl (hrm (49, 21, 64) (by decide))) dX12_isReady_25 ?_
            refine lv_iload_n hx hb dX12_isReady_28 rfl (lv_at hl 3 rfl) ?_
            refine lv_iload_n hx hb dX12_isReady_29 rfl (lv_at hl 0 rfl) ?_
            refine r_callS (As := [.ref (B + 64), .int x, .int v3]) (rest := []) C hw (t_X12_hasE l B D cA kd ig rg lg _ 64 (Or.inl rfl) x v3 (by omega) (by omega) hI) ss_X12_222 rfl hl.1 rfl (Nat.le_of_ble_eq_true rfl) ⟨Nat.le_of_ble_eq_true rfl, Nat.le_of_ble_eq_true rfl⟩ ⟨Nat.le_of_ble_eq_true rfl, Nat.le_of_ble_eq_true rfl⟩ dX12_isReady_30 (fun r15 kd11 ig12 rg13 lg14 H locs hw hH hp16 => ?_)
            obtain ⟨rfl, rfl, rfl, rfl, hzhp16, hrhp16⟩ := hp16
            have hsz := hzhp16.trans hsz
            obtain ⟨z17, rfl, hz17⟩ := hrhp16
            refine z_ne (tgt := 40) hx hb dX12_isReady_33 (by decide) (fun c33 => ?_) (fun c33 => ?_)
            · refine lv_iconst (v := 0) hx hb dX12_isReady_40 (by decide) (ti_c 0 (by decide) fun z18 hz18 => ?_)
              exact J41 ls H locs z18 (lv_sub hl [0, 2, 3] rfl) hw hsz (Or.inr ⟨by omega, ⟨v3.toInt.toNat, by omega, ((hP _ _ (by omega) (by omega)).mp (by1 hz17 (by omega))).2, by omega⟩⟩)
            · exact J36 ls H locs (lv_sub hl [0, 2, 3] rfl) hw hsz (fun w9 => absurd ((hP _ _ (by omega) (by omega)).mpr ⟨by omega, w9⟩) (by0 hz17 (by omega)))
  exact L4 ((288 - z2.toInt) + 1).toNat ls s.heap [] z2 z1 (lv_sub hl [0, 1, 2, 3] rfl) hw hsz (by omega) (by omega) (Or.inl ⟨by omega, fun q hq => by omega⟩) (by omega)

set_option maxHeartbeats 4000000 in
set_option maxRecDepth 100000 in
theorem t_X12_meetsE {υ : Option Int} {τ : Tp} {φ : Option Int} (l : Launch) (B : Nat) (D : va_G) (cA : Nat → ClassId) (kd : sK) (ig : sI) (rg : sR) (lg : sG) (sz : Nat) (x : Int32) (hx0 : 0 ≤ x.toInt ∧ x.toInt < 288) (hI : IM τ φ υ B kd ig rg) : MC l B D cA yX12_meets cX12_meets 2 (some .int) (rL 0 0 0) [.ref (B + 49), .int x] kd ig rg lg sz (PM τ φ υ B [49] kd ig rg lg (fun r ig' lg' => ∃ z : Int32, r = some (.int z) ∧ ((z = ig (B + 66) x.toInt.toNat ∧ ig' (B + 49) 33 = (if ig (B + 49) 33 = 0 then ig (B + 67) x.toInt.toNat else ig (B + 49) 33)) ∧ (ig' (B + 49) 31).toInt = (ig (B + 49) 31).toInt ∧ (ig' (B + 49) 32).toInt = (ig (B + 49) 32).toInt))) := by
  refine MC.of (own := RX12) (by decide +kernel) rfl (Nat.le_of_ble_eq_true rfl) ?_
  intro p e s m args below meth c ls C hr hlk hnm hw hsz hl
  have hx := C.1.1
  have hb := C.1.2.1
  have hown := C.1.2.2.2.1
  have hts := C.1.2.2.2.2
  have hl : lv_has ls 2 [(0, .ref (B + 49)), (1, .int x)] := hl
  have hF : Ft B [49] ig lg ig lg := Ft.rf
  have hsh := hI.sh
  have hrm := hI.rm
  refine lv_aload_n hx hb dX12_meets_0 rfl (lv_at hl 0 rfl) ?_
  refine r_get C hw (hsh 49 _ rfl) fl_X12_247 (oV_i rfl) dX12_meets_1 (ti_c (ig (B + 49) 33).toInt rfl fun z1 hz1 => ?_)
  have J17 : ∀ (ls : Array Slot) (H : Heap) (locs : List Loc) (ig2 : sI) (lg3 : sG) , lv_has ls 2 [(0, .ref (B + 49)), (1, .int x)] → WD B D cA s.heap kd ig2 rg lg3 H locs → IM τ φ υ B kd ig2 rg → Ft B [49] ig lg ig2 lg3 → (ig2 (B + 49) 33 = (if ig (B + 49) 33 = 0 then ig (B + 67) x.toInt.toNat else ig (B + 49) 33)) → ((ig2 (B + 49) 31).toInt = (ig (B + 49) 31).toInt) → ((ig2 (B + 49) 32).toInt = (ig (B + 49) 32).toInt) → W p l e (rL 0 0 0) s m args below meth c H locs 0 0 (MQ below (QcW B D cA (PM τ φ υ B [49] kd ig rg lg (fun r ig' lg' => ∃ z : Int32, r = some (.int z) ∧ ((z = ig (B + 66) x.toInt.toNat ∧ ig' (B + 49) 33 = (if ig (B + 49) 33 = 0 then ig (B + 67) x.toInt.toNat else ig (B + 49) 33)) ∧ (ig' (B + 49) 31).toInt = (ig (B + 49) 31).toInt ∧ (ig' (B + 49) 32).toInt = (ig (B + 49) 32).toInt)))) args s 0 0 (fun q => B ≤ q)) (F0 m 17 ls []) := by
    intro ls H locs ig2 lg3 hl hw hI hF g17_0 g17_1 g17_2
    refine lv_aload_n hx hb dX12_meets_17 rfl (lv_at hl 0 rfl) ?_
    refine r_get C hw (hsh 49 _ rfl) fl_X12_102 (oV_r rfl (hrm (49, 23, 66) (by decide))) dX12_meets_18 ?_
    refine lv_iload_n hx hb dX12_meets_21 rfl (lv_at hl 1 rfl) ?_
    refine r_iald C hw (hsh 66 _ rfl) (by omega) (by omega) dX12_meets_22 (ti_c (ig2 (B + 66) x.toInt.toNat).toInt rfl fun z4 hz4 => ?_)
    exact r_iret C hw hr hlk rfl (Nat.le_of_ble_eq_true rfl) (Nat.le_of_ble_eq_true rfl) dX12_meets_23 ⟨rfl, rfl, hI, hF, ⟨_, rfl, ⟨⟨i32_inj (by rw [hz4, hF.i 66 _ (by decide)]), g17_0⟩, by omega, by omega⟩⟩⟩
  refine z_ne (tgt := 17) hx hb dX12_meets_4 (by decide) (fun c4 => ?_) (fun c4 => ?_)
  · exact J17 ls s.heap [] ig lg (lv_sub hl [0, 1] rfl) hw hI hF ((by rw [if_neg (fun q9 => c4 (by rw [hz1, q9]; rfl))])) (by omega) (by omega)
  · refine lv_aload_n hx hb dX12_meets_7 rfl (lv_at hl 0 rfl) ?_
    refine lv_aload_n hx hb dX12_meets_8 rfl (lv_at hl 0 rfl) ?_
    refine r_get C hw (hsh 49 _ rfl) fl_X12_105 (oV_r rfl (hrm (49, 24, 67) (by decide))) dX12_meets_9 ?_
    refine lv_iload_n hx hb dX12_meets_12 rfl (lv_at hl 1 rfl) ?_
    refine r_iald C hw (hsh 67 _ rfl) (by omega) (by omega) dX12_meets_13 (ti_c (ig (B + 67) x.toInt.toNat).toInt rfl fun z6 hz6 => ?_)
    refine r_puti C hw (hsh 49 _ rfl) fl_X12_247 rfl rfl rfl dX12_meets_14 (fun H locs hH hw => ?_)
    obtain ⟨ig8, eig8⟩ : ∃ f, f = up2 ig (B + 49) 33 z6 := ⟨_, rfl⟩
    rw [← eig8] at hw
    have hF : Ft B [49] ig lg ig8 lg := by rw [eig8]; exact hF.pi (by decide)
    have hI : IM τ φ υ B kd ig8 rg := by rw [eig8]; exact hI.pi (by decide) (show okR none _ from trivial)
    have wig8 : (ig8 (B + 49) 33).toInt = z6.toInt := by rw [eig8, up2_eq]
    have wig8_49_31 : (ig8 (B + 49) 31).toInt = (ig (B + 49) 31).toInt := by rw [eig8, up2_j (by decide)]
    have wig8_49_32 : (ig8 (B + 49) 32).toInt = (ig (B + 49) 32).toInt := by rw [eig8, up2_j (by decide)]
    exact J17 ls H locs ig8 lg (lv_sub hl [0, 1] rfl) hw hI hF ((by rw [eig8, up2_eq, if_pos (i32_z (by omega))]; exact i32_inj hz6)) (by omega) (by omega)

set_option maxHeartbeats 4000000 in
set_option maxRecDepth 100000 in
theorem t_X12_sumOfE {υ : Option Int} {τ : Tp} {φ : Option Int} (l : Launch) (B : Nat) (D : va_G) (cA : Nat → ClassId) (kd : sK) (ig : sI) (rg : sR) (lg : sG) (sz : Nat) (x : Int32) (y : Int32) (hx0 : 0 ≤ x.toInt ∧ x.toInt < 37080) (hy0 : 0 ≤ y.toInt ∧ y.toInt < 37080) (hrx : ((0 ≤ (ig (B + 55) x.toInt.toNat).toInt ∧ (ig (B + 55) x.toInt.toNat).toInt < 12) ∧ 0 ≤ (ig (B + 56) x.toInt.toNat).toInt ∧ (ig (B + 56) x.toInt.toNat).toInt < 24)) (hry : ((0 ≤ (ig (B + 55) y.toInt.toNat).toInt ∧ (ig (B + 55) y.toInt.toNat).toInt < 12) ∧ 0 ≤ (ig (B + 56) y.toInt.toNat).toInt ∧ (ig (B + 56) y.toInt.toNat).toInt < 24)) (h w u : Int) (fw : RfI B ig h x.toInt.toNat w) (fu : RfI B ig h y.toInt.toNat u) (hI : IM τ φ υ B kd ig rg) : MC l B D cA yX12_sumOf cX12_sumOf 6 (some .int) (rL 1 0 0) [.ref (B + 49), .int x, .int y] kd ig rg lg sz (PM τ φ υ B [49] kd ig rg lg (fun r ig' lg' => ∃ z : Int32, r = some (.int z) ∧ ((z, ig' (B + 49) 33) = spS (ig (B + 66)) (ig (B + 67)) (ig (B + 49) 33) (2, w, u) h ∧ (ig' (B + 49) 31).toInt = (ig (B + 49) 31).toInt ∧ (ig' (B + 49) 32).toInt = (ig (B + 49) 32).toInt))) := by
  refine MC.of (own := RX12) (by decide +kernel) rfl (Nat.le_of_ble_eq_true rfl) ?_
  intro p e s m args below meth c ls C hr hlk hnm hw hsz hl
  have hx := C.1.1
  have hb := C.1.2.1
  have hown := C.1.2.2.2.1
  have hts := C.1.2.2.2.2
  have hl : lv_has ls 6 [(0, .ref (B + 49)), (1, .int x), (2, .int y)] := hl
  have hF : Ft B [49] ig lg ig lg := Ft.rf
  have hsh := hI.sh
  have hrm := hI.rm
  have fw1 := fw.1
  have fw2 := fw.2
  have fu1 := fu.1
  have fu2 := fu.2
  have hW : spW (2, w, u) h = (colv u h - colv w h + 1).toNat := rfl
  have hH : spH (2, w, u) h = (rowv u h - rowv w h + 1).toNat := rfl
  refine lv_iconst (v := 0) hx hb dX12_sumOf_0 (by decide) (ti_c 0 (by decide) fun z1 hz1 => ?_)
  refine lv_istore_n (lv' := [(3, .int z1), (0, .ref (B + 49)), (1, .int x), (2, .int y)]) hx hb dX12_sumOf_1 rfl hl (by decide) rfl (fun ls hl => ?_)
  refine lv_aload_n hx hb dX12_sumOf_2 rfl (lv_at hl 1 rfl) ?_
  refine r_get C hw (hsh 49 _ rfl) fl_X12_71 (oV_r rfl (hrm (49, 11, 56) (by decide))) dX12_sumOf_3 ?_
  refine lv_iload_n hx hb dX12_sumOf_6 rfl (lv_at hl 2 rfl) ?_
  refine r_iald C hw (hsh 56 _ rfl) (by omega) (by omega) dX12_sumOf_7 (ti_c (ig (B + 56) x.toInt.toNat).toInt rfl fun z2 hz2 => ?_)
  refine lv_istore (lv' := [(4, .int z2), (3, .int z1), (0, .ref (B + 49)), (1, .int x), (2, .int y)]) hx hb dX12_sumOf_8 hl (by decide) rfl (fun ls hl => ?_)
  have L10 : ∀ (n : Nat) (ls : Array Slot) (H : Heap) (locs : List Loc) (ig6 : sI) (lg7 : sG) (v4 : Int32) (v5 : Int32), lv_has ls 6 [(4, .int v4), (3, .int v5), (0, .ref (B + 49)), (1, .int x), (2, .int y)] → WD B D cA s.heap kd ig6 rg lg7 H locs → IM τ φ υ B kd ig6 rg → Ft B [49] ig lg ig6 lg7 → (0 ≤ v4.toInt) → (v4.toInt ≤ 24) → (∃ j : Nat, v4.toInt = rowv w h + (j : Int) ∧ j ≤ spH (2, w, u) h ∧ (v5, ig6 (B + 49) 33) = (plF (rowv w h) (colv w h) (spW (2, w, u) h) j).foldl (mtS (ig (B + 66)) (ig (B + 67))) (0, ig (B + 49) 33)) → ((ig6 (B + 49) 31).toInt = (ig (B + 49) 31).toInt) → ((ig6 (B + 49) 32).toInt = (ig (B + 49) 32).toInt) → 24 - v4.toInt < (n : Int) → W p l e (rL 1 0 0) s m args below meth c H locs 0 0 (MQ below (QcW B D cA (PM τ φ υ B [49] kd ig rg lg (fun r ig' lg' => ∃ z : Int32, r = some (.int z) ∧ ((z, ig' (B + 49) 33) = spS (ig (B + 66)) (ig (B + 67)) (ig (B + 49) 33) (2, w, u) h ∧ (ig' (B + 49) 31).toInt = (ig (B + 49) 31).toInt ∧ (ig' (B + 49) 32).toInt = (ig (B + 49) 32).toInt)))) args s 0 0 (fun q => B ≤ q)) (F0 m 10 ls []) := by
    intro n10
    induction n10 with
    | zero => intro ls H locs ig6 lg7 v4 v5 hl hw hI hF g10_0 g10_1 g10_2 g10_3 g10_4 hmu; exact absurd hmu (by omega)
    | succ n10 ih10 =>
      intro ls H locs ig6 lg7 v4 v5 hl hw hI hF g10_0 g10_1 g10_2 g10_3 g10_4 hmu
      obtain ⟨j, hj4, hjH, hst⟩ := g10_2
      refine lv_iload hx hb dX12_sumOf_10 (lv_at hl 0 rfl) ?_
      refine lv_aload_n hx hb dX12_sumOf_12 rfl (lv_at hl 2 rfl) ?_
      refine r_get C hw (hsh 49 _ rfl) fl_X12_71 (oV_r rfl (hrm (49, 11, 56) (by decide))) dX12_sumOf_13 ?_
      refine lv_iload_n hx hb dX12_sumOf_16 rfl (lv_at hl 4 rfl) ?_
      refine r_iald C hw (hsh 56 _ rfl) (by omega) (by omega) dX12_sumOf_17 (ti_c (ig6 (B + 56) y.toInt.toNat).toInt rfl fun z8 hz8 => ?_)
      rw [Ft.i hF 56 _ (by decide)] at hz8
      refine b_gt (tgt := 67) hx hb dX12_sumOf_18 (by decide) (fun c18 => ?_) (fun c18 => ?_)
      · refine lv_iload_n hx hb dX12_sumOf_67 rfl (lv_at hl 1 rfl) ?_
        exact r_iret C hw hr hlk rfl (Nat.le_of_ble_eq_true rfl) (Nat.le_of_ble_eq_true rfl) dX12_sumOf_68 ⟨rfl, rfl, hI, hF, ⟨_, rfl, ⟨(by obtain rfl : j = spH (2, w, u) h := (by omega); exact hst), by omega, by omega⟩⟩⟩
      · refine lv_aload_n hx hb dX12_sumOf_21 rfl (lv_at hl 2 rfl) ?_
        refine r_get C hw (hsh 49 _ rfl) fl_X12_68 (oV_r rfl (hrm (49, 10, 55) (by decide))) dX12_sumOf_22 ?_
        refine lv_iload_n hx hb dX12_sumOf_25 rfl (lv_at hl 3 rfl) ?_
        refine r_iald C hw (hsh 55 _ rfl) (by omega) (by omega) dX12_sumOf_26 (ti_c (ig6 (B + 55) x.toInt.toNat).toInt rfl fun z10 hz10 => ?_)
        rw [Ft.i hF 55 _ (by decide)] at hz10
        refine lv_istore (lv' := [(5, .int z10), (4, .int v4), (3, .int v5), (0, .ref (B + 49)), (1, .int x), (2, .int y)]) hx hb dX12_sumOf_27 hl (by decide) rfl (fun ls hl => ?_)
        have L29 : ∀ (n : Nat) (ls : Array Slot) (H : Heap) (locs : List Loc) (ig14 : sI) (lg15 : sG) (v12 : Int32) (v13 : Int32), lv_has ls 6 [(5, .int v12), (4, .int v4), (3, .int v13), (0, .ref (B + 49)), (1, .int x), (2, .int y)] → WD B D cA s.heap kd ig14 rg lg15 H locs → IM τ φ υ B kd ig14 rg → Ft B [49] ig lg ig14 lg15 → (0 ≤ v12.toInt) → (v12.toInt ≤ 12) → (∃ k : Nat, v12.toInt = colv w h + (k : Int) ∧ k ≤ spW (2, w, u) h ∧ (v13, ig14 (B + 49) 33) = (plF (rowv w h) (colv w h) (spW (2, w, u) h) j ++ plR (rowv w h + (j : Int)) (colv w h) k).foldl (mtS (ig (B + 66)) (ig (B + 67))) (0, ig (B + 49) 33)) → ((ig14 (B + 49) 31).toInt = (ig (B + 49) 31).toInt) → ((ig14 (B + 49) 32).toInt = (ig (B + 49) 32).toInt) → 12 - v12.toInt < (n : Int) → W p l e (rL 1 0 0) s m args below meth c H locs 0 0 (MQ below (QcW B D cA (PM τ φ υ B [49] kd ig rg lg (fun r ig' lg' => ∃ z : Int32, r = some (.int z) ∧ ((z, ig' (B + 49) 33) = spS (ig (B + 66)) (ig (B + 67)) (ig (B + 49) 33) (2, w, u) h ∧ (ig' (B + 49) 31).toInt = (ig (B + 49) 31).toInt ∧ (ig' (B + 49) 32).toInt = (ig (B + 49) 32).toInt)))) args s 0 0 (fun q => B ≤ q)) (F0 m 29 ls []) := by
          intro n29
          induction n29 with
          | zero => intro ls H locs ig14 lg15 v12 v13 hl hw hI hF g29_0 g29_1 g29_2 g29_3 g29_4 hmu; exact absurd hmu (by omega)
          | succ n29 ih29 =>
            intro ls H locs ig14 lg15 v12 v13 hl hw hI hF g29_0 g29_1 g29_2 g29_3 g29_4 hmu
            obtain ⟨k, hk5, hkW, hst⟩ := g29_2
            refine lv_iload hx hb dX12_sumOf_29 (lv_at hl 0 rfl) ?_
            refine lv_aload_n hx hb dX12_sumOf_31 rfl (lv_at hl 3 rfl) ?_
            refine r_get C hw (hsh 49 _ rfl) fl_X12_68 (oV_r rfl (hrm (49, 10, 55) (by decide))) dX12_sumOf_32 ?_
            refine lv_iload_n hx hb dX12_sumOf_35 rfl (lv_at hl 5 rfl) ?_
            refine r_iald C hw (hsh 55 _ rfl) (by omega) (by omega) dX12_sumOf_36 (ti_c (ig14 (B + 55) y.toInt.toNat).toInt rfl fun z16 hz16 => ?_)
            rw [Ft.i hF 55 _ (by decide)] at hz16
            refine b_gt (tgt := 61) hx hb dX12_sumOf_37 (by decide) (fun c37 => ?_) (fun c37 => ?_)
            · refine tc_inc hx hb dX12_sumOf_61 hl (k := 1) rfl (by decide) (by decide) (fun z18 hz18 ls hl => ?_)
              first | replace hz18 := hz18 (by omega) | clear hz18
              have hl : lv_has ls 6 [(4, .int z18), (5, .int v12), (3, .int v13), (0, .ref (B + 49)), (1, .int x), (2, .int y)] := hl
              refine lv_goto (tgt := 10) hx hb dX12_sumOf_64 (by decide) ?_
              exact ih10 ls H locs ig14 lg15 z18 v13 (lv_sub hl [0, 2, 3, 4, 5] rfl) hw hI hF (by omega) (by omega) (⟨j + 1, by omega, by omega, by obtain rfl : k = spW (2, w, u) h := (by omega); rw [plF_s]; exact hst⟩) (by omega) (by omega) (by omega)
            · refine lv_iload_n hx hb dX12_sumOf_40 rfl (lv_at hl 2 rfl) ?_
              refine lv_aload_n hx hb dX12_sumOf_41 rfl (lv_at hl 3 rfl) ?_
              refine lv_bipush (v := 12) hx hb dX12_sumOf_42 (by decide) (ti_c 12 (by decide) fun z19 hz19 => ?_)
              refine lv_iload hx hb dX12_sumOf_44 (lv_at hl 1 rfl) ?_
              refine lv_imul hx hb dX12_sumOf_46 (tc_mulL 12 hz19 fun z20 hz20 => ?_)
              first | replace hz20 := hz20 (by omega) | clear hz20
              refine lv_iload hx hb dX12_sumOf_47 (lv_at hl 0 rfl) ?_
              refine lv_iadd hx hb dX12_sumOf_49 (tc_add fun z21 hz21 => ?_)
              first | replace hz21 := hz21 (by omega) | clear hz21
              have hF0 := hF
              refine r_callV (As := [.int z21]) (rest := [.int v13]) C hw (t_X12_meetsE l B D cA kd ig14 rg lg15 _ z21 (by omega) hI) sv_X12_279 (hsh 49 _ rfl) rfl hl.1 rfl (Nat.le_of_ble_eq_true rfl) ⟨Nat.le_of_ble_eq_true rfl, Nat.le_of_ble_eq_true rfl⟩ ⟨Nat.le_of_ble_eq_true rfl, Nat.le_of_ble_eq_true rfl⟩ dX12_sumOf_50 (fun r26 kd22 ig23 rg24 lg25 H locs hw hH hp27 => ?_)
              obtain ⟨rfl, rfl, hI, hchp27, hrhp27⟩ := hp27
              have hF : Ft B [49] ig lg ig23 lg25 := Ft.tr hF hchp27 (by decide) (by decide)
              obtain ⟨z28, rfl, hz28⟩ := hrhp27
              have mt9 := hz28.1
              rw [hF0.i 66 _ (by decide), hF0.i 67 _ (by decide)] at mt9
              have kp1 := hz28.2
              refine lv_iadd hx hb dX12_sumOf_53 (lv_topi fun z29 hz29 => ?_)
              have hst2 : (z29, ig23 (B + 49) 33) = (plF (rowv w h) (colv w h) (spW (2, w, u) h) j ++ plR (rowv w h + (j : Int)) (colv w h) (k + 1)).foldl (mtS (ig (B + 66)) (ig (B + 67))) (0, ig (B + 49) 33) := by rw [plR_s, ← List.append_assoc]; exact mtS_st hst (by rw [hz29, mt9.1, show z21.toInt.toNat = ((rowv w h + (j : Int)) * 12 + (colv w h + (k : Int))).toNat by omega]) (by rw [mt9.2, show z21.toInt.toNat = ((rowv w h + (j : Int)) * 12 + (colv w h + (k : Int))).toNat by omega])
              refine lv_istore_n (lv' := [(3, .int z29), (5, .int v12), (4, .int v4), (0, .ref (B + 49)), (1, .int x), (2, .int y)]) hx hb dX12_sumOf_54 rfl hl (by decide) rfl (fun ls hl => ?_)
              refine tc_inc hx hb dX12_sumOf_55 hl (k := 1) rfl (by decide) (by decide) (fun z30 hz30 ls hl => ?_)
              first | replace hz30 := hz30 (by omega) | clear hz30
              have hl : lv_has ls 6 [(5, .int z30), (3, .int z29), (4, .int v4), (0, .ref (B + 49)), (1, .int x), (2, .int y)] := hl
              refine lv_goto (tgt := 29) hx hb dX12_sumOf_58 (by decide) ?_
              exact ih29 ls H locs ig23 lg25 z30 z29 (lv_sub hl [0, 2, 1, 3, 4, 5] rfl) hw hI hF (by omega) (by omega) (⟨k + 1, by omega, by omega, hst2⟩) (by omega) (by omega) (by omega)
        exact L29 ((12 - z10.toInt) + 1).toNat ls H locs ig6 lg7 z10 v5 (lv_sub hl [0, 1, 2, 3, 4, 5] rfl) hw hI hF (by omega) (by omega) (⟨0, by omega, by omega, by rw [plR_0, List.append_nil]; exact hst⟩) (by omega) (by omega) (by omega)
  exact L10 ((24 - z2.toInt) + 1).toNat ls s.heap [] ig lg z2 z1 (lv_sub hl [0, 1, 2, 3, 4] rfl) hw hI hF (by omega) (by omega) (⟨0, by omega, by omega, by rw [plF_0]; show (_, _) = (_, _); rw [show z1 = 0 from i32_z (by omega)]⟩) (by omega) (by omega) (by omega)
