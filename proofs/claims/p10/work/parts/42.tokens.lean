section TOKENS
variable {τ : Tp} {φ : Option Int} {B N n i c : Nat} {ig ig' : sI} {v : Int32}
def PLk (B n : Nat) (ig : sI) : Prop := ∀ k, k < n → 0 ≤ (ig (B + 52) k).toInt ∧ (ig (B + 52) k).toInt ≤ 120
theorem PLk.z (h : n = 0) : PLk B n ig := fun k hk => by omega
theorem PLk.wr (h : PLk B n ig) (hc : c ≠ 52) : PLk B n (up2 ig (B + c) i v) := fun k hk => by rw [up2_c (by omega)]; exact h k hk
theorem PLk.st {m : Nat} (h : PLk B n ig) (hi : i = n) (hm : m = n + 1) (hv : 0 ≤ v.toInt ∧ v.toInt ≤ 120) : PLk B m (up2 ig (B + 52) i v) := fun k hk => by
  by_cases e : k = i
  · subst e
    rw [up2_eq]; exact hv
  · rw [up2_j e]; exact h k (by omega)
theorem PLk.eq {m : Nat} (h : PLk B n ig) (hm : m = n) : PLk B m ig := by rw [hm]; exact h
theorem PSt.of (hN : n ≤ 120) (hs : (ig (B + 51) n).toInt = 0) (hp : PLk B (n + 1) ig) : PSt B n ig := ⟨hN, hs, fun k hk => hp k (by omega)⟩
theorem QN.wp {j : Nat} (h : QN gE B 8 0 j ig) (hj : (ig (B + 58) 288).toInt = (j : Int)) (h1 : j ≤ 120) : WP B ig 288 := fun _ => ⟨j, hj, h1, h.1, h.2⟩
def FQ (B : Nat) (ig : sI) : Prop := (ig (B + 49) 8).toInt = 0 → WP B ig 288
/-- the tokens that the reference has cut so far -/
def MCt (B : Nat) (τ : Tp) (i n : Nat) (ig : sI) (lg : sG) : Prop := n ≤ i ∧ i ≤ τ.length ∧ sk τ i = pos τ n ∧ ∀ q, q < n → (mtk (ig (B + 51) q).toInt (lg (B + 53) q).toInt (tK τ q) (tV τ q) ∧ (ig (B + 52) q).toInt = tS τ q) ∧ pos τ q < τ.length
def TPm (B : Nat) (τ : Tp) (ig : sI) : Prop := ∀ j, j < τ.length → (ig (B + 50) j).toInt = ch τ j
theorem TPm.wr {τ : Tp} (h : TPm B τ ig) (hc : c ≠ 50) : TPm B τ (up2 ig (B + c) i v) := fun j hj => by rw [up2_c (by omega)]; exact h j hj
theorem TPm.of {υ : Option Int} {τ : Tp} {kd : sK} {rg : sR} {φ : Option Int} (h : IM τ φ υ B kd ig rg) : TPm B τ ig := fun j hj => by rw [h.2.1.2.2 j hj, ch_in hj]
theorem MCt.wr {τ : Tp} {lg : sG} {k j : Nat} (h : MCt B τ k n ig lg) (hc : (c ≠ 51 ∧ c ≠ 52) ∨ j = n) : MCt B τ k n (up2 ig (B + c) j v) lg := ⟨h.1, h.2.1, h.2.2.1, fun q hq => by
  have e : ∀ b, b = 51 ∨ b = 52 → up2 ig (B + c) j v (B + b) q = ig (B + b) q := fun b hb => by simp only [up2]; rw [if_neg (by omega)]
  rw [e 51 (Or.inl rfl), e 52 (Or.inr rfl)]
  exact h.2.2.2 q hq⟩
theorem MCt.wl {τ : Tp} {lg : sG} {k j : Nat} {w : Int64} (h : MCt B τ k n ig lg) (hj : j = n) : MCt B τ k n ig (up2 lg (B + 53) j w) := ⟨h.1, h.2.1, h.2.2.1, fun q hq => by
  have e : up2 lg (B + 53) j w (B + 53) q = lg (B + 53) q := by simp only [up2]; rw [if_neg (by omega)]
  rw [e]
  exact h.2.2.2 q hq⟩
theorem MCt.bl {τ : Tp} {lg : sG} {k : Nat} (h : MCt B τ k n ig lg) (hl : τ.length ≤ 120) (hb : ch τ k = 32) : MCt B τ (k + 1) n ig lg := by
  have hi : k < τ.length := in_len (by omega)
  exact ⟨by have := h.1; omega, by omega, (sk_blank hl hb).symm.trans h.2.2.1, h.2.2.2⟩
theorem MCt.tok {τ : Tp} {lg : sG} {k : Nat} (h : MCt B τ k n ig lg) (hl : τ.length ≤ 120) (hi : k < τ.length) (hb : ch τ k ≠ 32) (hs : mtk (ig (B + 51) n).toInt (lg (B + 53) n).toInt (kAt τ k) (vAt τ k)) (hp : (ig (B + 52) n).toInt = (k : Int)) : MCt B τ (tE τ k) (n + 1) ig lg := by
  have hq : pos τ n = k := h.2.2.1.symm.trans (sk_stop hb)
  obtain ⟨g1, g2⟩ := tE_gt hl hi
  refine ⟨by have := h.1; omega, g2, by show _ = sk τ (tE τ (pos τ n)); rw [hq], fun q hq9 => ?_⟩
  by_cases e : q = n
  · subst e
    unfold tK tV tS
    rw [hq]
    exact ⟨⟨hs, hp⟩, hi⟩
  · exact h.2.2.2 q (by omega)
theorem MCt.fin {τ : Tp} {lg : sG} {k : Nat} (h : MCt B τ k n ig lg) (hi : k = τ.length) (hs : (ig (B + 51) n).toInt = 0) (hp : (ig (B + 52) n).toInt = (k : Int)) : MT B n τ ig lg := by
  subst hi
  have hq : pos τ n = τ.length := h.2.2.1.symm.trans sk_end
  intro q hq9
  by_cases e : q = n
  · subst e
    unfold tK tV tS
    rw [hq]
    refine ⟨Or.inl ⟨hs, ?_⟩, hp⟩
    unfold kAt; rw [if_pos (Nat.le_refl _)]
  · exact (h.2.2.2 q (by omega)).1
theorem MCt.eq {τ : Tp} {lg : sG} {k k' n' : Nat} (h : MCt B τ k n ig lg) (e1 : k' = k) (e2 : n' = n) : MCt B τ k' n' ig lg := by subst e1 e2; exact h
theorem PT.f {K V S : Nat → Int} {f0 a0 f a : Int} (h : FS (pE K V S 8) f0 a0 f a) (hz : f0 = 0 ∧ a0 = 0) (hf : f ≠ 0) : pTop K V S f := by
  obtain ⟨b, p, -⟩ := h.1 hz.1
  rw [hz.2] at p
  exact ⟨f, b, p, Or.inl ⟨hf, rfl⟩⟩
theorem PT.e {K V S : Nat → Int} {f0 a0 f a : Int} (h : FS (pE K V S 8) f0 a0 f a) (hz : f0 = 0 ∧ a0 = 0) (hf : f = 0) (hk : K a.toNat = 0) : pTop K V S f := by
  obtain ⟨b, p, e⟩ := h.1 hz.1
  rw [hz.2] at p
  rw [e hf, Int.toNat_natCast] at hk
  exact ⟨f, b, p, Or.inr (Or.inr ⟨hf, hk, hf⟩)⟩
theorem PT.w {K V S : Nat → Int} {f0 a0 f a f' : Int} (h : FS (pE K V S 8) f0 a0 f a) (hz : f0 = 0 ∧ a0 = 0) (hf : f = 0) (hk : K a.toNat ≠ 0) (e1 : f' = fw S 1 a.toNat) : pTop K V S f' := by
  obtain ⟨b, p, e⟩ := h.1 hz.1
  rw [hz.2] at p
  rw [e hf, Int.toNat_natCast] at hk e1
  exact ⟨f, b, p, Or.inr (Or.inl ⟨hf, hk, e1⟩)⟩
theorem Rn.eq {p : Int → Bool} {τ : Tp} {k e e' : Nat} (h : Rn p τ k e) (e1 : e' = e) : Rn p τ k e' := by subst e1; exact h
end TOKENS

set_option maxHeartbeats 4000000 in
set_option maxRecDepth 100000 in
theorem t_X12_isLetter2 {υ : Option Int} (l : Launch) (B : Nat) (D : va_G) (cA : Nat → ClassId) (kd : sK) (ig : sI) (rg : sR) (lg : sG) (sz : Nat) (x : Int32) (hI : IM [] none υ B kd ig rg) : MC l B D cA yX12_isLetter cX12_isLetter 1 (some .boolean) (rL 0 0 0) [.int x] kd ig rg lg sz (Pu kd ig rg lg sz (fun r => ∃ z : Int32, r = some (.int z) ∧ ((z.toInt = 1 ∧ 97 ≤ x.toInt ∧ x.toInt ≤ 122) ∨ (z.toInt = 0 ∧ ¬ (97 ≤ x.toInt ∧ x.toInt ≤ 122))))) := by
  refine MC.of (own := RX12) (by decide +kernel) rfl (Nat.le_of_ble_eq_true rfl) ?_
  intro p e s m args below meth c ls C hr hlk hnm hw hsz hl
  have hx := C.1.1
  have hb := C.1.2.1
  have hown := C.1.2.2.2.1
  have hts := C.1.2.2.2.2
  have hl : lv_has ls 1 [(0, .int x)] := hl
  have hsh := hI.sh
  have hrm := hI.rm
  refine lv_iload_n hx hb dX12_isLetter_0 rfl (lv_at hl 0 rfl) ?_
  refine lv_bipush (v := 97) hx hb dX12_isLetter_1 (by decide) (ti_c 97 (by decide) fun z1 hz1 => ?_)
  refine b_lt (tgt := 16) hx hb dX12_isLetter_3 (by decide) (fun c3 => ?_) (fun c3 => ?_)
  · refine lv_iconst (v := 0) hx hb dX12_isLetter_16 (by decide) (ti_c 0 (by decide) fun z2 hz2 => ?_)
    exact r_iret C hw hr hlk (nar_b (by omega)) (Nat.le_of_ble_eq_true rfl) (Nat.le_of_ble_eq_true rfl) dX12_isLetter_17 ⟨rfl, rfl, rfl, rfl, hsz, ⟨_, rfl, by omega⟩⟩
  · refine lv_iload_n hx hb dX12_isLetter_6 rfl (lv_at hl 0 rfl) ?_
    refine lv_bipush (v := 122) hx hb dX12_isLetter_7 (by decide) (ti_c 122 (by decide) fun z3 hz3 => ?_)
    refine b_gt (tgt := 16) hx hb dX12_isLetter_9 (by decide) (fun c9 => ?_) (fun c9 => ?_)
    · refine lv_iconst (v := 0) hx hb dX12_isLetter_16 (by decide) (ti_c 0 (by decide) fun z4 hz4 => ?_)
      exact r_iret C hw hr hlk (nar_b (by omega)) (Nat.le_of_ble_eq_true rfl) (Nat.le_of_ble_eq_true rfl) dX12_isLetter_17 ⟨rfl, rfl, rfl, rfl, hsz, ⟨_, rfl, by omega⟩⟩
    · refine lv_iconst (v := 1) hx hb dX12_isLetter_12 (by decide) (ti_c 1 (by decide) fun z5 hz5 => ?_)
      refine lv_goto (tgt := 17) hx hb dX12_isLetter_13 (by decide) ?_
      exact r_iret C hw hr hlk (nar_b (by omega)) (Nat.le_of_ble_eq_true rfl) (Nat.le_of_ble_eq_true rfl) dX12_isLetter_17 ⟨rfl, rfl, rfl, rfl, hsz, ⟨_, rfl, by omega⟩⟩

set_option maxHeartbeats 4000000 in
set_option maxRecDepth 100000 in
theorem t_X12_isDigit2 {υ : Option Int} (l : Launch) (B : Nat) (D : va_G) (cA : Nat → ClassId) (kd : sK) (ig : sI) (rg : sR) (lg : sG) (sz : Nat) (x : Int32) (hI : IM [] none υ B kd ig rg) : MC l B D cA yX12_isDigit cX12_isDigit 1 (some .boolean) (rL 0 0 0) [.int x] kd ig rg lg sz (Pu kd ig rg lg sz (fun r => ∃ z : Int32, r = some (.int z) ∧ ((z.toInt = 1 ∧ 48 ≤ x.toInt ∧ x.toInt ≤ 57) ∨ (z.toInt = 0 ∧ ¬ (48 ≤ x.toInt ∧ x.toInt ≤ 57))))) := by
  refine MC.of (own := RX12) (by decide +kernel) rfl (Nat.le_of_ble_eq_true rfl) ?_
  intro p e s m args below meth c ls C hr hlk hnm hw hsz hl
  have hx := C.1.1
  have hb := C.1.2.1
  have hown := C.1.2.2.2.1
  have hts := C.1.2.2.2.2
  have hl : lv_has ls 1 [(0, .int x)] := hl
  have hsh := hI.sh
  have hrm := hI.rm
  refine lv_iload_n hx hb dX12_isDigit_0 rfl (lv_at hl 0 rfl) ?_
  refine lv_bipush (v := 48) hx hb dX12_isDigit_1 (by decide) (ti_c 48 (by decide) fun z1 hz1 => ?_)
  refine b_lt (tgt := 16) hx hb dX12_isDigit_3 (by decide) (fun c3 => ?_) (fun c3 => ?_)
  · refine lv_iconst (v := 0) hx hb dX12_isDigit_16 (by decide) (ti_c 0 (by decide) fun z2 hz2 => ?_)
    exact r_iret C hw hr hlk (nar_b (by omega)) (Nat.le_of_ble_eq_true rfl) (Nat.le_of_ble_eq_true rfl) dX12_isDigit_17 ⟨rfl, rfl, rfl, rfl, hsz, ⟨_, rfl, by omega⟩⟩
  · refine lv_iload_n hx hb dX12_isDigit_6 rfl (lv_at hl 0 rfl) ?_
    refine lv_bipush (v := 57) hx hb dX12_isDigit_7 (by decide) (ti_c 57 (by decide) fun z3 hz3 => ?_)
    refine b_gt (tgt := 16) hx hb dX12_isDigit_9 (by decide) (fun c9 => ?_) (fun c9 => ?_)
    · refine lv_iconst (v := 0) hx hb dX12_isDigit_16 (by decide) (ti_c 0 (by decide) fun z4 hz4 => ?_)
      exact r_iret C hw hr hlk (nar_b (by omega)) (Nat.le_of_ble_eq_true rfl) (Nat.le_of_ble_eq_true rfl) dX12_isDigit_17 ⟨rfl, rfl, rfl, rfl, hsz, ⟨_, rfl, by omega⟩⟩
    · refine lv_iconst (v := 1) hx hb dX12_isDigit_12 (by decide) (ti_c 1 (by decide) fun z5 hz5 => ?_)
      refine lv_goto (tgt := 17) hx hb dX12_isDigit_13 (by decide) ?_
      exact r_iret C hw hr hlk (nar_b (by omega)) (Nat.le_of_ble_eq_true rfl) (Nat.le_of_ble_eq_true rfl) dX12_isDigit_17 ⟨rfl, rfl, rfl, rfl, hsz, ⟨_, rfl, by omega⟩⟩

set_option maxHeartbeats 4000000 in
set_option maxRecDepth 100000 in
theorem t_X12_isSignOf2 {υ : Option Int} (l : Launch) (B : Nat) (D : va_G) (cA : Nat → ClassId) (kd : sK) (ig : sI) (rg : sR) (lg : sG) (sz : Nat) (x : Int32) (hI : IM [] none υ B kd ig rg) : MC l B D cA yX12_isSignOf cX12_isSignOf 1 (some .boolean) (rL 0 0 0) [.int x] kd ig rg lg sz (Pu kd ig rg lg sz (fun r => ∃ z : Int32, r = some (.int z) ∧ ((z.toInt = 1 ∧ cS x.toInt = true) ∨ (z.toInt = 0 ∧ cS x.toInt = false)))) := by
  refine MC.of (own := RX12) (by decide +kernel) rfl (Nat.le_of_ble_eq_true rfl) ?_
  intro p e s m args below meth c ls C hr hlk hnm hw hsz hl
  have hx := C.1.1
  have hb := C.1.2.1
  have hown := C.1.2.2.2.1
  have hts := C.1.2.2.2.2
  have hl : lv_has ls 1 [(0, .int x)] := hl
  have hsh := hI.sh
  have hrm := hI.rm
  refine lv_iload_n hx hb dX12_isSignOf_0 rfl (lv_at hl 0 rfl) ?_
  refine lv_bipush (v := 40) hx hb dX12_isSignOf_1 (by decide) (ti_c 40 (by decide) fun z1 hz1 => ?_)
  have J48 : ∀ (ls : Array Slot) (H : Heap) (locs : List Loc) , lv_has ls 1 [] → WD B D cA s.heap kd ig rg lg H locs → H.size = sz → (x.toInt = 40 ∨ x.toInt = 41 ∨ x.toInt = 43 ∨ x.toInt = 45 ∨ x.toInt = 42 ∨ x.toInt = 47 ∨ x.toInt = 58 ∨ x.toInt = 36) → W p l e (rL 0 0 0) s m args below meth c H locs 0 0 (MQ below (QcW B D cA (Pu kd ig rg lg sz (fun r => ∃ z : Int32, r = some (.int z) ∧ ((z.toInt = 1 ∧ cS x.toInt = true) ∨ (z.toInt = 0 ∧ cS x.toInt = false))))) args s 0 0 (fun q => B ≤ q)) (F0 m 48 ls []) := by
    intro ls H locs  hl hw hsz g48_0
    refine lv_iconst (v := 1) hx hb dX12_isSignOf_48 (by decide) (ti_c 1 (by decide) fun z2 hz2 => ?_)
    refine lv_goto (tgt := 53) hx hb dX12_isSignOf_49 (by decide) ?_
    exact r_iret C hw hr hlk (nar_b (by omega)) (Nat.le_of_ble_eq_true rfl) (Nat.le_of_ble_eq_true rfl) dX12_isSignOf_53 ⟨rfl, rfl, rfl, rfl, hsz, ⟨_, rfl, Or.inl ⟨by omega, cS_t (by omega)⟩⟩⟩
  refine b_eq (tgt := 48) hx hb dX12_isSignOf_3 (by decide) (fun c3 => ?_) (fun c3 => ?_)
  · exact J48 ls s.heap [] (lv_sub hl [] rfl) hw hsz (by omega)
  · refine lv_iload_n hx hb dX12_isSignOf_6 rfl (lv_at hl 0 rfl) ?_
    refine lv_bipush (v := 41) hx hb dX12_isSignOf_7 (by decide) (ti_c 41 (by decide) fun z3 hz3 => ?_)
    refine b_eq (tgt := 48) hx hb dX12_isSignOf_9 (by decide) (fun c9 => ?_) (fun c9 => ?_)
    · exact J48 ls s.heap [] (lv_sub hl [] rfl) hw hsz (by omega)
    · refine lv_iload_n hx hb dX12_isSignOf_12 rfl (lv_at hl 0 rfl) ?_
      refine lv_bipush (v := 43) hx hb dX12_isSignOf_13 (by decide) (ti_c 43 (by decide) fun z4 hz4 => ?_)
      refine b_eq (tgt := 48) hx hb dX12_isSignOf_15 (by decide) (fun c15 => ?_) (fun c15 => ?_)
      · exact J48 ls s.heap [] (lv_sub hl [] rfl) hw hsz (by omega)
      · refine lv_iload_n hx hb dX12_isSignOf_18 rfl (lv_at hl 0 rfl) ?_
        refine lv_bipush (v := 45) hx hb dX12_isSignOf_19 (by decide) (ti_c 45 (by decide) fun z5 hz5 => ?_)
        refine b_eq (tgt := 48) hx hb dX12_isSignOf_21 (by decide) (fun c21 => ?_) (fun c21 => ?_)
        · exact J48 ls s.heap [] (lv_sub hl [] rfl) hw hsz (by omega)
        · refine lv_iload_n hx hb dX12_isSignOf_24 rfl (lv_at hl 0 rfl) ?_
          refine lv_bipush (v := 42) hx hb dX12_isSignOf_25 (by decide) (ti_c 42 (by decide) fun z6 hz6 => ?_)
          refine b_eq (tgt := 48) hx hb dX12_isSignOf_27 (by decide) (fun c27 => ?_) (fun c27 => ?_)
          · exact J48 ls s.heap [] (lv_sub hl [] rfl) hw hsz (by omega)
          · refine lv_iload_n hx hb dX12_isSignOf_30 rfl (lv_at hl 0 rfl) ?_
            refine lv_bipush (v := 47) hx hb dX12_isSignOf_31 (by decide) (ti_c 47 (by decide) fun z7 hz7 => ?_)
            refine b_eq (tgt := 48) hx hb dX12_isSignOf_33 (by decide) (fun c33 => ?_) (fun c33 => ?_)
            · exact J48 ls s.heap [] (lv_sub hl [] rfl) hw hsz (by omega)
            · refine lv_iload_n hx hb dX12_isSignOf_36 rfl (lv_at hl 0 rfl) ?_
              refine lv_bipush (v := 58) hx hb dX12_isSignOf_37 (by decide) (ti_c 58 (by decide) fun z8 hz8 => ?_)
              refine b_eq (tgt := 48) hx hb dX12_isSignOf_39 (by decide) (fun c39 => ?_) (fun c39 => ?_)
              · exact J48 ls s.heap [] (lv_sub hl [] rfl) hw hsz (by omega)
              · refine lv_iload_n hx hb dX12_isSignOf_42 rfl (lv_at hl 0 rfl) ?_
                refine lv_bipush (v := 36) hx hb dX12_isSignOf_43 (by decide) (ti_c 36 (by decide) fun z9 hz9 => ?_)
                refine b_ne (tgt := 52) hx hb dX12_isSignOf_45 (by decide) (fun c45 => ?_) (fun c45 => ?_)
                · refine lv_iconst (v := 0) hx hb dX12_isSignOf_52 (by decide) (ti_c 0 (by decide) fun z10 hz10 => ?_)
                  exact r_iret C hw hr hlk (nar_b (by omega)) (Nat.le_of_ble_eq_true rfl) (Nat.le_of_ble_eq_true rfl) dX12_isSignOf_53 ⟨rfl, rfl, rfl, rfl, hsz, ⟨_, rfl, Or.inr ⟨by omega, cS_f (by omega)⟩⟩⟩
                · exact J48 ls s.heap [] (lv_sub hl [] rfl) hw hsz (by omega)

set_option maxHeartbeats 4000000 in
set_option maxRecDepth 100000 in
theorem t_X12_cutAll {υ : Option Int} {τ : Tp} (l : Launch) (B : Nat) (D : va_G) (cA : Nat → ClassId) (kd : sK) (ig : sI) (rg : sR) (lg : sG) (sz : Nat)  (hI : IM τ none υ B kd ig rg) : MC l B D cA yX12_cutAll cX12_cutAll 7 none (rL 1 0 0) [.ref (B + 49)] kd ig rg lg sz (PM [] none υ B [49, 51, 52, 53] kd ig rg lg (fun r ig' lg' => (r = none ∧ (∃ N, PSt B N ig' ∧ (ig' (B + 49) 7).toInt = 0 ∧ (ig' (B + 49) 8).toInt = 0 ∧ MT B N τ ig' lg')))) := by
  refine MC.of (own := RX12) (by decide +kernel) rfl (Nat.le_of_ble_eq_true rfl) ?_
  intro p e s m args below meth c ls C hr hlk hnm hw hsz hl
  have hx := C.1.1
  have hb := C.1.2.1
  have hown := C.1.2.2.2.1
  have hts := C.1.2.2.2.2
  have hl : lv_has ls 7 [(0, .ref (B + 49))] := hl
  have hF : Ft B [49, 51, 52, 53] ig lg ig lg := Ft.rf
  have hsh := hI.sh
  have hrm := hI.rm
  have k2 : 0 ≤ (ig (B + 49) 2).toInt ∧ (ig (B + 49) 2).toInt ≤ 120 := hI.i 49 2 (by decide) (by decide)
  obtain ⟨hlm, hl9⟩ := hI.len
  have tpm := TPm.of hI
  refine lv_aload_n hx hb dX12_cutAll_0 rfl (lv_at hl 0 rfl) ?_
  refine lv_aload_n hx hb dX12_cutAll_1 rfl (lv_at hl 0 rfl) ?_
  refine r_get C hw (hsh 49 _ rfl) fl_X12_11 (oV_i rfl) dX12_cutAll_2 (ti_c (ig (B + 49) 2).toInt rfl fun z1 hz1 => ?_)
  have k2 : 0 ≤ (ig (B + 49) 2).toInt ∧ (ig (B + 49) 2).toInt ≤ 120 := hI.i 49 2 (by decide) (by decide)
  refine r_puti C hw (hsh 49 _ rfl) fl_X12_18 rfl rfl rfl dX12_cutAll_5 (fun H locs hH hw => ?_)
  obtain ⟨ig3, eig3⟩ : ∃ f, f = up2 ig (B + 49) 3 z1 := ⟨_, rfl⟩
  rw [← eig3] at hw
  have hF : Ft B [49, 51, 52, 53] ig lg ig3 lg := by rw [eig3]; exact hF.pi (by decide)
  have hI : IM τ none υ B kd ig3 rg := by rw [eig3]; exact hI.pi (by decide) (show okR none _ from trivial)
  have wig3_49_2 : (ig3 (B + 49) 2).toInt = (ig (B + 49) 2).toInt := by rw [eig3, up2_j (by decide)]
  have wig3 : (ig3 (B + 49) 3).toInt = z1.toInt := by rw [eig3, up2_eq]
  have wig3_49_7 : (ig3 (B + 49) 7).toInt = (ig (B + 49) 7).toInt := by rw [eig3, up2_j (by decide)]
  have wig3_49_8 : (ig3 (B + 49) 8).toInt = (ig (B + 49) 8).toInt := by rw [eig3, up2_j (by decide)]
  have tpm : TPm B τ ig3 := by rw [eig3]; exact tpm.wr (by decide)
  refine lv_aload_n hx hb dX12_cutAll_8 rfl (lv_at hl 0 rfl) ?_
  refine lv_iconst (v := 0) hx hb dX12_cutAll_9 (by decide) (ti_c 0 (by decide) fun z4 hz4 => ?_)
  refine r_puti C hw (hsh 49 _ rfl) fl_X12_11 rfl rfl rfl dX12_cutAll_10 (fun H locs hH hw => ?_)
  obtain ⟨ig5, eig5⟩ : ∃ f, f = up2 ig3 (B + 49) 2 z4 := ⟨_, rfl⟩
  rw [← eig5] at hw
  have hF : Ft B [49, 51, 52, 53] ig lg ig5 lg := by rw [eig5]; exact hF.pi (by decide)
  have hI : IM [] none υ B kd ig5 rg := by rw [eig5]; exact hI.clr (by omega)
  have wig5 : (ig5 (B + 49) 2).toInt = z4.toInt := by rw [eig5, up2_eq]
  have wig5_49_3 : (ig5 (B + 49) 3).toInt = (ig3 (B + 49) 3).toInt := by rw [eig5, up2_j (by decide)]
  have wig5_49_7 : (ig5 (B + 49) 7).toInt = (ig3 (B + 49) 7).toInt := by rw [eig5, up2_j (by decide)]
  have wig5_49_8 : (ig5 (B + 49) 8).toInt = (ig3 (B + 49) 8).toInt := by rw [eig5, up2_j (by decide)]
  have tpm : TPm B τ ig5 := by rw [eig5]; exact tpm.wr (by decide)
  refine lv_iconst (v := 0) hx hb dX12_cutAll_13 (by decide) (ti_c 0 (by decide) fun z6 hz6 => ?_)
  refine lv_istore_n (lv' := [(1, .int z6), (0, .ref (B + 49))]) hx hb dX12_cutAll_14 rfl hl (by decide) rfl (fun ls hl => ?_)
  refine lv_iconst (v := 0) hx hb dX12_cutAll_15 (by decide) (ti_c 0 (by decide) fun z7 hz7 => ?_)
  refine lv_istore_n (lv' := [(2, .int z7), (1, .int z6), (0, .ref (B + 49))]) hx hb dX12_cutAll_16 rfl hl (by decide) rfl (fun ls hl => ?_)
  have L17 : ∀ (n : Nat) (ls : Array Slot) (H : Heap) (locs : List Loc) (ig10 : sI) (lg11 : sG) (v8 : Int32) (v9 : Int32), lv_has ls 7 [(2, .int v8), (1, .int v9), (0, .ref (B + 49))] → WD B D cA s.heap kd ig10 rg lg11 H locs → IM [] none υ B kd ig10 rg → Ft B [49, 51, 52, 53] ig lg ig10 lg11 → (0 ≤ v9.toInt) → (v9.toInt ≤ v8.toInt) → (v8.toInt ≤ (ig (B + 49) 2).toInt) → ((ig10 (B + 49) 3).toInt = (ig (B + 49) 2).toInt) → (PLk B v9.toInt.toNat ig10) → (MCt B τ v8.toInt.toNat v9.toInt.toNat ig10 lg11) → (TPm B τ ig10) → (ig (B + 49) 2).toInt - v8.toInt < (n : Int) → W p l e (rL 1 0 0) s m args below meth c H locs 0 0 (MQ below (QcW B D cA (PM [] none υ B [49, 51, 52, 53] kd ig rg lg (fun r ig' lg' => (r = none ∧ (∃ N, PSt B N ig' ∧ (ig' (B + 49) 7).toInt = 0 ∧ (ig' (B + 49) 8).toInt = 0 ∧ MT B N τ ig' lg'))))) args s 0 0 (fun q => B ≤ q)) (F0 m 17 ls []) := by
    intro n17
    induction n17 with
    | zero => intro ls H locs ig10 lg11 v8 v9 hl hw hI hF g17_0 g17_1 g17_2 g17_3 g17_4 g17_5 g17_6 hmu; exact absurd hmu (by omega)
    | succ n17 ih17 =>
      intro ls H locs ig10 lg11 v8 v9 hl hw hI hF g17_0 g17_1 g17_2 g17_3 g17_4 g17_5 g17_6 hmu
      have mc := g17_5
      have tpm := g17_6
      refine lv_iload_n hx hb dX12_cutAll_17 rfl (lv_at hl 0 rfl) ?_
      refine lv_aload_n hx hb dX12_cutAll_18 rfl (lv_at hl 2 rfl) ?_
      refine r_get C hw (hsh 49 _ rfl) fl_X12_18 (oV_i rfl) dX12_cutAll_19 (ti_c (ig10 (B + 49) 3).toInt rfl fun z12 hz12 => ?_)
      refine b_ge (tgt := 274) hx hb dX12_cutAll_22 (by decide) (fun c22 => ?_) (fun c22 => ?_)
      · refine lv_aload_n hx hb dX12_cutAll_274 rfl (lv_at hl 2 rfl) ?_
        refine r_get C hw (hsh 49 _ rfl) fl_X12_32 (oV_r rfl (hrm (49, 4, 51) (by decide))) dX12_cutAll_275 ?_
        refine lv_iload_n hx hb dX12_cutAll_278 rfl (lv_at hl 1 rfl) ?_
        refine lv_iconst (v := 0) hx hb dX12_cutAll_279 (by decide) (ti_c 0 (by decide) fun z13 hz13 => ?_)
        refine r_iast C hw (hsh 51 _ rfl) (by omega) (by omega) dX12_cutAll_280 (fun H locs hH hw => ?_)
        obtain ⟨ig14, eig14⟩ : ∃ f, f = up2 ig10 (B + 51) v9.toInt.toNat z13 := ⟨_, rfl⟩
        rw [← eig14] at hw
        have hF : Ft B [49, 51, 52, 53] ig lg ig14 lg11 := by rw [eig14]; exact hF.pi (by decide)
        have hI : IM [] none υ B kd ig14 rg := by rw [eig14]; exact hI.pi (by decide) (show okR none _ from trivial)
        have wig14_49_2 : (ig14 (B + 49) 2).toInt = (ig10 (B + 49) 2).toInt := by rw [eig14, up2_a (by omega)]
        have wig14_49_3 : (ig14 (B + 49) 3).toInt = (ig10 (B + 49) 3).toInt := by rw [eig14, up2_a (by omega)]
        have wig14_49_7 : (ig14 (B + 49) 7).toInt = (ig10 (B + 49) 7).toInt := by rw [eig14, up2_a (by omega)]
        have wig14_49_8 : (ig14 (B + 49) 8).toInt = (ig10 (B + 49) 8).toInt := by rw [eig14, up2_a (by omega)]
        have s51 : (ig14 (B + 51) v9.toInt.toNat).toInt = 0 := by rw [eig14, up2_eq]; omega
        have pl : PLk B v9.toInt.toNat ig14 := by rw [eig14]; exact PLk.wr g17_4 (by decide)
        have sz9 : (ig14 (B + 49) 3).toInt = (ig (B + 49) 2).toInt := by rw [eig14, up2_c (by decide)]; omega
        have mc : MCt B τ v8.toInt.toNat v9.toInt.toNat ig14 lg11 := by rw [eig14]; exact mc.wr (Or.inr rfl)
        refine lv_aload_n hx hb dX12_cutAll_281 rfl (lv_at hl 2 rfl) ?_
        refine r_get C hw (hsh 49 _ rfl) fl_X12_21 (oV_r rfl (hrm (49, 5, 52) (by decide))) dX12_cutAll_282 ?_
        refine lv_iload_n hx hb dX12_cutAll_285 rfl (lv_at hl 1 rfl) ?_
        refine lv_aload_n hx hb dX12_cutAll_286 rfl (lv_at hl 2 rfl) ?_
        refine r_get C hw (hsh 49 _ rfl) fl_X12_18 (oV_i rfl) dX12_cutAll_287 (ti_c (ig14 (B + 49) 3).toInt rfl fun z15 hz15 => ?_)
        refine r_iast C hw (hsh 52 _ rfl) (by omega) (by omega) dX12_cutAll_290 (fun H locs hH hw => ?_)
        obtain ⟨ig16, eig16⟩ : ∃ f, f = up2 ig14 (B + 52) v9.toInt.toNat z15 := ⟨_, rfl⟩
        rw [← eig16] at hw
        have hF : Ft B [49, 51, 52, 53] ig lg ig16 lg11 := by rw [eig16]; exact hF.pi (by decide)
        have hI : IM [] none υ B kd ig16 rg := by rw [eig16]; exact hI.pi (by decide) (show okR none _ from trivial)
        have wig16_49_2 : (ig16 (B + 49) 2).toInt = (ig14 (B + 49) 2).toInt := by rw [eig16, up2_a (by omega)]
        have wig16_49_3 : (ig16 (B + 49) 3).toInt = (ig14 (B + 49) 3).toInt := by rw [eig16, up2_a (by omega)]
        have wig16_49_7 : (ig16 (B + 49) 7).toInt = (ig14 (B + 49) 7).toInt := by rw [eig16, up2_a (by omega)]
        have wig16_49_8 : (ig16 (B + 49) 8).toInt = (ig14 (B + 49) 8).toInt := by rw [eig16, up2_a (by omega)]
        have s51 : (ig16 (B + 51) v9.toInt.toNat).toInt = 0 := by rw [eig16, up2_c (by decide)]; exact s51
        have s52 : (ig16 (B + 52) v9.toInt.toNat).toInt = (v8.toInt.toNat : Int) := by rw [eig16, up2_eq]; omega
        have pl : PLk B (v9.toInt.toNat + 1) ig16 := by rw [eig16]; exact PLk.st pl rfl rfl ⟨by omega, by omega⟩
        have mc : MCt B τ v8.toInt.toNat v9.toInt.toNat ig16 lg11 := by rw [eig16]; exact mc.wr (Or.inr rfl)
        refine lv_aload_n hx hb dX12_cutAll_291 rfl (lv_at hl 2 rfl) ?_
        refine lv_iconst (v := 0) hx hb dX12_cutAll_292 (by decide) (ti_c 0 (by decide) fun z17 hz17 => ?_)
        refine r_puti C hw (hsh 49 _ rfl) fl_X12_49 rfl rfl rfl dX12_cutAll_293 (fun H locs hH hw => ?_)
        obtain ⟨ig18, eig18⟩ : ∃ f, f = up2 ig16 (B + 49) 7 z17 := ⟨_, rfl⟩
        rw [← eig18] at hw
        have hF : Ft B [49, 51, 52, 53] ig lg ig18 lg11 := by rw [eig18]; exact hF.pi (by decide)
        have hI : IM [] none υ B kd ig18 rg := by rw [eig18]; exact hI.pi (by decide) (show okR none _ from trivial)
        have wig18_49_2 : (ig18 (B + 49) 2).toInt = (ig16 (B + 49) 2).toInt := by rw [eig18, up2_j (by decide)]
        have wig18_49_3 : (ig18 (B + 49) 3).toInt = (ig16 (B + 49) 3).toInt := by rw [eig18, up2_j (by decide)]
        have wig18 : (ig18 (B + 49) 7).toInt = z17.toInt := by rw [eig18, up2_eq]
        have wig18_49_8 : (ig18 (B + 49) 8).toInt = (ig16 (B + 49) 8).toInt := by rw [eig18, up2_j (by decide)]
        have s51 : (ig18 (B + 51) v9.toInt.toNat).toInt = 0 := by rw [eig18, up2_c (by decide)]; exact s51
        have s52 : (ig18 (B + 52) v9.toInt.toNat).toInt = (v8.toInt.toNat : Int) := by rw [eig18, up2_c (by decide)]; exact s52
        have pl : PLk B (v9.toInt.toNat + 1) ig18 := by rw [eig18]; exact PLk.wr pl (by decide)
        have mc : MCt B τ v8.toInt.toNat v9.toInt.toNat ig18 lg11 := by rw [eig18]; exact mc.wr (Or.inl (by decide))
        refine lv_aload_n hx hb dX12_cutAll_296 rfl (lv_at hl 2 rfl) ?_
        refine lv_iconst (v := 0) hx hb dX12_cutAll_297 (by decide) (ti_c 0 (by decide) fun z19 hz19 => ?_)
        refine r_puti C hw (hsh 49 _ rfl) fl_X12_52 rfl rfl rfl dX12_cutAll_298 (fun H locs hH hw => ?_)
        obtain ⟨ig20, eig20⟩ : ∃ f, f = up2 ig18 (B + 49) 8 z19 := ⟨_, rfl⟩
        rw [← eig20] at hw
        have hF : Ft B [49, 51, 52, 53] ig lg ig20 lg11 := by rw [eig20]; exact hF.pi (by decide)
        have hI : IM [] none υ B kd ig20 rg := by rw [eig20]; exact hI.pi (by decide) (show okR none _ from trivial)
        have wig20_49_2 : (ig20 (B + 49) 2).toInt = (ig18 (B + 49) 2).toInt := by rw [eig20, up2_j (by decide)]
        have wig20_49_3 : (ig20 (B + 49) 3).toInt = (ig18 (B + 49) 3).toInt := by rw [eig20, up2_j (by decide)]
        have wig20_49_7 : (ig20 (B + 49) 7).toInt = (ig18 (B + 49) 7).toInt := by rw [eig20, up2_j (by decide)]
        have wig20 : (ig20 (B + 49) 8).toInt = z19.toInt := by rw [eig20, up2_eq]
        have s51 : (ig20 (B + 51) v9.toInt.toNat).toInt = 0 := by rw [eig20, up2_c (by decide)]; exact s51
        have s52 : (ig20 (B + 52) v9.toInt.toNat).toInt = (v8.toInt.toNat : Int) := by rw [eig20, up2_c (by decide)]; exact s52
        have pl : PLk B (v9.toInt.toNat + 1) ig20 := by rw [eig20]; exact PLk.wr pl (by decide)
        have mc : MCt B τ v8.toInt.toNat v9.toInt.toNat ig20 lg11 := by rw [eig20]; exact mc.wr (Or.inl (by decide))
        exact r_vret C hw hr hlk (Nat.le_of_ble_eq_true rfl) (Nat.le_of_ble_eq_true rfl) dX12_cutAll_301 ⟨rfl, rfl, hI, hF, ⟨rfl, ⟨_, PSt.of (by omega) s51 pl, by omega, by omega, mc.fin (by omega) s51 s52⟩⟩⟩
      · refine lv_aload_n hx hb dX12_cutAll_25 rfl (lv_at hl 2 rfl) ?_
        refine r_get C hw (hsh 49 _ rfl) fl_X12_14 (oV_r rfl (hrm (49, 1, 50) (by decide))) dX12_cutAll_26 ?_
        refine lv_iload_n hx hb dX12_cutAll_29 rfl (lv_at hl 0 rfl) ?_
        refine r_iald C hw (hsh 50 _ rfl) (by omega) (by omega) dX12_cutAll_30 (ti_c (ig10 (B + 50) v8.toInt.toNat).toInt rfl fun z21 hz21 => ?_)
        have hch9 : z21.toInt = ch τ v8.toInt.toNat := by rw [hz21]; exact tpm _ (by omega)
        refine lv_istore_n (lv' := [(3, .int z21), (2, .int v8), (1, .int v9), (0, .ref (B + 49))]) hx hb dX12_cutAll_31 rfl hl (by decide) rfl (fun ls hl => ?_)
        refine lv_iload_n hx hb dX12_cutAll_32 rfl (lv_at hl 0 rfl) ?_
        refine lv_bipush (v := 32) hx hb dX12_cutAll_33 (by decide) (ti_c 32 (by decide) fun z23 hz23 => ?_)
        refine b_ne (tgt := 44) hx hb dX12_cutAll_35 (by decide) (fun c35 => ?_) (fun c35 => ?_)
        · have hil : v8.toInt.toNat < τ.length := by omega
          have hch0 : z21.toInt = ch τ v8.toInt.toNat := by rw [hz21]; exact tpm _ (by omega)
          have hnb : ch τ v8.toInt.toNat ≠ 32 := by omega
          refine lv_iload_n hx hb dX12_cutAll_44 rfl (lv_at hl 1 rfl) ?_
          refine lv_istore (lv' := [(4, .int v8), (3, .int z21), (2, .int v8), (1, .int v9), (0, .ref (B + 49))]) hx hb dX12_cutAll_45 hl (by decide) rfl (fun ls hl => ?_)
          refine lv_lconst (v := 0) hx hb dX12_cutAll_47 (by decide) (lv_topl fun x24 hx24 => ?_)
          refine lv_lstore (lv' := [(5, .long x24), (4, .int v8), (3, .int z21), (2, .int v8), (1, .int v9), (0, .ref (B + 49))]) hx hb dX12_cutAll_48 hl (by decide) rfl (fun ls hl => ?_)
          refine lv_aload_n hx hb dX12_cutAll_50 rfl (lv_at hl 5 rfl) ?_
          refine r_get C hw (hsh 49 _ rfl) fl_X12_21 (oV_r rfl (hrm (49, 5, 52) (by decide))) dX12_cutAll_51 ?_
          refine lv_iload_n hx hb dX12_cutAll_54 rfl (lv_at hl 4 rfl) ?_
          refine lv_iload_n hx hb dX12_cutAll_55 rfl (lv_at hl 3 rfl) ?_
          refine r_iast C hw (hsh 52 _ rfl) (by omega) (by omega) dX12_cutAll_56 (fun H locs hH hw => ?_)
          obtain ⟨ig25, eig25⟩ : ∃ f, f = up2 ig10 (B + 52) v9.toInt.toNat v8 := ⟨_, rfl⟩
          rw [← eig25] at hw
          have hF : Ft B [49, 51, 52, 53] ig lg ig25 lg11 := by rw [eig25]; exact hF.pi (by decide)
          have hI : IM [] none υ B kd ig25 rg := by rw [eig25]; exact hI.pi (by decide) (show okR none _ from trivial)
          have wig25_49_2 : (ig25 (B + 49) 2).toInt = (ig10 (B + 49) 2).toInt := by rw [eig25, up2_a (by omega)]
          have wig25_49_3 : (ig25 (B + 49) 3).toInt = (ig10 (B + 49) 3).toInt := by rw [eig25, up2_a (by omega)]
          have wig25_49_7 : (ig25 (B + 49) 7).toInt = (ig10 (B + 49) 7).toInt := by rw [eig25, up2_a (by omega)]
          have wig25_49_8 : (ig25 (B + 49) 8).toInt = (ig10 (B + 49) 8).toInt := by rw [eig25, up2_a (by omega)]
          have tp : (ig25 (B + 50) v8.toInt.toNat).toInt = z21.toInt := by rw [eig25, up2_c (by decide)]; omega
          have pl : PLk B (v9.toInt.toNat + 1) ig25 := by rw [eig25]; exact PLk.st g17_4 rfl rfl ⟨by omega, by omega⟩
          have mc : MCt B τ v8.toInt.toNat v9.toInt.toNat ig25 lg11 := by rw [eig25]; exact mc.wr (Or.inr rfl)
          have tpm : TPm B τ ig25 := by rw [eig25]; exact tpm.wr (by decide)
          have pc : (ig25 (B + 52) v9.toInt.toNat).toInt = (v8.toInt.toNat : Int) := by rw [eig25, up2_eq]; omega
          have hc3 : z21.toInt = ch τ v8.toInt.toNat := by omega
          refine lv_iload_n hx hb dX12_cutAll_57 rfl (lv_at hl 2 rfl) ?_
          refine r_callS (As := [.int z21]) (rest := []) C hw (t_X12_isLetter2 l B D cA kd ig25 rg lg11 _ z21  hI) ss_X12_24 rfl hl.1 rfl (Nat.le_of_ble_eq_true rfl) ⟨Nat.le_of_ble_eq_true rfl, Nat.le_of_ble_eq_true rfl⟩ ⟨Nat.le_of_ble_eq_true rfl, Nat.le_of_ble_eq_true rfl⟩ dX12_cutAll_58 (fun r30 kd26 ig27 rg28 lg29 H locs hw hH hp31 => ?_)
          obtain ⟨rfl, rfl, rfl, rfl, hzhp31, hrhp31⟩ := hp31
          obtain ⟨z32, rfl, hz32⟩ := hrhp31
          have J260 : ∀ (ls : Array Slot) (H : Heap) (locs : List Loc) (ig35 : sI) (lg36 : sG) (v33 : Int64) (v34 : Int32), lv_has ls 7 [(5, .long v33), (2, .int v34), (1, .int v9), (0, .ref (B + 49))] → WD B D cA s.heap kd ig35 rg lg36 H locs → IM [] none υ B kd ig35 rg → Ft B [49, 51, 52, 53] ig lg ig35 lg36 → (0 ≤ v9.toInt) → (v9.toInt < v34.toInt) → (v34.toInt ≤ (ig (B + 49) 2).toInt) → ((ig35 (B + 49) 3).toInt = (ig (B + 49) 2).toInt) → (PLk B (v9.toInt.toNat + 1) ig35) → (v8.toInt < v34.toInt) → (MCt B τ v8.toInt.toNat v9.toInt.toNat ig35 lg36) → (TPm B τ ig35) → ((ig35 (B + 52) v9.toInt.toNat).toInt = (v8.toInt.toNat : Int)) → (mtk (ig35 (B + 51) v9.toInt.toNat).toInt v33.toInt (kAt τ v8.toInt.toNat) (vAt τ v8.toInt.toNat)) → (v34.toInt = (tE τ v8.toInt.toNat : Int)) → W p l e (rL 1 0 0) s m args below meth c H locs 0 0 (MQ below (QcW B D cA (PM [] none υ B [49, 51, 52, 53] kd ig rg lg (fun r ig' lg' => (r = none ∧ (∃ N, PSt B N ig' ∧ (ig' (B + 49) 7).toInt = 0 ∧ (ig' (B + 49) 8).toInt = 0 ∧ MT B N τ ig' lg'))))) args s 0 0 (fun q => B ≤ q)) (F0 m 260 ls []) := by
            intro ls H locs ig35 lg36 v33 v34 hl hw hI hF g260_0 g260_1 g260_2 g260_3 g260_4 g260_5 g260_6 g260_7 g260_8 g260_9 g260_10
            have pl := g260_4
            have mc := g260_6
            have tpm := g260_7
            have pc := g260_8
            have mk := g260_9
            have te := g260_10
            refine lv_aload_n hx hb dX12_cutAll_260 rfl (lv_at hl 3 rfl) ?_
            refine r_get C hw (hsh 49 _ rfl) fl_X12_45 (oV_r rfl (hrm (49, 6, 53) (by decide))) dX12_cutAll_261 ?_
            refine lv_iload_n hx hb dX12_cutAll_264 rfl (lv_at hl 2 rfl) ?_
            refine lv_lload hx hb dX12_cutAll_265 (lv_at hl 0 rfl) ?_
            refine r_last C hw (hsh 53 _ rfl) (by omega) (by omega) dX12_cutAll_267 (fun H locs hH hw => ?_)
            obtain ⟨lg37, elg37⟩ : ∃ f, f = up2 lg36 (B + 53) v9.toInt.toNat v33 := ⟨_, rfl⟩
            rw [← elg37] at hw
            have hF : Ft B [49, 51, 52, 53] ig lg ig35 lg37 := by rw [elg37]; exact hF.pl (by decide)
            have mc : MCt B τ v8.toInt.toNat v9.toInt.toNat ig35 lg37 := by rw [elg37]; exact mc.wl rfl
            have mk : mtk (ig35 (B + 51) v9.toInt.toNat).toInt (lg37 (B + 53) v9.toInt.toNat).toInt (kAt τ v8.toInt.toNat) (vAt τ v8.toInt.toNat) := by rw [elg37, up2_eq]; exact mk
            have mc2 := mc.tok hl9 hil hnb mk pc
            refine tc_inc hx hb dX12_cutAll_268 hl (k := 2) rfl (by decide) (by decide) (fun z38 hz38 ls hl => ?_)
            first | replace hz38 := hz38 (by omega) | clear hz38
            have hl : lv_has ls 7 [(1, .int z38), (5, .long v33), (2, .int v34), (0, .ref (B + 49))] := hl
            refine lv_goto (tgt := 17) hx hb dX12_cutAll_271 (by decide) ?_
            exact ih17 ls H locs ig35 lg37 v34 z38 (lv_sub hl [2, 0, 3] rfl) hw hI hF (by omega) (by omega) (by omega) (by omega) (PLk.eq pl (by omega)) (MCt.eq mc2 (by omega) (by omega)) (tpm) (by omega)
          refine z_eq (tgt := 145) hx hb dX12_cutAll_61 (by decide) (fun c61 => ?_) (fun c61 => ?_)
          · have hcl : cL (ch τ v8.toInt.toNat) = false := cL_f (by omega)
            refine lv_iload_n hx hb dX12_cutAll_145 rfl (lv_at hl 2 rfl) ?_
            refine r_callS (As := [.int z21]) (rest := []) C hw (t_X12_isDigit2 l B D cA kd ig25 rg lg11 _ z21  hI) ss_X12_35 rfl hl.1 rfl (Nat.le_of_ble_eq_true rfl) ⟨Nat.le_of_ble_eq_true rfl, Nat.le_of_ble_eq_true rfl⟩ ⟨Nat.le_of_ble_eq_true rfl, Nat.le_of_ble_eq_true rfl⟩ dX12_cutAll_146 (fun r43 kd39 ig40 rg41 lg42 H locs hw hH hp44 => ?_)
            obtain ⟨rfl, rfl, rfl, rfl, hzhp44, hrhp44⟩ := hp44
            obtain ⟨z45, rfl, hz45⟩ := hrhp44
            refine z_eq (tgt := 235) hx hb dX12_cutAll_149 (by decide) (fun c149 => ?_) (fun c149 => ?_)
            · have hcd : cD (ch τ v8.toInt.toNat) = false := cD_f (by omega)
              refine lv_iload_n hx hb dX12_cutAll_235 rfl (lv_at hl 2 rfl) ?_
              refine lv_i2l hx hb dX12_cutAll_236 rfl (lv_topl fun x46 hx46 => ?_)
              have vc : x46.toInt = ch τ v8.toInt.toNat := by rw [hx46, Int32.toInt_toInt64]; omega
              refine lv_lstore (lv' := [(5, .long x46), (4, .int v8), (3, .int z21), (2, .int v8), (1, .int v9), (0, .ref (B + 49))]) hx hb dX12_cutAll_237 hl (by decide) rfl (fun ls hl => ?_)
              refine lv_aload_n hx hb dX12_cutAll_239 rfl (lv_at hl 5 rfl) ?_
              refine r_get C hw (hsh 49 _ rfl) fl_X12_32 (oV_r rfl (hrm (49, 4, 51) (by decide))) dX12_cutAll_240 ?_
              refine lv_iload_n hx hb dX12_cutAll_243 rfl (lv_at hl 4 rfl) ?_
              refine lv_iload_n hx hb dX12_cutAll_244 rfl (lv_at hl 2 rfl) ?_
              refine r_callS (As := [.int z21]) (rest := [.int v9, .ref (B + 51)]) C hw (t_X12_isSignOf2 l B D cA kd ig25 rg lg11 _ z21  hI) ss_X12_42 rfl hl.1 rfl (Nat.le_of_ble_eq_true rfl) ⟨Nat.le_of_ble_eq_true rfl, Nat.le_of_ble_eq_true rfl⟩ ⟨Nat.le_of_ble_eq_true rfl, Nat.le_of_ble_eq_true rfl⟩ dX12_cutAll_245 (fun r51 kd47 ig48 rg49 lg50 H locs hw hH hp52 => ?_)
              obtain ⟨rfl, rfl, rfl, rfl, hzhp52, hrhp52⟩ := hp52
              obtain ⟨z53, rfl, hz53⟩ := hrhp52
              have hcs9 := hz53
              refine z_eq (tgt := 255) hx hb dX12_cutAll_248 (by decide) (fun c248 => ?_) (fun c248 => ?_)
              · have hcs : cS (ch τ v8.toInt.toNat) = false := (by rcases hcs9 with ⟨w, -⟩ | ⟨-, w⟩; omega; rw [← hch0]; exact w)
                refine lv_iconst (v := 4) hx hb dX12_cutAll_255 (by decide) (ti_c 4 (by decide) fun z54 hz54 => ?_)
                refine r_iast C hw (hsh 51 _ rfl) (by omega) (by omega) dX12_cutAll_256 (fun H locs hH hw => ?_)
                obtain ⟨ig55, eig55⟩ : ∃ f, f = up2 ig25 (B + 51) v9.toInt.toNat z54 := ⟨_, rfl⟩
                rw [← eig55] at hw
                have hF : Ft B [49, 51, 52, 53] ig lg ig55 lg11 := by rw [eig55]; exact hF.pi (by decide)
                have hI : IM [] none υ B kd ig55 rg := by rw [eig55]; exact hI.pi (by decide) (show okR none _ from trivial)
                have wig55_49_2 : (ig55 (B + 49) 2).toInt = (ig25 (B + 49) 2).toInt := by rw [eig55, up2_a (by omega)]
                have wig55_49_3 : (ig55 (B + 49) 3).toInt = (ig25 (B + 49) 3).toInt := by rw [eig55, up2_a (by omega)]
                have wig55_49_7 : (ig55 (B + 49) 7).toInt = (ig25 (B + 49) 7).toInt := by rw [eig55, up2_a (by omega)]
                have wig55_49_8 : (ig55 (B + 49) 8).toInt = (ig25 (B + 49) 8).toInt := by rw [eig55, up2_a (by omega)]
                have pl : PLk B (v9.toInt.toNat + 1) ig55 := by rw [eig55]; exact PLk.wr pl (by decide)
                have mc : MCt B τ v8.toInt.toNat v9.toInt.toNat ig55 lg11 := by rw [eig55]; exact mc.wr (Or.inr rfl)
                have tpm : TPm B τ ig55 := by rw [eig55]; exact tpm.wr (by decide)
                have pc : (ig55 (B + 52) v9.toInt.toNat).toInt = (v8.toInt.toNat : Int) := by rw [eig55, up2_c (by decide)]; exact pc
                have so : (ig55 (B + 51) v9.toInt.toNat).toInt = z54.toInt := by rw [eig55, up2_eq]
                have mk : mtk (ig55 (B + 51) v9.toInt.toNat).toInt x46.toInt (kAt τ v8.toInt.toNat) (vAt τ v8.toInt.toNat) := by rw [so, show z54.toInt = 4 by omega]; exact mtk_b (kAt_o hil hcl hcd hcs)
                refine tc_inc hx hb dX12_cutAll_257 hl (k := 3) rfl (by decide) (by decide) (fun z56 hz56 ls hl => ?_)
                first | replace hz56 := hz56 (by omega) | clear hz56
                have hl : lv_has ls 7 [(2, .int z56), (5, .long x46), (4, .int v8), (3, .int z21), (1, .int v9), (0, .ref (B + 49))] := hl
                exact J260 ls H locs ig55 lg11 x46 z56 (lv_sub hl [1, 0, 4, 5] rfl) hw hI hF (by omega) (by omega) (by omega) (by omega) (pl) (by omega) (mc) (tpm) (pc) (mk) (by rw [tE_N hcl hcd]; omega)
              · have hcs : cS (ch τ v8.toInt.toNat) = true := (by rcases hcs9 with ⟨-, w⟩ | ⟨w, -⟩; rw [← hch0]; exact w; omega)
                refine lv_iconst (v := 3) hx hb dX12_cutAll_251 (by decide) (ti_c 3 (by decide) fun z57 hz57 => ?_)
                refine lv_goto (tgt := 256) hx hb dX12_cutAll_252 (by decide) ?_
                refine r_iast C hw (hsh 51 _ rfl) (by omega) (by omega) dX12_cutAll_256 (fun H locs hH hw => ?_)
                obtain ⟨ig58, eig58⟩ : ∃ f, f = up2 ig25 (B + 51) v9.toInt.toNat z57 := ⟨_, rfl⟩
                rw [← eig58] at hw
                have hF : Ft B [49, 51, 52, 53] ig lg ig58 lg11 := by rw [eig58]; exact hF.pi (by decide)
                have hI : IM [] none υ B kd ig58 rg := by rw [eig58]; exact hI.pi (by decide) (show okR none _ from trivial)
                have wig58_49_2 : (ig58 (B + 49) 2).toInt = (ig25 (B + 49) 2).toInt := by rw [eig58, up2_a (by omega)]
                have wig58_49_3 : (ig58 (B + 49) 3).toInt = (ig25 (B + 49) 3).toInt := by rw [eig58, up2_a (by omega)]
                have wig58_49_7 : (ig58 (B + 49) 7).toInt = (ig25 (B + 49) 7).toInt := by rw [eig58, up2_a (by omega)]
                have wig58_49_8 : (ig58 (B + 49) 8).toInt = (ig25 (B + 49) 8).toInt := by rw [eig58, up2_a (by omega)]
                have pl : PLk B (v9.toInt.toNat + 1) ig58 := by rw [eig58]; exact PLk.wr pl (by decide)
                have mc : MCt B τ v8.toInt.toNat v9.toInt.toNat ig58 lg11 := by rw [eig58]; exact mc.wr (Or.inr rfl)
                have tpm : TPm B τ ig58 := by rw [eig58]; exact tpm.wr (by decide)
                have pc : (ig58 (B + 52) v9.toInt.toNat).toInt = (v8.toInt.toNat : Int) := by rw [eig58, up2_c (by decide)]; exact pc
                have so : (ig58 (B + 51) v9.toInt.toNat).toInt = z57.toInt := by rw [eig58, up2_eq]
                have mk : mtk (ig58 (B + 51) v9.toInt.toNat).toInt x46.toInt (kAt τ v8.toInt.toNat) (vAt τ v8.toInt.toNat) := by rw [so, show z57.toInt = 3 by omega, vc]; exact mtk_s hil hcl hcd hcs
                refine tc_inc hx hb dX12_cutAll_257 hl (k := 3) rfl (by decide) (by decide) (fun z59 hz59 ls hl => ?_)
                first | replace hz59 := hz59 (by omega) | clear hz59
                have hl : lv_has ls 7 [(2, .int z59), (5, .long x46), (4, .int v8), (3, .int z21), (1, .int v9), (0, .ref (B + 49))] := hl
                exact J260 ls H locs ig58 lg11 x46 z59 (lv_sub hl [1, 0, 4, 5] rfl) hw hI hF (by omega) (by omega) (by omega) (by omega) (pl) (by omega) (mc) (tpm) (pc) (mk) (by rw [tE_N hcl hcd]; omega)
            · have L152 : ∀ (n : Nat) (ls : Array Slot) (H : Heap) (locs : List Loc) (ig62 : sI) (lg63 : sG) (v60 : Int64) (v61 : Int32), lv_has ls 7 [(5, .long v60), (4, .int v8), (2, .int v61), (1, .int v9), (0, .ref (B + 49))] → WD B D cA s.heap kd ig62 rg lg63 H locs → IM [] none υ B kd ig62 rg → Ft B [49, 51, 52, 53] ig lg ig62 lg63 → (0 ≤ v9.toInt) → (v9.toInt ≤ v8.toInt) → (v8.toInt ≤ v61.toInt) → (v61.toInt ≤ (ig (B + 49) 2).toInt) → (v8.toInt < (ig (B + 49) 2).toInt) → ((ig62 (B + 49) 3).toInt = (ig (B + 49) 2).toInt) → (PLk B (v9.toInt.toNat + 1) ig62) → (v8.toInt < v61.toInt ∨ (48 ≤ (ig62 (B + 50) v61.toInt.toNat).toInt ∧ (ig62 (B + 50) v61.toInt.toNat).toInt ≤ 57)) → (v8.toInt = v8.toInt) → (MCt B τ v8.toInt.toNat v9.toInt.toNat ig62 lg63) → (TPm B τ ig62) → ((ig62 (B + 52) v9.toInt.toNat).toInt = (v8.toInt.toNat : Int)) → (Rn cD τ v8.toInt.toNat v61.toInt.toNat) → (v60.toInt = dv τ v8.toInt.toNat (min (v61.toInt.toNat - v8.toInt.toNat) 6)) → (ig (B + 49) 2).toInt - v61.toInt < (n : Int) → W p l e (rL 1 0 0) s m args below meth c H locs 0 0 (MQ below (QcW B D cA (PM [] none υ B [49, 51, 52, 53] kd ig rg lg (fun r ig' lg' => (r = none ∧ (∃ N, PSt B N ig' ∧ (ig' (B + 49) 7).toInt = 0 ∧ (ig' (B + 49) 8).toInt = 0 ∧ MT B N τ ig' lg'))))) args s 0 0 (fun q => B ≤ q)) (F0 m 152 ls []) := by
                intro n152
                induction n152 with
                | zero => intro ls H locs ig62 lg63 v60 v61 hl hw hI hF g152_0 g152_1 g152_2 g152_3 g152_4 g152_5 g152_6 g152_7 g152_8 g152_9 g152_10 g152_11 g152_12 g152_13 hmu; exact absurd hmu (by omega)
                | succ n152 ih152 =>
                  intro ls H locs ig62 lg63 v60 v61 hl hw hI hF g152_0 g152_1 g152_2 g152_3 g152_4 g152_5 g152_6 g152_7 g152_8 g152_9 g152_10 g152_11 g152_12 g152_13 hmu
                  have pl := g152_6
                  have mc := g152_9
                  have tpm := g152_10
                  have pc := g152_11
                  have rn := g152_12
                  have vq := g152_13
                  have hcd : cD (ch τ v8.toInt.toNat) = true := cD_t (by omega)
                  refine lv_iload_n hx hb dX12_cutAll_152 rfl (lv_at hl 2 rfl) ?_
                  refine lv_aload_n hx hb dX12_cutAll_153 rfl (lv_at hl 4 rfl) ?_
                  refine r_get C hw (hsh 49 _ rfl) fl_X12_18 (oV_i rfl) dX12_cutAll_154 (ti_c (ig62 (B + 49) 3).toInt rfl fun z64 hz64 => ?_)
                  refine b_ge (tgt := 212) hx hb dX12_cutAll_157 (by decide) (fun c157 => ?_) (fun c157 => ?_)
                  · refine lv_aload_n hx hb dX12_cutAll_212 rfl (lv_at hl 4 rfl) ?_
                    refine r_get C hw (hsh 49 _ rfl) fl_X12_32 (oV_r rfl (hrm (49, 4, 51) (by decide))) dX12_cutAll_213 ?_
                    refine lv_iload_n hx hb dX12_cutAll_216 rfl (lv_at hl 3 rfl) ?_
                    refine lv_iload_n hx hb dX12_cutAll_217 rfl (lv_at hl 2 rfl) ?_
                    refine lv_iload hx hb dX12_cutAll_218 (lv_at hl 1 rfl) ?_
                    refine lv_isub hx hb dX12_cutAll_220 (tc_sub fun z65 hz65 => ?_)
                    first | replace hz65 := hz65 (by omega) | clear hz65
                    refine lv_bipush (v := 6) hx hb dX12_cutAll_221 (by decide) (ti_c 6 (by decide) fun z66 hz66 => ?_)
                    refine b_le (tgt := 230) hx hb dX12_cutAll_223 (by decide) (fun c223 => ?_) (fun c223 => ?_)
                    · refine lv_iconst (v := 2) hx hb dX12_cutAll_230 (by decide) (ti_c 2 (by decide) fun z67 hz67 => ?_)
                      refine r_iast C hw (hsh 51 _ rfl) (by omega) (by omega) dX12_cutAll_231 (fun H locs hH hw => ?_)
                      obtain ⟨ig68, eig68⟩ : ∃ f, f = up2 ig62 (B + 51) v9.toInt.toNat z67 := ⟨_, rfl⟩
                      rw [← eig68] at hw
                      have hF : Ft B [49, 51, 52, 53] ig lg ig68 lg63 := by rw [eig68]; exact hF.pi (by decide)
                      have hI : IM [] none υ B kd ig68 rg := by rw [eig68]; exact hI.pi (by decide) (show okR none _ from trivial)
                      have wig68_49_2 : (ig68 (B + 49) 2).toInt = (ig62 (B + 49) 2).toInt := by rw [eig68, up2_a (by omega)]
                      have wig68_49_3 : (ig68 (B + 49) 3).toInt = (ig62 (B + 49) 3).toInt := by rw [eig68, up2_a (by omega)]
                      have wig68_49_7 : (ig68 (B + 49) 7).toInt = (ig62 (B + 49) 7).toInt := by rw [eig68, up2_a (by omega)]
                      have wig68_49_8 : (ig68 (B + 49) 8).toInt = (ig62 (B + 49) 8).toInt := by rw [eig68, up2_a (by omega)]
                      have pl : PLk B (v9.toInt.toNat + 1) ig68 := by rw [eig68]; exact PLk.wr pl (by decide)
                      have mc : MCt B τ v8.toInt.toNat v9.toInt.toNat ig68 lg63 := by rw [eig68]; exact mc.wr (Or.inr rfl)
                      have tpm : TPm B τ ig68 := by rw [eig68]; exact tpm.wr (by decide)
                      have pc : (ig68 (B + 52) v9.toInt.toNat).toInt = (v8.toInt.toNat : Int) := by rw [eig68, up2_c (by decide)]; exact pc
                      have so : (ig68 (B + 51) v9.toInt.toNat).toInt = z67.toInt := by rw [eig68, up2_eq]
                      have te : v61.toInt = (tE τ v8.toInt.toNat : Int) := by rw [tE_D hcl hcd rn (by first | exact cD_f (by omega) | (rw [ch_out (by omega)]; rfl)) (by omega)]; omega
                      have mk : mtk (ig68 (B + 51) v9.toInt.toNat).toInt v60.toInt (kAt τ v8.toInt.toNat) (vAt τ v8.toInt.toNat) := by
                        have w := mtk_n hl9 hil hcl hcd (by omega)
                        rw [so, show z67.toInt = 2 by omega, vq, show min (v61.toInt.toNat - v8.toInt.toNat) 6 = tE τ v8.toInt.toNat - v8.toInt.toNat by omega]
                        exact w
                      refine lv_goto (tgt := 260) hx hb dX12_cutAll_232 (by decide) ?_
                      exact J260 ls H locs ig68 lg63 v60 v61 (lv_sub hl [0, 2, 3, 4] rfl) hw hI hF (by omega) (by omega) (by omega) (by omega) (pl) (by omega) (mc) (tpm) (pc) (mk) (te)
                    · refine lv_iconst (v := 4) hx hb dX12_cutAll_226 (by decide) (ti_c 4 (by decide) fun z69 hz69 => ?_)
                      refine lv_goto (tgt := 231) hx hb dX12_cutAll_227 (by decide) ?_
                      refine r_iast C hw (hsh 51 _ rfl) (by omega) (by omega) dX12_cutAll_231 (fun H locs hH hw => ?_)
                      obtain ⟨ig70, eig70⟩ : ∃ f, f = up2 ig62 (B + 51) v9.toInt.toNat z69 := ⟨_, rfl⟩
                      rw [← eig70] at hw
                      have hF : Ft B [49, 51, 52, 53] ig lg ig70 lg63 := by rw [eig70]; exact hF.pi (by decide)
                      have hI : IM [] none υ B kd ig70 rg := by rw [eig70]; exact hI.pi (by decide) (show okR none _ from trivial)
                      have wig70_49_2 : (ig70 (B + 49) 2).toInt = (ig62 (B + 49) 2).toInt := by rw [eig70, up2_a (by omega)]
                      have wig70_49_3 : (ig70 (B + 49) 3).toInt = (ig62 (B + 49) 3).toInt := by rw [eig70, up2_a (by omega)]
                      have wig70_49_7 : (ig70 (B + 49) 7).toInt = (ig62 (B + 49) 7).toInt := by rw [eig70, up2_a (by omega)]
                      have wig70_49_8 : (ig70 (B + 49) 8).toInt = (ig62 (B + 49) 8).toInt := by rw [eig70, up2_a (by omega)]
                      have pl : PLk B (v9.toInt.toNat + 1) ig70 := by rw [eig70]; exact PLk.wr pl (by decide)
                      have mc : MCt B τ v8.toInt.toNat v9.toInt.toNat ig70 lg63 := by rw [eig70]; exact mc.wr (Or.inr rfl)
                      have tpm : TPm B τ ig70 := by rw [eig70]; exact tpm.wr (by decide)
                      have pc : (ig70 (B + 52) v9.toInt.toNat).toInt = (v8.toInt.toNat : Int) := by rw [eig70, up2_c (by decide)]; exact pc
                      have so : (ig70 (B + 51) v9.toInt.toNat).toInt = z69.toInt := by rw [eig70, up2_eq]
                      have te : v61.toInt = (tE τ v8.toInt.toNat : Int) := by rw [tE_D hcl hcd rn (by first | exact cD_f (by omega) | (rw [ch_out (by omega)]; rfl)) (by omega)]; omega
                      have mk : mtk (ig70 (B + 51) v9.toInt.toNat).toInt v60.toInt (kAt τ v8.toInt.toNat) (vAt τ v8.toInt.toNat) := by rw [so, show z69.toInt = 4 by omega]; exact mtk_b (kAt_nb hil hcl hcd (by omega))
                      refine lv_goto (tgt := 260) hx hb dX12_cutAll_232 (by decide) ?_
                      exact J260 ls H locs ig70 lg63 v60 v61 (lv_sub hl [0, 2, 3, 4] rfl) hw hI hF (by omega) (by omega) (by omega) (by omega) (pl) (by omega) (mc) (tpm) (pc) (mk) (te)
                  · refine lv_aload_n hx hb dX12_cutAll_160 rfl (lv_at hl 4 rfl) ?_
                    refine r_get C hw (hsh 49 _ rfl) fl_X12_14 (oV_r rfl (hrm (49, 1, 50) (by decide))) dX12_cutAll_161 ?_
                    refine lv_iload_n hx hb dX12_cutAll_164 rfl (lv_at hl 2 rfl) ?_
                    refine r_iald C hw (hsh 50 _ rfl) (by omega) (by omega) dX12_cutAll_165 (ti_c (ig62 (B + 50) v61.toInt.toNat).toInt rfl fun z71 hz71 => ?_)
                    have hca : z71.toInt = ch τ v61.toInt.toNat := by rw [hz71]; exact tpm _ (by omega)
                    refine r_callS (As := [.int z71]) (rest := []) C hw (t_X12_isDigit2 l B D cA kd ig62 rg lg63 _ z71  hI) ss_X12_35 rfl hl.1 rfl (Nat.le_of_ble_eq_true rfl) ⟨Nat.le_of_ble_eq_true rfl, Nat.le_of_ble_eq_true rfl⟩ ⟨Nat.le_of_ble_eq_true rfl, Nat.le_of_ble_eq_true rfl⟩ dX12_cutAll_166 (fun r77 kd73 ig74 rg75 lg76 H locs hw hH hp78 => ?_)
                    obtain ⟨rfl, rfl, rfl, rfl, hzhp78, hrhp78⟩ := hp78
                    obtain ⟨z79, rfl, hz79⟩ := hrhp78
                    refine z_eq (tgt := 212) hx hb dX12_cutAll_169 (by decide) (fun c169 => ?_) (fun c169 => ?_)
                    · refine lv_aload_n hx hb dX12_cutAll_212 rfl (lv_at hl 4 rfl) ?_
                      refine r_get C hw (hsh 49 _ rfl) fl_X12_32 (oV_r rfl (hrm (49, 4, 51) (by decide))) dX12_cutAll_213 ?_
                      refine lv_iload_n hx hb dX12_cutAll_216 rfl (lv_at hl 3 rfl) ?_
                      refine lv_iload_n hx hb dX12_cutAll_217 rfl (lv_at hl 2 rfl) ?_
                      refine lv_iload hx hb dX12_cutAll_218 (lv_at hl 1 rfl) ?_
                      refine lv_isub hx hb dX12_cutAll_220 (tc_sub fun z80 hz80 => ?_)
                      first | replace hz80 := hz80 (by omega) | clear hz80
                      refine lv_bipush (v := 6) hx hb dX12_cutAll_221 (by decide) (ti_c 6 (by decide) fun z81 hz81 => ?_)
                      refine b_le (tgt := 230) hx hb dX12_cutAll_223 (by decide) (fun c223 => ?_) (fun c223 => ?_)
                      · refine lv_iconst (v := 2) hx hb dX12_cutAll_230 (by decide) (ti_c 2 (by decide) fun z82 hz82 => ?_)
                        refine r_iast C hw (hsh 51 _ rfl) (by omega) (by omega) dX12_cutAll_231 (fun H locs hH hw => ?_)
                        obtain ⟨ig83, eig83⟩ : ∃ f, f = up2 ig62 (B + 51) v9.toInt.toNat z82 := ⟨_, rfl⟩
                        rw [← eig83] at hw
                        have hF : Ft B [49, 51, 52, 53] ig lg ig83 lg63 := by rw [eig83]; exact hF.pi (by decide)
                        have hI : IM [] none υ B kd ig83 rg := by rw [eig83]; exact hI.pi (by decide) (show okR none _ from trivial)
                        have wig83_49_2 : (ig83 (B + 49) 2).toInt = (ig62 (B + 49) 2).toInt := by rw [eig83, up2_a (by omega)]
                        have wig83_49_3 : (ig83 (B + 49) 3).toInt = (ig62 (B + 49) 3).toInt := by rw [eig83, up2_a (by omega)]
                        have wig83_49_7 : (ig83 (B + 49) 7).toInt = (ig62 (B + 49) 7).toInt := by rw [eig83, up2_a (by omega)]
                        have wig83_49_8 : (ig83 (B + 49) 8).toInt = (ig62 (B + 49) 8).toInt := by rw [eig83, up2_a (by omega)]
                        have pl : PLk B (v9.toInt.toNat + 1) ig83 := by rw [eig83]; exact PLk.wr pl (by decide)
                        have mc : MCt B τ v8.toInt.toNat v9.toInt.toNat ig83 lg63 := by rw [eig83]; exact mc.wr (Or.inr rfl)
                        have tpm : TPm B τ ig83 := by rw [eig83]; exact tpm.wr (by decide)
                        have pc : (ig83 (B + 52) v9.toInt.toNat).toInt = (v8.toInt.toNat : Int) := by rw [eig83, up2_c (by decide)]; exact pc
                        have so : (ig83 (B + 51) v9.toInt.toNat).toInt = z82.toInt := by rw [eig83, up2_eq]
                        have te : v61.toInt = (tE τ v8.toInt.toNat : Int) := by rw [tE_D hcl hcd rn (by first | exact cD_f (by omega) | (rw [ch_out (by omega)]; rfl)) (by omega)]; omega
                        have mk : mtk (ig83 (B + 51) v9.toInt.toNat).toInt v60.toInt (kAt τ v8.toInt.toNat) (vAt τ v8.toInt.toNat) := by
                          have w := mtk_n hl9 hil hcl hcd (by omega)
                          rw [so, show z82.toInt = 2 by omega, vq, show min (v61.toInt.toNat - v8.toInt.toNat) 6 = tE τ v8.toInt.toNat - v8.toInt.toNat by omega]
                          exact w
                        refine lv_goto (tgt := 260) hx hb dX12_cutAll_232 (by decide) ?_
                        exact J260 ls H locs ig83 lg63 v60 v61 (lv_sub hl [0, 2, 3, 4] rfl) hw hI hF (by omega) (by omega) (by omega) (by omega) (pl) (by omega) (mc) (tpm) (pc) (mk) (te)
                      · refine lv_iconst (v := 4) hx hb dX12_cutAll_226 (by decide) (ti_c 4 (by decide) fun z84 hz84 => ?_)
                        refine lv_goto (tgt := 231) hx hb dX12_cutAll_227 (by decide) ?_
                        refine r_iast C hw (hsh 51 _ rfl) (by omega) (by omega) dX12_cutAll_231 (fun H locs hH hw => ?_)
                        obtain ⟨ig85, eig85⟩ : ∃ f, f = up2 ig62 (B + 51) v9.toInt.toNat z84 := ⟨_, rfl⟩
                        rw [← eig85] at hw
                        have hF : Ft B [49, 51, 52, 53] ig lg ig85 lg63 := by rw [eig85]; exact hF.pi (by decide)
                        have hI : IM [] none υ B kd ig85 rg := by rw [eig85]; exact hI.pi (by decide) (show okR none _ from trivial)
                        have wig85_49_2 : (ig85 (B + 49) 2).toInt = (ig62 (B + 49) 2).toInt := by rw [eig85, up2_a (by omega)]
                        have wig85_49_3 : (ig85 (B + 49) 3).toInt = (ig62 (B + 49) 3).toInt := by rw [eig85, up2_a (by omega)]
                        have wig85_49_7 : (ig85 (B + 49) 7).toInt = (ig62 (B + 49) 7).toInt := by rw [eig85, up2_a (by omega)]
                        have wig85_49_8 : (ig85 (B + 49) 8).toInt = (ig62 (B + 49) 8).toInt := by rw [eig85, up2_a (by omega)]
                        have pl : PLk B (v9.toInt.toNat + 1) ig85 := by rw [eig85]; exact PLk.wr pl (by decide)
                        have mc : MCt B τ v8.toInt.toNat v9.toInt.toNat ig85 lg63 := by rw [eig85]; exact mc.wr (Or.inr rfl)
                        have tpm : TPm B τ ig85 := by rw [eig85]; exact tpm.wr (by decide)
                        have pc : (ig85 (B + 52) v9.toInt.toNat).toInt = (v8.toInt.toNat : Int) := by rw [eig85, up2_c (by decide)]; exact pc
                        have so : (ig85 (B + 51) v9.toInt.toNat).toInt = z84.toInt := by rw [eig85, up2_eq]
                        have te : v61.toInt = (tE τ v8.toInt.toNat : Int) := by rw [tE_D hcl hcd rn (by first | exact cD_f (by omega) | (rw [ch_out (by omega)]; rfl)) (by omega)]; omega
                        have mk : mtk (ig85 (B + 51) v9.toInt.toNat).toInt v60.toInt (kAt τ v8.toInt.toNat) (vAt τ v8.toInt.toNat) := by rw [so, show z84.toInt = 4 by omega]; exact mtk_b (kAt_nb hil hcl hcd (by omega))
                        refine lv_goto (tgt := 260) hx hb dX12_cutAll_232 (by decide) ?_
                        exact J260 ls H locs ig85 lg63 v60 v61 (lv_sub hl [0, 2, 3, 4] rfl) hw hI hF (by omega) (by omega) (by omega) (by omega) (pl) (by omega) (mc) (tpm) (pc) (mk) (te)
                    · refine lv_iload_n hx hb dX12_cutAll_172 rfl (lv_at hl 2 rfl) ?_
                      refine lv_iload hx hb dX12_cutAll_173 (lv_at hl 1 rfl) ?_
                      refine lv_isub hx hb dX12_cutAll_175 (tc_sub fun z86 hz86 => ?_)
                      first | replace hz86 := hz86 (by omega) | clear hz86
                      refine lv_bipush (v := 6) hx hb dX12_cutAll_176 (by decide) (ti_c 6 (by decide) fun z87 hz87 => ?_)
                      refine b_ge (tgt := 202) hx hb dX12_cutAll_178 (by decide) (fun c178 => ?_) (fun c178 => ?_)
                      · refine lv_lload hx hb dX12_cutAll_202 (lv_at hl 0 rfl) ?_
                        refine lv_lstore (lv' := [(5, .long v60), (4, .int v8), (2, .int v61), (1, .int v9), (0, .ref (B + 49))]) hx hb dX12_cutAll_204 hl (by decide) rfl (fun ls hl => ?_)
                        refine tc_inc hx hb dX12_cutAll_206 hl (k := 2) rfl (by decide) (by decide) (fun z88 hz88 ls hl => ?_)
                        first | replace hz88 := hz88 (by omega) | clear hz88
                        have hl : lv_has ls 7 [(2, .int z88), (5, .long v60), (4, .int v8), (1, .int v9), (0, .ref (B + 49))] := hl
                        refine lv_goto (tgt := 152) hx hb dX12_cutAll_209 (by decide) ?_
                        exact ih152 ls H locs ig62 lg63 v60 z88 (lv_sub hl [1, 2, 0, 3, 4] rfl) hw hI hF (by omega) (by omega) (by omega) (by omega) (by omega) (by omega) (pl) (by omega) (by omega) (mc) (tpm) (pc) (Rn.eq (rn.s (cD_t (by omega))) (by omega)) (by rw [show min (z88.toInt.toNat - v8.toInt.toNat) 6 = min (v61.toInt.toNat - v8.toInt.toNat) 6 by omega]; exact vq) (by omega)
                      · refine lv_ldc2 (v := 10) hx hb hown (hts _ kl_X12_38) dX12_cutAll_181 (lv_topl fun x89 hx89 => ?_)
                        refine lv_lload hx hb dX12_cutAll_184 (lv_at hl 0 rfl) ?_
                        refine lv_lmul hx hb dX12_cutAll_186 (lv_topl fun x90 hx90 => ?_)
                        refine lv_aload_n hx hb dX12_cutAll_187 rfl (lv_at hl 4 rfl) ?_
                        refine r_get C hw (hsh 49 _ rfl) fl_X12_14 (oV_r rfl (hrm (49, 1, 50) (by decide))) dX12_cutAll_188 ?_
                        refine lv_iload_n hx hb dX12_cutAll_191 rfl (lv_at hl 2 rfl) ?_
                        refine r_iald C hw (hsh 50 _ rfl) (by omega) (by omega) dX12_cutAll_192 (ti_c (ig62 (B + 50) v61.toInt.toNat).toInt rfl fun z91 hz91 => ?_)
                        have hcb : z91.toInt = ch τ v61.toInt.toNat := by rw [hz91]; exact tpm _ (by omega)
                        refine lv_i2l hx hb dX12_cutAll_193 rfl (lv_topl fun x93 hx93 => ?_)
                        refine lv_ladd hx hb dX12_cutAll_194 (lv_topl fun x94 hx94 => ?_)
                        refine lv_ldc2 (v := 48) hx hb hown (hts _ kl_X12_40) dX12_cutAll_195 (lv_topl fun x95 hx95 => ?_)
                        refine lv_lsub hx hb dX12_cutAll_198 (lv_topl fun x96 hx96 => ?_)
                        have vbd := dv_bd6 rn (n := min (v61.toInt.toNat - v8.toInt.toNat) 6) (by omega) (by omega)
                        have st9 := l_step (m := 10) (q := 48) hx90 (by rw [hx94, hx93]) hx96 (by rw [hx89]; decide) (by decide) (by omega) (by rw [hx95]; decide) (by decide)
                        refine lv_goto (tgt := 204) hx hb dX12_cutAll_199 (by decide) ?_
                        refine lv_lstore (lv' := [(5, .long x96), (4, .int v8), (2, .int v61), (1, .int v9), (0, .ref (B + 49))]) hx hb dX12_cutAll_204 hl (by decide) rfl (fun ls hl => ?_)
                        refine tc_inc hx hb dX12_cutAll_206 hl (k := 2) rfl (by decide) (by decide) (fun z97 hz97 ls hl => ?_)
                        first | replace hz97 := hz97 (by omega) | clear hz97
                        have hl : lv_has ls 7 [(2, .int z97), (5, .long x96), (4, .int v8), (1, .int v9), (0, .ref (B + 49))] := hl
                        refine lv_goto (tgt := 152) hx hb dX12_cutAll_209 (by decide) ?_
                        exact ih152 ls H locs ig62 lg63 x96 z97 (lv_sub hl [1, 2, 0, 3, 4] rfl) hw hI hF (by omega) (by omega) (by omega) (by omega) (by omega) (by omega) (pl) (by omega) (by omega) (mc) (tpm) (pc) (Rn.eq (rn.s (cD_t (by omega))) (by omega)) (by rw [show min (z97.toInt.toNat - v8.toInt.toNat) 6 = (v61.toInt.toNat - v8.toInt.toNat) + 1 by omega]; unfold dv; rw [show v8.toInt.toNat + (v61.toInt.toNat - v8.toInt.toNat) = v61.toInt.toNat by omega]; have w := vq; rw [show min (v61.toInt.toNat - v8.toInt.toNat) 6 = v61.toInt.toNat - v8.toInt.toNat by omega] at w; omega) (by omega)
              exact L152 (((ig (B + 49) 2).toInt - v8.toInt) + 1).toNat ls H locs ig25 lg11 x24 v8 (lv_sub hl [0, 1, 3, 4, 5] rfl) hw hI hF (by omega) (by omega) (by omega) (by omega) (by omega) (by omega) (pl) (by omega) (by omega) (mc) (tpm) (pc) (Rn.eq Rn.z (by omega)) (by rw [show min (v8.toInt.toNat - v8.toInt.toNat) 6 = 0 by omega, hx24]; rfl) (by omega)
          · have L64 : ∀ (n : Nat) (ls : Array Slot) (H : Heap) (locs : List Loc) (ig100 : sI) (lg101 : sG) (v98 : Int64) (v99 : Int32), lv_has ls 7 [(5, .long v98), (4, .int v8), (2, .int v99), (1, .int v9), (0, .ref (B + 49))] → WD B D cA s.heap kd ig100 rg lg101 H locs → IM [] none υ B kd ig100 rg → Ft B [49, 51, 52, 53] ig lg ig100 lg101 → (0 ≤ v9.toInt) → (v9.toInt ≤ v8.toInt) → (v8.toInt ≤ v99.toInt) → (v99.toInt ≤ (ig (B + 49) 2).toInt) → (v8.toInt < (ig (B + 49) 2).toInt) → ((ig100 (B + 49) 3).toInt = (ig (B + 49) 2).toInt) → (PLk B (v9.toInt.toNat + 1) ig100) → (v8.toInt < v99.toInt ∨ (97 ≤ (ig100 (B + 50) v99.toInt.toNat).toInt ∧ (ig100 (B + 50) v99.toInt.toNat).toInt ≤ 122)) → (v8.toInt = v8.toInt) → (MCt B τ v8.toInt.toNat v9.toInt.toNat ig100 lg101) → (TPm B τ ig100) → ((ig100 (B + 52) v9.toInt.toNat).toInt = (v8.toInt.toNat : Int)) → (Rn cL τ v8.toInt.toNat v99.toInt.toNat) → (v98.toInt = wv τ v8.toInt.toNat (min (v99.toInt.toNat - v8.toInt.toNat) 3)) → (ig (B + 49) 2).toInt - v99.toInt < (n : Int) → W p l e (rL 1 0 0) s m args below meth c H locs 0 0 (MQ below (QcW B D cA (PM [] none υ B [49, 51, 52, 53] kd ig rg lg (fun r ig' lg' => (r = none ∧ (∃ N, PSt B N ig' ∧ (ig' (B + 49) 7).toInt = 0 ∧ (ig' (B + 49) 8).toInt = 0 ∧ MT B N τ ig' lg'))))) args s 0 0 (fun q => B ≤ q)) (F0 m 64 ls []) := by
              intro n64
              induction n64 with
              | zero => intro ls H locs ig100 lg101 v98 v99 hl hw hI hF g64_0 g64_1 g64_2 g64_3 g64_4 g64_5 g64_6 g64_7 g64_8 g64_9 g64_10 g64_11 g64_12 g64_13 hmu; exact absurd hmu (by omega)
              | succ n64 ih64 =>
                intro ls H locs ig100 lg101 v98 v99 hl hw hI hF g64_0 g64_1 g64_2 g64_3 g64_4 g64_5 g64_6 g64_7 g64_8 g64_9 g64_10 g64_11 g64_12 g64_13 hmu
                have pl := g64_6
                have mc := g64_9
                have tpm := g64_10
                have pc := g64_11
                have rn := g64_12
                have vq := g64_13
                have hcl : cL (ch τ v8.toInt.toNat) = true := cL_t (by omega)
                refine lv_iload_n hx hb dX12_cutAll_64 rfl (lv_at hl 2 rfl) ?_
                refine lv_aload_n hx hb dX12_cutAll_65 rfl (lv_at hl 4 rfl) ?_
                refine r_get C hw (hsh 49 _ rfl) fl_X12_18 (oV_i rfl) dX12_cutAll_66 (ti_c (ig100 (B + 49) 3).toInt rfl fun z102 hz102 => ?_)
                refine b_ge (tgt := 123) hx hb dX12_cutAll_69 (by decide) (fun c69 => ?_) (fun c69 => ?_)
                · refine lv_aload_n hx hb dX12_cutAll_123 rfl (lv_at hl 4 rfl) ?_
                  refine r_get C hw (hsh 49 _ rfl) fl_X12_32 (oV_r rfl (hrm (49, 4, 51) (by decide))) dX12_cutAll_124 ?_
                  refine lv_iload_n hx hb dX12_cutAll_127 rfl (lv_at hl 3 rfl) ?_
                  refine lv_iload_n hx hb dX12_cutAll_128 rfl (lv_at hl 2 rfl) ?_
                  refine lv_iload hx hb dX12_cutAll_129 (lv_at hl 1 rfl) ?_
                  refine lv_isub hx hb dX12_cutAll_131 (tc_sub fun z103 hz103 => ?_)
                  first | replace hz103 := hz103 (by omega) | clear hz103
                  refine lv_iconst (v := 3) hx hb dX12_cutAll_132 (by decide) (ti_c 3 (by decide) fun z104 hz104 => ?_)
                  refine b_le (tgt := 140) hx hb dX12_cutAll_133 (by decide) (fun c133 => ?_) (fun c133 => ?_)
                  · refine lv_iconst (v := 1) hx hb dX12_cutAll_140 (by decide) (ti_c 1 (by decide) fun z105 hz105 => ?_)
                    refine r_iast C hw (hsh 51 _ rfl) (by omega) (by omega) dX12_cutAll_141 (fun H locs hH hw => ?_)
                    obtain ⟨ig106, eig106⟩ : ∃ f, f = up2 ig100 (B + 51) v9.toInt.toNat z105 := ⟨_, rfl⟩
                    rw [← eig106] at hw
                    have hF : Ft B [49, 51, 52, 53] ig lg ig106 lg101 := by rw [eig106]; exact hF.pi (by decide)
                    have hI : IM [] none υ B kd ig106 rg := by rw [eig106]; exact hI.pi (by decide) (show okR none _ from trivial)
                    have wig106_49_2 : (ig106 (B + 49) 2).toInt = (ig100 (B + 49) 2).toInt := by rw [eig106, up2_a (by omega)]
                    have wig106_49_3 : (ig106 (B + 49) 3).toInt = (ig100 (B + 49) 3).toInt := by rw [eig106, up2_a (by omega)]
                    have wig106_49_7 : (ig106 (B + 49) 7).toInt = (ig100 (B + 49) 7).toInt := by rw [eig106, up2_a (by omega)]
                    have wig106_49_8 : (ig106 (B + 49) 8).toInt = (ig100 (B + 49) 8).toInt := by rw [eig106, up2_a (by omega)]
                    have pl : PLk B (v9.toInt.toNat + 1) ig106 := by rw [eig106]; exact PLk.wr pl (by decide)
                    have mc : MCt B τ v8.toInt.toNat v9.toInt.toNat ig106 lg101 := by rw [eig106]; exact mc.wr (Or.inr rfl)
                    have tpm : TPm B τ ig106 := by rw [eig106]; exact tpm.wr (by decide)
                    have pc : (ig106 (B + 52) v9.toInt.toNat).toInt = (v8.toInt.toNat : Int) := by rw [eig106, up2_c (by decide)]; exact pc
                    have so : (ig106 (B + 51) v9.toInt.toNat).toInt = z105.toInt := by rw [eig106, up2_eq]
                    have te : v99.toInt = (tE τ v8.toInt.toNat : Int) := by rw [tE_L hcl rn (by first | exact cL_f (by omega) | (rw [ch_out (by omega)]; rfl)) (by omega)]; omega
                    have mk : mtk (ig106 (B + 51) v9.toInt.toNat).toInt v98.toInt (kAt τ v8.toInt.toNat) (vAt τ v8.toInt.toNat) := by
                      have w := mtk_w hl9 hil hcl (by omega)
                      rw [so, show z105.toInt = 1 by omega, vq, show min (v99.toInt.toNat - v8.toInt.toNat) 3 = tE τ v8.toInt.toNat - v8.toInt.toNat by omega]
                      exact w
                    refine lv_goto (tgt := 260) hx hb dX12_cutAll_142 (by decide) ?_
                    exact J260 ls H locs ig106 lg101 v98 v99 (lv_sub hl [0, 2, 3, 4] rfl) hw hI hF (by omega) (by omega) (by omega) (by omega) (pl) (by omega) (mc) (tpm) (pc) (mk) (te)
                  · refine lv_iconst (v := 4) hx hb dX12_cutAll_136 (by decide) (ti_c 4 (by decide) fun z107 hz107 => ?_)
                    refine lv_goto (tgt := 141) hx hb dX12_cutAll_137 (by decide) ?_
                    refine r_iast C hw (hsh 51 _ rfl) (by omega) (by omega) dX12_cutAll_141 (fun H locs hH hw => ?_)
                    obtain ⟨ig108, eig108⟩ : ∃ f, f = up2 ig100 (B + 51) v9.toInt.toNat z107 := ⟨_, rfl⟩
                    rw [← eig108] at hw
                    have hF : Ft B [49, 51, 52, 53] ig lg ig108 lg101 := by rw [eig108]; exact hF.pi (by decide)
                    have hI : IM [] none υ B kd ig108 rg := by rw [eig108]; exact hI.pi (by decide) (show okR none _ from trivial)
                    have wig108_49_2 : (ig108 (B + 49) 2).toInt = (ig100 (B + 49) 2).toInt := by rw [eig108, up2_a (by omega)]
                    have wig108_49_3 : (ig108 (B + 49) 3).toInt = (ig100 (B + 49) 3).toInt := by rw [eig108, up2_a (by omega)]
                    have wig108_49_7 : (ig108 (B + 49) 7).toInt = (ig100 (B + 49) 7).toInt := by rw [eig108, up2_a (by omega)]
                    have wig108_49_8 : (ig108 (B + 49) 8).toInt = (ig100 (B + 49) 8).toInt := by rw [eig108, up2_a (by omega)]
                    have pl : PLk B (v9.toInt.toNat + 1) ig108 := by rw [eig108]; exact PLk.wr pl (by decide)
                    have mc : MCt B τ v8.toInt.toNat v9.toInt.toNat ig108 lg101 := by rw [eig108]; exact mc.wr (Or.inr rfl)
                    have tpm : TPm B τ ig108 := by rw [eig108]; exact tpm.wr (by decide)
                    have pc : (ig108 (B + 52) v9.toInt.toNat).toInt = (v8.toInt.toNat : Int) := by rw [eig108, up2_c (by decide)]; exact pc
                    have so : (ig108 (B + 51) v9.toInt.toNat).toInt = z107.toInt := by rw [eig108, up2_eq]
                    have te : v99.toInt = (tE τ v8.toInt.toNat : Int) := by rw [tE_L hcl rn (by first | exact cL_f (by omega) | (rw [ch_out (by omega)]; rfl)) (by omega)]; omega
                    have mk : mtk (ig108 (B + 51) v9.toInt.toNat).toInt v98.toInt (kAt τ v8.toInt.toNat) (vAt τ v8.toInt.toNat) := by rw [so, show z107.toInt = 4 by omega]; exact mtk_b (kAt_wb hil hcl (by omega))
                    refine lv_goto (tgt := 260) hx hb dX12_cutAll_142 (by decide) ?_
                    exact J260 ls H locs ig108 lg101 v98 v99 (lv_sub hl [0, 2, 3, 4] rfl) hw hI hF (by omega) (by omega) (by omega) (by omega) (pl) (by omega) (mc) (tpm) (pc) (mk) (te)
                · refine lv_aload_n hx hb dX12_cutAll_72 rfl (lv_at hl 4 rfl) ?_
                  refine r_get C hw (hsh 49 _ rfl) fl_X12_14 (oV_r rfl (hrm (49, 1, 50) (by decide))) dX12_cutAll_73 ?_
                  refine lv_iload_n hx hb dX12_cutAll_76 rfl (lv_at hl 2 rfl) ?_
                  refine r_iald C hw (hsh 50 _ rfl) (by omega) (by omega) dX12_cutAll_77 (ti_c (ig100 (B + 50) v99.toInt.toNat).toInt rfl fun z109 hz109 => ?_)
                  have hca : z109.toInt = ch τ v99.toInt.toNat := by rw [hz109]; exact tpm _ (by omega)
                  refine r_callS (As := [.int z109]) (rest := []) C hw (t_X12_isLetter2 l B D cA kd ig100 rg lg101 _ z109  hI) ss_X12_24 rfl hl.1 rfl (Nat.le_of_ble_eq_true rfl) ⟨Nat.le_of_ble_eq_true rfl, Nat.le_of_ble_eq_true rfl⟩ ⟨Nat.le_of_ble_eq_true rfl, Nat.le_of_ble_eq_true rfl⟩ dX12_cutAll_78 (fun r115 kd111 ig112 rg113 lg114 H locs hw hH hp116 => ?_)
                  obtain ⟨rfl, rfl, rfl, rfl, hzhp116, hrhp116⟩ := hp116
                  obtain ⟨z117, rfl, hz117⟩ := hrhp116
                  refine z_eq (tgt := 123) hx hb dX12_cutAll_81 (by decide) (fun c81 => ?_) (fun c81 => ?_)
                  · refine lv_aload_n hx hb dX12_cutAll_123 rfl (lv_at hl 4 rfl) ?_
                    refine r_get C hw (hsh 49 _ rfl) fl_X12_32 (oV_r rfl (hrm (49, 4, 51) (by decide))) dX12_cutAll_124 ?_
                    refine lv_iload_n hx hb dX12_cutAll_127 rfl (lv_at hl 3 rfl) ?_
                    refine lv_iload_n hx hb dX12_cutAll_128 rfl (lv_at hl 2 rfl) ?_
                    refine lv_iload hx hb dX12_cutAll_129 (lv_at hl 1 rfl) ?_
                    refine lv_isub hx hb dX12_cutAll_131 (tc_sub fun z118 hz118 => ?_)
                    first | replace hz118 := hz118 (by omega) | clear hz118
                    refine lv_iconst (v := 3) hx hb dX12_cutAll_132 (by decide) (ti_c 3 (by decide) fun z119 hz119 => ?_)
                    refine b_le (tgt := 140) hx hb dX12_cutAll_133 (by decide) (fun c133 => ?_) (fun c133 => ?_)
                    · refine lv_iconst (v := 1) hx hb dX12_cutAll_140 (by decide) (ti_c 1 (by decide) fun z120 hz120 => ?_)
                      refine r_iast C hw (hsh 51 _ rfl) (by omega) (by omega) dX12_cutAll_141 (fun H locs hH hw => ?_)
                      obtain ⟨ig121, eig121⟩ : ∃ f, f = up2 ig100 (B + 51) v9.toInt.toNat z120 := ⟨_, rfl⟩
                      rw [← eig121] at hw
                      have hF : Ft B [49, 51, 52, 53] ig lg ig121 lg101 := by rw [eig121]; exact hF.pi (by decide)
                      have hI : IM [] none υ B kd ig121 rg := by rw [eig121]; exact hI.pi (by decide) (show okR none _ from trivial)
                      have wig121_49_2 : (ig121 (B + 49) 2).toInt = (ig100 (B + 49) 2).toInt := by rw [eig121, up2_a (by omega)]
                      have wig121_49_3 : (ig121 (B + 49) 3).toInt = (ig100 (B + 49) 3).toInt := by rw [eig121, up2_a (by omega)]
                      have wig121_49_7 : (ig121 (B + 49) 7).toInt = (ig100 (B + 49) 7).toInt := by rw [eig121, up2_a (by omega)]
                      have wig121_49_8 : (ig121 (B + 49) 8).toInt = (ig100 (B + 49) 8).toInt := by rw [eig121, up2_a (by omega)]
                      have pl : PLk B (v9.toInt.toNat + 1) ig121 := by rw [eig121]; exact PLk.wr pl (by decide)
                      have mc : MCt B τ v8.toInt.toNat v9.toInt.toNat ig121 lg101 := by rw [eig121]; exact mc.wr (Or.inr rfl)
                      have tpm : TPm B τ ig121 := by rw [eig121]; exact tpm.wr (by decide)
                      have pc : (ig121 (B + 52) v9.toInt.toNat).toInt = (v8.toInt.toNat : Int) := by rw [eig121, up2_c (by decide)]; exact pc
                      have so : (ig121 (B + 51) v9.toInt.toNat).toInt = z120.toInt := by rw [eig121, up2_eq]
                      have te : v99.toInt = (tE τ v8.toInt.toNat : Int) := by rw [tE_L hcl rn (by first | exact cL_f (by omega) | (rw [ch_out (by omega)]; rfl)) (by omega)]; omega
                      have mk : mtk (ig121 (B + 51) v9.toInt.toNat).toInt v98.toInt (kAt τ v8.toInt.toNat) (vAt τ v8.toInt.toNat) := by
                        have w := mtk_w hl9 hil hcl (by omega)
                        rw [so, show z120.toInt = 1 by omega, vq, show min (v99.toInt.toNat - v8.toInt.toNat) 3 = tE τ v8.toInt.toNat - v8.toInt.toNat by omega]
                        exact w
                      refine lv_goto (tgt := 260) hx hb dX12_cutAll_142 (by decide) ?_
                      exact J260 ls H locs ig121 lg101 v98 v99 (lv_sub hl [0, 2, 3, 4] rfl) hw hI hF (by omega) (by omega) (by omega) (by omega) (pl) (by omega) (mc) (tpm) (pc) (mk) (te)
                    · refine lv_iconst (v := 4) hx hb dX12_cutAll_136 (by decide) (ti_c 4 (by decide) fun z122 hz122 => ?_)
                      refine lv_goto (tgt := 141) hx hb dX12_cutAll_137 (by decide) ?_
                      refine r_iast C hw (hsh 51 _ rfl) (by omega) (by omega) dX12_cutAll_141 (fun H locs hH hw => ?_)
                      obtain ⟨ig123, eig123⟩ : ∃ f, f = up2 ig100 (B + 51) v9.toInt.toNat z122 := ⟨_, rfl⟩
                      rw [← eig123] at hw
                      have hF : Ft B [49, 51, 52, 53] ig lg ig123 lg101 := by rw [eig123]; exact hF.pi (by decide)
                      have hI : IM [] none υ B kd ig123 rg := by rw [eig123]; exact hI.pi (by decide) (show okR none _ from trivial)
                      have wig123_49_2 : (ig123 (B + 49) 2).toInt = (ig100 (B + 49) 2).toInt := by rw [eig123, up2_a (by omega)]
                      have wig123_49_3 : (ig123 (B + 49) 3).toInt = (ig100 (B + 49) 3).toInt := by rw [eig123, up2_a (by omega)]
                      have wig123_49_7 : (ig123 (B + 49) 7).toInt = (ig100 (B + 49) 7).toInt := by rw [eig123, up2_a (by omega)]
                      have wig123_49_8 : (ig123 (B + 49) 8).toInt = (ig100 (B + 49) 8).toInt := by rw [eig123, up2_a (by omega)]
                      have pl : PLk B (v9.toInt.toNat + 1) ig123 := by rw [eig123]; exact PLk.wr pl (by decide)
                      have mc : MCt B τ v8.toInt.toNat v9.toInt.toNat ig123 lg101 := by rw [eig123]; exact mc.wr (Or.inr rfl)
                      have tpm : TPm B τ ig123 := by rw [eig123]; exact tpm.wr (by decide)
                      have pc : (ig123 (B + 52) v9.toInt.toNat).toInt = (v8.toInt.toNat : Int) := by rw [eig123, up2_c (by decide)]; exact pc
                      have so : (ig123 (B + 51) v9.toInt.toNat).toInt = z122.toInt := by rw [eig123, up2_eq]
                      have te : v99.toInt = (tE τ v8.toInt.toNat : Int) := by rw [tE_L hcl rn (by first | exact cL_f (by omega) | (rw [ch_out (by omega)]; rfl)) (by omega)]; omega
                      have mk : mtk (ig123 (B + 51) v9.toInt.toNat).toInt v98.toInt (kAt τ v8.toInt.toNat) (vAt τ v8.toInt.toNat) := by rw [so, show z122.toInt = 4 by omega]; exact mtk_b (kAt_wb hil hcl (by omega))
                      refine lv_goto (tgt := 260) hx hb dX12_cutAll_142 (by decide) ?_
                      exact J260 ls H locs ig123 lg101 v98 v99 (lv_sub hl [0, 2, 3, 4] rfl) hw hI hF (by omega) (by omega) (by omega) (by omega) (pl) (by omega) (mc) (tpm) (pc) (mk) (te)
                  · refine lv_iload_n hx hb dX12_cutAll_84 rfl (lv_at hl 2 rfl) ?_
                    refine lv_iload hx hb dX12_cutAll_85 (lv_at hl 1 rfl) ?_
                    refine lv_isub hx hb dX12_cutAll_87 (tc_sub fun z124 hz124 => ?_)
                    first | replace hz124 := hz124 (by omega) | clear hz124
                    refine lv_iconst (v := 3) hx hb dX12_cutAll_88 (by decide) (ti_c 3 (by decide) fun z125 hz125 => ?_)
                    refine b_ge (tgt := 113) hx hb dX12_cutAll_89 (by decide) (fun c89 => ?_) (fun c89 => ?_)
                    · refine lv_lload hx hb dX12_cutAll_113 (lv_at hl 0 rfl) ?_
                      refine lv_lstore (lv' := [(5, .long v98), (4, .int v8), (2, .int v99), (1, .int v9), (0, .ref (B + 49))]) hx hb dX12_cutAll_115 hl (by decide) rfl (fun ls hl => ?_)
                      refine tc_inc hx hb dX12_cutAll_117 hl (k := 2) rfl (by decide) (by decide) (fun z126 hz126 ls hl => ?_)
                      first | replace hz126 := hz126 (by omega) | clear hz126
                      have hl : lv_has ls 7 [(2, .int z126), (5, .long v98), (4, .int v8), (1, .int v9), (0, .ref (B + 49))] := hl
                      refine lv_goto (tgt := 64) hx hb dX12_cutAll_120 (by decide) ?_
                      exact ih64 ls H locs ig100 lg101 v98 z126 (lv_sub hl [1, 2, 0, 3, 4] rfl) hw hI hF (by omega) (by omega) (by omega) (by omega) (by omega) (by omega) (pl) (by omega) (by omega) (mc) (tpm) (pc) (Rn.eq (rn.s (cL_t (by omega))) (by omega)) (by rw [show min (z126.toInt.toNat - v8.toInt.toNat) 3 = min (v99.toInt.toNat - v8.toInt.toNat) 3 by omega]; exact vq) (by omega)
                    · refine lv_ldc2 (v := 27) hx hb hown (hts _ kl_X12_28) dX12_cutAll_92 (lv_topl fun x127 hx127 => ?_)
                      refine lv_lload hx hb dX12_cutAll_95 (lv_at hl 0 rfl) ?_
                      refine lv_lmul hx hb dX12_cutAll_97 (lv_topl fun x128 hx128 => ?_)
                      refine lv_aload_n hx hb dX12_cutAll_98 rfl (lv_at hl 4 rfl) ?_
                      refine r_get C hw (hsh 49 _ rfl) fl_X12_14 (oV_r rfl (hrm (49, 1, 50) (by decide))) dX12_cutAll_99 ?_
                      refine lv_iload_n hx hb dX12_cutAll_102 rfl (lv_at hl 2 rfl) ?_
                      refine r_iald C hw (hsh 50 _ rfl) (by omega) (by omega) dX12_cutAll_103 (ti_c (ig100 (B + 50) v99.toInt.toNat).toInt rfl fun z129 hz129 => ?_)
                      have hcb : z129.toInt = ch τ v99.toInt.toNat := by rw [hz129]; exact tpm _ (by omega)
                      refine lv_i2l hx hb dX12_cutAll_104 rfl (lv_topl fun x131 hx131 => ?_)
                      refine lv_ladd hx hb dX12_cutAll_105 (lv_topl fun x132 hx132 => ?_)
                      refine lv_ldc2 (v := 96) hx hb hown (hts _ kl_X12_30) dX12_cutAll_106 (lv_topl fun x133 hx133 => ?_)
                      refine lv_lsub hx hb dX12_cutAll_109 (lv_topl fun x134 hx134 => ?_)
                      have vbd := wv_bd rn (min (v99.toInt.toNat - v8.toInt.toNat) 3) (by omega) (by omega)
                      have st9 := l_step (m := 27) (q := 96) hx128 (by rw [hx132, hx131]) hx134 (by rw [hx127]; decide) (by decide) (by omega) (by rw [hx133]; decide) (by decide)
                      refine lv_goto (tgt := 115) hx hb dX12_cutAll_110 (by decide) ?_
                      refine lv_lstore (lv' := [(5, .long x134), (4, .int v8), (2, .int v99), (1, .int v9), (0, .ref (B + 49))]) hx hb dX12_cutAll_115 hl (by decide) rfl (fun ls hl => ?_)
                      refine tc_inc hx hb dX12_cutAll_117 hl (k := 2) rfl (by decide) (by decide) (fun z135 hz135 ls hl => ?_)
                      first | replace hz135 := hz135 (by omega) | clear hz135
                      have hl : lv_has ls 7 [(2, .int z135), (5, .long x134), (4, .int v8), (1, .int v9), (0, .ref (B + 49))] := hl
                      refine lv_goto (tgt := 64) hx hb dX12_cutAll_120 (by decide) ?_
                      exact ih64 ls H locs ig100 lg101 x134 z135 (lv_sub hl [1, 2, 0, 3, 4] rfl) hw hI hF (by omega) (by omega) (by omega) (by omega) (by omega) (by omega) (pl) (by omega) (by omega) (mc) (tpm) (pc) (Rn.eq (rn.s (cL_t (by omega))) (by omega)) (by rw [show min (z135.toInt.toNat - v8.toInt.toNat) 3 = (v99.toInt.toNat - v8.toInt.toNat) + 1 by omega]; unfold wv; rw [show v8.toInt.toNat + (v99.toInt.toNat - v8.toInt.toNat) = v99.toInt.toNat by omega]; have w := vq; rw [show min (v99.toInt.toNat - v8.toInt.toNat) 3 = v99.toInt.toNat - v8.toInt.toNat by omega] at w; omega) (by omega)
            exact L64 (((ig (B + 49) 2).toInt - v8.toInt) + 1).toNat ls H locs ig25 lg11 x24 v8 (lv_sub hl [0, 1, 3, 4, 5] rfl) hw hI hF (by omega) (by omega) (by omega) (by omega) (by omega) (by omega) (pl) (by omega) (by omega) (mc) (tpm) (pc) (Rn.eq Rn.z (by omega)) (by rw [show min (v8.toInt.toNat - v8.toInt.toNat) 3 = 0 by omega, hx24]; rfl) (by omega)
        · refine tc_inc hx hb dX12_cutAll_38 hl (k := 1) rfl (by decide) (by decide) (fun z136 hz136 ls hl => ?_)
          first | replace hz136 := hz136 (by omega) | clear hz136
          have hl : lv_has ls 7 [(2, .int z136), (3, .int z21), (1, .int v9), (0, .ref (B + 49))] := hl
          refine lv_goto (tgt := 17) hx hb dX12_cutAll_41 (by decide) ?_
          exact ih17 ls H locs ig10 lg11 z136 v9 (lv_sub hl [0, 2, 3] rfl) hw hI hF (by omega) (by omega) (by omega) (by omega) (g17_4) (MCt.eq (mc.bl hl9 (by omega)) (by omega) rfl) (tpm) (by omega)
  exact L17 (((ig (B + 49) 2).toInt - z7.toInt) + 1).toNat ls H locs ig5 lg z7 z6 (lv_sub hl [0, 1, 2] rfl) hw hI hF (by omega) (by omega) (by omega) (by omega) (PLk.z (by omega)) (MCt.eq (k := 0) (n := 0) ⟨Nat.le_refl 0, Nat.zero_le _, rfl, fun q hq => absurd hq (Nat.not_lt_zero q)⟩ (by omega) (by omega)) (tpm) (by omega)
