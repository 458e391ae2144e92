/-! the model, method by method -/
section MROW
variable {τ : Tp} {φ : Option Int} {B : Nat} {kd : sK} {ig : sI} {rg : sR}
theorem IM.ref {υ : Option Int} (h : IM τ φ υ B kd ig rg) {p k i : Int32} (hp : 0 ≤ p.toInt ∧ p.toInt < 288) (hk : 0 ≤ k.toInt ∧ k.toInt < (ig (B + 58) p.toInt.toNat).toInt) (hi : i.toInt = 120 * p.toInt + k.toInt) (hkd : (ig (B + 59) p.toInt.toNat).toInt = 2) (h3 : (ig (B + 54) i.toInt.toNat).toInt = 3) : ((0 ≤ (ig (B + 55) i.toInt.toNat).toInt ∧ (ig (B + 55) i.toInt.toNat).toInt < 12) ∧ 0 ≤ (ig (B + 56) i.toInt.toNat).toInt ∧ (ig (B + 56) i.toInt.toNat).toInt < 24) := by
  have e : 120 * p.toInt.toNat + k.toInt.toNat = i.toInt.toNat := by omega
  have h9 := (h.at (p := p.toInt.toNat) (k := k.toInt.toNat) (by omega) (by omega) hkd (by omega)).2
  rw [e] at h9
  exact h9 h3
/-- the second REF of a sum( ), from its first -/
theorem IM.span2 {υ : Option Int} (h : IM τ φ υ B kd ig rg) {p k q j : Int32} (hp : 0 ≤ p.toInt ∧ p.toInt < 288) (hk : 2 ≤ k.toInt ∧ k.toInt < (ig (B + 58) p.toInt.toNat).toInt) (hq : q.toInt = 120 * p.toInt + k.toInt - 2) (hj : j.toInt = 120 * p.toInt + k.toInt + 2) (hkd : (ig (B + 59) p.toInt.toNat).toInt = 2) (h2 : (ig (B + 54) q.toInt.toNat).toInt = 2) : ((0 ≤ (ig (B + 55) j.toInt.toNat).toInt ∧ (ig (B + 55) j.toInt.toNat).toInt < 12) ∧ 0 ≤ (ig (B + 56) j.toInt.toNat).toInt ∧ (ig (B + 56) j.toInt.toNat).toInt < 24) := by
  have e : 120 * p.toInt.toNat + (k.toInt - 2).toNat = q.toInt.toNat := by omega
  have h9 := (h.at (p := p.toInt.toNat) (k := (k.toInt - 2).toNat) (by omega) (by omega) hkd (by omega)).1
  rw [e] at h9
  obtain ⟨a1, a2, a3⟩ := h9.1 h2
  have e2 : 120 * p.toInt.toNat + (k.toInt + 2).toNat = j.toInt.toNat := by omega
  have hi := h.its (j := p.toInt.toNat) (by omega)
  have h8 := (h.at (p := p.toInt.toNat) (k := (k.toInt + 2).toNat) (by omega) (by omega) hkd (by omega)).2
  rw [e2] at h8
  refine h8 ?_
  have e3 : q.toInt.toNat + 4 = j.toInt.toNat := by omega
  rw [e3] at a3
  exact a3
/-- both REFS of a sum( ), from the sum itself -/
theorem IM.sm {υ : Option Int} (h : IM τ φ υ B kd ig rg) {p k i : Int32} (hp : 0 ≤ p.toInt ∧ p.toInt < 288) (hk : 0 ≤ k.toInt ∧ k.toInt < (ig (B + 58) p.toInt.toNat).toInt) (hi : i.toInt = 120 * p.toInt + k.toInt) (hkd : (ig (B + 59) p.toInt.toNat).toInt = 2) (h2 : (ig (B + 54) i.toInt.toNat).toInt = 2) : k.toInt + 5 < (ig (B + 58) p.toInt.toNat).toInt ∧ ((0 ≤ (ig (B + 55) (i.toInt.toNat + 2)).toInt ∧ (ig (B + 55) (i.toInt.toNat + 2)).toInt < 12) ∧ 0 ≤ (ig (B + 56) (i.toInt.toNat + 2)).toInt ∧ (ig (B + 56) (i.toInt.toNat + 2)).toInt < 24) ∧ ((0 ≤ (ig (B + 55) (i.toInt.toNat + 4)).toInt ∧ (ig (B + 55) (i.toInt.toNat + 4)).toInt < 12) ∧ 0 ≤ (ig (B + 56) (i.toInt.toNat + 4)).toInt ∧ (ig (B + 56) (i.toInt.toNat + 4)).toInt < 24) := by
  have e : 120 * p.toInt.toNat + k.toInt.toNat = i.toInt.toNat := by omega
  have h9 := (h.at (p := p.toInt.toNat) (k := k.toInt.toNat) (by omega) (by omega) hkd (by omega)).1
  rw [e] at h9
  obtain ⟨a1, a2, a3⟩ := h9.1 h2
  have hb : k.toInt + 5 < (ig (B + 58) p.toInt.toNat).toInt := by omega
  have e2 : 120 * p.toInt.toNat + (k.toInt.toNat + 2) = i.toInt.toNat + 2 := by omega
  have e4 : 120 * p.toInt.toNat + (k.toInt.toNat + 4) = i.toInt.toNat + 4 := by omega
  have h8 := (h.at (p := p.toInt.toNat) (k := k.toInt.toNat + 2) (by omega) (by omega) hkd (by omega)).2
  have h7 := (h.at (p := p.toInt.toNat) (k := k.toInt.toNat + 4) (by omega) (by omega) hkd (by omega)).2
  rw [e2] at h8
  rw [e4] at h7
  exact ⟨hb, h8 a2, h7 a3⟩
end MROW
def isLm (c : Nat) : Prop := c = 64 ∨ c = 65
theorem isLm.k {B c : Nat} {kd : sK} (h : isLm c) (hs : Sh B kd) : kd (B + c) = some (23, 1440) := by
  rcases h with rfl | rfl <;> exact hs _ _ rfl

set_option maxHeartbeats 4000000 in
set_option maxRecDepth 100000 in
theorem t_X12_isPlace {υ : Option Int} {τ : Tp} {φ : Option Int} (l : Launch) (B : Nat) (D : va_G) (cA : Nat → ClassId) (kd : sK) (ig : sI) (rg : sR) (lg : sG) (sz : Nat) (x : Int32) (hI : IM τ φ υ B kd ig rg) : MC l B D cA yX12_isPlace cX12_isPlace 1 (some .boolean) (rL 0 0 0) [.int x] kd ig rg lg sz (Pu kd ig rg lg sz (fun r => ∃ z : Int32, r = some (.int z) ∧ ((0 ≤ x.toInt ∧ x.toInt < 288) → z.toInt = 1) ∧ (¬ (0 ≤ x.toInt ∧ x.toInt < 288) → z.toInt = 0))) := by
  refine MC.of (own := RX12) (by decide +kernel) rfl (Nat.le_of_ble_eq_true rfl) ?_
  intro p e s m args below meth c ls C hr hlk hnm hw hsz hl
  have hx := C.1.1
  have hb := C.1.2.1
  have hown := C.1.2.2.2.1
  have hts := C.1.2.2.2.2
  have hl : lv_has ls 1 [(0, .int x)] := hl
  have hsh := hI.sh
  have hrm := hI.rm
  refine lv_iload_n hx hb dX12_isPlace_0 rfl (lv_at hl 0 rfl) ?_
  refine z_lt (tgt := 15) hx hb dX12_isPlace_1 (by decide) (fun c1 => ?_) (fun c1 => ?_)
  · refine lv_iconst (v := 0) hx hb dX12_isPlace_15 (by decide) (ti_c 0 (by decide) fun z1 hz1 => ?_)
    exact r_iret C hw hr hlk (nar_b (by omega)) (Nat.le_of_ble_eq_true rfl) (Nat.le_of_ble_eq_true rfl) dX12_isPlace_16 ⟨rfl, rfl, rfl, rfl, hsz, ⟨_, rfl, by omega⟩⟩
  · refine lv_iload_n hx hb dX12_isPlace_4 rfl (lv_at hl 0 rfl) ?_
    refine lv_sipush (v := 288) hx hb dX12_isPlace_5 (by decide) (ti_c 288 (by decide) fun z2 hz2 => ?_)
    refine b_ge (tgt := 15) hx hb dX12_isPlace_8 (by decide) (fun c8 => ?_) (fun c8 => ?_)
    · refine lv_iconst (v := 0) hx hb dX12_isPlace_15 (by decide) (ti_c 0 (by decide) fun z3 hz3 => ?_)
      exact r_iret C hw hr hlk (nar_b (by omega)) (Nat.le_of_ble_eq_true rfl) (Nat.le_of_ble_eq_true rfl) dX12_isPlace_16 ⟨rfl, rfl, rfl, rfl, hsz, ⟨_, rfl, by omega⟩⟩
    · refine lv_iconst (v := 1) hx hb dX12_isPlace_11 (by decide) (ti_c 1 (by decide) fun z4 hz4 => ?_)
      refine lv_goto (tgt := 16) hx hb dX12_isPlace_12 (by decide) ?_
      exact r_iret C hw hr hlk (nar_b (by omega)) (Nat.le_of_ble_eq_true rfl) (Nat.le_of_ble_eq_true rfl) dX12_isPlace_16 ⟨rfl, rfl, rfl, rfl, hsz, ⟨_, rfl, by omega⟩⟩

set_option maxHeartbeats 4000000 in
set_option maxRecDepth 100000 in
theorem t_X12_isLetter {υ : Option Int} {τ : Tp} {φ : Option Int} (l : Launch) (B : Nat) (D : va_G) (cA : Nat → ClassId) (kd : sK) (ig : sI) (rg : sR) (lg : sG) (sz : Nat) (x : Int32) (hI : IM τ φ υ B kd ig rg) : MC l B D cA yX12_isLetter cX12_isLetter 1 (some .boolean) (rL 0 0 0) [.int x] kd ig rg lg sz (Pu kd ig rg lg sz (fun r => ∃ z : Int32, r = some (.int z) ∧ (z.toInt = 0 ∨ z.toInt = 1))) := by
  refine MC.of (own := RX12) (by decide +kernel) rfl (Nat.le_of_ble_eq_true rfl) ?_
  intro p e s m args below meth c ls C hr hlk hnm hw hsz hl
  have hx := C.1.1
  have hb := C.1.2.1
  have hown := C.1.2.2.2.1
  have hts := C.1.2.2.2.2
  have hl : lv_has ls 1 [(0, .int x)] := hl
  have hsh := hI.sh
  have hrm := hI.rm
  refine lv_iload_n hx hb dX12_isLetter_0 rfl (lv_at hl 0 rfl) ?_
  refine lv_bipush (v := 97) hx hb dX12_isLetter_1 (by decide) (ti_c 97 (by decide) fun z1 hz1 => ?_)
  refine b_lt (tgt := 16) hx hb dX12_isLetter_3 (by decide) (fun c3 => ?_) (fun c3 => ?_)
  · refine lv_iconst (v := 0) hx hb dX12_isLetter_16 (by decide) (ti_c 0 (by decide) fun z2 hz2 => ?_)
    exact r_iret C hw hr hlk (nar_b (by omega)) (Nat.le_of_ble_eq_true rfl) (Nat.le_of_ble_eq_true rfl) dX12_isLetter_17 ⟨rfl, rfl, rfl, rfl, hsz, ⟨_, rfl, by omega⟩⟩
  · refine lv_iload_n hx hb dX12_isLetter_6 rfl (lv_at hl 0 rfl) ?_
    refine lv_bipush (v := 122) hx hb dX12_isLetter_7 (by decide) (ti_c 122 (by decide) fun z3 hz3 => ?_)
    refine b_gt (tgt := 16) hx hb dX12_isLetter_9 (by decide) (fun c9 => ?_) (fun c9 => ?_)
    · refine lv_iconst (v := 0) hx hb dX12_isLetter_16 (by decide) (ti_c 0 (by decide) fun z4 hz4 => ?_)
      exact r_iret C hw hr hlk (nar_b (by omega)) (Nat.le_of_ble_eq_true rfl) (Nat.le_of_ble_eq_true rfl) dX12_isLetter_17 ⟨rfl, rfl, rfl, rfl, hsz, ⟨_, rfl, by omega⟩⟩
    · refine lv_iconst (v := 1) hx hb dX12_isLetter_12 (by decide) (ti_c 1 (by decide) fun z5 hz5 => ?_)
      refine lv_goto (tgt := 17) hx hb dX12_isLetter_13 (by decide) ?_
      exact r_iret C hw hr hlk (nar_b (by omega)) (Nat.le_of_ble_eq_true rfl) (Nat.le_of_ble_eq_true rfl) dX12_isLetter_17 ⟨rfl, rfl, rfl, rfl, hsz, ⟨_, rfl, by omega⟩⟩

set_option maxHeartbeats 4000000 in
set_option maxRecDepth 100000 in
theorem t_X12_isDigit {υ : Option Int} {τ : Tp} {φ : Option Int} (l : Launch) (B : Nat) (D : va_G) (cA : Nat → ClassId) (kd : sK) (ig : sI) (rg : sR) (lg : sG) (sz : Nat) (x : Int32) (hI : IM τ φ υ B kd ig rg) : MC l B D cA yX12_isDigit cX12_isDigit 1 (some .boolean) (rL 0 0 0) [.int x] kd ig rg lg sz (Pu kd ig rg lg sz (fun r => ∃ z : Int32, r = some (.int z) ∧ (z.toInt = 0 ∨ z.toInt = 1))) := by
  refine MC.of (own := RX12) (by decide +kernel) rfl (Nat.le_of_ble_eq_true rfl) ?_
  intro p e s m args below meth c ls C hr hlk hnm hw hsz hl
  have hx := C.1.1
  have hb := C.1.2.1
  have hown := C.1.2.2.2.1
  have hts := C.1.2.2.2.2
  have hl : lv_has ls 1 [(0, .int x)] := hl
  have hsh := hI.sh
  have hrm := hI.rm
  refine lv_iload_n hx hb dX12_isDigit_0 rfl (lv_at hl 0 rfl) ?_
  refine lv_bipush (v := 48) hx hb dX12_isDigit_1 (by decide) (ti_c 48 (by decide) fun z1 hz1 => ?_)
  refine b_lt (tgt := 16) hx hb dX12_isDigit_3 (by decide) (fun c3 => ?_) (fun c3 => ?_)
  · refine lv_iconst (v := 0) hx hb dX12_isDigit_16 (by decide) (ti_c 0 (by decide) fun z2 hz2 => ?_)
    exact r_iret C hw hr hlk (nar_b (by omega)) (Nat.le_of_ble_eq_true rfl) (Nat.le_of_ble_eq_true rfl) dX12_isDigit_17 ⟨rfl, rfl, rfl, rfl, hsz, ⟨_, rfl, by omega⟩⟩
  · refine lv_iload_n hx hb dX12_isDigit_6 rfl (lv_at hl 0 rfl) ?_
    refine lv_bipush (v := 57) hx hb dX12_isDigit_7 (by decide) (ti_c 57 (by decide) fun z3 hz3 => ?_)
    refine b_gt (tgt := 16) hx hb dX12_isDigit_9 (by decide) (fun c9 => ?_) (fun c9 => ?_)
    · refine lv_iconst (v := 0) hx hb dX12_isDigit_16 (by decide) (ti_c 0 (by decide) fun z4 hz4 => ?_)
      exact r_iret C hw hr hlk (nar_b (by omega)) (Nat.le_of_ble_eq_true rfl) (Nat.le_of_ble_eq_true rfl) dX12_isDigit_17 ⟨rfl, rfl, rfl, rfl, hsz, ⟨_, rfl, by omega⟩⟩
    · refine lv_iconst (v := 1) hx hb dX12_isDigit_12 (by decide) (ti_c 1 (by decide) fun z5 hz5 => ?_)
      refine lv_goto (tgt := 17) hx hb dX12_isDigit_13 (by decide) ?_
      exact r_iret C hw hr hlk (nar_b (by omega)) (Nat.le_of_ble_eq_true rfl) (Nat.le_of_ble_eq_true rfl) dX12_isDigit_17 ⟨rfl, rfl, rfl, rfl, hsz, ⟨_, rfl, by omega⟩⟩

set_option maxHeartbeats 4000000 in
set_option maxRecDepth 100000 in
theorem t_X12_isSignOf {υ : Option Int} {τ : Tp} {φ : Option Int} (l : Launch) (B : Nat) (D : va_G) (cA : Nat → ClassId) (kd : sK) (ig : sI) (rg : sR) (lg : sG) (sz : Nat) (x : Int32) (hI : IM τ φ υ B kd ig rg) : MC l B D cA yX12_isSignOf cX12_isSignOf 1 (some .boolean) (rL 0 0 0) [.int x] kd ig rg lg sz (Pu kd ig rg lg sz (fun r => ∃ z : Int32, r = some (.int z) ∧ (z.toInt = 0 ∨ z.toInt = 1))) := by
  refine MC.of (own := RX12) (by decide +kernel) rfl (Nat.le_of_ble_eq_true rfl) ?_
  intro p e s m args below meth c ls C hr hlk hnm hw hsz hl
  have hx := C.1.1
  have hb := C.1.2.1
  have hown := C.1.2.2.2.1
  have hts := C.1.2.2.2.2
  have hl : lv_has ls 1 [(0, .int x)] := hl
  have hsh := hI.sh
  have hrm := hI.rm
  refine lv_iload_n hx hb dX12_isSignOf_0 rfl (lv_at hl 0 rfl) ?_
  refine lv_bipush (v := 40) hx hb dX12_isSignOf_1 (by decide) (ti_c 40 (by decide) fun z1 hz1 => ?_)
  refine b_eq (tgt := 48) hx hb dX12_isSignOf_3 (by decide) (fun c3 => ?_) (fun c3 => ?_)
  · refine lv_iconst (v := 1) hx hb dX12_isSignOf_48 (by decide) (ti_c 1 (by decide) fun z2 hz2 => ?_)
    refine lv_goto (tgt := 53) hx hb dX12_isSignOf_49 (by decide) ?_
    exact r_iret C hw hr hlk (nar_b (by omega)) (Nat.le_of_ble_eq_true rfl) (Nat.le_of_ble_eq_true rfl) dX12_isSignOf_53 ⟨rfl, rfl, rfl, rfl, hsz, ⟨_, rfl, by omega⟩⟩
  · refine lv_iload_n hx hb dX12_isSignOf_6 rfl (lv_at hl 0 rfl) ?_
    refine lv_bipush (v := 41) hx hb dX12_isSignOf_7 (by decide) (ti_c 41 (by decide) fun z3 hz3 => ?_)
    refine b_eq (tgt := 48) hx hb dX12_isSignOf_9 (by decide) (fun c9 => ?_) (fun c9 => ?_)
    · refine lv_iconst (v := 1) hx hb dX12_isSignOf_48 (by decide) (ti_c 1 (by decide) fun z4 hz4 => ?_)
      refine lv_goto (tgt := 53) hx hb dX12_isSignOf_49 (by decide) ?_
      exact r_iret C hw hr hlk (nar_b (by omega)) (Nat.le_of_ble_eq_true rfl) (Nat.le_of_ble_eq_true rfl) dX12_isSignOf_53 ⟨rfl, rfl, rfl, rfl, hsz, ⟨_, rfl, by omega⟩⟩
    · refine lv_iload_n hx hb dX12_isSignOf_12 rfl (lv_at hl 0 rfl) ?_
      refine lv_bipush (v := 43) hx hb dX12_isSignOf_13 (by decide) (ti_c 43 (by decide) fun z5 hz5 => ?_)
      refine b_eq (tgt := 48) hx hb dX12_isSignOf_15 (by decide) (fun c15 => ?_) (fun c15 => ?_)
      · refine lv_iconst (v := 1) hx hb dX12_isSignOf_48 (by decide) (ti_c 1 (by decide) fun z6 hz6 => ?_)
        refine lv_goto (tgt := 53) hx hb dX12_isSignOf_49 (by decide) ?_
        exact r_iret C hw hr hlk (nar_b (by omega)) (Nat.le_of_ble_eq_true rfl) (Nat.le_of_ble_eq_true rfl) dX12_isSignOf_53 ⟨rfl, rfl, rfl, rfl, hsz, ⟨_, rfl, by omega⟩⟩
      · refine lv_iload_n hx hb dX12_isSignOf_18 rfl (lv_at hl 0 rfl) ?_
        refine lv_bipush (v := 45) hx hb dX12_isSignOf_19 (by decide) (ti_c 45 (by decide) fun z7 hz7 => ?_)
        refine b_eq (tgt := 48) hx hb dX12_isSignOf_21 (by decide) (fun c21 => ?_) (fun c21 => ?_)
        · refine lv_iconst (v := 1) hx hb dX12_isSignOf_48 (by decide) (ti_c 1 (by decide) fun z8 hz8 => ?_)
          refine lv_goto (tgt := 53) hx hb dX12_isSignOf_49 (by decide) ?_
          exact r_iret C hw hr hlk (nar_b (by omega)) (Nat.le_of_ble_eq_true rfl) (Nat.le_of_ble_eq_true rfl) dX12_isSignOf_53 ⟨rfl, rfl, rfl, rfl, hsz, ⟨_, rfl, by omega⟩⟩
        · refine lv_iload_n hx hb dX12_isSignOf_24 rfl (lv_at hl 0 rfl) ?_
          refine lv_bipush (v := 42) hx hb dX12_isSignOf_25 (by decide) (ti_c 42 (by decide) fun z9 hz9 => ?_)
          refine b_eq (tgt := 48) hx hb dX12_isSignOf_27 (by decide) (fun c27 => ?_) (fun c27 => ?_)
          · refine lv_iconst (v := 1) hx hb dX12_isSignOf_48 (by decide) (ti_c 1 (by decide) fun z10 hz10 => ?_)
            refine lv_goto (tgt := 53) hx hb dX12_isSignOf_49 (by decide) ?_
            exact r_iret C hw hr hlk (nar_b (by omega)) (Nat.le_of_ble_eq_true rfl) (Nat.le_of_ble_eq_true rfl) dX12_isSignOf_53 ⟨rfl, rfl, rfl, rfl, hsz, ⟨_, rfl, by omega⟩⟩
          · refine lv_iload_n hx hb dX12_isSignOf_30 rfl (lv_at hl 0 rfl) ?_
            refine lv_bipush (v := 47) hx hb dX12_isSignOf_31 (by decide) (ti_c 47 (by decide) fun z11 hz11 => ?_)
            refine b_eq (tgt := 48) hx hb dX12_isSignOf_33 (by decide) (fun c33 => ?_) (fun c33 => ?_)
            · refine lv_iconst (v := 1) hx hb dX12_isSignOf_48 (by decide) (ti_c 1 (by decide) fun z12 hz12 => ?_)
              refine lv_goto (tgt := 53) hx hb dX12_isSignOf_49 (by decide) ?_
              exact r_iret C hw hr hlk (nar_b (by omega)) (Nat.le_of_ble_eq_true rfl) (Nat.le_of_ble_eq_true rfl) dX12_isSignOf_53 ⟨rfl, rfl, rfl, rfl, hsz, ⟨_, rfl, by omega⟩⟩
            · refine lv_iload_n hx hb dX12_isSignOf_36 rfl (lv_at hl 0 rfl) ?_
              refine lv_bipush (v := 58) hx hb dX12_isSignOf_37 (by decide) (ti_c 58 (by decide) fun z13 hz13 => ?_)
              refine b_eq (tgt := 48) hx hb dX12_isSignOf_39 (by decide) (fun c39 => ?_) (fun c39 => ?_)
              · refine lv_iconst (v := 1) hx hb dX12_isSignOf_48 (by decide) (ti_c 1 (by decide) fun z14 hz14 => ?_)
                refine lv_goto (tgt := 53) hx hb dX12_isSignOf_49 (by decide) ?_
                exact r_iret C hw hr hlk (nar_b (by omega)) (Nat.le_of_ble_eq_true rfl) (Nat.le_of_ble_eq_true rfl) dX12_isSignOf_53 ⟨rfl, rfl, rfl, rfl, hsz, ⟨_, rfl, by omega⟩⟩
              · refine lv_iload_n hx hb dX12_isSignOf_42 rfl (lv_at hl 0 rfl) ?_
                refine lv_bipush (v := 36) hx hb dX12_isSignOf_43 (by decide) (ti_c 36 (by decide) fun z15 hz15 => ?_)
                refine b_ne (tgt := 52) hx hb dX12_isSignOf_45 (by decide) (fun c45 => ?_) (fun c45 => ?_)
                · refine lv_iconst (v := 0) hx hb dX12_isSignOf_52 (by decide) (ti_c 0 (by decide) fun z16 hz16 => ?_)
                  exact r_iret C hw hr hlk (nar_b (by omega)) (Nat.le_of_ble_eq_true rfl) (Nat.le_of_ble_eq_true rfl) dX12_isSignOf_53 ⟨rfl, rfl, rfl, rfl, hsz, ⟨_, rfl, by omega⟩⟩
                · refine lv_iconst (v := 1) hx hb dX12_isSignOf_48 (by decide) (ti_c 1 (by decide) fun z17 hz17 => ?_)
                  refine lv_goto (tgt := 53) hx hb dX12_isSignOf_49 (by decide) ?_
                  exact r_iret C hw hr hlk (nar_b (by omega)) (Nat.le_of_ble_eq_true rfl) (Nat.le_of_ble_eq_true rfl) dX12_isSignOf_53 ⟨rfl, rfl, rfl, rfl, hsz, ⟨_, rfl, by omega⟩⟩

set_option maxHeartbeats 4000000 in
set_option maxRecDepth 100000 in
theorem t_X12_lay {υ : Option Int} {τ : Tp} {φ : Option Int} (l : Launch) (B : Nat) (D : va_G) (cA : Nat → ClassId) (kd : sK) (ig : sI) (rg : sR) (lg : sG) (sz : Nat) (x : Int64) (hI : IM τ φ υ B kd ig rg) : MC l B D cA yX12_lay cX12_lay 5 none (rL 0 0 0) [.ref (B + 49), .long x] kd ig rg lg sz (PM (fd τ (byM x) 8) φ υ B [49, 50] kd ig rg lg (fun r ig' lg' => r = none)) := by
  refine MC.of (own := RX12) (by decide +kernel) rfl (Nat.le_of_ble_eq_true rfl) ?_
  intro p e s m args below meth c ls C hr hlk hnm hw hsz hl
  have hx := C.1.1
  have hb := C.1.2.1
  have hown := C.1.2.2.2.1
  have hts := C.1.2.2.2.2
  have hl : lv_has ls 5 [(0, .ref (B + 49)), (1, .long x)] := hl
  have hF : Ft B [49, 50] ig lg ig lg := Ft.rf
  have hsh := hI.sh
  have hrm := hI.rm
  refine lv_bipush (v := 56) hx hb dX12_lay_0 (by decide) (ti_c 56 (by decide) fun z1 hz1 => ?_)
  refine lv_istore_n (lv' := [(3, .int z1), (0, .ref (B + 49)), (1, .long x)]) hx hb dX12_lay_2 rfl hl (by decide) rfl (fun ls hl => ?_)
  have L3 : ∀ (n : Nat) (ls : Array Slot) (H : Heap) (locs : List Loc) (ig3 : sI) (lg4 : sG) (v2 : Int32), lv_has ls 5 [(3, .int v2), (0, .ref (B + 49)), (1, .long x)] → WD B D cA s.heap kd ig3 rg lg4 H locs → (∃ i : Nat, i ≤ 8 ∧ v2.toInt = 56 - 8 * (i : Int) ∧ IM (fd τ (byM x) i) φ υ B kd ig3 rg) → Ft B [49, 50] ig lg ig3 lg4 → (-8 ≤ v2.toInt) → (v2.toInt ≤ 56) → v2.toInt + 8 < (n : Int) → W p l e (rL 0 0 0) s m args below meth c H locs 0 0 (MQ below (QcW B D cA (PM (fd τ (byM x) 8) φ υ B [49, 50] kd ig rg lg (fun r ig' lg' => r = none))) args s 0 0 (fun q => B ≤ q)) (F0 m 3 ls []) := by
    intro n3
    induction n3 with
    | zero => intro ls H locs ig3 lg4 v2 hl hw hI hF g3_0 g3_1 hmu; exact absurd hmu (by omega)
    | succ n3 ih3 =>
      intro ls H locs ig3 lg4 v2 hl hw hI hF g3_0 g3_1 hmu
      obtain ⟨i, hi8, hs3, hI⟩ := hI
      have hT := hI.len
      refine lv_iload_n hx hb dX12_lay_3 rfl (lv_at hl 0 rfl) ?_
      refine z_lt (tgt := 67) hx hb dX12_lay_4 (by decide) (fun c4 => ?_) (fun c4 => ?_)
      · have e8 : i = 8 := by omega
        subst e8
        exact r_vret C hw hr hlk (Nat.le_of_ble_eq_true rfl) (Nat.le_of_ble_eq_true rfl) dX12_lay_67 ⟨rfl, rfl, hI, hF, rfl⟩
      · refine lv_lload_n hx hb dX12_lay_7 rfl (lv_at hl 2 rfl) ?_
        refine lv_iload_n hx hb dX12_lay_8 rfl (lv_at hl 0 rfl) ?_
        refine lv_lshr hx hb dX12_lay_9 rfl (lv_topl fun x5 hx5 => ?_)
        refine lv_l2i hx hb dX12_lay_10 rfl (lv_topi fun z6 hz6 => ?_)
        refine lv_sipush (v := 255) hx hb dX12_lay_11 (by decide) (ti_c 255 (by decide) fun z7 hz7 => ?_)
        refine lv_iand hx hb dX12_lay_14 (lv_topi fun z8 hz8 => ?_)
        refine lv_istore (lv' := [(4, .int z8), (3, .int v2), (0, .ref (B + 49)), (1, .long x)]) hx hb dX12_lay_15 hl (by decide) rfl (fun ls hl => ?_)
        have hby : z8 = byM x i := by rw [hz8, hz6, hx5, i32_inj (hz7.trans (show (255 : Int) = (255 : Int32).toInt from rfl)), show v2 = sh8 i from i32_inj (hs3.trans (sh8_toInt (by omega)).symm)]; rfl
        refine lv_iload hx hb dX12_lay_17 (lv_at hl 0 rfl) ?_
        refine lv_bipush (v := 32) hx hb dX12_lay_19 (by decide) (ti_c 32 (by decide) fun z9 hz9 => ?_)
        refine b_lt (tgt := 61) hx hb dX12_lay_21 (by decide) (fun c21 => ?_) (fun c21 => ?_)
        · refine tc_inc hx hb dX12_lay_61 hl (k := 1) rfl (by decide) (by decide) (fun z10 hz10 ls hl => ?_)
          first | replace hz10 := hz10 (by omega) | clear hz10
          have hl : lv_has ls 5 [(3, .int z10), (4, .int z8), (0, .ref (B + 49)), (1, .long x)] := hl
          refine lv_goto (tgt := 3) hx hb dX12_lay_64 (by decide) ?_
          exact ih3 ls H locs ig3 lg4 z10 (lv_sub hl [0, 2, 3] rfl) hw ⟨i + 1, by omega, by omega, by rw [fd_no (by rw [← hby]; omega)]; exact hI⟩ hF (by omega) (by omega) (by omega)
        · refine lv_iload hx hb dX12_lay_24 (lv_at hl 0 rfl) ?_
          refine lv_bipush (v := 126) hx hb dX12_lay_26 (by decide) (ti_c 126 (by decide) fun z11 hz11 => ?_)
          refine b_gt (tgt := 61) hx hb dX12_lay_28 (by decide) (fun c28 => ?_) (fun c28 => ?_)
          · refine tc_inc hx hb dX12_lay_61 hl (k := 1) rfl (by decide) (by decide) (fun z12 hz12 ls hl => ?_)
            first | replace hz12 := hz12 (by omega) | clear hz12
            have hl : lv_has ls 5 [(3, .int z12), (4, .int z8), (0, .ref (B + 49)), (1, .long x)] := hl
            refine lv_goto (tgt := 3) hx hb dX12_lay_64 (by decide) ?_
            exact ih3 ls H locs ig3 lg4 z12 (lv_sub hl [0, 2, 3] rfl) hw ⟨i + 1, by omega, by omega, by rw [fd_no (by rw [← hby]; omega)]; exact hI⟩ hF (by omega) (by omega) (by omega)
          · refine lv_aload_n hx hb dX12_lay_31 rfl (lv_at hl 2 rfl) ?_
            refine r_get C hw (hsh 49 _ rfl) fl_X12_11 (oV_i rfl) dX12_lay_32 (ti_c (ig3 (B + 49) 2).toInt rfl fun z13 hz13 => ?_)
            have k14 : 0 ≤ (ig3 (B + 49) 2).toInt ∧ (ig3 (B + 49) 2).toInt ≤ 120 := hI.i 49 2 (by decide) (by decide)
            refine lv_bipush (v := 120) hx hb dX12_lay_35 (by decide) (ti_c 120 (by decide) fun z15 hz15 => ?_)
            refine b_ge (tgt := 61) hx hb dX12_lay_37 (by decide) (fun c37 => ?_) (fun c37 => ?_)
            · refine tc_inc hx hb dX12_lay_61 hl (k := 1) rfl (by decide) (by decide) (fun z16 hz16 ls hl => ?_)
              first | replace hz16 := hz16 (by omega) | clear hz16
              have hl : lv_has ls 5 [(3, .int z16), (4, .int z8), (0, .ref (B + 49)), (1, .long x)] := hl
              refine lv_goto (tgt := 3) hx hb dX12_lay_64 (by decide) ?_
              exact ih3 ls H locs ig3 lg4 z16 (lv_sub hl [0, 2, 3] rfl) hw ⟨i + 1, by omega, by omega, by rw [fd_no (by rw [← hby]; omega)]; exact hI⟩ hF (by omega) (by omega) (by omega)
            · refine lv_aload_n hx hb dX12_lay_40 rfl (lv_at hl 2 rfl) ?_
              refine r_get C hw (hsh 49 _ rfl) fl_X12_14 (oV_r rfl (hrm (49, 1, 50) (by decide))) dX12_lay_41 ?_
              refine lv_aload_n hx hb dX12_lay_44 rfl (lv_at hl 2 rfl) ?_
              refine r_get C hw (hsh 49 _ rfl) fl_X12_11 (oV_i rfl) dX12_lay_45 (ti_c (ig3 (B + 49) 2).toInt rfl fun z17 hz17 => ?_)
              have k18 : 0 ≤ (ig3 (B + 49) 2).toInt ∧ (ig3 (B + 49) 2).toInt ≤ 120 := hI.i 49 2 (by decide) (by decide)
              refine lv_iload hx hb dX12_lay_48 (lv_at hl 0 rfl) ?_
              refine r_iast C hw (hsh 50 _ rfl) (by omega) (by omega) dX12_lay_50 (fun H locs hH hw => ?_)
              obtain ⟨ig19, eig19⟩ : ∃ f, f = up2 ig3 (B + 50) z17.toInt.toNat z8 := ⟨_, rfl⟩
              rw [← eig19] at hw
              have hF : Ft B [49, 50] ig lg ig19 lg4 := by rw [eig19]; exact hF.pi (by decide)
              have hB : (ig19 (B + 49) 2).toInt = (ig3 (B + 49) 2).toInt := by rw [eig19, up2_a (by omega)]
              have wig19_49_2 : (ig19 (B + 49) 2).toInt = (ig3 (B + 49) 2).toInt := by rw [eig19, up2_a (by omega)]
              refine lv_aload_n hx hb dX12_lay_51 rfl (lv_at hl 2 rfl) ?_
              refine lv_dup hx hb dX12_lay_52 rfl ?_
              refine r_get C hw (hsh 49 _ rfl) fl_X12_11 (oV_i rfl) dX12_lay_53 (ti_c (ig19 (B + 49) 2).toInt rfl fun z20 hz20 => ?_)
              have k21 : 0 ≤ (ig19 (B + 49) 2).toInt ∧ (ig19 (B + 49) 2).toInt ≤ 120 := by omega
              refine lv_iconst (v := 1) hx hb dX12_lay_56 (by decide) (ti_c 1 (by decide) fun z22 hz22 => ?_)
              refine lv_iadd hx hb dX12_lay_57 (tc_add fun z23 hz23 => ?_)
              first | replace hz23 := hz23 (by omega) | clear hz23
              refine r_puti C hw (hsh 49 _ rfl) fl_X12_11 rfl rfl rfl dX12_lay_58 (fun H locs hH hw => ?_)
              obtain ⟨ig24, eig24⟩ : ∃ f, f = up2 ig19 (B + 49) 2 z23 := ⟨_, rfl⟩
              rw [← eig24] at hw
              have hF : Ft B [49, 50] ig lg ig24 lg4 := by rw [eig24]; exact hF.pi (by decide)
              have hI : IM (fd τ (byM x) (i + 1)) φ υ B kd ig24 rg := by rw [eig24, eig19, hby, fd_yes (by rw [← hby]; omega)]; exact hI.app (by omega) (by omega) (by omega)
              have wig24 : (ig24 (B + 49) 2).toInt = z23.toInt := by rw [eig24, up2_eq]
              refine tc_inc hx hb dX12_lay_61 hl (k := 1) rfl (by decide) (by decide) (fun z25 hz25 ls hl => ?_)
              first | replace hz25 := hz25 (by omega) | clear hz25
              have hl : lv_has ls 5 [(3, .int z25), (4, .int z8), (0, .ref (B + 49)), (1, .long x)] := hl
              refine lv_goto (tgt := 3) hx hb dX12_lay_64 (by decide) ?_
              exact ih3 ls H locs ig24 lg4 z25 (lv_sub hl [0, 2, 3] rfl) hw ⟨i + 1, by omega, by omega, hI⟩ hF (by omega) (by omega) (by omega)
  exact L3 ((z1.toInt + 8) + 1).toNat ls s.heap [] ig lg z1 (lv_sub hl [0, 1, 2] rfl) hw ⟨0, by omega, by omega, hI⟩ hF (by omega) (by omega) (by omega)

set_option maxHeartbeats 4000000 in
set_option maxRecDepth 100000 in
theorem t_X12_feed {υ : Option Int} {τ : Tp} {φ : Option Int} (l : Launch) (B : Nat) (D : va_G) (cA : Nat → ClassId) (kd : sK) (ig : sI) (rg : sR) (lg : sG) (sz : Nat) (a : Int64) (b : Int64) (c0 : Int64) (hI : IM τ φ υ B kd ig rg) : MC l B D cA yX12_feed cX12_feed 7 (some .int) (rL 1 0 0) [.ref (B + 49), .long a, .long b, .long c0] kd ig rg lg sz (PM (fd (fd (fd τ (byM a) 8) (byM b) 8) (byM c0) 8) φ υ B [49, 50] kd ig rg lg (fun r ig' lg' => ∃ z : Int32, r = some (.int z) ∧ z.toInt = ((fd (fd (fd τ (byM a) 8) (byM b) 8) (byM c0) 8).length : Int))) := by
  refine MC.of (own := RX12) (by decide +kernel) rfl (Nat.le_of_ble_eq_true rfl) ?_
  intro p e s m args below meth c ls C hr hlk hnm hw hsz hl
  have hx := C.1.1
  have hb := C.1.2.1
  have hown := C.1.2.2.2.1
  have hts := C.1.2.2.2.2
  have hl : lv_has ls 7 [(0, .ref (B + 49)), (1, .long a), (3, .long b), (5, .long c0)] := hl
  have hF : Ft B [49, 50] ig lg ig lg := Ft.rf
  have hsh := hI.sh
  have hrm := hI.rm
  refine lv_aload_n hx hb dX12_feed_0 rfl (lv_at hl 0 rfl) ?_
  refine lv_iconst (v := 0) hx hb dX12_feed_1 (by decide) (ti_c 0 (by decide) fun z1 hz1 => ?_)
  refine r_puti C hw (hsh 49 _ rfl) fl_X12_1 rfl rfl rfl dX12_feed_2 (fun H locs hH hw => ?_)
  obtain ⟨ig2, eig2⟩ : ∃ f, f = up2 ig (B + 49) 0 z1 := ⟨_, rfl⟩
  rw [← eig2] at hw
  have hF : Ft B [49, 50] ig lg ig2 lg := by rw [eig2]; exact hF.pi (by decide)
  have hI : IM τ φ υ B kd ig2 rg := by rw [eig2]; exact hI.pi (by decide) (show okR none _ from trivial)
  have wig2_49_2 : (ig2 (B + 49) 2).toInt = (ig (B + 49) 2).toInt := by rw [eig2, up2_j (by decide)]
  refine lv_aload_n hx hb dX12_feed_5 rfl (lv_at hl 0 rfl) ?_
  refine lv_lload_n hx hb dX12_feed_6 rfl (lv_at hl 1 rfl) ?_
  refine r_callV (As := [.long a]) (rest := []) C hw (t_X12_lay l B D cA kd ig2 rg lg _ a  hI) sv_X12_7 (hsh 49 _ rfl) rfl hl.1 rfl (Nat.le_of_ble_eq_true rfl) ⟨Nat.le_of_ble_eq_true rfl, Nat.le_of_ble_eq_true rfl⟩ ⟨Nat.le_of_ble_eq_true rfl, Nat.le_of_ble_eq_true rfl⟩ dX12_feed_7 (fun r7 kd3 ig4 rg5 lg6 H locs hw hH hp8 => ?_)
  obtain ⟨rfl, rfl, hI, hchp8, hrhp8⟩ := hp8
  have hF : Ft B [49, 50] ig lg ig4 lg6 := Ft.tr hF hchp8 (by decide) (by decide)
  obtain rfl := hrhp8
  refine lv_aload_n hx hb dX12_feed_10 rfl (lv_at hl 0 rfl) ?_
  refine lv_lload_n hx hb dX12_feed_11 rfl (lv_at hl 2 rfl) ?_
  refine r_callV (As := [.long b]) (rest := []) C hw (t_X12_lay l B D cA kd ig4 rg lg6 _ b  hI) sv_X12_7 (hsh 49 _ rfl) rfl hl.1 rfl (Nat.le_of_ble_eq_true rfl) ⟨Nat.le_of_ble_eq_true rfl, Nat.le_of_ble_eq_true rfl⟩ ⟨Nat.le_of_ble_eq_true rfl, Nat.le_of_ble_eq_true rfl⟩ dX12_feed_12 (fun r13 kd9 ig10 rg11 lg12 H locs hw hH hp14 => ?_)
  obtain ⟨rfl, rfl, hI, hchp14, hrhp14⟩ := hp14
  have hF : Ft B [49, 50] ig lg ig10 lg12 := Ft.tr hF hchp14 (by decide) (by decide)
  obtain rfl := hrhp14
  refine lv_aload_n hx hb dX12_feed_15 rfl (lv_at hl 0 rfl) ?_
  refine lv_lload hx hb dX12_feed_16 (lv_at hl 3 rfl) ?_
  refine r_callV (As := [.long c0]) (rest := []) C hw (t_X12_lay l B D cA kd ig10 rg lg12 _ c0  hI) sv_X12_7 (hsh 49 _ rfl) rfl hl.1 rfl (Nat.le_of_ble_eq_true rfl) ⟨Nat.le_of_ble_eq_true rfl, Nat.le_of_ble_eq_true rfl⟩ ⟨Nat.le_of_ble_eq_true rfl, Nat.le_of_ble_eq_true rfl⟩ dX12_feed_18 (fun r19 kd15 ig16 rg17 lg18 H locs hw hH hp20 => ?_)
  obtain ⟨rfl, rfl, hI, hchp20, hrhp20⟩ := hp20
  have hF : Ft B [49, 50] ig lg ig16 lg18 := Ft.tr hF hchp20 (by decide) (by decide)
  obtain rfl := hrhp20
  refine lv_aload_n hx hb dX12_feed_21 rfl (lv_at hl 0 rfl) ?_
  refine r_get C hw (hsh 49 _ rfl) fl_X12_11 (oV_i rfl) dX12_feed_22 (ti_c (ig16 (B + 49) 2).toInt rfl fun z21 hz21 => ?_)
  have k22 : 0 ≤ (ig16 (B + 49) 2).toInt ∧ (ig16 (B + 49) 2).toInt ≤ 120 := hI.i 49 2 (by decide) (by decide)
  exact r_iret C hw hr hlk rfl (Nat.le_of_ble_eq_true rfl) (Nat.le_of_ble_eq_true rfl) dX12_feed_25 ⟨rfl, rfl, hI, hF, ⟨_, rfl, by rw [hz21]; exact hI.len.1⟩⟩

set_option maxHeartbeats 4000000 in
set_option maxRecDepth 100000 in
theorem t_X12_has {υ : Option Int} {τ : Tp} {φ : Option Int} (l : Launch) (B : Nat) (D : va_G) (cA : Nat → ClassId) (kd : sK) (ig : sI) (rg : sR) (lg : sG) (sz : Nat) (c0 : Nat) (hc : isLm c0) (x : Int32) (y : Int32) (hx0 : 0 ≤ x.toInt ∧ x.toInt < 288) (hy0 : 0 ≤ y.toInt ∧ y.toInt < 288) (hI : IM τ φ υ B kd ig rg) : MC l B D cA yX12_has cX12_has 3 (some .boolean) (rL 0 0 0) [.ref (B + c0), .int x, .int y] kd ig rg lg sz (Pu kd ig rg lg sz (fun r => ∃ z : Int32, r = some (.int z) ∧ (z.toInt = 0 ∨ z.toInt = 1))) := by
  refine MC.of (own := RX12) (by decide +kernel) rfl (Nat.le_of_ble_eq_true rfl) ?_
  intro p e s m args below meth c ls C hr hlk hnm hw hsz hl
  have hx := C.1.1
  have hb := C.1.2.1
  have hown := C.1.2.2.2.1
  have hts := C.1.2.2.2.2
  have hl : lv_has ls 3 [(0, .ref (B + c0)), (1, .int x), (2, .int y)] := hl
  have hsh := hI.sh
  have hrm := hI.rm
  refine lv_aload_n hx hb dX12_has_0 rfl (lv_at hl 0 rfl) ?_
  refine lv_iconst (v := 5) hx hb dX12_has_1 (by decide) (ti_c 5 (by decide) fun z1 hz1 => ?_)
  refine lv_iload_n hx hb dX12_has_2 rfl (lv_at hl 1 rfl) ?_
  refine lv_imul hx hb dX12_has_3 (tc_mulL 5 hz1 fun z2 hz2 => ?_)
  first | replace hz2 := hz2 (by omega) | clear hz2
  refine lv_iload_n hx hb dX12_has_4 rfl (lv_at hl 2 rfl) ?_
  refine lv_bipush (v := 64) hx hb dX12_has_5 (by decide) (ti_c 64 (by decide) fun z3 hz3 => ?_)
  refine lv_idiv hx hb dX12_has_7 (ne0_of (by omega)) (tc_div 64 hz3 (by decide) fun z4 bz4 hz4 => ?_)
  first | replace hz4 := hz4 (by omega) | clear hz4
  refine lv_iadd hx hb dX12_has_8 (tc_add fun z5 hz5 => ?_)
  first | replace hz5 := hz5 (by omega) | clear hz5
  refine r_lald C hw (isLm.k hc hsh) (by omega) (by omega) dX12_has_9 (lv_topl fun x6 hx6 => ?_)
  refine lv_iload_n hx hb dX12_has_10 rfl (lv_at hl 2 rfl) ?_
  refine lv_bipush (v := 64) hx hb dX12_has_11 (by decide) (ti_c 64 (by decide) fun z7 hz7 => ?_)
  refine lv_irem hx hb dX12_has_13 (ne0_of (by omega)) (tc_rem 64 hz7 (by decide) fun z8 bz8 hz8 => ?_)
  first | replace hz8 := hz8 (by omega) | clear hz8
  refine lv_lshr hx hb dX12_has_14 rfl (lv_topl fun x9 hx9 => ?_)
  refine lv_lconst (v := 1) hx hb dX12_has_15 (by decide) (lv_topl fun x10 hx10 => ?_)
  refine lv_land hx hb dX12_has_16 (lv_topl fun x11 hx11 => ?_)
  refine lv_lconst (v := 1) hx hb dX12_has_17 (by decide) (lv_topl fun x12 hx12 => ?_)
  refine W.lcmp hx hb dX12_has_18 (lv_topi fun z13 hz13 => ?_)
  refine z_ne (tgt := 26) hx hb dX12_has_19 (by decide) (fun c19 => ?_) (fun c19 => ?_)
  · refine lv_iconst (v := 0) hx hb dX12_has_26 (by decide) (ti_c 0 (by decide) fun z14 hz14 => ?_)
    exact r_iret C hw hr hlk (nar_b (by omega)) (Nat.le_of_ble_eq_true rfl) (Nat.le_of_ble_eq_true rfl) dX12_has_27 ⟨rfl, rfl, rfl, rfl, hsz, ⟨_, rfl, by omega⟩⟩
  · refine lv_iconst (v := 1) hx hb dX12_has_22 (by decide) (ti_c 1 (by decide) fun z15 hz15 => ?_)
    refine lv_goto (tgt := 27) hx hb dX12_has_23 (by decide) ?_
    exact r_iret C hw hr hlk (nar_b (by omega)) (Nat.le_of_ble_eq_true rfl) (Nat.le_of_ble_eq_true rfl) dX12_has_27 ⟨rfl, rfl, rfl, rfl, hsz, ⟨_, rfl, by omega⟩⟩

set_option maxHeartbeats 4000000 in
set_option maxRecDepth 100000 in
theorem t_X12_sets {υ : Option Int} {τ : Tp} {φ : Option Int} (l : Launch) (B : Nat) (D : va_G) (cA : Nat → ClassId) (kd : sK) (ig : sI) (rg : sR) (lg : sG) (sz : Nat) (c0 : Nat) (hc : isLm c0) (x : Int32) (y : Int32) (hx0 : 0 ≤ x.toInt ∧ x.toInt < 288) (hy0 : 0 ≤ y.toInt ∧ y.toInt < 288) (hI : IM τ φ υ B kd ig rg) : MC l B D cA yX12_sets cX12_sets 3 none (rL 0 0 0) [.ref (B + c0), .int x, .int y] kd ig rg lg sz (PM τ φ υ B [64, 65] kd ig rg lg (fun r ig' lg' => r = none)) := by
  refine MC.of (own := RX12) (by decide +kernel) rfl (Nat.le_of_ble_eq_true rfl) ?_
  intro p e s m args below meth c ls C hr hlk hnm hw hsz hl
  have hx := C.1.1
  have hb := C.1.2.1
  have hown := C.1.2.2.2.1
  have hts := C.1.2.2.2.2
  have hl : lv_has ls 3 [(0, .ref (B + c0)), (1, .int x), (2, .int y)] := hl
  have hF : Ft B [64, 65] ig lg ig lg := Ft.rf
  have hsh := hI.sh
  have hrm := hI.rm
  refine lv_aload_n hx hb dX12_sets_0 rfl (lv_at hl 0 rfl) ?_
  refine lv_iconst (v := 5) hx hb dX12_sets_1 (by decide) (ti_c 5 (by decide) fun z1 hz1 => ?_)
  refine lv_iload_n hx hb dX12_sets_2 rfl (lv_at hl 1 rfl) ?_
  refine lv_imul hx hb dX12_sets_3 (tc_mulL 5 hz1 fun z2 hz2 => ?_)
  first | replace hz2 := hz2 (by omega) | clear hz2
  refine lv_iload_n hx hb dX12_sets_4 rfl (lv_at hl 2 rfl) ?_
  refine lv_bipush (v := 64) hx hb dX12_sets_5 (by decide) (ti_c 64 (by decide) fun z3 hz3 => ?_)
  refine lv_idiv hx hb dX12_sets_7 (ne0_of (by omega)) (tc_div 64 hz3 (by decide) fun z4 bz4 hz4 => ?_)
  first | replace hz4 := hz4 (by omega) | clear hz4
  refine lv_iadd hx hb dX12_sets_8 (tc_add fun z5 hz5 => ?_)
  first | replace hz5 := hz5 (by omega) | clear hz5
  refine lv_dup2_11 hx hb dX12_sets_9 rfl rfl ?_
  refine r_lald C hw (isLm.k hc hsh) (by omega) (by omega) dX12_sets_10 (lv_topl fun x6 hx6 => ?_)
  refine lv_lconst (v := 1) hx hb dX12_sets_11 (by decide) (lv_topl fun x7 hx7 => ?_)
  refine lv_iload_n hx hb dX12_sets_12 rfl (lv_at hl 2 rfl) ?_
  refine lv_bipush (v := 64) hx hb dX12_sets_13 (by decide) (ti_c 64 (by decide) fun z8 hz8 => ?_)
  refine lv_irem hx hb dX12_sets_15 (ne0_of (by omega)) (tc_rem 64 hz8 (by decide) fun z9 bz9 hz9 => ?_)
  first | replace hz9 := hz9 (by omega) | clear hz9
  refine lv_lshl hx hb dX12_sets_16 rfl (lv_topl fun x10 hx10 => ?_)
  refine lv_lor hx hb dX12_sets_17 (lv_topl fun x11 hx11 => ?_)
  refine r_last C hw (isLm.k hc hsh) (by omega) (by omega) dX12_sets_18 (fun H locs hH hw => ?_)
  obtain ⟨lg12, elg12⟩ : ∃ f, f = up2 lg (B + c0) z5.toInt.toNat x11 := ⟨_, rfl⟩
  rw [← elg12] at hw
  have hF : Ft B [64, 65] ig lg ig lg12 := by rw [elg12]; exact hF.pl (by rcases hc with rfl | rfl <;> decide)
  exact r_vret C hw hr hlk (Nat.le_of_ble_eq_true rfl) (Nat.le_of_ble_eq_true rfl) dX12_sets_19 ⟨rfl, rfl, hI, hF, rfl⟩

set_option maxHeartbeats 4000000 in
set_option maxRecDepth 100000 in
theorem t_X12_isRing {υ : Option Int} {τ : Tp} {φ : Option Int} (l : Launch) (B : Nat) (D : va_G) (cA : Nat → ClassId) (kd : sK) (ig : sI) (rg : sR) (lg : sG) (sz : Nat) (x : Int32) (hx0 : 0 ≤ x.toInt ∧ x.toInt < 288) (hI : IM τ φ υ B kd ig rg) : MC l B D cA yX12_isRing cX12_isRing 2 (some .boolean) (rL 1 0 0) [.ref (B + 49), .int x] kd ig rg lg sz (Pu kd ig rg lg sz (fun r => ∃ z : Int32, r = some (.int z) ∧ (z.toInt = 0 ∨ z.toInt = 1))) := by
  refine MC.of (own := RX12) (by decide +kernel) rfl (Nat.le_of_ble_eq_true rfl) ?_
  intro p e s m args below meth c ls C hr hlk hnm hw hsz hl
  have hx := C.1.1
  have hb := C.1.2.1
  have hown := C.1.2.2.2.1
  have hts := C.1.2.2.2.2
  have hl : lv_has ls 2 [(0, .ref (B + 49)), (1, .int x)] := hl
  have hsh := hI.sh
  have hrm := hI.rm
  refine lv_aload_n hx hb dX12_isRing_0 rfl (lv_at hl 0 rfl) ?_
  refine r_get C hw (hsh 49 _ rfl) fl_X12_99 (oV_r rfl (hrm (49, 22, 65) (by decide))) dX12_isRing_1 ?_
  refine lv_iload_n hx hb dX12_isRing_4 rfl (lv_at hl 1 rfl) ?_
  refine lv_iload_n hx hb dX12_isRing_5 rfl (lv_at hl 1 rfl) ?_
  refine r_callS (As := [.ref (B + 65), .int x, .int x]) (rest := []) C hw (t_X12_has l B D cA kd ig rg lg _ 65 (Or.inr rfl) x x (by omega) (by omega) hI) ss_X12_222 rfl hl.1 rfl (Nat.le_of_ble_eq_true rfl) ⟨Nat.le_of_ble_eq_true rfl, Nat.le_of_ble_eq_true rfl⟩ ⟨Nat.le_of_ble_eq_true rfl, Nat.le_of_ble_eq_true rfl⟩ dX12_isRing_6 (fun r5 kd1 ig2 rg3 lg4 H locs hw hH hp6 => ?_)
  obtain ⟨rfl, rfl, rfl, rfl, hzhp6, hrhp6⟩ := hp6
  have hsz := hzhp6.trans hsz
  obtain ⟨z7, rfl, hz7⟩ := hrhp6
  exact r_iret C hw hr hlk (nar_b (by omega)) (Nat.le_of_ble_eq_true rfl) (Nat.le_of_ble_eq_true rfl) dX12_isRing_9 ⟨rfl, rfl, rfl, rfl, hsz, ⟨_, rfl, by omega⟩⟩

set_option maxHeartbeats 4000000 in
set_option maxRecDepth 100000 in
theorem t_X12_readMany {υ : Option Int} {τ : Tp} {φ : Option Int} (l : Launch) (B : Nat) (D : va_G) (cA : Nat → ClassId) (kd : sK) (ig : sI) (rg : sR) (lg : sG) (sz : Nat) (x : Int32) (hx0 : 0 ≤ x.toInt ∧ x.toInt < 288) (hI : IM τ φ υ B kd ig rg) : MC l B D cA yX12_readMany cX12_readMany 4 (some .int) (rL 1 0 0) [.ref (B + 49), .int x] kd ig rg lg sz (Pu kd ig rg lg sz (fun r => ∃ z : Int32, r = some (.int z) ∧ True)) := by
  refine MC.of (own := RX12) (by decide +kernel) rfl (Nat.le_of_ble_eq_true rfl) ?_
  intro p e s m args below meth c ls C hr hlk hnm hw hsz hl
  have hx := C.1.1
  have hb := C.1.2.1
  have hown := C.1.2.2.2.1
  have hts := C.1.2.2.2.2
  have hl : lv_has ls 4 [(0, .ref (B + 49)), (1, .int x)] := hl
  have hsh := hI.sh
  have hrm := hI.rm
  refine lv_iconst (v := 0) hx hb dX12_readMany_0 (by decide) (ti_c 0 (by decide) fun z1 hz1 => ?_)
  refine lv_istore_n (lv' := [(2, .int z1), (0, .ref (B + 49)), (1, .int x)]) hx hb dX12_readMany_1 rfl hl (by decide) rfl (fun ls hl => ?_)
  refine lv_iconst (v := 0) hx hb dX12_readMany_2 (by decide) (ti_c 0 (by decide) fun z2 hz2 => ?_)
  refine lv_istore_n (lv' := [(3, .int z2), (2, .int z1), (0, .ref (B + 49)), (1, .int x)]) hx hb dX12_readMany_3 rfl hl (by decide) rfl (fun ls hl => ?_)
  have L4 : ∀ (n : Nat) (ls : Array Slot) (H : Heap) (locs : List Loc) (v3 : Int32) (v4 : Int32), lv_has ls 4 [(3, .int v3), (2, .int v4), (0, .ref (B + 49)), (1, .int x)] → WD B D cA s.heap kd ig rg lg H locs → H.size = sz → (0 ≤ v3.toInt) → (v3.toInt ≤ 288) → 288 - v3.toInt < (n : Int) → W p l e (rL 1 0 0) s m args below meth c H locs 0 0 (MQ below (QcW B D cA (Pu kd ig rg lg sz (fun r => ∃ z : Int32, r = some (.int z) ∧ True))) args s 0 0 (fun q => B ≤ q)) (F0 m 4 ls []) := by
    intro n4
    induction n4 with
    | zero => intro ls H locs v3 v4 hl hw hsz g4_0 g4_1 hmu; exact absurd hmu (by omega)
    | succ n4 ih4 =>
      intro ls H locs v3 v4 hl hw hsz g4_0 g4_1 hmu
      refine lv_iload_n hx hb dX12_readMany_4 rfl (lv_at hl 0 rfl) ?_
      refine lv_sipush (v := 288) hx hb dX12_readMany_5 (by decide) (ti_c 288 (by decide) fun z5 hz5 => ?_)
      refine b_ge (tgt := 37) hx hb dX12_readMany_8 (by decide) (fun c8 => ?_) (fun c8 => ?_)
      · refine lv_iload_n hx hb dX12_readMany_37 rfl (lv_at hl 1 rfl) ?_
        exact r_iret C hw hr hlk rfl (Nat.le_of_ble_eq_true rfl) (Nat.le_of_ble_eq_true rfl) dX12_readMany_38 ⟨rfl, rfl, rfl, rfl, hsz, ⟨_, rfl, trivial⟩⟩
      · refine lv_iload_n hx hb dX12_readMany_11 rfl (lv_at hl 1 rfl) ?_
        refine lv_aload_n hx hb dX12_readMany_12 rfl (lv_at hl 2 rfl) ?_
        refine r_get C hw (hsh 49 _ rfl) fl_X12_96 (oV_r rfl (hrm (49, 21, 64) (by decide))) dX12_readMany_13 ?_
        refine lv_iload_n hx hb dX12_readMany_16 rfl (lv_at hl 3 rfl) ?_
        refine lv_iload_n hx hb dX12_readMany_17 rfl (lv_at hl 0 rfl) ?_
        refine r_callS (As := [.ref (B + 64), .int x, .int v3]) (rest := [.int v4]) C hw (t_X12_has l B D cA kd ig rg lg _ 64 (Or.inl rfl) x v3 (by omega) (by omega) hI) ss_X12_222 rfl hl.1 rfl (Nat.le_of_ble_eq_true rfl) ⟨Nat.le_of_ble_eq_true rfl, Nat.le_of_ble_eq_true rfl⟩ ⟨Nat.le_of_ble_eq_true rfl, Nat.le_of_ble_eq_true rfl⟩ dX12_readMany_18 (fun r10 kd6 ig7 rg8 lg9 H locs hw hH hp11 => ?_)
        obtain ⟨rfl, rfl, rfl, rfl, hzhp11, hrhp11⟩ := hp11
        have hsz := hzhp11.trans hsz
        obtain ⟨z12, rfl, hz12⟩ := hrhp11
        refine z_eq (tgt := 28) hx hb dX12_readMany_21 (by decide) (fun c21 => ?_) (fun c21 => ?_)
        · refine lv_iconst (v := 0) hx hb dX12_readMany_28 (by decide) (ti_c 0 (by decide) fun z13 hz13 => ?_)
          refine lv_iadd hx hb dX12_readMany_29 (tc_add fun z14 hz14 => ?_)
          first | replace hz14 := hz14 (by omega) | clear hz14
          refine lv_istore_n (lv' := [(2, .int z14), (3, .int v3), (0, .ref (B + 49)), (1, .int x)]) hx hb dX12_readMany_30 rfl hl (by decide) rfl (fun ls hl => ?_)
          refine tc_inc hx hb dX12_readMany_31 hl (k := 1) rfl (by decide) (by decide) (fun z15 hz15 ls hl => ?_)
          first | replace hz15 := hz15 (by omega) | clear hz15
          have hl : lv_has ls 4 [(3, .int z15), (2, .int z14), (0, .ref (B + 49)), (1, .int x)] := hl
          refine lv_goto (tgt := 4) hx hb dX12_readMany_34 (by decide) ?_
          exact ih4 ls H locs z15 z14 (lv_sub hl [0, 1, 2, 3] rfl) hw hsz (by omega) (by omega) (by omega)
        · refine lv_iconst (v := 1) hx hb dX12_readMany_24 (by decide) (ti_c 1 (by decide) fun z16 hz16 => ?_)
          refine lv_goto (tgt := 29) hx hb dX12_readMany_25 (by decide) ?_
          refine lv_iadd hx hb dX12_readMany_29 (tc_add fun z17 hz17 => ?_)
          first | replace hz17 := hz17 (by omega) | clear hz17
          refine lv_istore_n (lv' := [(2, .int z17), (3, .int v3), (0, .ref (B + 49)), (1, .int x)]) hx hb dX12_readMany_30 rfl hl (by decide) rfl (fun ls hl => ?_)
          refine tc_inc hx hb dX12_readMany_31 hl (k := 1) rfl (by decide) (by decide) (fun z18 hz18 ls hl => ?_)
          first | replace hz18 := hz18 (by omega) | clear hz18
          have hl : lv_has ls 4 [(3, .int z18), (2, .int z17), (0, .ref (B + 49)), (1, .int x)] := hl
          refine lv_goto (tgt := 4) hx hb dX12_readMany_34 (by decide) ?_
          exact ih4 ls H locs z18 z17 (lv_sub hl [0, 1, 2, 3] rfl) hw hsz (by omega) (by omega) (by omega)
  exact L4 ((288 - z2.toInt) + 1).toNat ls s.heap [] z2 z1 (lv_sub hl [0, 1, 2, 3] rfl) hw hsz (by omega) (by omega) (by omega)

set_option maxHeartbeats 4000000 in
set_option maxRecDepth 100000 in
theorem t_X12_readers {υ : Option Int} {τ : Tp} {φ : Option Int} (l : Launch) (B : Nat) (D : va_G) (cA : Nat → ClassId) (kd : sK) (ig : sI) (rg : sR) (lg : sG) (sz : Nat) (x : Int32) (hx0 : 0 ≤ x.toInt ∧ x.toInt < 288) (hI : IM τ φ υ B kd ig rg) : MC l B D cA yX12_readers cX12_readers 4 (some .int) (rL 1 0 0) [.ref (B + 49), .int x] kd ig rg lg sz (Pu kd ig rg lg sz (fun r => ∃ z : Int32, r = some (.int z) ∧ True)) := by
  refine MC.of (own := RX12) (by decide +kernel) rfl (Nat.le_of_ble_eq_true rfl) ?_
  intro p e s m args below meth c ls C hr hlk hnm hw hsz hl
  have hx := C.1.1
  have hb := C.1.2.1
  have hown := C.1.2.2.2.1
  have hts := C.1.2.2.2.2
  have hl : lv_has ls 4 [(0, .ref (B + 49)), (1, .int x)] := hl
  have hsh := hI.sh
  have hrm := hI.rm
  refine lv_iconst (v := 0) hx hb dX12_readers_0 (by decide) (ti_c 0 (by decide) fun z1 hz1 => ?_)
  refine lv_istore_n (lv' := [(2, .int z1), (0, .ref (B + 49)), (1, .int x)]) hx hb dX12_readers_1 rfl hl (by decide) rfl (fun ls hl => ?_)
  refine lv_iconst (v := 0) hx hb dX12_readers_2 (by decide) (ti_c 0 (by decide) fun z2 hz2 => ?_)
  refine lv_istore_n (lv' := [(3, .int z2), (2, .int z1), (0, .ref (B + 49)), (1, .int x)]) hx hb dX12_readers_3 rfl hl (by decide) rfl (fun ls hl => ?_)
  have L4 : ∀ (n : Nat) (ls : Array Slot) (H : Heap) (locs : List Loc) (v3 : Int32) (v4 : Int32), lv_has ls 4 [(3, .int v3), (2, .int v4), (0, .ref (B + 49)), (1, .int x)] → WD B D cA s.heap kd ig rg lg H locs → H.size = sz → (0 ≤ v3.toInt) → (v3.toInt ≤ 288) → 288 - v3.toInt < (n : Int) → W p l e (rL 1 0 0) s m args below meth c H locs 0 0 (MQ below (QcW B D cA (Pu kd ig rg lg sz (fun r => ∃ z : Int32, r = some (.int z) ∧ True))) args s 0 0 (fun q => B ≤ q)) (F0 m 4 ls []) := by
    intro n4
    induction n4 with
    | zero => intro ls H locs v3 v4 hl hw hsz g4_0 g4_1 hmu; exact absurd hmu (by omega)
    | succ n4 ih4 =>
      intro ls H locs v3 v4 hl hw hsz g4_0 g4_1 hmu
      refine lv_iload_n hx hb dX12_readers_4 rfl (lv_at hl 0 rfl) ?_
      refine lv_sipush (v := 288) hx hb dX12_readers_5 (by decide) (ti_c 288 (by decide) fun z5 hz5 => ?_)
      refine b_ge (tgt := 37) hx hb dX12_readers_8 (by decide) (fun c8 => ?_) (fun c8 => ?_)
      · refine lv_iload_n hx hb dX12_readers_37 rfl (lv_at hl 1 rfl) ?_
        exact r_iret C hw hr hlk rfl (Nat.le_of_ble_eq_true rfl) (Nat.le_of_ble_eq_true rfl) dX12_readers_38 ⟨rfl, rfl, rfl, rfl, hsz, ⟨_, rfl, trivial⟩⟩
      · refine lv_iload_n hx hb dX12_readers_11 rfl (lv_at hl 1 rfl) ?_
        refine lv_aload_n hx hb dX12_readers_12 rfl (lv_at hl 2 rfl) ?_
        refine r_get C hw (hsh 49 _ rfl) fl_X12_96 (oV_r rfl (hrm (49, 21, 64) (by decide))) dX12_readers_13 ?_
        refine lv_iload_n hx hb dX12_readers_16 rfl (lv_at hl 0 rfl) ?_
        refine lv_iload_n hx hb dX12_readers_17 rfl (lv_at hl 3 rfl) ?_
        refine r_callS (As := [.ref (B + 64), .int v3, .int x]) (rest := [.int v4]) C hw (t_X12_has l B D cA kd ig rg lg _ 64 (Or.inl rfl) v3 x (by omega) (by omega) hI) ss_X12_222 rfl hl.1 rfl (Nat.le_of_ble_eq_true rfl) ⟨Nat.le_of_ble_eq_true rfl, Nat.le_of_ble_eq_true rfl⟩ ⟨Nat.le_of_ble_eq_true rfl, Nat.le_of_ble_eq_true rfl⟩ dX12_readers_18 (fun r10 kd6 ig7 rg8 lg9 H locs hw hH hp11 => ?_)
        obtain ⟨rfl, rfl, rfl, rfl, hzhp11, hrhp11⟩ := hp11
        have hsz := hzhp11.trans hsz
        obtain ⟨z12, rfl, hz12⟩ := hrhp11
        refine z_eq (tgt := 28) hx hb dX12_readers_21 (by decide) (fun c21 => ?_) (fun c21 => ?_)
        · refine lv_iconst (v := 0) hx hb dX12_readers_28 (by decide) (ti_c 0 (by decide) fun z13 hz13 => ?_)
          refine lv_iadd hx hb dX12_readers_29 (tc_add fun z14 hz14 => ?_)
          first | replace hz14 := hz14 (by omega) | clear hz14
          refine lv_istore_n (lv' := [(2, .int z14), (3, .int v3), (0, .ref (B + 49)), (1, .int x)]) hx hb dX12_readers_30 rfl hl (by decide) rfl (fun ls hl => ?_)
          refine tc_inc hx hb dX12_readers_31 hl (k := 1) rfl (by decide) (by decide) (fun z15 hz15 ls hl => ?_)
          first | replace hz15 := hz15 (by omega) | clear hz15
          have hl : lv_has ls 4 [(3, .int z15), (2, .int z14), (0, .ref (B + 49)), (1, .int x)] := hl
          refine lv_goto (tgt := 4) hx hb dX12_readers_34 (by decide) ?_
          exact ih4 ls H locs z15 z14 (lv_sub hl [0, 1, 2, 3] rfl) hw hsz (by omega) (by omega) (by omega)
        · refine lv_iconst (v := 1) hx hb dX12_readers_24 (by decide) (ti_c 1 (by decide) fun z16 hz16 => ?_)
          refine lv_goto (tgt := 29) hx hb dX12_readers_25 (by decide) ?_
          refine lv_iadd hx hb dX12_readers_29 (tc_add fun z17 hz17 => ?_)
          first | replace hz17 := hz17 (by omega) | clear hz17
          refine lv_istore_n (lv' := [(2, .int z17), (3, .int v3), (0, .ref (B + 49)), (1, .int x)]) hx hb dX12_readers_30 rfl hl (by decide) rfl (fun ls hl => ?_)
          refine tc_inc hx hb dX12_readers_31 hl (k := 1) rfl (by decide) (by decide) (fun z18 hz18 ls hl => ?_)
          first | replace hz18 := hz18 (by omega) | clear hz18
          have hl : lv_has ls 4 [(3, .int z18), (2, .int z17), (0, .ref (B + 49)), (1, .int x)] := hl
          refine lv_goto (tgt := 4) hx hb dX12_readers_34 (by decide) ?_
          exact ih4 ls H locs z18 z17 (lv_sub hl [0, 1, 2, 3] rfl) hw hsz (by omega) (by omega) (by omega)
  exact L4 ((288 - z2.toInt) + 1).toNat ls s.heap [] z2 z1 (lv_sub hl [0, 1, 2, 3] rfl) hw hsz (by omega) (by omega) (by omega)

set_option maxHeartbeats 4000000 in
set_option maxRecDepth 100000 in
theorem t_X12_isReady {υ : Option Int} {τ : Tp} {φ : Option Int} (l : Launch) (B : Nat) (D : va_G) (cA : Nat → ClassId) (kd : sK) (ig : sI) (rg : sR) (lg : sG) (sz : Nat) (x : Int32) (hx0 : 0 ≤ x.toInt ∧ x.toInt < 288) (hI : IM τ φ υ B kd ig rg) : MC l B D cA yX12_isReady cX12_isReady 4 (some .boolean) (rL 1 0 0) [.ref (B + 49), .int x] kd ig rg lg sz (Pu kd ig rg lg sz (fun r => ∃ z : Int32, r = some (.int z) ∧ (z.toInt = 0 ∨ z.toInt = 1))) := by
  refine MC.of (own := RX12) (by decide +kernel) rfl (Nat.le_of_ble_eq_true rfl) ?_
  intro p e s m args below meth c ls C hr hlk hnm hw hsz hl
  have hx := C.1.1
  have hb := C.1.2.1
  have hown := C.1.2.2.2.1
  have hts := C.1.2.2.2.2
  have hl : lv_has ls 4 [(0, .ref (B + 49)), (1, .int x)] := hl
  have hsh := hI.sh
  have hrm := hI.rm
  refine lv_iconst (v := 1) hx hb dX12_isReady_0 (by decide) (ti_c 1 (by decide) fun z1 hz1 => ?_)
  refine lv_istore_n (lv' := [(2, .int z1), (0, .ref (B + 49)), (1, .int x)]) hx hb dX12_isReady_1 rfl hl (by decide) rfl (fun ls hl => ?_)
  refine lv_iconst (v := 0) hx hb dX12_isReady_2 (by decide) (ti_c 0 (by decide) fun z2 hz2 => ?_)
  refine lv_istore_n (lv' := [(3, .int z2), (2, .int z1), (0, .ref (B + 49)), (1, .int x)]) hx hb dX12_isReady_3 rfl hl (by decide) rfl (fun ls hl => ?_)
  have L4 : ∀ (n : Nat) (ls : Array Slot) (H : Heap) (locs : List Loc) (v3 : Int32) (v4 : Int32), lv_has ls 4 [(3, .int v3), (2, .int v4), (0, .ref (B + 49)), (1, .int x)] → WD B D cA s.heap kd ig rg lg H locs → H.size = sz → (0 ≤ v3.toInt) → (v3.toInt ≤ 288) → (v4.toInt = 0 ∨ v4.toInt = 1) → 288 - v3.toInt < (n : Int) → W p l e (rL 1 0 0) s m args below meth c H locs 0 0 (MQ below (QcW B D cA (Pu kd ig rg lg sz (fun r => ∃ z : Int32, r = some (.int z) ∧ (z.toInt = 0 ∨ z.toInt = 1)))) args s 0 0 (fun q => B ≤ q)) (F0 m 4 ls []) := by
    intro n4
    induction n4 with
    | zero => intro ls H locs v3 v4 hl hw hsz g4_0 g4_1 g4_2 hmu; exact absurd hmu (by omega)
    | succ n4 ih4 =>
      intro ls H locs v3 v4 hl hw hsz g4_0 g4_1 g4_2 hmu
      refine lv_iload_n hx hb dX12_isReady_4 rfl (lv_at hl 0 rfl) ?_
      refine lv_sipush (v := 288) hx hb dX12_isReady_5 (by decide) (ti_c 288 (by decide) fun z5 hz5 => ?_)
      refine b_ge (tgt := 48) hx hb dX12_isReady_8 (by decide) (fun c8 => ?_) (fun c8 => ?_)
      · refine lv_iload_n hx hb dX12_isReady_48 rfl (lv_at hl 1 rfl) ?_
        exact r_iret C hw hr hlk (nar_b (by omega)) (Nat.le_of_ble_eq_true rfl) (Nat.le_of_ble_eq_true rfl) dX12_isReady_49 ⟨rfl, rfl, rfl, rfl, hsz, ⟨_, rfl, by omega⟩⟩
      · refine lv_iload_n hx hb dX12_isReady_11 rfl (lv_at hl 1 rfl) ?_
        refine z_eq (tgt := 48) hx hb dX12_isReady_12 (by decide) (fun c12 => ?_) (fun c12 => ?_)
        · refine lv_iload_n hx hb dX12_isReady_48 rfl (lv_at hl 1 rfl) ?_
          exact r_iret C hw hr hlk (nar_b (by omega)) (Nat.le_of_ble_eq_true rfl) (Nat.le_of_ble_eq_true rfl) dX12_isReady_49 ⟨rfl, rfl, rfl, rfl, hsz, ⟨_, rfl, by omega⟩⟩
        · refine lv_aload_n hx hb dX12_isReady_15 rfl (lv_at hl 2 rfl) ?_
          refine r_get C hw (hsh 49 _ rfl) fl_X12_124 (oV_r rfl (hrm (49, 30, 73) (by decide))) dX12_isReady_16 ?_
          refine lv_iload_n hx hb dX12_isReady_19 rfl (lv_at hl 0 rfl) ?_
          refine r_zald C hw (hsh 73 _ rfl) (by omega) (by omega) dX12_isReady_20 (ti_c (ig (B + 73) v3.toInt.toNat).toInt rfl fun z6 hz6 => ?_)
          refine z_ne (tgt := 36) hx hb dX12_isReady_21 (by decide) (fun c21 => ?_) (fun c21 => ?_)
          · refine lv_iconst (v := 1) hx hb dX12_isReady_36 (by decide) (ti_c 1 (by decide) fun z8 hz8 => ?_)
            refine lv_goto (tgt := 41) hx hb dX12_isReady_37 (by decide) ?_
            refine lv_istore_n (lv' := [(2, .int z8), (3, .int v3), (0, .ref (B + 49)), (1, .int x)]) hx hb dX12_isReady_41 rfl hl (by decide) rfl (fun ls hl => ?_)
            refine tc_inc hx hb dX12_isReady_42 hl (k := 1) rfl (by decide) (by decide) (fun z9 hz9 ls hl => ?_)
            first | replace hz9 := hz9 (by omega) | clear hz9
            have hl : lv_has ls 4 [(3, .int z9), (2, .int z8), (0, .ref (B + 49)), (1, .int x)] := hl
            refine lv_goto (tgt := 4) hx hb dX12_isReady_45 (by decide) ?_
            exact ih4 ls H locs z9 z8 (lv_sub hl [0, 1, 2, 3] rfl) hw hsz (by omega) (by omega) (by omega) (by omega)
          · refine lv_aload_n hx hb dX12_isReady_24 rfl (lv_at hl 2 rfl) ?_
            refine r_get C hw (hsh 49 _ rfl) fl_X12_96 (oV_r rfl (hrm (49, 21, 64) (by decide))) dX12_isReady_25 ?_
            refine lv_iload_n hx hb dX12_isReady_28 rfl (lv_at hl 3 rfl) ?_
            refine lv_iload_n hx hb dX12_isReady_29 rfl (lv_at hl 0 rfl) ?_
            refine r_callS (As := [.ref (B + 64), .int x, .int v3]) (rest := []) C hw (t_X12_has l B D cA kd ig rg lg _ 64 (Or.inl rfl) x v3 (by omega) (by omega) hI) ss_X12_222 rfl hl.1 rfl (Nat.le_of_ble_eq_true rfl) ⟨Nat.le_of_ble_eq_true rfl, Nat.le_of_ble_eq_true rfl⟩ ⟨Nat.le_of_ble_eq_true rfl, Nat.le_of_ble_eq_true rfl⟩ dX12_isReady_30 (fun r14 kd10 ig11 rg12 lg13 H locs hw hH hp15 => ?_)
            obtain ⟨rfl, rfl, rfl, rfl, hzhp15, hrhp15⟩ := hp15
            have hsz := hzhp15.trans hsz
            obtain ⟨z16, rfl, hz16⟩ := hrhp15
            refine z_ne (tgt := 40) hx hb dX12_isReady_33 (by decide) (fun c33 => ?_) (fun c33 => ?_)
            · refine lv_iconst (v := 0) hx hb dX12_isReady_40 (by decide) (ti_c 0 (by decide) fun z17 hz17 => ?_)
              refine lv_istore_n (lv' := [(2, .int z17), (3, .int v3), (0, .ref (B + 49)), (1, .int x)]) hx hb dX12_isReady_41 rfl hl (by decide) rfl (fun ls hl => ?_)
              refine tc_inc hx hb dX12_isReady_42 hl (k := 1) rfl (by decide) (by decide) (fun z18 hz18 ls hl => ?_)
              first | replace hz18 := hz18 (by omega) | clear hz18
              have hl : lv_has ls 4 [(3, .int z18), (2, .int z17), (0, .ref (B + 49)), (1, .int x)] := hl
              refine lv_goto (tgt := 4) hx hb dX12_isReady_45 (by decide) ?_
              exact ih4 ls H locs z18 z17 (lv_sub hl [0, 1, 2, 3] rfl) hw hsz (by omega) (by omega) (by omega) (by omega)
            · refine lv_iconst (v := 1) hx hb dX12_isReady_36 (by decide) (ti_c 1 (by decide) fun z19 hz19 => ?_)
              refine lv_goto (tgt := 41) hx hb dX12_isReady_37 (by decide) ?_
              refine lv_istore_n (lv' := [(2, .int z19), (3, .int v3), (0, .ref (B + 49)), (1, .int x)]) hx hb dX12_isReady_41 rfl hl (by decide) rfl (fun ls hl => ?_)
              refine tc_inc hx hb dX12_isReady_42 hl (k := 1) rfl (by decide) (by decide) (fun z20 hz20 ls hl => ?_)
              first | replace hz20 := hz20 (by omega) | clear hz20
              have hl : lv_has ls 4 [(3, .int z20), (2, .int z19), (0, .ref (B + 49)), (1, .int x)] := hl
              refine lv_goto (tgt := 4) hx hb dX12_isReady_45 (by decide) ?_
              exact ih4 ls H locs z20 z19 (lv_sub hl [0, 1, 2, 3] rfl) hw hsz (by omega) (by omega) (by omega) (by omega)
  exact L4 ((288 - z2.toInt) + 1).toNat ls s.heap [] z2 z1 (lv_sub hl [0, 1, 2, 3] rfl) hw hsz (by omega) (by omega) (by omega) (by omega)

set_option maxHeartbeats 4000000 in
set_option maxRecDepth 100000 in
theorem t_X12_spanLast {υ : Option Int} {τ : Tp} {φ : Option Int} (l : Launch) (B : Nat) (D : va_G) (cA : Nat → ClassId) (kd : sK) (ig : sI) (rg : sR) (lg : sG) (sz : Nat) (x : Int32) (y : Int32) (hx0 : 0 ≤ x.toInt ∧ x.toInt < 288) (hk0 : 0 ≤ y.toInt ∧ y.toInt < (ig (B + 58) x.toInt.toNat).toInt) (hkd : (ig (B + 59) x.toInt.toNat).toInt = 2) (h3 : (ig (B + 54) (120 * x.toInt + y.toInt).toNat).toInt = 3) (hI : IM τ φ υ B kd ig rg) : MC l B D cA yX12_spanLast cX12_spanLast 5 (some .int) (rL 0 0 0) [.ref (B + 49), .int x, .int y] kd ig rg lg sz (Pu kd ig rg lg sz (fun r => ∃ z : Int32, r = some (.int z) ∧ ((0 ≤ z.toInt ∧ z.toInt < 37080) ∧ ((0 ≤ (ig (B + 55) z.toInt.toNat).toInt ∧ (ig (B + 55) z.toInt.toNat).toInt < 12) ∧ 0 ≤ (ig (B + 56) z.toInt.toNat).toInt ∧ (ig (B + 56) z.toInt.toNat).toInt < 24)))) := by
  refine MC.of (own := RX12) (by decide +kernel) rfl (Nat.le_of_ble_eq_true rfl) ?_
  intro p e s m args below meth c ls C hr hlk hnm hw hsz hl
  have hx := C.1.1
  have hb := C.1.2.1
  have hown := C.1.2.2.2.1
  have hts := C.1.2.2.2.2
  have hl : lv_has ls 5 [(0, .ref (B + 49)), (1, .int x), (2, .int y)] := hl
  have hsh := hI.sh
  have hrm := hI.rm
  have kit := hI.its (j := x.toInt.toNat) (by omega)
  refine lv_bipush (v := 120) hx hb dX12_spanLast_0 (by decide) (ti_c 120 (by decide) fun z1 hz1 => ?_)
  refine lv_iload_n hx hb dX12_spanLast_2 rfl (lv_at hl 1 rfl) ?_
  refine lv_imul hx hb dX12_spanLast_3 (tc_mulL 120 hz1 fun z2 hz2 => ?_)
  first | replace hz2 := hz2 (by omega) | clear hz2
  refine lv_iload_n hx hb dX12_spanLast_4 rfl (lv_at hl 2 rfl) ?_
  refine lv_iadd hx hb dX12_spanLast_5 (tc_add fun z3 hz3 => ?_)
  first | replace hz3 := hz3 (by omega) | clear hz3
  refine lv_istore_n (lv' := [(3, .int z3), (0, .ref (B + 49)), (1, .int x), (2, .int y)]) hx hb dX12_spanLast_6 rfl hl (by decide) rfl (fun ls hl => ?_)
  refine lv_iload_n hx hb dX12_spanLast_7 rfl (lv_at hl 3 rfl) ?_
  refine lv_iconst (v := 1) hx hb dX12_spanLast_8 (by decide) (ti_c 1 (by decide) fun z4 hz4 => ?_)
  refine b_le (tgt := 28) hx hb dX12_spanLast_9 (by decide) (fun c9 => ?_) (fun c9 => ?_)
  · refine lv_iconst (v := 0) hx hb dX12_spanLast_28 (by decide) (ti_c 0 (by decide) fun z5 hz5 => ?_)
    refine lv_istore (lv' := [(4, .int z5), (3, .int z3), (0, .ref (B + 49)), (1, .int x), (2, .int y)]) hx hb dX12_spanLast_29 hl (by decide) rfl (fun ls hl => ?_)
    refine lv_iload hx hb dX12_spanLast_31 (lv_at hl 0 rfl) ?_
    refine z_eq (tgt := 42) hx hb dX12_spanLast_33 (by decide) (fun c33 => ?_) (fun c33 => ?_)
    · refine lv_iload_n hx hb dX12_spanLast_42 rfl (lv_at hl 1 rfl) ?_
      exact r_iret C hw hr hlk rfl (Nat.le_of_ble_eq_true rfl) (Nat.le_of_ble_eq_true rfl) dX12_spanLast_43 ⟨rfl, rfl, rfl, rfl, hsz, ⟨_, rfl, by first | exact absurd c33 (by omega) | exact ⟨by omega, IM.span2 hI hx0 (k := y) (by omega) (q := z3) (by omega) (by omega) hkd (by omega)⟩ | exact ⟨by omega, IM.ref hI hx0 hk0 (by omega) hkd (by rw [show z3.toInt.toNat = (120 * x.toInt + y.toInt).toNat by omega]; exact h3)⟩⟩⟩
    · refine lv_iload_n hx hb dX12_spanLast_36 rfl (lv_at hl 1 rfl) ?_
      refine lv_iconst (v := 2) hx hb dX12_spanLast_37 (by decide) (ti_c 2 (by decide) fun z6 hz6 => ?_)
      refine lv_iadd hx hb dX12_spanLast_38 (tc_add fun z7 hz7 => ?_)
      first | replace hz7 := hz7 (by omega) | clear hz7
      refine lv_goto (tgt := 43) hx hb dX12_spanLast_39 (by decide) ?_
      exact r_iret C hw hr hlk rfl (Nat.le_of_ble_eq_true rfl) (Nat.le_of_ble_eq_true rfl) dX12_spanLast_43 ⟨rfl, rfl, rfl, rfl, hsz, ⟨_, rfl, by first | exact absurd c33 (by omega) | exact ⟨by omega, IM.span2 hI hx0 (k := y) (by omega) (q := z3) (by omega) (by omega) hkd (by omega)⟩ | exact ⟨by omega, IM.ref hI hx0 hk0 (by omega) hkd (by rw [show z3.toInt.toNat = (120 * x.toInt + y.toInt).toNat by omega]; exact h3)⟩⟩⟩
  · refine lv_aload_n hx hb dX12_spanLast_12 rfl (lv_at hl 1 rfl) ?_
    refine r_get C hw (hsh 49 _ rfl) fl_X12_65 (oV_r rfl (hrm (49, 9, 54) (by decide))) dX12_spanLast_13 ?_
    refine lv_iload_n hx hb dX12_spanLast_16 rfl (lv_at hl 0 rfl) ?_
    refine lv_iconst (v := 2) hx hb dX12_spanLast_17 (by decide) (ti_c 2 (by decide) fun z8 hz8 => ?_)
    refine lv_isub hx hb dX12_spanLast_18 (tc_sub fun z9 hz9 => ?_)
    first | replace hz9 := hz9 (by omega) | clear hz9
    refine r_iald C hw (hsh 54 _ rfl) (by omega) (by omega) dX12_spanLast_19 (ti_c (ig (B + 54) z9.toInt.toNat).toInt rfl fun z10 hz10 => ?_)
    refine lv_iconst (v := 2) hx hb dX12_spanLast_20 (by decide) (ti_c 2 (by decide) fun z12 hz12 => ?_)
    refine b_ne (tgt := 28) hx hb dX12_spanLast_21 (by decide) (fun c21 => ?_) (fun c21 => ?_)
    · refine lv_iconst (v := 0) hx hb dX12_spanLast_28 (by decide) (ti_c 0 (by decide) fun z13 hz13 => ?_)
      refine lv_istore (lv' := [(4, .int z13), (3, .int z3), (0, .ref (B + 49)), (1, .int x), (2, .int y)]) hx hb dX12_spanLast_29 hl (by decide) rfl (fun ls hl => ?_)
      refine lv_iload hx hb dX12_spanLast_31 (lv_at hl 0 rfl) ?_
      refine z_eq (tgt := 42) hx hb dX12_spanLast_33 (by decide) (fun c33 => ?_) (fun c33 => ?_)
      · refine lv_iload_n hx hb dX12_spanLast_42 rfl (lv_at hl 1 rfl) ?_
        exact r_iret C hw hr hlk rfl (Nat.le_of_ble_eq_true rfl) (Nat.le_of_ble_eq_true rfl) dX12_spanLast_43 ⟨rfl, rfl, rfl, rfl, hsz, ⟨_, rfl, by first | exact absurd c33 (by omega) | exact ⟨by omega, IM.span2 hI hx0 (k := y) (by omega) (q := z9) (by omega) (by omega) hkd (by omega)⟩ | exact ⟨by omega, IM.ref hI hx0 hk0 (by omega) hkd (by rw [show z3.toInt.toNat = (120 * x.toInt + y.toInt).toNat by omega]; exact h3)⟩⟩⟩
      · refine lv_iload_n hx hb dX12_spanLast_36 rfl (lv_at hl 1 rfl) ?_
        refine lv_iconst (v := 2) hx hb dX12_spanLast_37 (by decide) (ti_c 2 (by decide) fun z14 hz14 => ?_)
        refine lv_iadd hx hb dX12_spanLast_38 (tc_add fun z15 hz15 => ?_)
        first | replace hz15 := hz15 (by omega) | clear hz15
        refine lv_goto (tgt := 43) hx hb dX12_spanLast_39 (by decide) ?_
        exact r_iret C hw hr hlk rfl (Nat.le_of_ble_eq_true rfl) (Nat.le_of_ble_eq_true rfl) dX12_spanLast_43 ⟨rfl, rfl, rfl, rfl, hsz, ⟨_, rfl, by first | exact absurd c33 (by omega) | exact ⟨by omega, IM.span2 hI hx0 (k := y) (by omega) (q := z9) (by omega) (by omega) hkd (by omega)⟩ | exact ⟨by omega, IM.ref hI hx0 hk0 (by omega) hkd (by rw [show z3.toInt.toNat = (120 * x.toInt + y.toInt).toNat by omega]; exact h3)⟩⟩⟩
    · refine lv_iconst (v := 1) hx hb dX12_spanLast_24 (by decide) (ti_c 1 (by decide) fun z16 hz16 => ?_)
      refine lv_goto (tgt := 29) hx hb dX12_spanLast_25 (by decide) ?_
      refine lv_istore (lv' := [(4, .int z16), (3, .int z3), (0, .ref (B + 49)), (1, .int x), (2, .int y)]) hx hb dX12_spanLast_29 hl (by decide) rfl (fun ls hl => ?_)
      refine lv_iload hx hb dX12_spanLast_31 (lv_at hl 0 rfl) ?_
      refine z_eq (tgt := 42) hx hb dX12_spanLast_33 (by decide) (fun c33 => ?_) (fun c33 => ?_)
      · refine lv_iload_n hx hb dX12_spanLast_42 rfl (lv_at hl 1 rfl) ?_
        exact r_iret C hw hr hlk rfl (Nat.le_of_ble_eq_true rfl) (Nat.le_of_ble_eq_true rfl) dX12_spanLast_43 ⟨rfl, rfl, rfl, rfl, hsz, ⟨_, rfl, by first | exact absurd c33 (by omega) | exact ⟨by omega, IM.span2 hI hx0 (k := y) (by omega) (q := z9) (by omega) (by omega) hkd (by omega)⟩ | exact ⟨by omega, IM.ref hI hx0 hk0 (by omega) hkd (by rw [show z3.toInt.toNat = (120 * x.toInt + y.toInt).toNat by omega]; exact h3)⟩⟩⟩
      · refine lv_iload_n hx hb dX12_spanLast_36 rfl (lv_at hl 1 rfl) ?_
        refine lv_iconst (v := 2) hx hb dX12_spanLast_37 (by decide) (ti_c 2 (by decide) fun z17 hz17 => ?_)
        refine lv_iadd hx hb dX12_spanLast_38 (tc_add fun z18 hz18 => ?_)
        first | replace hz18 := hz18 (by omega) | clear hz18
        refine lv_goto (tgt := 43) hx hb dX12_spanLast_39 (by decide) ?_
        exact r_iret C hw hr hlk rfl (Nat.le_of_ble_eq_true rfl) (Nat.le_of_ble_eq_true rfl) dX12_spanLast_43 ⟨rfl, rfl, rfl, rfl, hsz, ⟨_, rfl, by first | exact absurd c33 (by omega) | exact ⟨by omega, IM.span2 hI hx0 (k := y) (by omega) (q := z9) (by omega) (by omega) hkd (by omega)⟩ | exact ⟨by omega, IM.ref hI hx0 hk0 (by omega) hkd (by rw [show z3.toInt.toNat = (120 * x.toInt + y.toInt).toNat by omega]; exact h3)⟩⟩⟩

set_option maxHeartbeats 4000000 in
set_option maxRecDepth 100000 in
theorem t_X12_meets {υ : Option Int} {τ : Tp} {φ : Option Int} (l : Launch) (B : Nat) (D : va_G) (cA : Nat → ClassId) (kd : sK) (ig : sI) (rg : sR) (lg : sG) (sz : Nat) (x : Int32) (hx0 : 0 ≤ x.toInt ∧ x.toInt < 288) (hI : IM τ φ υ B kd ig rg) : MC l B D cA yX12_meets cX12_meets 2 (some .int) (rL 0 0 0) [.ref (B + 49), .int x] kd ig rg lg sz (PM τ φ υ B [49] kd ig rg lg (fun r ig' lg' => ∃ z : Int32, r = some (.int z) ∧ ((ig' (B + 49) 31).toInt = (ig (B + 49) 31).toInt ∧ (ig' (B + 49) 32).toInt = (ig (B + 49) 32).toInt))) := by
  refine MC.of (own := RX12) (by decide +kernel) rfl (Nat.le_of_ble_eq_true rfl) ?_
  intro p e s m args below meth c ls C hr hlk hnm hw hsz hl
  have hx := C.1.1
  have hb := C.1.2.1
  have hown := C.1.2.2.2.1
  have hts := C.1.2.2.2.2
  have hl : lv_has ls 2 [(0, .ref (B + 49)), (1, .int x)] := hl
  have hF : Ft B [49] ig lg ig lg := Ft.rf
  have hsh := hI.sh
  have hrm := hI.rm
  refine lv_aload_n hx hb dX12_meets_0 rfl (lv_at hl 0 rfl) ?_
  refine r_get C hw (hsh 49 _ rfl) fl_X12_247 (oV_i rfl) dX12_meets_1 (ti_c (ig (B + 49) 33).toInt rfl fun z1 hz1 => ?_)
  refine z_ne (tgt := 17) hx hb dX12_meets_4 (by decide) (fun c4 => ?_) (fun c4 => ?_)
  · refine lv_aload_n hx hb dX12_meets_17 rfl (lv_at hl 0 rfl) ?_
    refine r_get C hw (hsh 49 _ rfl) fl_X12_102 (oV_r rfl (hrm (49, 23, 66) (by decide))) dX12_meets_18 ?_
    refine lv_iload_n hx hb dX12_meets_21 rfl (lv_at hl 1 rfl) ?_
    refine r_iald C hw (hsh 66 _ rfl) (by omega) (by omega) dX12_meets_22 (ti_c (ig (B + 66) x.toInt.toNat).toInt rfl fun z2 hz2 => ?_)
    exact r_iret C hw hr hlk rfl (Nat.le_of_ble_eq_true rfl) (Nat.le_of_ble_eq_true rfl) dX12_meets_23 ⟨rfl, rfl, hI, hF, ⟨_, rfl, by omega⟩⟩
  · refine lv_aload_n hx hb dX12_meets_7 rfl (lv_at hl 0 rfl) ?_
    refine lv_aload_n hx hb dX12_meets_8 rfl (lv_at hl 0 rfl) ?_
    refine r_get C hw (hsh 49 _ rfl) fl_X12_105 (oV_r rfl (hrm (49, 24, 67) (by decide))) dX12_meets_9 ?_
    refine lv_iload_n hx hb dX12_meets_12 rfl (lv_at hl 1 rfl) ?_
    refine r_iald C hw (hsh 67 _ rfl) (by omega) (by omega) dX12_meets_13 (ti_c (ig (B + 67) x.toInt.toNat).toInt rfl fun z4 hz4 => ?_)
    refine r_puti C hw (hsh 49 _ rfl) fl_X12_247 rfl rfl rfl dX12_meets_14 (fun H locs hH hw => ?_)
    obtain ⟨ig6, eig6⟩ : ∃ f, f = up2 ig (B + 49) 33 z4 := ⟨_, rfl⟩
    rw [← eig6] at hw
    have hF : Ft B [49] ig lg ig6 lg := by rw [eig6]; exact hF.pi (by decide)
    have hI : IM τ φ υ B kd ig6 rg := by rw [eig6]; exact hI.pi (by decide) (show okR none _ from trivial)
    have wig6 : (ig6 (B + 49) 33).toInt = z4.toInt := by rw [eig6, up2_eq]
    have wig6_49_31 : (ig6 (B + 49) 31).toInt = (ig (B + 49) 31).toInt := by rw [eig6, up2_j (by decide)]
    have wig6_49_32 : (ig6 (B + 49) 32).toInt = (ig (B + 49) 32).toInt := by rw [eig6, up2_j (by decide)]
    refine lv_aload_n hx hb dX12_meets_17 rfl (lv_at hl 0 rfl) ?_
    refine r_get C hw (hsh 49 _ rfl) fl_X12_102 (oV_r rfl (hrm (49, 23, 66) (by decide))) dX12_meets_18 ?_
    refine lv_iload_n hx hb dX12_meets_21 rfl (lv_at hl 1 rfl) ?_
    refine r_iald C hw (hsh 66 _ rfl) (by omega) (by omega) dX12_meets_22 (ti_c (ig6 (B + 66) x.toInt.toNat).toInt rfl fun z7 hz7 => ?_)
    exact r_iret C hw hr hlk rfl (Nat.le_of_ble_eq_true rfl) (Nat.le_of_ble_eq_true rfl) dX12_meets_23 ⟨rfl, rfl, hI, hF, ⟨_, rfl, by omega⟩⟩

set_option maxHeartbeats 4000000 in
set_option maxRecDepth 100000 in
theorem t_X12_addWay {υ : Option Int} {τ : Tp} {φ : Option Int} (l : Launch) (B : Nat) (D : va_G) (cA : Nat → ClassId) (kd : sK) (ig : sI) (rg : sR) (lg : sG) (sz : Nat) (x : Int32) (y : Int32) (u : Int32) (hx0 : 0 ≤ x.toInt ∧ x.toInt < 288) (hy0 : 0 ≤ y.toInt ∧ y.toInt < 288) (hI : IM τ φ υ B kd ig rg) : MC l B D cA yX12_addWay cX12_addWay 5 none (rL 0 0 0) [.ref (B + 49), .int x, .int y, .int u] kd ig rg lg sz (PM τ φ υ B [72] kd ig rg lg (fun r ig' lg' => r = none)) := by
  refine MC.of (own := RX12) (by decide +kernel) rfl (Nat.le_of_ble_eq_true rfl) ?_
  intro p e s m args below meth c ls C hr hlk hnm hw hsz hl
  have hx := C.1.1
  have hb := C.1.2.1
  have hown := C.1.2.2.2.1
  have hts := C.1.2.2.2.2
  have hl : lv_has ls 5 [(0, .ref (B + 49)), (1, .int x), (2, .int y), (3, .int u)] := hl
  have hF : Ft B [72] ig lg ig lg := Ft.rf
  have hsh := hI.sh
  have hrm := hI.rm
  refine lv_aload_n hx hb dX12_addWay_0 rfl (lv_at hl 0 rfl) ?_
  refine r_get C hw (hsh 49 _ rfl) fl_X12_121 (oV_r rfl (hrm (49, 29, 72) (by decide))) dX12_addWay_1 ?_
  refine lv_sipush (v := 288) hx hb dX12_addWay_4 (by decide) (ti_c 288 (by decide) fun z1 hz1 => ?_)
  refine lv_iload_n hx hb dX12_addWay_7 rfl (lv_at hl 1 rfl) ?_
  refine lv_imul hx hb dX12_addWay_8 (tc_mulL 288 hz1 fun z2 hz2 => ?_)
  first | replace hz2 := hz2 (by omega) | clear hz2
  refine lv_iload_n hx hb dX12_addWay_9 rfl (lv_at hl 2 rfl) ?_
  refine lv_iadd hx hb dX12_addWay_10 (tc_add fun z3 hz3 => ?_)
  first | replace hz3 := hz3 (by omega) | clear hz3
  refine r_iald C hw (hsh 72 _ rfl) (by omega) (by omega) dX12_addWay_11 (ti_c (ig (B + 72) z3.toInt.toNat).toInt rfl fun z4 hz4 => ?_)
  refine lv_iload_n hx hb dX12_addWay_12 rfl (lv_at hl 3 rfl) ?_
  refine lv_iadd hx hb dX12_addWay_13 (tc_add fun z6 hz6 => ?_)
  first | replace hz6 := hz6 (by omega) | clear hz6
  refine lv_istore (lv' := [(4, .int z6), (0, .ref (B + 49)), (1, .int x), (2, .int y), (3, .int u)]) hx hb dX12_addWay_14 hl (by decide) rfl (fun ls hl => ?_)
  refine lv_aload_n hx hb dX12_addWay_16 rfl (lv_at hl 1 rfl) ?_
  refine r_get C hw (hsh 49 _ rfl) fl_X12_121 (oV_r rfl (hrm (49, 29, 72) (by decide))) dX12_addWay_17 ?_
  refine lv_sipush (v := 288) hx hb dX12_addWay_20 (by decide) (ti_c 288 (by decide) fun z7 hz7 => ?_)
  refine lv_iload_n hx hb dX12_addWay_23 rfl (lv_at hl 2 rfl) ?_
  refine lv_imul hx hb dX12_addWay_24 (tc_mulL 288 hz7 fun z8 hz8 => ?_)
  first | replace hz8 := hz8 (by omega) | clear hz8
  refine lv_iload_n hx hb dX12_addWay_25 rfl (lv_at hl 3 rfl) ?_
  refine lv_iadd hx hb dX12_addWay_26 (tc_add fun z9 hz9 => ?_)
  first | replace hz9 := hz9 (by omega) | clear hz9
  refine lv_iload hx hb dX12_addWay_27 (lv_at hl 0 rfl) ?_
  refine lv_bipush (v := 10) hx hb dX12_addWay_29 (by decide) (ti_c 10 (by decide) fun z10 hz10 => ?_)
  refine b_le (tgt := 39) hx hb dX12_addWay_31 (by decide) (fun c31 => ?_) (fun c31 => ?_)
  · refine lv_iload hx hb dX12_addWay_39 (lv_at hl 0 rfl) ?_
    refine r_iast C hw (hsh 72 _ rfl) (by omega) (by omega) dX12_addWay_41 (fun H locs hH hw => ?_)
    obtain ⟨ig11, eig11⟩ : ∃ f, f = up2 ig (B + 72) z9.toInt.toNat z6 := ⟨_, rfl⟩
    rw [← eig11] at hw
    have hF : Ft B [72] ig lg ig11 lg := by rw [eig11]; exact hF.pi (by decide)
    have hI : IM τ φ υ B kd ig11 rg := by rw [eig11]; exact hI.pi (by decide) (show okR none _ from trivial)
    exact r_vret C hw hr hlk (Nat.le_of_ble_eq_true rfl) (Nat.le_of_ble_eq_true rfl) dX12_addWay_42 ⟨rfl, rfl, hI, hF, rfl⟩
  · refine lv_bipush (v := 10) hx hb dX12_addWay_34 (by decide) (ti_c 10 (by decide) fun z12 hz12 => ?_)
    refine lv_goto (tgt := 41) hx hb dX12_addWay_36 (by decide) ?_
    refine r_iast C hw (hsh 72 _ rfl) (by omega) (by omega) dX12_addWay_41 (fun H locs hH hw => ?_)
    obtain ⟨ig13, eig13⟩ : ∃ f, f = up2 ig (B + 72) z9.toInt.toNat z12 := ⟨_, rfl⟩
    rw [← eig13] at hw
    have hF : Ft B [72] ig lg ig13 lg := by rw [eig13]; exact hF.pi (by decide)
    have hI : IM τ φ υ B kd ig13 rg := by rw [eig13]; exact hI.pi (by decide) (show okR none _ from trivial)
    exact r_vret C hw hr hlk (Nat.le_of_ble_eq_true rfl) (Nat.le_of_ble_eq_true rfl) dX12_addWay_42 ⟨rfl, rfl, hI, hF, rfl⟩

set_option maxHeartbeats 4000000 in
set_option maxRecDepth 100000 in
theorem t_X12_addWays {υ : Option Int} {τ : Tp} {φ : Option Int} (l : Launch) (B : Nat) (D : va_G) (cA : Nat → ClassId) (kd : sK) (ig : sI) (rg : sR) (lg : sG) (sz : Nat) (x : Int32) (y : Int32) (hx0 : 0 ≤ x.toInt ∧ x.toInt < 288) (hy0 : 0 ≤ y.toInt ∧ y.toInt < 288) (hI : IM τ φ υ B kd ig rg) : MC l B D cA yX12_addWays cX12_addWays 4 none (rL 1 0 0) [.ref (B + 49), .int x, .int y] kd ig rg lg sz (PM τ φ υ B [72] kd ig rg lg (fun r ig' lg' => r = none)) := by
  refine MC.of (own := RX12) (by decide +kernel) rfl (Nat.le_of_ble_eq_true rfl) ?_
  intro p e s m args below meth c ls C hr hlk hnm hw hsz hl
  have hx := C.1.1
  have hb := C.1.2.1
  have hown := C.1.2.2.2.1
  have hts := C.1.2.2.2.2
  have hl : lv_has ls 4 [(0, .ref (B + 49)), (1, .int x), (2, .int y)] := hl
  have hF : Ft B [72] ig lg ig lg := Ft.rf
  have hsh := hI.sh
  have hrm := hI.rm
  refine lv_aload_n hx hb dX12_addWays_0 rfl (lv_at hl 0 rfl) ?_
  refine r_get C hw (hsh 49 _ rfl) fl_X12_114 (oV_r rfl (hrm (49, 27, 70) (by decide))) dX12_addWays_1 ?_
  refine lv_iload_n hx hb dX12_addWays_4 rfl (lv_at hl 2 rfl) ?_
  refine r_zald C hw (hsh 70 _ rfl) (by omega) (by omega) dX12_addWays_5 (ti_c (ig (B + 70) y.toInt.toNat).toInt rfl fun z1 hz1 => ?_)
  refine z_ne (tgt := 30) hx hb dX12_addWays_6 (by decide) (fun c6 => ?_) (fun c6 => ?_)
  · refine lv_iconst (v := 0) hx hb dX12_addWays_30 (by decide) (ti_c 0 (by decide) fun z3 hz3 => ?_)
    refine lv_istore_n (lv' := [(3, .int z3), (0, .ref (B + 49)), (1, .int x), (2, .int y)]) hx hb dX12_addWays_31 rfl hl (by decide) rfl (fun ls hl => ?_)
    have L32 : ∀ (n : Nat) (ls : Array Slot) (H : Heap) (locs : List Loc) (ig5 : sI) (lg6 : sG) (v4 : Int32), lv_has ls 4 [(3, .int v4), (0, .ref (B + 49)), (1, .int x), (2, .int y)] → WD B D cA s.heap kd ig5 rg lg6 H locs → IM τ φ υ B kd ig5 rg → Ft B [72] ig lg ig5 lg6 → (0 ≤ v4.toInt) → (v4.toInt ≤ 288) → 288 - v4.toInt < (n : Int) → W p l e (rL 1 0 0) s m args below meth c H locs 0 0 (MQ below (QcW B D cA (PM τ φ υ B [72] kd ig rg lg (fun r ig' lg' => r = none))) args s 0 0 (fun q => B ≤ q)) (F0 m 32 ls []) := by
      intro n32
      induction n32 with
      | zero => intro ls H locs ig5 lg6 v4 hl hw hI hF g32_0 g32_1 hmu; exact absurd hmu (by omega)
      | succ n32 ih32 =>
        intro ls H locs ig5 lg6 v4 hl hw hI hF g32_0 g32_1 hmu
        refine lv_iload_n hx hb dX12_addWays_32 rfl (lv_at hl 0 rfl) ?_
        refine lv_sipush (v := 288) hx hb dX12_addWays_33 (by decide) (ti_c 288 (by decide) fun z7 hz7 => ?_)
        refine b_ge (tgt := 63) hx hb dX12_addWays_36 (by decide) (fun c36 => ?_) (fun c36 => ?_)
        · exact r_vret C hw hr hlk (Nat.le_of_ble_eq_true rfl) (Nat.le_of_ble_eq_true rfl) dX12_addWays_63 ⟨rfl, rfl, hI, hF, rfl⟩
        · refine lv_aload_n hx hb dX12_addWays_39 rfl (lv_at hl 1 rfl) ?_
          refine lv_iload_n hx hb dX12_addWays_40 rfl (lv_at hl 2 rfl) ?_
          refine lv_iload_n hx hb dX12_addWays_41 rfl (lv_at hl 0 rfl) ?_
          refine lv_aload_n hx hb dX12_addWays_42 rfl (lv_at hl 1 rfl) ?_
          refine r_get C hw (hsh 49 _ rfl) fl_X12_121 (oV_r rfl (hrm (49, 29, 72) (by decide))) dX12_addWays_43 ?_
          refine lv_sipush (v := 288) hx hb dX12_addWays_46 (by decide) (ti_c 288 (by decide) fun z8 hz8 => ?_)
          refine lv_iload_n hx hb dX12_addWays_49 rfl (lv_at hl 3 rfl) ?_
          refine lv_imul hx hb dX12_addWays_50 (tc_mulL 288 hz8 fun z9 hz9 => ?_)
          first | replace hz9 := hz9 (by omega) | clear hz9
          refine lv_iload_n hx hb dX12_addWays_51 rfl (lv_at hl 0 rfl) ?_
          refine lv_iadd hx hb dX12_addWays_52 (tc_add fun z10 hz10 => ?_)
          first | replace hz10 := hz10 (by omega) | clear hz10
          refine r_iald C hw (hsh 72 _ rfl) (by omega) (by omega) dX12_addWays_53 (ti_c (ig5 (B + 72) z10.toInt.toNat).toInt rfl fun z11 hz11 => ?_)
          refine r_callV (As := [.int x, .int v4, .int z11]) (rest := []) C hw (t_X12_addWay l B D cA kd ig5 rg lg6 _ x v4 z11 (by omega) (by omega) hI) sv_X12_308 (hsh 49 _ rfl) rfl hl.1 rfl (Nat.le_of_ble_eq_true rfl) ⟨Nat.le_of_ble_eq_true rfl, Nat.le_of_ble_eq_true rfl⟩ ⟨Nat.le_of_ble_eq_true rfl, Nat.le_of_ble_eq_true rfl⟩ dX12_addWays_54 (fun r17 kd13 ig14 rg15 lg16 H locs hw hH hp18 => ?_)
          obtain ⟨rfl, rfl, hI, hchp18, hrhp18⟩ := hp18
          have hF : Ft B [72] ig lg ig14 lg16 := Ft.tr hF hchp18 (by decide) (by decide)
          obtain rfl := hrhp18
          refine tc_inc hx hb dX12_addWays_57 hl (k := 0) rfl (by decide) (by decide) (fun z19 hz19 ls hl => ?_)
          first | replace hz19 := hz19 (by omega) | clear hz19
          have hl : lv_has ls 4 [(3, .int z19), (0, .ref (B + 49)), (1, .int x), (2, .int y)] := hl
          refine lv_goto (tgt := 32) hx hb dX12_addWays_60 (by decide) ?_
          exact ih32 ls H locs ig14 lg16 z19 (lv_sub hl [0, 1, 2, 3] rfl) hw hI hF (by omega) (by omega) (by omega)
    exact L32 ((288 - z3.toInt) + 1).toNat ls s.heap [] ig lg z3 (lv_sub hl [0, 1, 2, 3] rfl) hw hI hF (by omega) (by omega) (by omega)
  · refine lv_aload_n hx hb dX12_addWays_9 rfl (lv_at hl 0 rfl) ?_
    refine lv_iload_n hx hb dX12_addWays_10 rfl (lv_at hl 1 rfl) ?_
    refine lv_iload_n hx hb dX12_addWays_11 rfl (lv_at hl 2 rfl) ?_
    refine lv_aload_n hx hb dX12_addWays_12 rfl (lv_at hl 0 rfl) ?_
    refine r_get C hw (hsh 49 _ rfl) fl_X12_80 (oV_r rfl (hrm (49, 15, 59) (by decide))) dX12_addWays_13 ?_
    refine lv_iload_n hx hb dX12_addWays_16 rfl (lv_at hl 2 rfl) ?_
    refine r_iald C hw (hsh 59 _ rfl) (by omega) (by omega) dX12_addWays_17 (ti_c (ig (B + 59) y.toInt.toNat).toInt rfl fun z20 hz20 => ?_)
    have J26 : ∀ (ls : Array Slot) (H : Heap) (locs : List Loc) (ig23 : sI) (lg24 : sG) (u22 : Int32), lv_has ls 4 [] → WD B D cA s.heap kd ig23 rg lg24 H locs → IM τ φ υ B kd ig23 rg → Ft B [72] ig lg ig23 lg24 → (u22.toInt = 0 ∨ u22.toInt = 1) → W p l e (rL 1 0 0) s m args below meth c H locs 0 0 (MQ below (QcW B D cA (PM τ φ υ B [72] kd ig rg lg (fun r ig' lg' => r = none))) args s 0 0 (fun q => B ≤ q)) (F0 m 26 ls [.int u22, .int y, .int x, .ref (B + 49)]) := by
      intro ls H locs ig23 lg24 u22 hl hw hI hF g26_0
      refine r_callV (As := [.int x, .int y, .int u22]) (rest := []) C hw (t_X12_addWay l B D cA kd ig23 rg lg24 _ x y u22 (by omega) (by omega) hI) sv_X12_308 (hsh 49 _ rfl) rfl hl.1 rfl (Nat.le_of_ble_eq_true rfl) ⟨Nat.le_of_ble_eq_true rfl, Nat.le_of_ble_eq_true rfl⟩ ⟨Nat.le_of_ble_eq_true rfl, Nat.le_of_ble_eq_true rfl⟩ dX12_addWays_26 (fun r29 kd25 ig26 rg27 lg28 H locs hw hH hp30 => ?_)
      obtain ⟨rfl, rfl, hI, hchp30, hrhp30⟩ := hp30
      have hF : Ft B [72] ig lg ig26 lg28 := Ft.tr hF hchp30 (by decide) (by decide)
      obtain rfl := hrhp30
      exact r_vret C hw hr hlk (Nat.le_of_ble_eq_true rfl) (Nat.le_of_ble_eq_true rfl) dX12_addWays_29 ⟨rfl, rfl, hI, hF, rfl⟩
    refine z_ne (tgt := 25) hx hb dX12_addWays_18 (by decide) (fun c18 => ?_) (fun c18 => ?_)
    · refine lv_iconst (v := 1) hx hb dX12_addWays_25 (by decide) (ti_c 1 (by decide) fun z31 hz31 => ?_)
      exact J26 ls s.heap [] ig lg z31 (lv_sub hl [] rfl) hw hI hF (by omega)
    · refine lv_iconst (v := 0) hx hb dX12_addWays_21 (by decide) (ti_c 0 (by decide) fun z32 hz32 => ?_)
      refine lv_goto (tgt := 26) hx hb dX12_addWays_22 (by decide) ?_
      exact J26 ls s.heap [] ig lg z32 (lv_sub hl [] rfl) hw hI hF (by omega)

set_option maxHeartbeats 4000000 in
set_option maxRecDepth 100000 in
theorem t_X12_isAlike {υ : Option Int} {τ : Tp} {φ : Option Int} (l : Launch) (B : Nat) (D : va_G) (cA : Nat → ClassId) (kd : sK) (ig : sI) (rg : sR) (lg : sG) (sz : Nat) (x : Int32) (y : Int32) (hx0 : 0 ≤ x.toInt ∧ x.toInt < 288) (hy0 : 0 ≤ y.toInt ∧ y.toInt < 288) (hI : IM τ φ υ B kd ig rg) : MC l B D cA yX12_isAlike cX12_isAlike 9 (some .boolean) (rL 0 0 0) [.ref (B + 49), .int x, .int y] kd ig rg lg sz (Pu kd ig rg lg sz (fun r => ∃ z : Int32, r = some (.int z) ∧ (z.toInt = 0 ∨ z.toInt = 1))) := by
  refine MC.of (own := RX12) (by decide +kernel) rfl (Nat.le_of_ble_eq_true rfl) ?_
  intro p e s m args below meth c ls C hr hlk hnm hw hsz hl
  have hx := C.1.1
  have hb := C.1.2.1
  have hown := C.1.2.2.2.1
  have hts := C.1.2.2.2.2
  have hl : lv_has ls 9 [(0, .ref (B + 49)), (1, .int x), (2, .int y)] := hl
  have hsh := hI.sh
  have hrm := hI.rm
  refine lv_aload_n hx hb dX12_isAlike_0 rfl (lv_at hl 0 rfl) ?_
  refine r_get C hw (hsh 49 _ rfl) fl_X12_77 (oV_r rfl (hrm (49, 13, 58) (by decide))) dX12_isAlike_1 ?_
  refine lv_iload_n hx hb dX12_isAlike_4 rfl (lv_at hl 1 rfl) ?_
  refine r_iald C hw (hsh 58 _ rfl) (by omega) (by omega) dX12_isAlike_5 (ti_c (ig (B + 58) x.toInt.toNat).toInt rfl fun z1 hz1 => ?_)
  have k2 := hI.its (j := (x.toInt.toNat)) (by omega)
  refine lv_aload_n hx hb dX12_isAlike_6 rfl (lv_at hl 0 rfl) ?_
  refine r_get C hw (hsh 49 _ rfl) fl_X12_77 (oV_r rfl (hrm (49, 13, 58) (by decide))) dX12_isAlike_7 ?_
  refine lv_iload_n hx hb dX12_isAlike_10 rfl (lv_at hl 2 rfl) ?_
  refine r_iald C hw (hsh 58 _ rfl) (by omega) (by omega) dX12_isAlike_11 (ti_c (ig (B + 58) y.toInt.toNat).toInt rfl fun z3 hz3 => ?_)
  have k4 := hI.its (j := (y.toInt.toNat)) (by omega)
  refine b_eq (tgt := 17) hx hb dX12_isAlike_12 (by decide) (fun c12 => ?_) (fun c12 => ?_)
  · refine lv_iconst (v := 1) hx hb dX12_isAlike_17 (by decide) (ti_c 1 (by decide) fun z5 hz5 => ?_)
    refine lv_istore_n (lv' := [(3, .int z5), (0, .ref (B + 49)), (1, .int x), (2, .int y)]) hx hb dX12_isAlike_18 rfl hl (by decide) rfl (fun ls hl => ?_)
    refine lv_iconst (v := 0) hx hb dX12_isAlike_19 (by decide) (ti_c 0 (by decide) fun z6 hz6 => ?_)
    refine lv_istore (lv' := [(4, .int z6), (3, .int z5), (0, .ref (B + 49)), (1, .int x), (2, .int y)]) hx hb dX12_isAlike_20 hl (by decide) rfl (fun ls hl => ?_)
    have L22 : ∀ (n : Nat) (ls : Array Slot) (H : Heap) (locs : List Loc) (v7 : Int32) (v8 : Int32), lv_has ls 9 [(4, .int v7), (3, .int v8), (0, .ref (B + 49)), (1, .int x), (2, .int y)] → WD B D cA s.heap kd ig rg lg H locs → H.size = sz → (0 ≤ v7.toInt) → (v7.toInt ≤ 120) → (v8.toInt = 0 ∨ v8.toInt = 1) → 120 - v7.toInt < (n : Int) → W p l e (rL 0 0 0) s m args below meth c H locs 0 0 (MQ below (QcW B D cA (Pu kd ig rg lg sz (fun r => ∃ z : Int32, r = some (.int z) ∧ (z.toInt = 0 ∨ z.toInt = 1)))) args s 0 0 (fun q => B ≤ q)) (F0 m 22 ls []) := by
      intro n22
      induction n22 with
      | zero => intro ls H locs v7 v8 hl hw hsz g22_0 g22_1 g22_2 hmu; exact absurd hmu (by omega)
      | succ n22 ih22 =>
        intro ls H locs v7 v8 hl hw hsz g22_0 g22_1 g22_2 hmu
        refine lv_iload hx hb dX12_isAlike_22 (lv_at hl 0 rfl) ?_
        refine lv_aload_n hx hb dX12_isAlike_24 rfl (lv_at hl 2 rfl) ?_
        refine r_get C hw (hsh 49 _ rfl) fl_X12_77 (oV_r rfl (hrm (49, 13, 58) (by decide))) dX12_isAlike_25 ?_
        refine lv_iload_n hx hb dX12_isAlike_28 rfl (lv_at hl 3 rfl) ?_
        refine r_iald C hw (hsh 58 _ rfl) (by omega) (by omega) dX12_isAlike_29 (ti_c (ig (B + 58) x.toInt.toNat).toInt rfl fun z9 hz9 => ?_)
        have k10 := hI.its (j := (x.toInt.toNat)) (by omega)
        refine b_ge (tgt := 248) hx hb dX12_isAlike_30 (by decide) (fun c30 => ?_) (fun c30 => ?_)
        · refine lv_iload_n hx hb dX12_isAlike_248 rfl (lv_at hl 1 rfl) ?_
          exact r_iret C hw hr hlk (nar_b (by omega)) (Nat.le_of_ble_eq_true rfl) (Nat.le_of_ble_eq_true rfl) dX12_isAlike_249 ⟨rfl, rfl, rfl, rfl, hsz, ⟨_, rfl, by omega⟩⟩
        · refine lv_iload_n hx hb dX12_isAlike_33 rfl (lv_at hl 1 rfl) ?_
          refine z_eq (tgt := 248) hx hb dX12_isAlike_34 (by decide) (fun c34 => ?_) (fun c34 => ?_)
          · refine lv_iload_n hx hb dX12_isAlike_248 rfl (lv_at hl 1 rfl) ?_
            exact r_iret C hw hr hlk (nar_b (by omega)) (Nat.le_of_ble_eq_true rfl) (Nat.le_of_ble_eq_true rfl) dX12_isAlike_249 ⟨rfl, rfl, rfl, rfl, hsz, ⟨_, rfl, by omega⟩⟩
          · refine lv_bipush (v := 120) hx hb dX12_isAlike_37 (by decide) (ti_c 120 (by decide) fun z11 hz11 => ?_)
            refine lv_iload_n hx hb dX12_isAlike_39 rfl (lv_at hl 3 rfl) ?_
            refine lv_imul hx hb dX12_isAlike_40 (tc_mulL 120 hz11 fun z12 hz12 => ?_)
            first | replace hz12 := hz12 (by omega) | clear hz12
            refine lv_iload hx hb dX12_isAlike_41 (lv_at hl 0 rfl) ?_
            refine lv_iadd hx hb dX12_isAlike_43 (tc_add fun z13 hz13 => ?_)
            first | replace hz13 := hz13 (by omega) | clear hz13
            refine lv_istore (lv' := [(5, .int z13), (4, .int v7), (3, .int v8), (0, .ref (B + 49)), (1, .int x), (2, .int y)]) hx hb dX12_isAlike_44 hl (by decide) rfl (fun ls hl => ?_)
            refine lv_bipush (v := 120) hx hb dX12_isAlike_46 (by decide) (ti_c 120 (by decide) fun z14 hz14 => ?_)
            refine lv_iload_n hx hb dX12_isAlike_48 rfl (lv_at hl 5 rfl) ?_
            refine lv_imul hx hb dX12_isAlike_49 (tc_mulL 120 hz14 fun z15 hz15 => ?_)
            first | replace hz15 := hz15 (by omega) | clear hz15
            refine lv_iload hx hb dX12_isAlike_50 (lv_at hl 1 rfl) ?_
            refine lv_iadd hx hb dX12_isAlike_52 (tc_add fun z16 hz16 => ?_)
            first | replace hz16 := hz16 (by omega) | clear hz16
            refine lv_istore (lv' := [(6, .int z16), (5, .int z13), (4, .int v7), (3, .int v8), (0, .ref (B + 49)), (1, .int x), (2, .int y)]) hx hb dX12_isAlike_53 hl (by decide) rfl (fun ls hl => ?_)
            refine lv_aload_n hx hb dX12_isAlike_55 rfl (lv_at hl 4 rfl) ?_
            refine r_get C hw (hsh 49 _ rfl) fl_X12_65 (oV_r rfl (hrm (49, 9, 54) (by decide))) dX12_isAlike_56 ?_
            refine lv_iload hx hb dX12_isAlike_59 (lv_at hl 1 rfl) ?_
            refine r_iald C hw (hsh 54 _ rfl) (by omega) (by omega) dX12_isAlike_61 (ti_c (ig (B + 54) z13.toInt.toNat).toInt rfl fun z17 hz17 => ?_)
            refine lv_aload_n hx hb dX12_isAlike_62 rfl (lv_at hl 4 rfl) ?_
            refine r_get C hw (hsh 49 _ rfl) fl_X12_65 (oV_r rfl (hrm (49, 9, 54) (by decide))) dX12_isAlike_63 ?_
            refine lv_iload hx hb dX12_isAlike_66 (lv_at hl 0 rfl) ?_
            refine r_iald C hw (hsh 54 _ rfl) (by omega) (by omega) dX12_isAlike_68 (ti_c (ig (B + 54) z16.toInt.toNat).toInt rfl fun z19 hz19 => ?_)
            have J94 : ∀ (ls : Array Slot) (H : Heap) (locs : List Loc) (u21 : Int32), lv_has ls 9 [(6, .int z16), (5, .int z13), (4, .int v7), (0, .ref (B + 49)), (1, .int x), (2, .int y)] → WD B D cA s.heap kd ig rg lg H locs → H.size = sz → (u21.toInt = 0 ∨ u21.toInt = 1) → W p l e (rL 0 0 0) s m args below meth c H locs 0 0 (MQ below (QcW B D cA (Pu kd ig rg lg sz (fun r => ∃ z : Int32, r = some (.int z) ∧ (z.toInt = 0 ∨ z.toInt = 1)))) args s 0 0 (fun q => B ≤ q)) (F0 m 94 ls [.int u21]) := by
              intro ls H locs u21 hl hw hsz g94_0
              refine lv_istore_n (lv' := [(3, .int u21), (6, .int z16), (5, .int z13), (4, .int v7), (0, .ref (B + 49)), (1, .int x), (2, .int y)]) hx hb dX12_isAlike_94 rfl hl (by decide) rfl (fun ls hl => ?_)
              refine lv_iload_n hx hb dX12_isAlike_95 rfl (lv_at hl 0 rfl) ?_
              have J215 : ∀ (ls : Array Slot) (H : Heap) (locs : List Loc) , lv_has ls 9 [(3, .int u21), (6, .int z16), (5, .int z13), (4, .int v7), (0, .ref (B + 49)), (1, .int x), (2, .int y)] → WD B D cA s.heap kd ig rg lg H locs → H.size = sz → W p l e (rL 0 0 0) s m args below meth c H locs 0 0 (MQ below (QcW B D cA (Pu kd ig rg lg sz (fun r => ∃ z : Int32, r = some (.int z) ∧ (z.toInt = 0 ∨ z.toInt = 1)))) args s 0 0 (fun q => B ≤ q)) (F0 m 215 ls []) := by
                intro ls H locs  hl hw hsz
                refine lv_iload_n hx hb dX12_isAlike_215 rfl (lv_at hl 0 rfl) ?_
                refine z_eq (tgt := 242) hx hb dX12_isAlike_216 (by decide) (fun c216 => ?_) (fun c216 => ?_)
                · refine tc_inc hx hb dX12_isAlike_242 hl (k := 3) rfl (by decide) (by decide) (fun z22 hz22 ls hl => ?_)
                  first | replace hz22 := hz22 (by omega) | clear hz22
                  have hl : lv_has ls 9 [(4, .int z22), (3, .int u21), (6, .int z16), (5, .int z13), (0, .ref (B + 49)), (1, .int x), (2, .int y)] := hl
                  refine lv_goto (tgt := 22) hx hb dX12_isAlike_245 (by decide) ?_
                  exact ih22 ls H locs z22 u21 (lv_sub hl [0, 1, 4, 5, 6] rfl) hw hsz (by omega) (by omega) (by omega) (by omega)
                · refine lv_aload_n hx hb dX12_isAlike_219 rfl (lv_at hl 4 rfl) ?_
                  refine r_get C hw (hsh 49 _ rfl) fl_X12_68 (oV_r rfl (hrm (49, 10, 55) (by decide))) dX12_isAlike_220 ?_
                  refine lv_iload hx hb dX12_isAlike_223 (lv_at hl 2 rfl) ?_
                  refine r_iald C hw (hsh 55 _ rfl) (by omega) (by omega) dX12_isAlike_225 (ti_c (ig (B + 55) z13.toInt.toNat).toInt rfl fun z23 hz23 => ?_)
                  refine lv_aload_n hx hb dX12_isAlike_226 rfl (lv_at hl 4 rfl) ?_
                  refine r_get C hw (hsh 49 _ rfl) fl_X12_68 (oV_r rfl (hrm (49, 10, 55) (by decide))) dX12_isAlike_227 ?_
                  refine lv_iload hx hb dX12_isAlike_230 (lv_at hl 1 rfl) ?_
                  refine r_iald C hw (hsh 55 _ rfl) (by omega) (by omega) dX12_isAlike_232 (ti_c (ig (B + 55) z16.toInt.toNat).toInt rfl fun z25 hz25 => ?_)
                  refine b_ne (tgt := 240) hx hb dX12_isAlike_233 (by decide) (fun c233 => ?_) (fun c233 => ?_)
                  · refine lv_iconst (v := 0) hx hb dX12_isAlike_240 (by decide) (ti_c 0 (by decide) fun z27 hz27 => ?_)
                    refine lv_istore_n (lv' := [(3, .int z27), (6, .int z16), (5, .int z13), (4, .int v7), (0, .ref (B + 49)), (1, .int x), (2, .int y)]) hx hb dX12_isAlike_241 rfl hl (by decide) rfl (fun ls hl => ?_)
                    refine tc_inc hx hb dX12_isAlike_242 hl (k := 3) rfl (by decide) (by decide) (fun z28 hz28 ls hl => ?_)
                    first | replace hz28 := hz28 (by omega) | clear hz28
                    have hl : lv_has ls 9 [(4, .int z28), (3, .int z27), (6, .int z16), (5, .int z13), (0, .ref (B + 49)), (1, .int x), (2, .int y)] := hl
                    refine lv_goto (tgt := 22) hx hb dX12_isAlike_245 (by decide) ?_
                    exact ih22 ls H locs z28 z27 (lv_sub hl [0, 1, 4, 5, 6] rfl) hw hsz (by omega) (by omega) (by omega) (by omega)
                  · refine lv_iconst (v := 1) hx hb dX12_isAlike_236 (by decide) (ti_c 1 (by decide) fun z29 hz29 => ?_)
                    refine lv_goto (tgt := 241) hx hb dX12_isAlike_237 (by decide) ?_
                    refine lv_istore_n (lv' := [(3, .int z29), (6, .int z16), (5, .int z13), (4, .int v7), (0, .ref (B + 49)), (1, .int x), (2, .int y)]) hx hb dX12_isAlike_241 rfl hl (by decide) rfl (fun ls hl => ?_)
                    refine tc_inc hx hb dX12_isAlike_242 hl (k := 3) rfl (by decide) (by decide) (fun z30 hz30 ls hl => ?_)
                    first | replace hz30 := hz30 (by omega) | clear hz30
                    have hl : lv_has ls 9 [(4, .int z30), (3, .int z29), (6, .int z16), (5, .int z13), (0, .ref (B + 49)), (1, .int x), (2, .int y)] := hl
                    refine lv_goto (tgt := 22) hx hb dX12_isAlike_245 (by decide) ?_
                    exact ih22 ls H locs z30 z29 (lv_sub hl [0, 1, 4, 5, 6] rfl) hw hsz (by omega) (by omega) (by omega) (by omega)
              refine z_eq (tgt := 215) hx hb dX12_isAlike_96 (by decide) (fun c96 => ?_) (fun c96 => ?_)
              · exact J215 ls H locs (lv_sub hl [0, 1, 2, 3, 4, 5, 6] rfl) hw hsz
              · refine lv_aload_n hx hb dX12_isAlike_99 rfl (lv_at hl 4 rfl) ?_
                refine r_get C hw (hsh 49 _ rfl) fl_X12_65 (oV_r rfl (hrm (49, 9, 54) (by decide))) dX12_isAlike_100 ?_
                refine lv_iload hx hb dX12_isAlike_103 (lv_at hl 2 rfl) ?_
                refine r_iald C hw (hsh 54 _ rfl) (by omega) (by omega) dX12_isAlike_105 (ti_c (ig (B + 54) z13.toInt.toNat).toInt rfl fun z31 hz31 => ?_)
                refine lv_iconst (v := 3) hx hb dX12_isAlike_106 (by decide) (ti_c 3 (by decide) fun z33 hz33 => ?_)
                refine b_ne (tgt := 215) hx hb dX12_isAlike_107 (by decide) (fun c107 => ?_) (fun c107 => ?_)
                · exact J215 ls H locs (lv_sub hl [0, 1, 2, 3, 4, 5, 6] rfl) hw hsz
                · refine lv_aload_n hx hb dX12_isAlike_110 rfl (lv_at hl 4 rfl) ?_
                  refine r_get C hw (hsh 49 _ rfl) fl_X12_74 (oV_r rfl (hrm (49, 12, 57) (by decide))) dX12_isAlike_111 ?_
                  refine lv_iload hx hb dX12_isAlike_114 (lv_at hl 2 rfl) ?_
                  refine r_iald C hw (hsh 57 _ rfl) (by omega) (by omega) dX12_isAlike_116 (ti_c (ig (B + 57) z13.toInt.toNat).toInt rfl fun z34 hz34 => ?_)
                  refine lv_iconst (v := 1) hx hb dX12_isAlike_117 (by decide) (ti_c 1 (by decide) fun z36 hz36 => ?_)
                  refine lv_iand hx hb dX12_isAlike_118 (ti_any fun z37 => ?_)
                  refine lv_iconst (v := 1) hx hb dX12_isAlike_119 (by decide) (ti_c 1 (by decide) fun z38 hz38 => ?_)
                  have J136 : ∀ (ls : Array Slot) (H : Heap) (locs : List Loc) (u39 : Int32), lv_has ls 9 [(6, .int z16), (5, .int z13), (4, .int v7), (0, .ref (B + 49)), (1, .int x), (2, .int y)] → WD B D cA s.heap kd ig rg lg H locs → H.size = sz → W p l e (rL 0 0 0) s m args below meth c H locs 0 0 (MQ below (QcW B D cA (Pu kd ig rg lg sz (fun r => ∃ z : Int32, r = some (.int z) ∧ (z.toInt = 0 ∨ z.toInt = 1)))) args s 0 0 (fun q => B ≤ q)) (F0 m 136 ls [.int u39]) := by
                    intro ls H locs u39 hl hw hsz
                    refine lv_istore (lv' := [(7, .int u39), (6, .int z16), (5, .int z13), (4, .int v7), (0, .ref (B + 49)), (1, .int x), (2, .int y)]) hx hb dX12_isAlike_136 hl (by decide) rfl (fun ls hl => ?_)
                    refine lv_aload_n hx hb dX12_isAlike_138 rfl (lv_at hl 4 rfl) ?_
                    refine r_get C hw (hsh 49 _ rfl) fl_X12_74 (oV_r rfl (hrm (49, 12, 57) (by decide))) dX12_isAlike_139 ?_
                    refine lv_iload hx hb dX12_isAlike_142 (lv_at hl 2 rfl) ?_
                    refine r_iald C hw (hsh 57 _ rfl) (by omega) (by omega) dX12_isAlike_144 (ti_c (ig (B + 57) z13.toInt.toNat).toInt rfl fun z40 hz40 => ?_)
                    refine lv_iconst (v := 2) hx hb dX12_isAlike_145 (by decide) (ti_c 2 (by decide) fun z42 hz42 => ?_)
                    refine lv_iand hx hb dX12_isAlike_146 (ti_any fun z43 => ?_)
                    refine lv_iconst (v := 2) hx hb dX12_isAlike_147 (by decide) (ti_c 2 (by decide) fun z44 hz44 => ?_)
                    have J164 : ∀ (ls : Array Slot) (H : Heap) (locs : List Loc) (u45 : Int32), lv_has ls 9 [(7, .int u39), (6, .int z16), (5, .int z13), (4, .int v7), (0, .ref (B + 49)), (1, .int x), (2, .int y)] → WD B D cA s.heap kd ig rg lg H locs → H.size = sz → W p l e (rL 0 0 0) s m args below meth c H locs 0 0 (MQ below (QcW B D cA (Pu kd ig rg lg sz (fun r => ∃ z : Int32, r = some (.int z) ∧ (z.toInt = 0 ∨ z.toInt = 1)))) args s 0 0 (fun q => B ≤ q)) (F0 m 164 ls [.int u45]) := by
                      intro ls H locs u45 hl hw hsz
                      refine lv_istore (lv' := [(8, .int u45), (7, .int u39), (6, .int z16), (5, .int z13), (4, .int v7), (0, .ref (B + 49)), (1, .int x), (2, .int y)]) hx hb dX12_isAlike_164 hl (by decide) rfl (fun ls hl => ?_)
                      refine lv_aload_n hx hb dX12_isAlike_166 rfl (lv_at hl 5 rfl) ?_
                      refine r_get C hw (hsh 49 _ rfl) fl_X12_68 (oV_r rfl (hrm (49, 10, 55) (by decide))) dX12_isAlike_167 ?_
                      refine lv_iload hx hb dX12_isAlike_170 (lv_at hl 3 rfl) ?_
                      refine r_iald C hw (hsh 55 _ rfl) (by omega) (by omega) dX12_isAlike_172 (ti_c (ig (B + 55) z13.toInt.toNat).toInt rfl fun z46 hz46 => ?_)
                      refine lv_aload_n hx hb dX12_isAlike_173 rfl (lv_at hl 5 rfl) ?_
                      refine r_get C hw (hsh 49 _ rfl) fl_X12_68 (oV_r rfl (hrm (49, 10, 55) (by decide))) dX12_isAlike_174 ?_
                      refine lv_iload hx hb dX12_isAlike_177 (lv_at hl 2 rfl) ?_
                      refine r_iald C hw (hsh 55 _ rfl) (by omega) (by omega) dX12_isAlike_179 (ti_c (ig (B + 55) z16.toInt.toNat).toInt rfl fun z48 hz48 => ?_)
                      refine lv_isub hx hb dX12_isAlike_180 (tc_sub fun z50 hz50 => ?_)
                      first | replace hz50 := hz50 (by omega) | clear hz50
                      refine lv_iload hx hb dX12_isAlike_181 (lv_at hl 1 rfl) ?_
                      refine b_ne (tgt := 210) hx hb dX12_isAlike_183 (by decide) (fun c183 => ?_) (fun c183 => ?_)
                      · refine lv_iconst (v := 0) hx hb dX12_isAlike_210 (by decide) (ti_c 0 (by decide) fun z51 hz51 => ?_)
                        refine lv_istore_n (lv' := [(3, .int z51), (8, .int u45), (7, .int u39), (6, .int z16), (5, .int z13), (4, .int v7), (0, .ref (B + 49)), (1, .int x), (2, .int y)]) hx hb dX12_isAlike_211 rfl hl (by decide) rfl (fun ls hl => ?_)
                        refine lv_goto (tgt := 242) hx hb dX12_isAlike_212 (by decide) ?_
                        refine tc_inc hx hb dX12_isAlike_242 hl (k := 5) rfl (by decide) (by decide) (fun z52 hz52 ls hl => ?_)
                        first | replace hz52 := hz52 (by omega) | clear hz52
                        have hl : lv_has ls 9 [(4, .int z52), (3, .int z51), (8, .int u45), (7, .int u39), (6, .int z16), (5, .int z13), (0, .ref (B + 49)), (1, .int x), (2, .int y)] := hl
                        refine lv_goto (tgt := 22) hx hb dX12_isAlike_245 (by decide) ?_
                        exact ih22 ls H locs z52 z51 (lv_sub hl [0, 1, 6, 7, 8] rfl) hw hsz (by omega) (by omega) (by omega) (by omega)
                      · refine lv_aload_n hx hb dX12_isAlike_186 rfl (lv_at hl 5 rfl) ?_
                        refine r_get C hw (hsh 49 _ rfl) fl_X12_71 (oV_r rfl (hrm (49, 11, 56) (by decide))) dX12_isAlike_187 ?_
                        refine lv_iload hx hb dX12_isAlike_190 (lv_at hl 3 rfl) ?_
                        refine r_iald C hw (hsh 56 _ rfl) (by omega) (by omega) dX12_isAlike_192 (ti_c (ig (B + 56) z13.toInt.toNat).toInt rfl fun z53 hz53 => ?_)
                        refine lv_aload_n hx hb dX12_isAlike_193 rfl (lv_at hl 5 rfl) ?_
                        refine r_get C hw (hsh 49 _ rfl) fl_X12_71 (oV_r rfl (hrm (49, 11, 56) (by decide))) dX12_isAlike_194 ?_
                        refine lv_iload hx hb dX12_isAlike_197 (lv_at hl 2 rfl) ?_
                        refine r_iald C hw (hsh 56 _ rfl) (by omega) (by omega) dX12_isAlike_199 (ti_c (ig (B + 56) z16.toInt.toNat).toInt rfl fun z55 hz55 => ?_)
                        refine lv_isub hx hb dX12_isAlike_200 (tc_sub fun z57 hz57 => ?_)
                        first | replace hz57 := hz57 (by omega) | clear hz57
                        refine lv_iload hx hb dX12_isAlike_201 (lv_at hl 0 rfl) ?_
                        refine b_ne (tgt := 210) hx hb dX12_isAlike_203 (by decide) (fun c203 => ?_) (fun c203 => ?_)
                        · refine lv_iconst (v := 0) hx hb dX12_isAlike_210 (by decide) (ti_c 0 (by decide) fun z58 hz58 => ?_)
                          refine lv_istore_n (lv' := [(3, .int z58), (8, .int u45), (7, .int u39), (6, .int z16), (5, .int z13), (4, .int v7), (0, .ref (B + 49)), (1, .int x), (2, .int y)]) hx hb dX12_isAlike_211 rfl hl (by decide) rfl (fun ls hl => ?_)
                          refine lv_goto (tgt := 242) hx hb dX12_isAlike_212 (by decide) ?_
                          refine tc_inc hx hb dX12_isAlike_242 hl (k := 5) rfl (by decide) (by decide) (fun z59 hz59 ls hl => ?_)
                          first | replace hz59 := hz59 (by omega) | clear hz59
                          have hl : lv_has ls 9 [(4, .int z59), (3, .int z58), (8, .int u45), (7, .int u39), (6, .int z16), (5, .int z13), (0, .ref (B + 49)), (1, .int x), (2, .int y)] := hl
                          refine lv_goto (tgt := 22) hx hb dX12_isAlike_245 (by decide) ?_
                          exact ih22 ls H locs z59 z58 (lv_sub hl [0, 1, 6, 7, 8] rfl) hw hsz (by omega) (by omega) (by omega) (by omega)
                        · refine lv_iconst (v := 1) hx hb dX12_isAlike_206 (by decide) (ti_c 1 (by decide) fun z60 hz60 => ?_)
                          refine lv_goto (tgt := 211) hx hb dX12_isAlike_207 (by decide) ?_
                          refine lv_istore_n (lv' := [(3, .int z60), (8, .int u45), (7, .int u39), (6, .int z16), (5, .int z13), (4, .int v7), (0, .ref (B + 49)), (1, .int x), (2, .int y)]) hx hb dX12_isAlike_211 rfl hl (by decide) rfl (fun ls hl => ?_)
                          refine lv_goto (tgt := 242) hx hb dX12_isAlike_212 (by decide) ?_
                          refine tc_inc hx hb dX12_isAlike_242 hl (k := 5) rfl (by decide) (by decide) (fun z61 hz61 ls hl => ?_)
                          first | replace hz61 := hz61 (by omega) | clear hz61
                          have hl : lv_has ls 9 [(4, .int z61), (3, .int z60), (8, .int u45), (7, .int u39), (6, .int z16), (5, .int z13), (0, .ref (B + 49)), (1, .int x), (2, .int y)] := hl
                          refine lv_goto (tgt := 22) hx hb dX12_isAlike_245 (by decide) ?_
                          exact ih22 ls H locs z61 z60 (lv_sub hl [0, 1, 6, 7, 8] rfl) hw hsz (by omega) (by omega) (by omega) (by omega)
                    refine b_ne (tgt := 155) hx hb dX12_isAlike_148 (by decide) (fun c148 => ?_) (fun c148 => ?_)
                    · refine lv_iload_n hx hb dX12_isAlike_155 rfl (lv_at hl 5 rfl) ?_
                      refine lv_bipush (v := 12) hx hb dX12_isAlike_156 (by decide) (ti_c 12 (by decide) fun z62 hz62 => ?_)
                      refine lv_idiv hx hb dX12_isAlike_158 (ne0_of (by omega)) (tc_div 12 hz62 (by decide) fun z63 bz63 hz63 => ?_)
                      first | replace hz63 := hz63 (by omega) | clear hz63
                      refine lv_iload_n hx hb dX12_isAlike_159 rfl (lv_at hl 6 rfl) ?_
                      refine lv_bipush (v := 12) hx hb dX12_isAlike_160 (by decide) (ti_c 12 (by decide) fun z64 hz64 => ?_)
                      refine lv_idiv hx hb dX12_isAlike_162 (ne0_of (by omega)) (tc_div 12 hz64 (by decide) fun z65 bz65 hz65 => ?_)
                      first | replace hz65 := hz65 (by omega) | clear hz65
                      refine lv_isub hx hb dX12_isAlike_163 (tc_sub fun z66 hz66 => ?_)
                      first | replace hz66 := hz66 (by omega) | clear hz66
                      exact J164 ls H locs z66 (lv_sub hl [0, 1, 2, 3, 4, 5, 6] rfl) hw hsz
                    · refine lv_iconst (v := 0) hx hb dX12_isAlike_151 (by decide) (ti_c 0 (by decide) fun z67 hz67 => ?_)
                      refine lv_goto (tgt := 164) hx hb dX12_isAlike_152 (by decide) ?_
                      exact J164 ls H locs z67 (lv_sub hl [0, 1, 2, 3, 4, 5, 6] rfl) hw hsz
                  refine b_ne (tgt := 127) hx hb dX12_isAlike_120 (by decide) (fun c120 => ?_) (fun c120 => ?_)
                  · refine lv_iload_n hx hb dX12_isAlike_127 rfl (lv_at hl 5 rfl) ?_
                    refine lv_bipush (v := 12) hx hb dX12_isAlike_128 (by decide) (ti_c 12 (by decide) fun z68 hz68 => ?_)
                    refine lv_irem hx hb dX12_isAlike_130 (ne0_of (by omega)) (tc_rem 12 hz68 (by decide) fun z69 bz69 hz69 => ?_)
                    first | replace hz69 := hz69 (by omega) | clear hz69
                    refine lv_iload_n hx hb dX12_isAlike_131 rfl (lv_at hl 6 rfl) ?_
                    refine lv_bipush (v := 12) hx hb dX12_isAlike_132 (by decide) (ti_c 12 (by decide) fun z70 hz70 => ?_)
                    refine lv_irem hx hb dX12_isAlike_134 (ne0_of (by omega)) (tc_rem 12 hz70 (by decide) fun z71 bz71 hz71 => ?_)
                    first | replace hz71 := hz71 (by omega) | clear hz71
                    refine lv_isub hx hb dX12_isAlike_135 (tc_sub fun z72 hz72 => ?_)
                    first | replace hz72 := hz72 (by omega) | clear hz72
                    exact J136 ls H locs z72 (lv_sub hl [1, 2, 3, 4, 5, 6] rfl) hw hsz
                  · refine lv_iconst (v := 0) hx hb dX12_isAlike_123 (by decide) (ti_c 0 (by decide) fun z73 hz73 => ?_)
                    refine lv_goto (tgt := 136) hx hb dX12_isAlike_124 (by decide) ?_
                    exact J136 ls H locs z73 (lv_sub hl [1, 2, 3, 4, 5, 6] rfl) hw hsz
            refine b_ne (tgt := 93) hx hb dX12_isAlike_69 (by decide) (fun c69 => ?_) (fun c69 => ?_)
            · refine lv_iconst (v := 0) hx hb dX12_isAlike_93 (by decide) (ti_c 0 (by decide) fun z74 hz74 => ?_)
              exact J94 ls H locs z74 (lv_sub hl [0, 1, 2, 4, 5, 6] rfl) hw hsz (by omega)
            · refine lv_aload_n hx hb dX12_isAlike_72 rfl (lv_at hl 4 rfl) ?_
              refine r_get C hw (hsh 49 _ rfl) fl_X12_74 (oV_r rfl (hrm (49, 12, 57) (by decide))) dX12_isAlike_73 ?_
              refine lv_iload hx hb dX12_isAlike_76 (lv_at hl 1 rfl) ?_
              refine r_iald C hw (hsh 57 _ rfl) (by omega) (by omega) dX12_isAlike_78 (ti_c (ig (B + 57) z13.toInt.toNat).toInt rfl fun z75 hz75 => ?_)
              refine lv_aload_n hx hb dX12_isAlike_79 rfl (lv_at hl 4 rfl) ?_
              refine r_get C hw (hsh 49 _ rfl) fl_X12_74 (oV_r rfl (hrm (49, 12, 57) (by decide))) dX12_isAlike_80 ?_
              refine lv_iload hx hb dX12_isAlike_83 (lv_at hl 0 rfl) ?_
              refine r_iald C hw (hsh 57 _ rfl) (by omega) (by omega) dX12_isAlike_85 (ti_c (ig (B + 57) z16.toInt.toNat).toInt rfl fun z77 hz77 => ?_)
              refine b_ne (tgt := 93) hx hb dX12_isAlike_86 (by decide) (fun c86 => ?_) (fun c86 => ?_)
              · refine lv_iconst (v := 0) hx hb dX12_isAlike_93 (by decide) (ti_c 0 (by decide) fun z79 hz79 => ?_)
                exact J94 ls H locs z79 (lv_sub hl [0, 1, 2, 4, 5, 6] rfl) hw hsz (by omega)
              · refine lv_iconst (v := 1) hx hb dX12_isAlike_89 (by decide) (ti_c 1 (by decide) fun z80 hz80 => ?_)
                refine lv_goto (tgt := 94) hx hb dX12_isAlike_90 (by decide) ?_
                exact J94 ls H locs z80 (lv_sub hl [0, 1, 2, 4, 5, 6] rfl) hw hsz (by omega)
    exact L22 ((120 - z6.toInt) + 1).toNat ls s.heap [] z6 z5 (lv_sub hl [0, 1, 2, 3, 4] rfl) hw hsz (by omega) (by omega) (by omega) (by omega)
  · refine lv_iconst (v := 0) hx hb dX12_isAlike_15 (by decide) (ti_c 0 (by decide) fun z81 hz81 => ?_)
    exact r_iret C hw hr hlk (nar_b (by omega)) (Nat.le_of_ble_eq_true rfl) (Nat.le_of_ble_eq_true rfl) dX12_isAlike_16 ⟨rfl, rfl, rfl, rfl, hsz, ⟨_, rfl, by omega⟩⟩

set_option maxHeartbeats 4000000 in
set_option maxRecDepth 100000 in
theorem t_X12_findFamilies {υ : Option Int} {τ : Tp} {φ : Option Int} (l : Launch) (B : Nat) (D : va_G) (cA : Nat → ClassId) (kd : sK) (ig : sI) (rg : sR) (lg : sG) (sz : Nat)  (hI : IM τ φ υ B kd ig rg) : MC l B D cA yX12_findFamilies cX12_findFamilies 3 none (rL 1 0 0) [.ref (B + 49)] kd ig rg lg sz (PM τ φ υ B [71] kd ig rg lg (fun r ig' lg' => r = none)) := by
  refine MC.of (own := RX12) (by decide +kernel) rfl (Nat.le_of_ble_eq_true rfl) ?_
  intro p e s m args below meth c ls C hr hlk hnm hw hsz hl
  have hx := C.1.1
  have hb := C.1.2.1
  have hown := C.1.2.2.2.1
  have hts := C.1.2.2.2.2
  have hl : lv_has ls 3 [(0, .ref (B + 49))] := hl
  have hF : Ft B [71] ig lg ig lg := Ft.rf
  have hsh := hI.sh
  have hrm := hI.rm
  refine lv_iconst (v := 0) hx hb dX12_findFamilies_0 (by decide) (ti_c 0 (by decide) fun z1 hz1 => ?_)
  refine lv_istore_n (lv' := [(1, .int z1), (0, .ref (B + 49))]) hx hb dX12_findFamilies_1 rfl hl (by decide) rfl (fun ls hl => ?_)
  have L2 : ∀ (n : Nat) (ls : Array Slot) (H : Heap) (locs : List Loc) (ig3 : sI) (lg4 : sG) (v2 : Int32), lv_has ls 3 [(1, .int v2), (0, .ref (B + 49))] → WD B D cA s.heap kd ig3 rg lg4 H locs → IM τ φ υ B kd ig3 rg → Ft B [71] ig lg ig3 lg4 → (0 ≤ v2.toInt) → (v2.toInt ≤ 288) → 288 - v2.toInt < (n : Int) → W p l e (rL 1 0 0) s m args below meth c H locs 0 0 (MQ below (QcW B D cA (PM τ φ υ B [71] kd ig rg lg (fun r ig' lg' => r = none))) args s 0 0 (fun q => B ≤ q)) (F0 m 2 ls []) := by
    intro n2
    induction n2 with
    | zero => intro ls H locs ig3 lg4 v2 hl hw hI hF g2_0 g2_1 hmu; exact absurd hmu (by omega)
    | succ n2 ih2 =>
      intro ls H locs ig3 lg4 v2 hl hw hI hF g2_0 g2_1 hmu
      refine lv_iload_n hx hb dX12_findFamilies_2 rfl (lv_at hl 0 rfl) ?_
      refine lv_sipush (v := 288) hx hb dX12_findFamilies_3 (by decide) (ti_c 288 (by decide) fun z5 hz5 => ?_)
      refine b_ge (tgt := 95) hx hb dX12_findFamilies_6 (by decide) (fun c6 => ?_) (fun c6 => ?_)
      · exact r_vret C hw hr hlk (Nat.le_of_ble_eq_true rfl) (Nat.le_of_ble_eq_true rfl) dX12_findFamilies_95 ⟨rfl, rfl, hI, hF, rfl⟩
      · refine lv_aload_n hx hb dX12_findFamilies_9 rfl (lv_at hl 1 rfl) ?_
        refine r_get C hw (hsh 49 _ rfl) fl_X12_117 (oV_r rfl (hrm (49, 28, 71) (by decide))) dX12_findFamilies_10 ?_
        refine lv_iload_n hx hb dX12_findFamilies_13 rfl (lv_at hl 0 rfl) ?_
        refine lv_iconst (v := (-1)) hx hb dX12_findFamilies_14 (by decide) (ti_c (-1) (by decide) fun z6 hz6 => ?_)
        refine r_iast C hw (hsh 71 _ rfl) (by omega) (by omega) dX12_findFamilies_15 (fun H locs hH hw => ?_)
        obtain ⟨ig7, eig7⟩ : ∃ f, f = up2 ig3 (B + 71) v2.toInt.toNat z6 := ⟨_, rfl⟩
        rw [← eig7] at hw
        have hF : Ft B [71] ig lg ig7 lg4 := by rw [eig7]; exact hF.pi (by decide)
        have hI : IM τ φ υ B kd ig7 rg := by rw [eig7]; exact hI.pi (by decide) (show okR none _ from trivial)
        refine lv_iconst (v := 0) hx hb dX12_findFamilies_16 (by decide) (ti_c 0 (by decide) fun z8 hz8 => ?_)
        refine lv_istore_n (lv' := [(2, .int z8), (1, .int v2), (0, .ref (B + 49))]) hx hb dX12_findFamilies_17 rfl hl (by decide) rfl (fun ls hl => ?_)
        have L18 : ∀ (n : Nat) (ls : Array Slot) (H : Heap) (locs : List Loc) (ig10 : sI) (lg11 : sG) (v9 : Int32), lv_has ls 3 [(2, .int v9), (1, .int v2), (0, .ref (B + 49))] → WD B D cA s.heap kd ig10 rg lg11 H locs → IM τ φ υ B kd ig10 rg → Ft B [71] ig lg ig10 lg11 → (0 ≤ v9.toInt) → (v9.toInt ≤ 288) → 288 - v9.toInt < (n : Int) → W p l e (rL 1 0 0) s m args below meth c H locs 0 0 (MQ below (QcW B D cA (PM τ φ υ B [71] kd ig rg lg (fun r ig' lg' => r = none))) args s 0 0 (fun q => B ≤ q)) (F0 m 18 ls []) := by
          intro n18
          induction n18 with
          | zero => intro ls H locs ig10 lg11 v9 hl hw hI hF g18_0 g18_1 hmu; exact absurd hmu (by omega)
          | succ n18 ih18 =>
            intro ls H locs ig10 lg11 v9 hl hw hI hF g18_0 g18_1 hmu
            refine lv_iload_n hx hb dX12_findFamilies_18 rfl (lv_at hl 0 rfl) ?_
            refine lv_iload_n hx hb dX12_findFamilies_19 rfl (lv_at hl 1 rfl) ?_
            refine b_gt (tgt := 89) hx hb dX12_findFamilies_20 (by decide) (fun c20 => ?_) (fun c20 => ?_)
            · refine tc_inc hx hb dX12_findFamilies_89 hl (k := 1) rfl (by decide) (by decide) (fun z12 hz12 ls hl => ?_)
              first | replace hz12 := hz12 (by omega) | clear hz12
              have hl : lv_has ls 3 [(1, .int z12), (2, .int v9), (0, .ref (B + 49))] := hl
              refine lv_goto (tgt := 2) hx hb dX12_findFamilies_92 (by decide) ?_
              exact ih2 ls H locs ig10 lg11 z12 (lv_sub hl [0, 2] rfl) hw hI hF (by omega) (by omega) (by omega)
            · refine lv_aload_n hx hb dX12_findFamilies_23 rfl (lv_at hl 2 rfl) ?_
              refine r_get C hw (hsh 49 _ rfl) fl_X12_117 (oV_r rfl (hrm (49, 28, 71) (by decide))) dX12_findFamilies_24 ?_
              refine lv_iload_n hx hb dX12_findFamilies_27 rfl (lv_at hl 1 rfl) ?_
              refine r_iald C hw (hsh 71 _ rfl) (by omega) (by omega) dX12_findFamilies_28 (ti_c (ig10 (B + 71) v2.toInt.toNat).toInt rfl fun z13 hz13 => ?_)
              refine z_ge (tgt := 89) hx hb dX12_findFamilies_29 (by decide) (fun c29 => ?_) (fun c29 => ?_)
              · refine tc_inc hx hb dX12_findFamilies_89 hl (k := 1) rfl (by decide) (by decide) (fun z15 hz15 ls hl => ?_)
                first | replace hz15 := hz15 (by omega) | clear hz15
                have hl : lv_has ls 3 [(1, .int z15), (2, .int v9), (0, .ref (B + 49))] := hl
                refine lv_goto (tgt := 2) hx hb dX12_findFamilies_92 (by decide) ?_
                exact ih2 ls H locs ig10 lg11 z15 (lv_sub hl [0, 2] rfl) hw hI hF (by omega) (by omega) (by omega)
              · refine lv_aload_n hx hb dX12_findFamilies_32 rfl (lv_at hl 2 rfl) ?_
                refine r_get C hw (hsh 49 _ rfl) fl_X12_80 (oV_r rfl (hrm (49, 15, 59) (by decide))) dX12_findFamilies_33 ?_
                refine lv_iload_n hx hb dX12_findFamilies_36 rfl (lv_at hl 1 rfl) ?_
                refine r_iald C hw (hsh 59 _ rfl) (by omega) (by omega) dX12_findFamilies_37 (ti_c (ig10 (B + 59) v2.toInt.toNat).toInt rfl fun z16 hz16 => ?_)
                rw [Ft.i hF 59 _ (by decide)] at hz16
                refine lv_iconst (v := 2) hx hb dX12_findFamilies_38 (by decide) (ti_c 2 (by decide) fun z18 hz18 => ?_)
                refine b_ne (tgt := 89) hx hb dX12_findFamilies_39 (by decide) (fun c39 => ?_) (fun c39 => ?_)
                · refine tc_inc hx hb dX12_findFamilies_89 hl (k := 1) rfl (by decide) (by decide) (fun z19 hz19 ls hl => ?_)
                  first | replace hz19 := hz19 (by omega) | clear hz19
                  have hl : lv_has ls 3 [(1, .int z19), (2, .int v9), (0, .ref (B + 49))] := hl
                  refine lv_goto (tgt := 2) hx hb dX12_findFamilies_92 (by decide) ?_
                  exact ih2 ls H locs ig10 lg11 z19 (lv_sub hl [0, 2] rfl) hw hI hF (by omega) (by omega) (by omega)
                · refine lv_aload_n hx hb dX12_findFamilies_42 rfl (lv_at hl 2 rfl) ?_
                  refine r_get C hw (hsh 49 _ rfl) fl_X12_80 (oV_r rfl (hrm (49, 15, 59) (by decide))) dX12_findFamilies_43 ?_
                  refine lv_iload_n hx hb dX12_findFamilies_46 rfl (lv_at hl 0 rfl) ?_
                  refine r_iald C hw (hsh 59 _ rfl) (by omega) (by omega) dX12_findFamilies_47 (ti_c (ig10 (B + 59) v9.toInt.toNat).toInt rfl fun z20 hz20 => ?_)
                  rw [Ft.i hF 59 _ (by decide)] at hz20
                  refine lv_iconst (v := 2) hx hb dX12_findFamilies_48 (by decide) (ti_c 2 (by decide) fun z22 hz22 => ?_)
                  refine b_ne (tgt := 83) hx hb dX12_findFamilies_49 (by decide) (fun c49 => ?_) (fun c49 => ?_)
                  · refine tc_inc hx hb dX12_findFamilies_83 hl (k := 0) rfl (by decide) (by decide) (fun z23 hz23 ls hl => ?_)
                    first | replace hz23 := hz23 (by omega) | clear hz23
                    have hl : lv_has ls 3 [(2, .int z23), (1, .int v2), (0, .ref (B + 49))] := hl
                    refine lv_goto (tgt := 18) hx hb dX12_findFamilies_86 (by decide) ?_
                    exact ih18 ls H locs ig10 lg11 z23 (lv_sub hl [0, 1, 2] rfl) hw hI hF (by omega) (by omega) (by omega)
                  · refine lv_iload_n hx hb dX12_findFamilies_52 rfl (lv_at hl 0 rfl) ?_
                    refine lv_iload_n hx hb dX12_findFamilies_53 rfl (lv_at hl 1 rfl) ?_
                    refine b_eq (tgt := 76) hx hb dX12_findFamilies_54 (by decide) (fun c54 => ?_) (fun c54 => ?_)
                    · refine lv_aload_n hx hb dX12_findFamilies_76 rfl (lv_at hl 2 rfl) ?_
                      refine r_get C hw (hsh 49 _ rfl) fl_X12_117 (oV_r rfl (hrm (49, 28, 71) (by decide))) dX12_findFamilies_77 ?_
                      refine lv_iload_n hx hb dX12_findFamilies_80 rfl (lv_at hl 1 rfl) ?_
                      refine lv_iload_n hx hb dX12_findFamilies_81 rfl (lv_at hl 0 rfl) ?_
                      refine r_iast C hw (hsh 71 _ rfl) (by omega) (by omega) dX12_findFamilies_82 (fun H locs hH hw => ?_)
                      obtain ⟨ig24, eig24⟩ : ∃ f, f = up2 ig10 (B + 71) v2.toInt.toNat v9 := ⟨_, rfl⟩
                      rw [← eig24] at hw
                      have hF : Ft B [71] ig lg ig24 lg11 := by rw [eig24]; exact hF.pi (by decide)
                      have hI : IM τ φ υ B kd ig24 rg := by rw [eig24]; exact hI.pi (by decide) (show okR none _ from trivial)
                      refine tc_inc hx hb dX12_findFamilies_83 hl (k := 0) rfl (by decide) (by decide) (fun z25 hz25 ls hl => ?_)
                      first | replace hz25 := hz25 (by omega) | clear hz25
                      have hl : lv_has ls 3 [(2, .int z25), (1, .int v2), (0, .ref (B + 49))] := hl
                      refine lv_goto (tgt := 18) hx hb dX12_findFamilies_86 (by decide) ?_
                      exact ih18 ls H locs ig24 lg11 z25 (lv_sub hl [0, 1, 2] rfl) hw hI hF (by omega) (by omega) (by omega)
                    · refine lv_aload_n hx hb dX12_findFamilies_57 rfl (lv_at hl 2 rfl) ?_
                      refine r_get C hw (hsh 49 _ rfl) fl_X12_117 (oV_r rfl (hrm (49, 28, 71) (by decide))) dX12_findFamilies_58 ?_
                      refine lv_iload_n hx hb dX12_findFamilies_61 rfl (lv_at hl 0 rfl) ?_
                      refine r_iald C hw (hsh 71 _ rfl) (by omega) (by omega) dX12_findFamilies_62 (ti_c (ig10 (B + 71) v9.toInt.toNat).toInt rfl fun z26 hz26 => ?_)
                      refine lv_iload_n hx hb dX12_findFamilies_63 rfl (lv_at hl 0 rfl) ?_
                      refine b_ne (tgt := 83) hx hb dX12_findFamilies_64 (by decide) (fun c64 => ?_) (fun c64 => ?_)
                      · refine tc_inc hx hb dX12_findFamilies_83 hl (k := 0) rfl (by decide) (by decide) (fun z28 hz28 ls hl => ?_)
                        first | replace hz28 := hz28 (by omega) | clear hz28
                        have hl : lv_has ls 3 [(2, .int z28), (1, .int v2), (0, .ref (B + 49))] := hl
                        refine lv_goto (tgt := 18) hx hb dX12_findFamilies_86 (by decide) ?_
                        exact ih18 ls H locs ig10 lg11 z28 (lv_sub hl [0, 1, 2] rfl) hw hI hF (by omega) (by omega) (by omega)
                      · refine lv_aload_n hx hb dX12_findFamilies_67 rfl (lv_at hl 2 rfl) ?_
                        refine lv_iload_n hx hb dX12_findFamilies_68 rfl (lv_at hl 1 rfl) ?_
                        refine lv_iload_n hx hb dX12_findFamilies_69 rfl (lv_at hl 0 rfl) ?_
                        refine r_callV (As := [.int v2, .int v9]) (rest := []) C hw (t_X12_isAlike l B D cA kd ig10 rg lg11 _ v2 v9 (by omega) (by omega) hI) sv_X12_311 (hsh 49 _ rfl) rfl hl.1 rfl (Nat.le_of_ble_eq_true rfl) ⟨Nat.le_of_ble_eq_true rfl, Nat.le_of_ble_eq_true rfl⟩ ⟨Nat.le_of_ble_eq_true rfl, Nat.le_of_ble_eq_true rfl⟩ dX12_findFamilies_70 (fun r33 kd29 ig30 rg31 lg32 H locs hw hH hp34 => ?_)
                        obtain ⟨rfl, rfl, rfl, rfl, hzhp34, hrhp34⟩ := hp34
                        obtain ⟨z35, rfl, hz35⟩ := hrhp34
                        refine z_eq (tgt := 83) hx hb dX12_findFamilies_73 (by decide) (fun c73 => ?_) (fun c73 => ?_)
                        · refine tc_inc hx hb dX12_findFamilies_83 hl (k := 0) rfl (by decide) (by decide) (fun z36 hz36 ls hl => ?_)
                          first | replace hz36 := hz36 (by omega) | clear hz36
                          have hl : lv_has ls 3 [(2, .int z36), (1, .int v2), (0, .ref (B + 49))] := hl
                          refine lv_goto (tgt := 18) hx hb dX12_findFamilies_86 (by decide) ?_
                          exact ih18 ls H locs ig10 lg11 z36 (lv_sub hl [0, 1, 2] rfl) hw hI hF (by omega) (by omega) (by omega)
                        · refine lv_aload_n hx hb dX12_findFamilies_76 rfl (lv_at hl 2 rfl) ?_
                          refine r_get C hw (hsh 49 _ rfl) fl_X12_117 (oV_r rfl (hrm (49, 28, 71) (by decide))) dX12_findFamilies_77 ?_
                          refine lv_iload_n hx hb dX12_findFamilies_80 rfl (lv_at hl 1 rfl) ?_
                          refine lv_iload_n hx hb dX12_findFamilies_81 rfl (lv_at hl 0 rfl) ?_
                          refine r_iast C hw (hsh 71 _ rfl) (by omega) (by omega) dX12_findFamilies_82 (fun H locs hH hw => ?_)
                          obtain ⟨ig37, eig37⟩ : ∃ f, f = up2 ig10 (B + 71) v2.toInt.toNat v9 := ⟨_, rfl⟩
                          rw [← eig37] at hw
                          have hF : Ft B [71] ig lg ig37 lg11 := by rw [eig37]; exact hF.pi (by decide)
                          have hI : IM τ φ υ B kd ig37 rg := by rw [eig37]; exact hI.pi (by decide) (show okR none _ from trivial)
                          refine tc_inc hx hb dX12_findFamilies_83 hl (k := 0) rfl (by decide) (by decide) (fun z38 hz38 ls hl => ?_)
                          first | replace hz38 := hz38 (by omega) | clear hz38
                          have hl : lv_has ls 3 [(2, .int z38), (1, .int v2), (0, .ref (B + 49))] := hl
                          refine lv_goto (tgt := 18) hx hb dX12_findFamilies_86 (by decide) ?_
                          exact ih18 ls H locs ig37 lg11 z38 (lv_sub hl [0, 1, 2] rfl) hw hI hF (by omega) (by omega) (by omega)
        exact L18 ((288 - z8.toInt) + 1).toNat ls H locs ig7 lg4 z8 (lv_sub hl [0, 1, 2] rfl) hw hI hF (by omega) (by omega) (by omega)
  exact L2 ((288 - z1.toInt) + 1).toNat ls s.heap [] ig lg z1 (lv_sub hl [0, 1] rfl) hw hI hF (by omega) (by omega) (by omega)

set_option maxHeartbeats 4000000 in
set_option maxRecDepth 100000 in
theorem t_X12_familyAt {υ : Option Int} {τ : Tp} {φ : Option Int} (l : Launch) (B : Nat) (D : va_G) (cA : Nat → ClassId) (kd : sK) (ig : sI) (rg : sR) (lg : sG) (sz : Nat) (x : Int32) (y : Int32) (hI : IM τ φ υ B kd ig rg) : MC l B D cA yX12_familyAt cX12_familyAt 3 (some .int) (rL 0 0 0) [.ref (B + 49), .int x, .int y] kd ig rg lg sz (Pu kd ig rg lg sz (fun r => ∃ z : Int32, r = some (.int z) ∧ (z.toInt ≠ -1 → (0 ≤ x.toInt ∧ x.toInt ≤ 11) ∧ 0 ≤ y.toInt ∧ y.toInt ≤ 23))) := by
  refine MC.of (own := RX12) (by decide +kernel) rfl (Nat.le_of_ble_eq_true rfl) ?_
  intro p e s m args below meth c ls C hr hlk hnm hw hsz hl
  have hx := C.1.1
  have hb := C.1.2.1
  have hown := C.1.2.2.2.1
  have hts := C.1.2.2.2.2
  have hl : lv_has ls 3 [(0, .ref (B + 49)), (1, .int x), (2, .int y)] := hl
  have hsh := hI.sh
  have hrm := hI.rm
  refine lv_iload_n hx hb dX12_familyAt_0 rfl (lv_at hl 1 rfl) ?_
  refine z_lt (tgt := 20) hx hb dX12_familyAt_1 (by decide) (fun c1 => ?_) (fun c1 => ?_)
  · refine lv_iconst (v := (-1)) hx hb dX12_familyAt_20 (by decide) (ti_c (-1) (by decide) fun z1 hz1 => ?_)
    refine lv_goto (tgt := 35) hx hb dX12_familyAt_21 (by decide) ?_
    exact r_iret C hw hr hlk rfl (Nat.le_of_ble_eq_true rfl) (Nat.le_of_ble_eq_true rfl) dX12_familyAt_35 ⟨rfl, rfl, rfl, rfl, hsz, ⟨_, rfl, by omega⟩⟩
  · refine lv_iload_n hx hb dX12_familyAt_4 rfl (lv_at hl 1 rfl) ?_
    refine lv_bipush (v := 11) hx hb dX12_familyAt_5 (by decide) (ti_c 11 (by decide) fun z2 hz2 => ?_)
    refine b_gt (tgt := 20) hx hb dX12_familyAt_7 (by decide) (fun c7 => ?_) (fun c7 => ?_)
    · refine lv_iconst (v := (-1)) hx hb dX12_familyAt_20 (by decide) (ti_c (-1) (by decide) fun z3 hz3 => ?_)
      refine lv_goto (tgt := 35) hx hb dX12_familyAt_21 (by decide) ?_
      exact r_iret C hw hr hlk rfl (Nat.le_of_ble_eq_true rfl) (Nat.le_of_ble_eq_true rfl) dX12_familyAt_35 ⟨rfl, rfl, rfl, rfl, hsz, ⟨_, rfl, by omega⟩⟩
    · refine lv_iload_n hx hb dX12_familyAt_10 rfl (lv_at hl 2 rfl) ?_
      refine z_lt (tgt := 20) hx hb dX12_familyAt_11 (by decide) (fun c11 => ?_) (fun c11 => ?_)
      · refine lv_iconst (v := (-1)) hx hb dX12_familyAt_20 (by decide) (ti_c (-1) (by decide) fun z4 hz4 => ?_)
        refine lv_goto (tgt := 35) hx hb dX12_familyAt_21 (by decide) ?_
        exact r_iret C hw hr hlk rfl (Nat.le_of_ble_eq_true rfl) (Nat.le_of_ble_eq_true rfl) dX12_familyAt_35 ⟨rfl, rfl, rfl, rfl, hsz, ⟨_, rfl, by omega⟩⟩
      · refine lv_iload_n hx hb dX12_familyAt_14 rfl (lv_at hl 2 rfl) ?_
        refine lv_bipush (v := 23) hx hb dX12_familyAt_15 (by decide) (ti_c 23 (by decide) fun z5 hz5 => ?_)
        refine b_le (tgt := 24) hx hb dX12_familyAt_17 (by decide) (fun c17 => ?_) (fun c17 => ?_)
        · refine lv_aload_n hx hb dX12_familyAt_24 rfl (lv_at hl 0 rfl) ?_
          refine r_get C hw (hsh 49 _ rfl) fl_X12_117 (oV_r rfl (hrm (49, 28, 71) (by decide))) dX12_familyAt_25 ?_
          refine lv_bipush (v := 12) hx hb dX12_familyAt_28 (by decide) (ti_c 12 (by decide) fun z6 hz6 => ?_)
          refine lv_iload_n hx hb dX12_familyAt_30 rfl (lv_at hl 2 rfl) ?_
          refine lv_imul hx hb dX12_familyAt_31 (tc_mulL 12 hz6 fun z7 hz7 => ?_)
          first | replace hz7 := hz7 (by omega) | clear hz7
          refine lv_iload_n hx hb dX12_familyAt_32 rfl (lv_at hl 1 rfl) ?_
          refine lv_iadd hx hb dX12_familyAt_33 (tc_add fun z8 hz8 => ?_)
          first | replace hz8 := hz8 (by omega) | clear hz8
          refine r_iald C hw (hsh 71 _ rfl) (by omega) (by omega) dX12_familyAt_34 (ti_c (ig (B + 71) z8.toInt.toNat).toInt rfl fun z9 hz9 => ?_)
          exact r_iret C hw hr hlk rfl (Nat.le_of_ble_eq_true rfl) (Nat.le_of_ble_eq_true rfl) dX12_familyAt_35 ⟨rfl, rfl, rfl, rfl, hsz, ⟨_, rfl, by omega⟩⟩
        · refine lv_iconst (v := (-1)) hx hb dX12_familyAt_20 (by decide) (ti_c (-1) (by decide) fun z11 hz11 => ?_)
          refine lv_goto (tgt := 35) hx hb dX12_familyAt_21 (by decide) ?_
          exact r_iret C hw hr hlk rfl (Nat.le_of_ble_eq_true rfl) (Nat.le_of_ble_eq_true rfl) dX12_familyAt_35 ⟨rfl, rfl, rfl, rfl, hsz, ⟨_, rfl, by omega⟩⟩

set_option maxHeartbeats 4000000 in
set_option maxRecDepth 100000 in
theorem t_X12_oddBy {υ : Option Int} {τ : Tp} {φ : Option Int} (l : Launch) (B : Nat) (D : va_G) (cA : Nat → ClassId) (kd : sK) (ig : sI) (rg : sR) (lg : sG) (sz : Nat) (x : Int32) (hx0 : 0 ≤ x.toInt ∧ x.toInt < 288) (hI : IM τ φ υ B kd ig rg) : MC l B D cA yX12_oddBy cX12_oddBy 6 (some .int) (rL 1 0 0) [.ref (B + 49), .int x] kd ig rg lg sz (Pu kd ig rg lg sz (fun r => ∃ z : Int32, r = some (.int z) ∧ (-1 ≤ z.toInt ∧ z.toInt < 288))) := by
  refine MC.of (own := RX12) (by decide +kernel) rfl (Nat.le_of_ble_eq_true rfl) ?_
  intro p e s m args below meth c ls C hr hlk hnm hw hsz hl
  have hx := C.1.1
  have hb := C.1.2.1
  have hown := C.1.2.2.2.1
  have hts := C.1.2.2.2.2
  have hl : lv_has ls 6 [(0, .ref (B + 49)), (1, .int x)] := hl
  have hsh := hI.sh
  have hrm := hI.rm
  refine lv_aload_n hx hb dX12_oddBy_0 rfl (lv_at hl 0 rfl) ?_
  refine r_get C hw (hsh 49 _ rfl) fl_X12_80 (oV_r rfl (hrm (49, 15, 59) (by decide))) dX12_oddBy_1 ?_
  refine lv_iload_n hx hb dX12_oddBy_4 rfl (lv_at hl 1 rfl) ?_
  refine r_iald C hw (hsh 59 _ rfl) (by omega) (by omega) dX12_oddBy_5 (ti_c (ig (B + 59) x.toInt.toNat).toInt rfl fun z1 hz1 => ?_)
  refine z_ne (tgt := 11) hx hb dX12_oddBy_6 (by decide) (fun c6 => ?_) (fun c6 => ?_)
  · refine lv_iload_n hx hb dX12_oddBy_11 rfl (lv_at hl 1 rfl) ?_
    refine lv_bipush (v := 12) hx hb dX12_oddBy_12 (by decide) (ti_c 12 (by decide) fun z3 hz3 => ?_)
    refine lv_irem hx hb dX12_oddBy_14 (ne0_of (by omega)) (tc_rem 12 hz3 (by decide) fun z4 bz4 hz4 => ?_)
    first | replace hz4 := hz4 (by omega) | clear hz4
    refine lv_istore_n (lv' := [(2, .int z4), (0, .ref (B + 49)), (1, .int x)]) hx hb dX12_oddBy_15 rfl hl (by decide) rfl (fun ls hl => ?_)
    refine lv_iload_n hx hb dX12_oddBy_16 rfl (lv_at hl 2 rfl) ?_
    refine lv_bipush (v := 12) hx hb dX12_oddBy_17 (by decide) (ti_c 12 (by decide) fun z5 hz5 => ?_)
    refine lv_idiv hx hb dX12_oddBy_19 (ne0_of (by omega)) (tc_div 12 hz5 (by decide) fun z6 bz6 hz6 => ?_)
    first | replace hz6 := hz6 (by omega) | clear hz6
    refine lv_istore_n (lv' := [(3, .int z6), (2, .int z4), (0, .ref (B + 49)), (1, .int x)]) hx hb dX12_oddBy_20 rfl hl (by decide) rfl (fun ls hl => ?_)
    refine lv_aload_n hx hb dX12_oddBy_21 rfl (lv_at hl 2 rfl) ?_
    refine lv_iload_n hx hb dX12_oddBy_22 rfl (lv_at hl 1 rfl) ?_
    refine lv_iconst (v := 1) hx hb dX12_oddBy_23 (by decide) (ti_c 1 (by decide) fun z7 hz7 => ?_)
    refine lv_isub hx hb dX12_oddBy_24 (tc_sub fun z8 hz8 => ?_)
    first | replace hz8 := hz8 (by omega) | clear hz8
    refine lv_iload_n hx hb dX12_oddBy_25 rfl (lv_at hl 0 rfl) ?_
    refine r_callV (As := [.int z8, .int z6]) (rest := []) C hw (t_X12_familyAt l B D cA kd ig rg lg _ z8 z6  hI) sv_X12_317 (hsh 49 _ rfl) rfl hl.1 rfl (Nat.le_of_ble_eq_true rfl) ⟨Nat.le_of_ble_eq_true rfl, Nat.le_of_ble_eq_true rfl⟩ ⟨Nat.le_of_ble_eq_true rfl, Nat.le_of_ble_eq_true rfl⟩ dX12_oddBy_26 (fun r13 kd9 ig10 rg11 lg12 H locs hw hH hp14 => ?_)
    obtain ⟨rfl, rfl, rfl, rfl, hzhp14, hrhp14⟩ := hp14
    have hsz := hzhp14.trans hsz
    obtain ⟨z15, rfl, hz15⟩ := hrhp14
    refine lv_istore (lv' := [(4, .int z15), (3, .int z6), (2, .int z4), (0, .ref (B + 49)), (1, .int x)]) hx hb dX12_oddBy_29 hl (by decide) rfl (fun ls hl => ?_)
    refine lv_iload hx hb dX12_oddBy_31 (lv_at hl 0 rfl) ?_
    have J64 : ∀ (ls : Array Slot) (H : Heap) (locs : List Loc) , lv_has ls 6 [(3, .int z6), (2, .int z4), (0, .ref (B + 49)), (1, .int x)] → WD B D cA s.heap kd ig rg lg H locs → H.size = sz → W p l e (rL 1 0 0) s m args below meth c H locs 0 0 (MQ below (QcW B D cA (Pu kd ig rg lg sz (fun r => ∃ z : Int32, r = some (.int z) ∧ (-1 ≤ z.toInt ∧ z.toInt < 288)))) args s 0 0 (fun q => B ≤ q)) (F0 m 64 ls []) := by
      intro ls H locs  hl hw hsz
      refine lv_aload_n hx hb dX12_oddBy_64 rfl (lv_at hl 2 rfl) ?_
      refine lv_iload_n hx hb dX12_oddBy_65 rfl (lv_at hl 1 rfl) ?_
      refine lv_iload_n hx hb dX12_oddBy_66 rfl (lv_at hl 0 rfl) ?_
      refine lv_iconst (v := 1) hx hb dX12_oddBy_67 (by decide) (ti_c 1 (by decide) fun z16 hz16 => ?_)
      refine lv_isub hx hb dX12_oddBy_68 (tc_sub fun z17 hz17 => ?_)
      first | replace hz17 := hz17 (by omega) | clear hz17
      refine r_callV (As := [.int z4, .int z17]) (rest := []) C hw (t_X12_familyAt l B D cA kd ig rg lg _ z4 z17  hI) sv_X12_317 (hsh 49 _ rfl) rfl hl.1 rfl (Nat.le_of_ble_eq_true rfl) ⟨Nat.le_of_ble_eq_true rfl, Nat.le_of_ble_eq_true rfl⟩ ⟨Nat.le_of_ble_eq_true rfl, Nat.le_of_ble_eq_true rfl⟩ dX12_oddBy_69 (fun r22 kd18 ig19 rg20 lg21 H locs hw hH hp23 => ?_)
      obtain ⟨rfl, rfl, rfl, rfl, hzhp23, hrhp23⟩ := hp23
      have hsz := hzhp23.trans hsz
      obtain ⟨z24, rfl, hz24⟩ := hrhp23
      refine lv_istore (lv' := [(5, .int z24), (3, .int z6), (2, .int z4), (0, .ref (B + 49)), (1, .int x)]) hx hb dX12_oddBy_72 hl (by decide) rfl (fun ls hl => ?_)
      refine lv_iload hx hb dX12_oddBy_74 (lv_at hl 0 rfl) ?_
      refine z_lt (tgt := 110) hx hb dX12_oddBy_76 (by decide) (fun c76 => ?_) (fun c76 => ?_)
      · refine lv_iconst (v := (-1)) hx hb dX12_oddBy_110 (by decide) (ti_c (-1) (by decide) fun z25 hz25 => ?_)
        exact r_iret C hw hr hlk rfl (Nat.le_of_ble_eq_true rfl) (Nat.le_of_ble_eq_true rfl) dX12_oddBy_111 ⟨rfl, rfl, rfl, rfl, hsz, ⟨_, rfl, by omega⟩⟩
      · refine lv_iload hx hb dX12_oddBy_79 (lv_at hl 0 rfl) ?_
        refine lv_aload_n hx hb dX12_oddBy_81 rfl (lv_at hl 3 rfl) ?_
        refine lv_iload_n hx hb dX12_oddBy_82 rfl (lv_at hl 2 rfl) ?_
        refine lv_iload_n hx hb dX12_oddBy_83 rfl (lv_at hl 1 rfl) ?_
        refine lv_iconst (v := 1) hx hb dX12_oddBy_84 (by decide) (ti_c 1 (by decide) fun z26 hz26 => ?_)
        refine lv_iadd hx hb dX12_oddBy_85 (tc_add fun z27 hz27 => ?_)
        first | replace hz27 := hz27 (by omega) | clear hz27
        refine r_callV (As := [.int z4, .int z27]) (rest := [.int z24]) C hw (t_X12_familyAt l B D cA kd ig rg lg _ z4 z27  hI) sv_X12_317 (hsh 49 _ rfl) rfl hl.1 rfl (Nat.le_of_ble_eq_true rfl) ⟨Nat.le_of_ble_eq_true rfl, Nat.le_of_ble_eq_true rfl⟩ ⟨Nat.le_of_ble_eq_true rfl, Nat.le_of_ble_eq_true rfl⟩ dX12_oddBy_86 (fun r32 kd28 ig29 rg30 lg31 H locs hw hH hp33 => ?_)
        obtain ⟨rfl, rfl, rfl, rfl, hzhp33, hrhp33⟩ := hp33
        have hsz := hzhp33.trans hsz
        obtain ⟨z34, rfl, hz34⟩ := hrhp33
        refine b_ne (tgt := 110) hx hb dX12_oddBy_89 (by decide) (fun c89 => ?_) (fun c89 => ?_)
        · refine lv_iconst (v := (-1)) hx hb dX12_oddBy_110 (by decide) (ti_c (-1) (by decide) fun z35 hz35 => ?_)
          exact r_iret C hw hr hlk rfl (Nat.le_of_ble_eq_true rfl) (Nat.le_of_ble_eq_true rfl) dX12_oddBy_111 ⟨rfl, rfl, rfl, rfl, hsz, ⟨_, rfl, by omega⟩⟩
        · refine lv_iload hx hb dX12_oddBy_92 (lv_at hl 0 rfl) ?_
          refine lv_aload_n hx hb dX12_oddBy_94 rfl (lv_at hl 3 rfl) ?_
          refine r_get C hw (hsh 49 _ rfl) fl_X12_117 (oV_r rfl (hrm (49, 28, 71) (by decide))) dX12_oddBy_95 ?_
          refine lv_iload_n hx hb dX12_oddBy_98 rfl (lv_at hl 4 rfl) ?_
          refine r_iald C hw (hsh 71 _ rfl) (by omega) (by omega) dX12_oddBy_99 (ti_c (ig (B + 71) x.toInt.toNat).toInt rfl fun z36 hz36 => ?_)
          refine b_eq (tgt := 110) hx hb dX12_oddBy_100 (by decide) (fun c100 => ?_) (fun c100 => ?_)
          · refine lv_iconst (v := (-1)) hx hb dX12_oddBy_110 (by decide) (ti_c (-1) (by decide) fun z38 hz38 => ?_)
            exact r_iret C hw hr hlk rfl (Nat.le_of_ble_eq_true rfl) (Nat.le_of_ble_eq_true rfl) dX12_oddBy_111 ⟨rfl, rfl, rfl, rfl, hsz, ⟨_, rfl, by omega⟩⟩
          · refine lv_iload_n hx hb dX12_oddBy_103 rfl (lv_at hl 4 rfl) ?_
            refine lv_bipush (v := 12) hx hb dX12_oddBy_104 (by decide) (ti_c 12 (by decide) fun z39 hz39 => ?_)
            refine lv_isub hx hb dX12_oddBy_106 (tc_sub fun z40 hz40 => ?_)
            first | replace hz40 := hz40 (by omega) | clear hz40
            refine lv_goto (tgt := 111) hx hb dX12_oddBy_107 (by decide) ?_
            exact r_iret C hw hr hlk rfl (Nat.le_of_ble_eq_true rfl) (Nat.le_of_ble_eq_true rfl) dX12_oddBy_111 ⟨rfl, rfl, rfl, rfl, hsz, ⟨_, rfl, by omega⟩⟩
    refine z_lt (tgt := 64) hx hb dX12_oddBy_33 (by decide) (fun c33 => ?_) (fun c33 => ?_)
    · exact J64 ls H locs (lv_sub hl [1, 2, 3, 4] rfl) hw hsz
    · refine lv_iload hx hb dX12_oddBy_36 (lv_at hl 0 rfl) ?_
      refine lv_aload_n hx hb dX12_oddBy_38 rfl (lv_at hl 3 rfl) ?_
      refine lv_iload_n hx hb dX12_oddBy_39 rfl (lv_at hl 2 rfl) ?_
      refine lv_iconst (v := 1) hx hb dX12_oddBy_40 (by decide) (ti_c 1 (by decide) fun z41 hz41 => ?_)
      refine lv_iadd hx hb dX12_oddBy_41 (tc_add fun z42 hz42 => ?_)
      first | replace hz42 := hz42 (by omega) | clear hz42
      refine lv_iload_n hx hb dX12_oddBy_42 rfl (lv_at hl 1 rfl) ?_
      refine r_callV (As := [.int z42, .int z6]) (rest := [.int z15]) C hw (t_X12_familyAt l B D cA kd ig rg lg _ z42 z6  hI) sv_X12_317 (hsh 49 _ rfl) rfl hl.1 rfl (Nat.le_of_ble_eq_true rfl) ⟨Nat.le_of_ble_eq_true rfl, Nat.le_of_ble_eq_true rfl⟩ ⟨Nat.le_of_ble_eq_true rfl, Nat.le_of_ble_eq_true rfl⟩ dX12_oddBy_43 (fun r47 kd43 ig44 rg45 lg46 H locs hw hH hp48 => ?_)
      obtain ⟨rfl, rfl, rfl, rfl, hzhp48, hrhp48⟩ := hp48
      have hsz := hzhp48.trans hsz
      obtain ⟨z49, rfl, hz49⟩ := hrhp48
      refine b_ne (tgt := 64) hx hb dX12_oddBy_46 (by decide) (fun c46 => ?_) (fun c46 => ?_)
      · exact J64 ls H locs (lv_sub hl [1, 2, 3, 4] rfl) hw hsz
      · refine lv_iload hx hb dX12_oddBy_49 (lv_at hl 0 rfl) ?_
        refine lv_aload_n hx hb dX12_oddBy_51 rfl (lv_at hl 3 rfl) ?_
        refine r_get C hw (hsh 49 _ rfl) fl_X12_117 (oV_r rfl (hrm (49, 28, 71) (by decide))) dX12_oddBy_52 ?_
        refine lv_iload_n hx hb dX12_oddBy_55 rfl (lv_at hl 4 rfl) ?_
        refine r_iald C hw (hsh 71 _ rfl) (by omega) (by omega) dX12_oddBy_56 (ti_c (ig (B + 71) x.toInt.toNat).toInt rfl fun z50 hz50 => ?_)
        refine b_eq (tgt := 64) hx hb dX12_oddBy_57 (by decide) (fun c57 => ?_) (fun c57 => ?_)
        · exact J64 ls H locs (lv_sub hl [1, 2, 3, 4] rfl) hw hsz
        · refine lv_iload_n hx hb dX12_oddBy_60 rfl (lv_at hl 4 rfl) ?_
          refine lv_iconst (v := 1) hx hb dX12_oddBy_61 (by decide) (ti_c 1 (by decide) fun z52 hz52 => ?_)
          refine lv_isub hx hb dX12_oddBy_62 (tc_sub fun z53 hz53 => ?_)
          first | replace hz53 := hz53 (by omega) | clear hz53
          exact r_iret C hw hr hlk rfl (Nat.le_of_ble_eq_true rfl) (Nat.le_of_ble_eq_true rfl) dX12_oddBy_63 ⟨rfl, rfl, rfl, rfl, hsz, ⟨_, rfl, by omega⟩⟩
  · refine lv_iconst (v := (-1)) hx hb dX12_oddBy_9 (by decide) (ti_c (-1) (by decide) fun z54 hz54 => ?_)
    exact r_iret C hw hr hlk rfl (Nat.le_of_ble_eq_true rfl) (Nat.le_of_ble_eq_true rfl) dX12_oddBy_10 ⟨rfl, rfl, rfl, rfl, hsz, ⟨_, rfl, by omega⟩⟩

set_option maxHeartbeats 4000000 in
set_option maxRecDepth 100000 in
theorem t_X12_leastTwice {υ : Option Int} {τ : Tp} {φ : Option Int} (l : Launch) (B : Nat) (D : va_G) (cA : Nat → ClassId) (kd : sK) (ig : sI) (rg : sR) (lg : sG) (sz : Nat) (x : Int32) (hx0 : 0 ≤ x.toInt ∧ x.toInt < 288) (hI : IM τ φ υ B kd ig rg) : MC l B D cA yX12_leastTwice cX12_leastTwice 3 (some .int) (rL 0 0 0) [.ref (B + 49), .int x] kd ig rg lg sz (Pu kd ig rg lg sz (fun r => ∃ z : Int32, r = some (.int z) ∧ True)) := by
  refine MC.of (own := RX12) (by decide +kernel) rfl (Nat.le_of_ble_eq_true rfl) ?_
  intro p e s m args below meth c ls C hr hlk hnm hw hsz hl
  have hx := C.1.1
  have hb := C.1.2.1
  have hown := C.1.2.2.2.1
  have hts := C.1.2.2.2.2
  have hl : lv_has ls 3 [(0, .ref (B + 49)), (1, .int x)] := hl
  have hsh := hI.sh
  have hrm := hI.rm
  refine lv_iconst (v := 0) hx hb dX12_leastTwice_0 (by decide) (ti_c 0 (by decide) fun z1 hz1 => ?_)
  refine lv_istore_n (lv' := [(2, .int z1), (0, .ref (B + 49)), (1, .int x)]) hx hb dX12_leastTwice_1 rfl hl (by decide) rfl (fun ls hl => ?_)
  have L2 : ∀ (n : Nat) (ls : Array Slot) (H : Heap) (locs : List Loc) (v2 : Int32), lv_has ls 3 [(2, .int v2), (0, .ref (B + 49)), (1, .int x)] → WD B D cA s.heap kd ig rg lg H locs → H.size = sz → (0 ≤ v2.toInt) → (v2.toInt ≤ 288) → 288 - v2.toInt < (n : Int) → W p l e (rL 0 0 0) s m args below meth c H locs 0 0 (MQ below (QcW B D cA (Pu kd ig rg lg sz (fun r => ∃ z : Int32, r = some (.int z) ∧ True))) args s 0 0 (fun q => B ≤ q)) (F0 m 2 ls []) := by
    intro n2
    induction n2 with
    | zero => intro ls H locs v2 hl hw hsz g2_0 g2_1 hmu; exact absurd hmu (by omega)
    | succ n2 ih2 =>
      intro ls H locs v2 hl hw hsz g2_0 g2_1 hmu
      refine lv_iload_n hx hb dX12_leastTwice_2 rfl (lv_at hl 0 rfl) ?_
      refine lv_sipush (v := 288) hx hb dX12_leastTwice_3 (by decide) (ti_c 288 (by decide) fun z3 hz3 => ?_)
      refine b_ge (tgt := 33) hx hb dX12_leastTwice_6 (by decide) (fun c6 => ?_) (fun c6 => ?_)
      · refine lv_iconst (v := (-1)) hx hb dX12_leastTwice_33 (by decide) (ti_c (-1) (by decide) fun z4 hz4 => ?_)
        exact r_iret C hw hr hlk rfl (Nat.le_of_ble_eq_true rfl) (Nat.le_of_ble_eq_true rfl) dX12_leastTwice_34 ⟨rfl, rfl, rfl, rfl, hsz, ⟨_, rfl, trivial⟩⟩
      · refine lv_aload_n hx hb dX12_leastTwice_9 rfl (lv_at hl 1 rfl) ?_
        refine r_get C hw (hsh 49 _ rfl) fl_X12_121 (oV_r rfl (hrm (49, 29, 72) (by decide))) dX12_leastTwice_10 ?_
        refine lv_sipush (v := 288) hx hb dX12_leastTwice_13 (by decide) (ti_c 288 (by decide) fun z5 hz5 => ?_)
        refine lv_iload_n hx hb dX12_leastTwice_16 rfl (lv_at hl 2 rfl) ?_
        refine lv_imul hx hb dX12_leastTwice_17 (tc_mulL 288 hz5 fun z6 hz6 => ?_)
        first | replace hz6 := hz6 (by omega) | clear hz6
        refine lv_iload_n hx hb dX12_leastTwice_18 rfl (lv_at hl 0 rfl) ?_
        refine lv_iadd hx hb dX12_leastTwice_19 (tc_add fun z7 hz7 => ?_)
        first | replace hz7 := hz7 (by omega) | clear hz7
        refine r_iald C hw (hsh 72 _ rfl) (by omega) (by omega) dX12_leastTwice_20 (ti_c (ig (B + 72) z7.toInt.toNat).toInt rfl fun z8 hz8 => ?_)
        refine lv_iconst (v := 1) hx hb dX12_leastTwice_21 (by decide) (ti_c 1 (by decide) fun z10 hz10 => ?_)
        refine b_le (tgt := 27) hx hb dX12_leastTwice_22 (by decide) (fun c22 => ?_) (fun c22 => ?_)
        · refine tc_inc hx hb dX12_leastTwice_27 hl (k := 0) rfl (by decide) (by decide) (fun z11 hz11 ls hl => ?_)
          first | replace hz11 := hz11 (by omega) | clear hz11
          have hl : lv_has ls 3 [(2, .int z11), (0, .ref (B + 49)), (1, .int x)] := hl
          refine lv_goto (tgt := 2) hx hb dX12_leastTwice_30 (by decide) ?_
          exact ih2 ls H locs z11 (lv_sub hl [0, 1, 2] rfl) hw hsz (by omega) (by omega) (by omega)
        · refine lv_iload_n hx hb dX12_leastTwice_25 rfl (lv_at hl 0 rfl) ?_
          exact r_iret C hw hr hlk rfl (Nat.le_of_ble_eq_true rfl) (Nat.le_of_ble_eq_true rfl) dX12_leastTwice_26 ⟨rfl, rfl, rfl, rfl, hsz, ⟨_, rfl, trivial⟩⟩
  exact L2 ((288 - z1.toInt) + 1).toNat ls s.heap [] z1 (lv_sub hl [0, 1, 2] rfl) hw hsz (by omega) (by omega) (by omega)

set_option maxHeartbeats 4000000 in
set_option maxRecDepth 100000 in
theorem t_X12_finding {υ : Option Int} {τ : Tp} {φ : Option Int} (l : Launch) (B : Nat) (D : va_G) (cA : Nat → ClassId) (kd : sK) (ig : sI) (rg : sR) (lg : sG) (sz : Nat) (x : Int32) (y : Int32) (hI : IM τ φ υ B kd ig rg) : MC l B D cA yX12_finding cX12_finding 3 (some .int) (rL 0 0 0) [.ref (B + 49), .int x, .int y] kd ig rg lg sz (PM τ φ υ B [49] kd ig rg lg (fun r ig' lg' => ∃ z : Int32, r = some (.int z) ∧ True)) := by
  refine MC.of (own := RX12) (by decide +kernel) rfl (Nat.le_of_ble_eq_true rfl) ?_
  intro p e s m args below meth c ls C hr hlk hnm hw hsz hl
  have hx := C.1.1
  have hb := C.1.2.1
  have hown := C.1.2.2.2.1
  have hts := C.1.2.2.2.2
  have hl : lv_has ls 3 [(0, .ref (B + 49)), (1, .int x), (2, .int y)] := hl
  have hF : Ft B [49] ig lg ig lg := Ft.rf
  have hsh := hI.sh
  have hrm := hI.rm
  refine lv_aload_n hx hb dX12_finding_0 rfl (lv_at hl 0 rfl) ?_
  refine lv_iconst (v := 0) hx hb dX12_finding_1 (by decide) (ti_c 0 (by decide) fun z1 hz1 => ?_)
  refine r_puti C hw (hsh 49 _ rfl) fl_X12_1 rfl rfl rfl dX12_finding_2 (fun H locs hH hw => ?_)
  obtain ⟨ig2, eig2⟩ : ∃ f, f = up2 ig (B + 49) 0 z1 := ⟨_, rfl⟩
  rw [← eig2] at hw
  have hF : Ft B [49] ig lg ig2 lg := by rw [eig2]; exact hF.pi (by decide)
  have hI : IM τ φ υ B kd ig2 rg := by rw [eig2]; exact hI.pi (by decide) (show okR none _ from trivial)
  have wig2_49_37 : (ig2 (B + 49) 37).toInt = (ig (B + 49) 37).toInt := by rw [eig2, up2_j (by decide)]
  refine lv_iload_n hx hb dX12_finding_5 rfl (lv_at hl 1 rfl) ?_
  refine z_lt (tgt := 33) hx hb dX12_finding_6 (by decide) (fun c6 => ?_) (fun c6 => ?_)
  · refine lv_iconst (v := (-1)) hx hb dX12_finding_33 (by decide) (ti_c (-1) (by decide) fun z3 hz3 => ?_)
    refine lv_goto (tgt := 47) hx hb dX12_finding_34 (by decide) ?_
    exact r_iret C hw hr hlk rfl (Nat.le_of_ble_eq_true rfl) (Nat.le_of_ble_eq_true rfl) dX12_finding_47 ⟨rfl, rfl, hI, hF, ⟨_, rfl, trivial⟩⟩
  · refine lv_iload_n hx hb dX12_finding_9 rfl (lv_at hl 1 rfl) ?_
    refine lv_aload_n hx hb dX12_finding_10 rfl (lv_at hl 0 rfl) ?_
    refine r_get C hw (hsh 49 _ rfl) fl_X12_314 (oV_i rfl) dX12_finding_11 (ti_c (ig2 (B + 49) 37).toInt rfl fun z4 hz4 => ?_)
    have k5 : 0 ≤ (ig2 (B + 49) 37).toInt ∧ (ig2 (B + 49) 37).toInt ≤ 100000 := hI.i 49 37 (by decide) (by decide)
    refine b_ge (tgt := 33) hx hb dX12_finding_14 (by decide) (fun c14 => ?_) (fun c14 => ?_)
    · refine lv_iconst (v := (-1)) hx hb dX12_finding_33 (by decide) (ti_c (-1) (by decide) fun z6 hz6 => ?_)
      refine lv_goto (tgt := 47) hx hb dX12_finding_34 (by decide) ?_
      exact r_iret C hw hr hlk rfl (Nat.le_of_ble_eq_true rfl) (Nat.le_of_ble_eq_true rfl) dX12_finding_47 ⟨rfl, rfl, hI, hF, ⟨_, rfl, trivial⟩⟩
    · refine lv_iload_n hx hb dX12_finding_17 rfl (lv_at hl 1 rfl) ?_
      refine lv_sipush (v := 300) hx hb dX12_finding_18 (by decide) (ti_c 300 (by decide) fun z7 hz7 => ?_)
      refine b_ge (tgt := 33) hx hb dX12_finding_21 (by decide) (fun c21 => ?_) (fun c21 => ?_)
      · refine lv_iconst (v := (-1)) hx hb dX12_finding_33 (by decide) (ti_c (-1) (by decide) fun z8 hz8 => ?_)
        refine lv_goto (tgt := 47) hx hb dX12_finding_34 (by decide) ?_
        exact r_iret C hw hr hlk rfl (Nat.le_of_ble_eq_true rfl) (Nat.le_of_ble_eq_true rfl) dX12_finding_47 ⟨rfl, rfl, hI, hF, ⟨_, rfl, trivial⟩⟩
      · refine lv_iload_n hx hb dX12_finding_24 rfl (lv_at hl 2 rfl) ?_
        refine z_lt (tgt := 33) hx hb dX12_finding_25 (by decide) (fun c25 => ?_) (fun c25 => ?_)
        · refine lv_iconst (v := (-1)) hx hb dX12_finding_33 (by decide) (ti_c (-1) (by decide) fun z9 hz9 => ?_)
          refine lv_goto (tgt := 47) hx hb dX12_finding_34 (by decide) ?_
          exact r_iret C hw hr hlk rfl (Nat.le_of_ble_eq_true rfl) (Nat.le_of_ble_eq_true rfl) dX12_finding_47 ⟨rfl, rfl, hI, hF, ⟨_, rfl, trivial⟩⟩
        · refine lv_iload_n hx hb dX12_finding_28 rfl (lv_at hl 2 rfl) ?_
          refine lv_iconst (v := 2) hx hb dX12_finding_29 (by decide) (ti_c 2 (by decide) fun z10 hz10 => ?_)
          refine b_le (tgt := 37) hx hb dX12_finding_30 (by decide) (fun c30 => ?_) (fun c30 => ?_)
          · refine lv_aload_n hx hb dX12_finding_37 rfl (lv_at hl 0 rfl) ?_
            refine r_get C hw (hsh 49 _ rfl) fl_X12_130 (oV_r rfl (hrm (49, 38, 75) (by decide))) dX12_finding_38 ?_
            refine lv_iconst (v := 3) hx hb dX12_finding_41 (by decide) (ti_c 3 (by decide) fun z11 hz11 => ?_)
            refine lv_iload_n hx hb dX12_finding_42 rfl (lv_at hl 1 rfl) ?_
            refine lv_imul hx hb dX12_finding_43 (tc_mulL 3 hz11 fun z12 hz12 => ?_)
            first | replace hz12 := hz12 (by omega) | clear hz12
            refine lv_iload_n hx hb dX12_finding_44 rfl (lv_at hl 2 rfl) ?_
            refine lv_iadd hx hb dX12_finding_45 (tc_add fun z13 hz13 => ?_)
            first | replace hz13 := hz13 (by omega) | clear hz13
            refine r_iald C hw (hsh 75 _ rfl) (by omega) (by omega) dX12_finding_46 (ti_c (ig2 (B + 75) z13.toInt.toNat).toInt rfl fun z14 hz14 => ?_)
            exact r_iret C hw hr hlk rfl (Nat.le_of_ble_eq_true rfl) (Nat.le_of_ble_eq_true rfl) dX12_finding_47 ⟨rfl, rfl, hI, hF, ⟨_, rfl, trivial⟩⟩
          · refine lv_iconst (v := (-1)) hx hb dX12_finding_33 (by decide) (ti_c (-1) (by decide) fun z16 hz16 => ?_)
            refine lv_goto (tgt := 47) hx hb dX12_finding_34 (by decide) ?_
            exact r_iret C hw hr hlk rfl (Nat.le_of_ble_eq_true rfl) (Nat.le_of_ble_eq_true rfl) dX12_finding_47 ⟨rfl, rfl, hI, hF, ⟨_, rfl, trivial⟩⟩

set_option maxHeartbeats 4000000 in
set_option maxRecDepth 100000 in
theorem t_X12_remembers {υ : Option Int} {τ : Tp} {φ : Option Int} (l : Launch) (B : Nat) (D : va_G) (cA : Nat → ClassId) (kd : sK) (ig : sI) (rg : sR) (lg : sG) (sz : Nat)  (hI : IM τ φ υ B kd ig rg) : MC l B D cA yX12_remembers cX12_remembers 2 none (rL 0 0 0) [.ref (B + 49)] kd ig rg lg sz (PM τ φ υ B [76, 77] kd ig rg lg (fun r ig' lg' => r = none)) := by
  refine MC.of (own := RX12) (by decide +kernel) rfl (Nat.le_of_ble_eq_true rfl) ?_
  intro p e s m args below meth c ls C hr hlk hnm hw hsz hl
  have hx := C.1.1
  have hb := C.1.2.1
  have hown := C.1.2.2.2.1
  have hts := C.1.2.2.2.2
  have hl : lv_has ls 2 [(0, .ref (B + 49))] := hl
  have hF : Ft B [76, 77] ig lg ig lg := Ft.rf
  have hsh := hI.sh
  have hrm := hI.rm
  refine lv_iconst (v := 0) hx hb dX12_remembers_0 (by decide) (ti_c 0 (by decide) fun z1 hz1 => ?_)
  refine lv_istore_n (lv' := [(1, .int z1), (0, .ref (B + 49))]) hx hb dX12_remembers_1 rfl hl (by decide) rfl (fun ls hl => ?_)
  have L2 : ∀ (n : Nat) (ls : Array Slot) (H : Heap) (locs : List Loc) (ig3 : sI) (lg4 : sG) (v2 : Int32), lv_has ls 2 [(1, .int v2), (0, .ref (B + 49))] → WD B D cA s.heap kd ig3 rg lg4 H locs → IM τ φ υ B kd ig3 rg → Ft B [76, 77] ig lg ig3 lg4 → (0 ≤ v2.toInt) → (v2.toInt ≤ 288) → 288 - v2.toInt < (n : Int) → W p l e (rL 0 0 0) s m args below meth c H locs 0 0 (MQ below (QcW B D cA (PM τ φ υ B [76, 77] kd ig rg lg (fun r ig' lg' => r = none))) args s 0 0 (fun q => B ≤ q)) (F0 m 2 ls []) := by
    intro n2
    induction n2 with
    | zero => intro ls H locs ig3 lg4 v2 hl hw hI hF g2_0 g2_1 hmu; exact absurd hmu (by omega)
    | succ n2 ih2 =>
      intro ls H locs ig3 lg4 v2 hl hw hI hF g2_0 g2_1 hmu
      refine lv_iload_n hx hb dX12_remembers_2 rfl (lv_at hl 0 rfl) ?_
      refine lv_sipush (v := 288) hx hb dX12_remembers_3 (by decide) (ti_c 288 (by decide) fun z5 hz5 => ?_)
      refine b_ge (tgt := 39) hx hb dX12_remembers_6 (by decide) (fun c6 => ?_) (fun c6 => ?_)
      · exact r_vret C hw hr hlk (Nat.le_of_ble_eq_true rfl) (Nat.le_of_ble_eq_true rfl) dX12_remembers_39 ⟨rfl, rfl, hI, hF, rfl⟩
      · refine lv_aload_n hx hb dX12_remembers_9 rfl (lv_at hl 1 rfl) ?_
        refine r_get C hw (hsh 49 _ rfl) fl_X12_133 (oV_r rfl (hrm (49, 39, 76) (by decide))) dX12_remembers_10 ?_
        refine lv_iload_n hx hb dX12_remembers_13 rfl (lv_at hl 0 rfl) ?_
        refine lv_aload_n hx hb dX12_remembers_14 rfl (lv_at hl 1 rfl) ?_
        refine r_get C hw (hsh 49 _ rfl) fl_X12_102 (oV_r rfl (hrm (49, 23, 66) (by decide))) dX12_remembers_15 ?_
        refine lv_iload_n hx hb dX12_remembers_18 rfl (lv_at hl 0 rfl) ?_
        refine r_iald C hw (hsh 66 _ rfl) (by omega) (by omega) dX12_remembers_19 (ti_c (ig3 (B + 66) v2.toInt.toNat).toInt rfl fun z6 hz6 => ?_)
        refine r_iast C hw (hsh 76 _ rfl) (by omega) (by omega) dX12_remembers_20 (fun H locs hH hw => ?_)
        obtain ⟨ig8, eig8⟩ : ∃ f, f = up2 ig3 (B + 76) v2.toInt.toNat z6 := ⟨_, rfl⟩
        rw [← eig8] at hw
        have hF : Ft B [76, 77] ig lg ig8 lg4 := by rw [eig8]; exact hF.pi (by decide)
        have hI : IM τ φ υ B kd ig8 rg := by rw [eig8]; exact hI.pi (by decide) (show okR none _ from trivial)
        refine lv_aload_n hx hb dX12_remembers_21 rfl (lv_at hl 1 rfl) ?_
        refine r_get C hw (hsh 49 _ rfl) fl_X12_136 (oV_r rfl (hrm (49, 40, 77) (by decide))) dX12_remembers_22 ?_
        refine lv_iload_n hx hb dX12_remembers_25 rfl (lv_at hl 0 rfl) ?_
        refine lv_aload_n hx hb dX12_remembers_26 rfl (lv_at hl 1 rfl) ?_
        refine r_get C hw (hsh 49 _ rfl) fl_X12_105 (oV_r rfl (hrm (49, 24, 67) (by decide))) dX12_remembers_27 ?_
        refine lv_iload_n hx hb dX12_remembers_30 rfl (lv_at hl 0 rfl) ?_
        refine r_iald C hw (hsh 67 _ rfl) (by omega) (by omega) dX12_remembers_31 (ti_c (ig8 (B + 67) v2.toInt.toNat).toInt rfl fun z9 hz9 => ?_)
        refine r_iast C hw (hsh 77 _ rfl) (by omega) (by omega) dX12_remembers_32 (fun H locs hH hw => ?_)
        obtain ⟨ig11, eig11⟩ : ∃ f, f = up2 ig8 (B + 77) v2.toInt.toNat z9 := ⟨_, rfl⟩
        rw [← eig11] at hw
        have hF : Ft B [76, 77] ig lg ig11 lg4 := by rw [eig11]; exact hF.pi (by decide)
        have hI : IM τ φ υ B kd ig11 rg := by rw [eig11]; exact hI.pi (by decide) (show okR none _ from trivial)
        refine tc_inc hx hb dX12_remembers_33 hl (k := 0) rfl (by decide) (by decide) (fun z12 hz12 ls hl => ?_)
        first | replace hz12 := hz12 (by omega) | clear hz12
        have hl : lv_has ls 2 [(1, .int z12), (0, .ref (B + 49))] := hl
        refine lv_goto (tgt := 2) hx hb dX12_remembers_36 (by decide) ?_
        exact ih2 ls H locs ig11 lg4 z12 (lv_sub hl [0, 1] rfl) hw hI hF (by omega) (by omega) (by omega)
  exact L2 ((288 - z1.toInt) + 1).toNat ls s.heap [] ig lg z1 (lv_sub hl [0, 1] rfl) hw hI hF (by omega) (by omega) (by omega)

set_option maxHeartbeats 4000000 in
set_option maxRecDepth 100000 in
theorem t_X12_tells {υ : Option Int} {τ : Tp} {φ : Option Int} (l : Launch) (B : Nat) (D : va_G) (cA : Nat → ClassId) (kd : sK) (ig : sI) (rg : sR) (lg : sG) (sz : Nat)  (hI : IM τ φ υ B kd ig rg) : MC l B D cA yX12_tells cX12_tells 2 (some .int) (rL 0 0 0) [.ref (B + 49)] kd ig rg lg sz (PM τ φ υ B [49, 78] kd ig rg lg (fun r ig' lg' => ∃ z : Int32, r = some (.int z) ∧ True)) := by
  refine MC.of (own := RX12) (by decide +kernel) rfl (Nat.le_of_ble_eq_true rfl) ?_
  intro p e s m args below meth c ls C hr hlk hnm hw hsz hl
  have hx := C.1.1
  have hb := C.1.2.1
  have hown := C.1.2.2.2.1
  have hts := C.1.2.2.2.2
  have hl : lv_has ls 2 [(0, .ref (B + 49))] := hl
  have hF : Ft B [49, 78] ig lg ig lg := Ft.rf
  have hsh := hI.sh
  have hrm := hI.rm
  refine lv_aload_n hx hb dX12_tells_0 rfl (lv_at hl 0 rfl) ?_
  refine lv_iconst (v := 0) hx hb dX12_tells_1 (by decide) (ti_c 0 (by decide) fun z1 hz1 => ?_)
  refine r_puti C hw (hsh 49 _ rfl) fl_X12_339 rfl rfl rfl dX12_tells_2 (fun H locs hH hw => ?_)
  obtain ⟨ig2, eig2⟩ : ∃ f, f = up2 ig (B + 49) 41 z1 := ⟨_, rfl⟩
  rw [← eig2] at hw
  have hF : Ft B [49, 78] ig lg ig2 lg := by rw [eig2]; exact hF.pi (by decide)
  have hI : IM τ φ υ B kd ig2 rg := by rw [eig2]; exact hI.pi (by decide) (show okR (some (0, 288)) _ from ⟨by show (0 : Int) ≤ _; omega, by show _ ≤ (288 : Int); omega⟩)
  have wig2 : (ig2 (B + 49) 41).toInt = z1.toInt := by rw [eig2, up2_eq]
  refine lv_iconst (v := 0) hx hb dX12_tells_5 (by decide) (ti_c 0 (by decide) fun z3 hz3 => ?_)
  refine lv_istore_n (lv' := [(1, .int z3), (0, .ref (B + 49))]) hx hb dX12_tells_6 rfl hl (by decide) rfl (fun ls hl => ?_)
  have L7 : ∀ (n : Nat) (ls : Array Slot) (H : Heap) (locs : List Loc) (ig5 : sI) (lg6 : sG) (v4 : Int32), lv_has ls 2 [(1, .int v4), (0, .ref (B + 49))] → WD B D cA s.heap kd ig5 rg lg6 H locs → IM τ φ υ B kd ig5 rg → Ft B [49, 78] ig lg ig5 lg6 → (0 ≤ v4.toInt) → (v4.toInt ≤ 288) → ((ig5 (B + 49) 41).toInt ≤ v4.toInt) → 288 - v4.toInt < (n : Int) → W p l e (rL 0 0 0) s m args below meth c H locs 0 0 (MQ below (QcW B D cA (PM τ φ υ B [49, 78] kd ig rg lg (fun r ig' lg' => ∃ z : Int32, r = some (.int z) ∧ True))) args s 0 0 (fun q => B ≤ q)) (F0 m 7 ls []) := by
    intro n7
    induction n7 with
    | zero => intro ls H locs ig5 lg6 v4 hl hw hI hF g7_0 g7_1 g7_2 hmu; exact absurd hmu (by omega)
    | succ n7 ih7 =>
      intro ls H locs ig5 lg6 v4 hl hw hI hF g7_0 g7_1 g7_2 hmu
      refine lv_iload_n hx hb dX12_tells_7 rfl (lv_at hl 0 rfl) ?_
      refine lv_sipush (v := 288) hx hb dX12_tells_8 (by decide) (ti_c 288 (by decide) fun z7 hz7 => ?_)
      refine b_ge (tgt := 148) hx hb dX12_tells_11 (by decide) (fun c11 => ?_) (fun c11 => ?_)
      · refine lv_aload_n hx hb dX12_tells_148 rfl (lv_at hl 1 rfl) ?_
        refine r_get C hw (hsh 49 _ rfl) fl_X12_339 (oV_i rfl) dX12_tells_149 (ti_c (ig5 (B + 49) 41).toInt rfl fun z8 hz8 => ?_)
        have k9 : 0 ≤ (ig5 (B + 49) 41).toInt ∧ (ig5 (B + 49) 41).toInt ≤ 288 := hI.i 49 41 (by decide) (by decide)
        exact r_iret C hw hr hlk rfl (Nat.le_of_ble_eq_true rfl) (Nat.le_of_ble_eq_true rfl) dX12_tells_152 ⟨rfl, rfl, hI, hF, ⟨_, rfl, trivial⟩⟩
      · refine lv_aload_n hx hb dX12_tells_14 rfl (lv_at hl 1 rfl) ?_
        refine r_get C hw (hsh 49 _ rfl) fl_X12_133 (oV_r rfl (hrm (49, 39, 76) (by decide))) dX12_tells_15 ?_
        refine lv_iload_n hx hb dX12_tells_18 rfl (lv_at hl 0 rfl) ?_
        refine r_iald C hw (hsh 76 _ rfl) (by omega) (by omega) dX12_tells_19 (ti_c (ig5 (B + 76) v4.toInt.toNat).toInt rfl fun z10 hz10 => ?_)
        refine lv_aload_n hx hb dX12_tells_20 rfl (lv_at hl 1 rfl) ?_
        refine r_get C hw (hsh 49 _ rfl) fl_X12_102 (oV_r rfl (hrm (49, 23, 66) (by decide))) dX12_tells_21 ?_
        refine lv_iload_n hx hb dX12_tells_24 rfl (lv_at hl 0 rfl) ?_
        refine r_iald C hw (hsh 66 _ rfl) (by omega) (by omega) dX12_tells_25 (ti_c (ig5 (B + 66) v4.toInt.toNat).toInt rfl fun z12 hz12 => ?_)
        have J44 : ∀ (ls : Array Slot) (H : Heap) (locs : List Loc) (ig14 : sI) (lg15 : sG) , lv_has ls 2 [(1, .int v4), (0, .ref (B + 49))] → WD B D cA s.heap kd ig14 rg lg15 H locs → IM τ φ υ B kd ig14 rg → Ft B [49, 78] ig lg ig14 lg15 → ((ig14 (B + 49) 41).toInt ≤ v4.toInt) → W p l e (rL 0 0 0) s m args below meth c H locs 0 0 (MQ below (QcW B D cA (PM τ φ υ B [49, 78] kd ig rg lg (fun r ig' lg' => ∃ z : Int32, r = some (.int z) ∧ True))) args s 0 0 (fun q => B ≤ q)) (F0 m 44 ls []) := by
          intro ls H locs ig14 lg15 hl hw hI hF g44_0
          refine lv_aload_n hx hb dX12_tells_44 rfl (lv_at hl 1 rfl) ?_
          refine r_get C hw (hsh 49 _ rfl) fl_X12_139 (oV_r rfl (hrm (49, 42, 78) (by decide))) dX12_tells_45 ?_
          refine lv_iconst (v := 5) hx hb dX12_tells_48 (by decide) (ti_c 5 (by decide) fun z16 hz16 => ?_)
          refine lv_aload_n hx hb dX12_tells_49 rfl (lv_at hl 1 rfl) ?_
          refine r_get C hw (hsh 49 _ rfl) fl_X12_339 (oV_i rfl) dX12_tells_50 (ti_c (ig14 (B + 49) 41).toInt rfl fun z17 hz17 => ?_)
          have k18 : 0 ≤ (ig14 (B + 49) 41).toInt ∧ (ig14 (B + 49) 41).toInt ≤ 288 := hI.i 49 41 (by decide) (by decide)
          refine lv_imul hx hb dX12_tells_53 (tc_mulL 5 hz16 fun z19 hz19 => ?_)
          first | replace hz19 := hz19 (by omega) | clear hz19
          refine lv_iload_n hx hb dX12_tells_54 rfl (lv_at hl 0 rfl) ?_
          refine r_iast C hw (hsh 78 _ rfl) (by omega) (by omega) dX12_tells_55 (fun H locs hH hw => ?_)
          obtain ⟨ig20, eig20⟩ : ∃ f, f = up2 ig14 (B + 78) z19.toInt.toNat v4 := ⟨_, rfl⟩
          rw [← eig20] at hw
          have hF : Ft B [49, 78] ig lg ig20 lg15 := by rw [eig20]; exact hF.pi (by decide)
          have hI : IM τ φ υ B kd ig20 rg := by rw [eig20]; exact hI.pi (by decide) (show okR none _ from trivial)
          have wig20_49_41 : (ig20 (B + 49) 41).toInt = (ig14 (B + 49) 41).toInt := by rw [eig20, up2_a (by omega)]
          refine lv_aload_n hx hb dX12_tells_56 rfl (lv_at hl 1 rfl) ?_
          refine r_get C hw (hsh 49 _ rfl) fl_X12_139 (oV_r rfl (hrm (49, 42, 78) (by decide))) dX12_tells_57 ?_
          refine lv_iconst (v := 5) hx hb dX12_tells_60 (by decide) (ti_c 5 (by decide) fun z21 hz21 => ?_)
          refine lv_aload_n hx hb dX12_tells_61 rfl (lv_at hl 1 rfl) ?_
          refine r_get C hw (hsh 49 _ rfl) fl_X12_339 (oV_i rfl) dX12_tells_62 (ti_c (ig20 (B + 49) 41).toInt rfl fun z22 hz22 => ?_)
          have k23 : 0 ≤ (ig20 (B + 49) 41).toInt ∧ (ig20 (B + 49) 41).toInt ≤ 288 := hI.i 49 41 (by decide) (by decide)
          refine lv_imul hx hb dX12_tells_65 (tc_mulL 5 hz21 fun z24 hz24 => ?_)
          first | replace hz24 := hz24 (by omega) | clear hz24
          refine lv_iconst (v := 1) hx hb dX12_tells_66 (by decide) (ti_c 1 (by decide) fun z25 hz25 => ?_)
          refine lv_iadd hx hb dX12_tells_67 (tc_add fun z26 hz26 => ?_)
          first | replace hz26 := hz26 (by omega) | clear hz26
          refine lv_aload_n hx hb dX12_tells_68 rfl (lv_at hl 1 rfl) ?_
          refine r_get C hw (hsh 49 _ rfl) fl_X12_133 (oV_r rfl (hrm (49, 39, 76) (by decide))) dX12_tells_69 ?_
          refine lv_iload_n hx hb dX12_tells_72 rfl (lv_at hl 0 rfl) ?_
          refine r_iald C hw (hsh 76 _ rfl) (by omega) (by omega) dX12_tells_73 (ti_c (ig20 (B + 76) v4.toInt.toNat).toInt rfl fun z27 hz27 => ?_)
          refine r_iast C hw (hsh 78 _ rfl) (by omega) (by omega) dX12_tells_74 (fun H locs hH hw => ?_)
          obtain ⟨ig29, eig29⟩ : ∃ f, f = up2 ig20 (B + 78) z26.toInt.toNat z27 := ⟨_, rfl⟩
          rw [← eig29] at hw
          have hF : Ft B [49, 78] ig lg ig29 lg15 := by rw [eig29]; exact hF.pi (by decide)
          have hI : IM τ φ υ B kd ig29 rg := by rw [eig29]; exact hI.pi (by decide) (show okR none _ from trivial)
          have wig29_49_41 : (ig29 (B + 49) 41).toInt = (ig20 (B + 49) 41).toInt := by rw [eig29, up2_a (by omega)]
          refine lv_aload_n hx hb dX12_tells_75 rfl (lv_at hl 1 rfl) ?_
          refine r_get C hw (hsh 49 _ rfl) fl_X12_139 (oV_r rfl (hrm (49, 42, 78) (by decide))) dX12_tells_76 ?_
          refine lv_iconst (v := 5) hx hb dX12_tells_79 (by decide) (ti_c 5 (by decide) fun z30 hz30 => ?_)
          refine lv_aload_n hx hb dX12_tells_80 rfl (lv_at hl 1 rfl) ?_
          refine r_get C hw (hsh 49 _ rfl) fl_X12_339 (oV_i rfl) dX12_tells_81 (ti_c (ig29 (B + 49) 41).toInt rfl fun z31 hz31 => ?_)
          have k32 : 0 ≤ (ig29 (B + 49) 41).toInt ∧ (ig29 (B + 49) 41).toInt ≤ 288 := hI.i 49 41 (by decide) (by decide)
          refine lv_imul hx hb dX12_tells_84 (tc_mulL 5 hz30 fun z33 hz33 => ?_)
          first | replace hz33 := hz33 (by omega) | clear hz33
          refine lv_iconst (v := 2) hx hb dX12_tells_85 (by decide) (ti_c 2 (by decide) fun z34 hz34 => ?_)
          refine lv_iadd hx hb dX12_tells_86 (tc_add fun z35 hz35 => ?_)
          first | replace hz35 := hz35 (by omega) | clear hz35
          refine lv_aload_n hx hb dX12_tells_87 rfl (lv_at hl 1 rfl) ?_
          refine r_get C hw (hsh 49 _ rfl) fl_X12_102 (oV_r rfl (hrm (49, 23, 66) (by decide))) dX12_tells_88 ?_
          refine lv_iload_n hx hb dX12_tells_91 rfl (lv_at hl 0 rfl) ?_
          refine r_iald C hw (hsh 66 _ rfl) (by omega) (by omega) dX12_tells_92 (ti_c (ig29 (B + 66) v4.toInt.toNat).toInt rfl fun z36 hz36 => ?_)
          refine r_iast C hw (hsh 78 _ rfl) (by omega) (by omega) dX12_tells_93 (fun H locs hH hw => ?_)
          obtain ⟨ig38, eig38⟩ : ∃ f, f = up2 ig29 (B + 78) z35.toInt.toNat z36 := ⟨_, rfl⟩
          rw [← eig38] at hw
          have hF : Ft B [49, 78] ig lg ig38 lg15 := by rw [eig38]; exact hF.pi (by decide)
          have hI : IM τ φ υ B kd ig38 rg := by rw [eig38]; exact hI.pi (by decide) (show okR none _ from trivial)
          have wig38_49_41 : (ig38 (B + 49) 41).toInt = (ig29 (B + 49) 41).toInt := by rw [eig38, up2_a (by omega)]
          refine lv_aload_n hx hb dX12_tells_94 rfl (lv_at hl 1 rfl) ?_
          refine r_get C hw (hsh 49 _ rfl) fl_X12_139 (oV_r rfl (hrm (49, 42, 78) (by decide))) dX12_tells_95 ?_
          refine lv_iconst (v := 5) hx hb dX12_tells_98 (by decide) (ti_c 5 (by decide) fun z39 hz39 => ?_)
          refine lv_aload_n hx hb dX12_tells_99 rfl (lv_at hl 1 rfl) ?_
          refine r_get C hw (hsh 49 _ rfl) fl_X12_339 (oV_i rfl) dX12_tells_100 (ti_c (ig38 (B + 49) 41).toInt rfl fun z40 hz40 => ?_)
          have k41 : 0 ≤ (ig38 (B + 49) 41).toInt ∧ (ig38 (B + 49) 41).toInt ≤ 288 := hI.i 49 41 (by decide) (by decide)
          refine lv_imul hx hb dX12_tells_103 (tc_mulL 5 hz39 fun z42 hz42 => ?_)
          first | replace hz42 := hz42 (by omega) | clear hz42
          refine lv_iconst (v := 3) hx hb dX12_tells_104 (by decide) (ti_c 3 (by decide) fun z43 hz43 => ?_)
          refine lv_iadd hx hb dX12_tells_105 (tc_add fun z44 hz44 => ?_)
          first | replace hz44 := hz44 (by omega) | clear hz44
          refine lv_aload_n hx hb dX12_tells_106 rfl (lv_at hl 1 rfl) ?_
          refine r_get C hw (hsh 49 _ rfl) fl_X12_136 (oV_r rfl (hrm (49, 40, 77) (by decide))) dX12_tells_107 ?_
          refine lv_iload_n hx hb dX12_tells_110 rfl (lv_at hl 0 rfl) ?_
          refine r_iald C hw (hsh 77 _ rfl) (by omega) (by omega) dX12_tells_111 (ti_c (ig38 (B + 77) v4.toInt.toNat).toInt rfl fun z45 hz45 => ?_)
          refine r_iast C hw (hsh 78 _ rfl) (by omega) (by omega) dX12_tells_112 (fun H locs hH hw => ?_)
          obtain ⟨ig47, eig47⟩ : ∃ f, f = up2 ig38 (B + 78) z44.toInt.toNat z45 := ⟨_, rfl⟩
          rw [← eig47] at hw
          have hF : Ft B [49, 78] ig lg ig47 lg15 := by rw [eig47]; exact hF.pi (by decide)
          have hI : IM τ φ υ B kd ig47 rg := by rw [eig47]; exact hI.pi (by decide) (show okR none _ from trivial)
          have wig47_49_41 : (ig47 (B + 49) 41).toInt = (ig38 (B + 49) 41).toInt := by rw [eig47, up2_a (by omega)]
          refine lv_aload_n hx hb dX12_tells_113 rfl (lv_at hl 1 rfl) ?_
          refine r_get C hw (hsh 49 _ rfl) fl_X12_139 (oV_r rfl (hrm (49, 42, 78) (by decide))) dX12_tells_114 ?_
          refine lv_iconst (v := 5) hx hb dX12_tells_117 (by decide) (ti_c 5 (by decide) fun z48 hz48 => ?_)
          refine lv_aload_n hx hb dX12_tells_118 rfl (lv_at hl 1 rfl) ?_
          refine r_get C hw (hsh 49 _ rfl) fl_X12_339 (oV_i rfl) dX12_tells_119 (ti_c (ig47 (B + 49) 41).toInt rfl fun z49 hz49 => ?_)
          have k50 : 0 ≤ (ig47 (B + 49) 41).toInt ∧ (ig47 (B + 49) 41).toInt ≤ 288 := hI.i 49 41 (by decide) (by decide)
          refine lv_imul hx hb dX12_tells_122 (tc_mulL 5 hz48 fun z51 hz51 => ?_)
          first | replace hz51 := hz51 (by omega) | clear hz51
          refine lv_iconst (v := 4) hx hb dX12_tells_123 (by decide) (ti_c 4 (by decide) fun z52 hz52 => ?_)
          refine lv_iadd hx hb dX12_tells_124 (tc_add fun z53 hz53 => ?_)
          first | replace hz53 := hz53 (by omega) | clear hz53
          refine lv_aload_n hx hb dX12_tells_125 rfl (lv_at hl 1 rfl) ?_
          refine r_get C hw (hsh 49 _ rfl) fl_X12_105 (oV_r rfl (hrm (49, 24, 67) (by decide))) dX12_tells_126 ?_
          refine lv_iload_n hx hb dX12_tells_129 rfl (lv_at hl 0 rfl) ?_
          refine r_iald C hw (hsh 67 _ rfl) (by omega) (by omega) dX12_tells_130 (ti_c (ig47 (B + 67) v4.toInt.toNat).toInt rfl fun z54 hz54 => ?_)
          refine r_iast C hw (hsh 78 _ rfl) (by omega) (by omega) dX12_tells_131 (fun H locs hH hw => ?_)
          obtain ⟨ig56, eig56⟩ : ∃ f, f = up2 ig47 (B + 78) z53.toInt.toNat z54 := ⟨_, rfl⟩
          rw [← eig56] at hw
          have hF : Ft B [49, 78] ig lg ig56 lg15 := by rw [eig56]; exact hF.pi (by decide)
          have hI : IM τ φ υ B kd ig56 rg := by rw [eig56]; exact hI.pi (by decide) (show okR none _ from trivial)
          have wig56_49_41 : (ig56 (B + 49) 41).toInt = (ig47 (B + 49) 41).toInt := by rw [eig56, up2_a (by omega)]
          refine lv_aload_n hx hb dX12_tells_132 rfl (lv_at hl 1 rfl) ?_
          refine lv_dup hx hb dX12_tells_133 rfl ?_
          refine r_get C hw (hsh 49 _ rfl) fl_X12_339 (oV_i rfl) dX12_tells_134 (ti_c (ig56 (B + 49) 41).toInt rfl fun z57 hz57 => ?_)
          have k58 : 0 ≤ (ig56 (B + 49) 41).toInt ∧ (ig56 (B + 49) 41).toInt ≤ 288 := hI.i 49 41 (by decide) (by decide)
          refine lv_iconst (v := 1) hx hb dX12_tells_137 (by decide) (ti_c 1 (by decide) fun z59 hz59 => ?_)
          refine lv_iadd hx hb dX12_tells_138 (tc_add fun z60 hz60 => ?_)
          first | replace hz60 := hz60 (by omega) | clear hz60
          refine r_puti C hw (hsh 49 _ rfl) fl_X12_339 rfl rfl rfl dX12_tells_139 (fun H locs hH hw => ?_)
          obtain ⟨ig61, eig61⟩ : ∃ f, f = up2 ig56 (B + 49) 41 z60 := ⟨_, rfl⟩
          rw [← eig61] at hw
          have hF : Ft B [49, 78] ig lg ig61 lg15 := by rw [eig61]; exact hF.pi (by decide)
          have hI : IM τ φ υ B kd ig61 rg := by rw [eig61]; exact hI.pi (by decide) (show okR (some (0, 288)) _ from ⟨by show (0 : Int) ≤ _; omega, by show _ ≤ (288 : Int); omega⟩)
          have wig61 : (ig61 (B + 49) 41).toInt = z60.toInt := by rw [eig61, up2_eq]
          refine tc_inc hx hb dX12_tells_142 hl (k := 0) rfl (by decide) (by decide) (fun z62 hz62 ls hl => ?_)
          first | replace hz62 := hz62 (by omega) | clear hz62
          have hl : lv_has ls 2 [(1, .int z62), (0, .ref (B + 49))] := hl
          refine lv_goto (tgt := 7) hx hb dX12_tells_145 (by decide) ?_
          exact ih7 ls H locs ig61 lg15 z62 (lv_sub hl [0, 1] rfl) hw hI hF (by omega) (by omega) (by omega) (by omega)
        refine b_ne (tgt := 44) hx hb dX12_tells_26 (by decide) (fun c26 => ?_) (fun c26 => ?_)
        · exact J44 ls H locs ig5 lg6 (lv_sub hl [0, 1] rfl) hw hI hF (by omega)
        · refine lv_aload_n hx hb dX12_tells_29 rfl (lv_at hl 1 rfl) ?_
          refine r_get C hw (hsh 49 _ rfl) fl_X12_136 (oV_r rfl (hrm (49, 40, 77) (by decide))) dX12_tells_30 ?_
          refine lv_iload_n hx hb dX12_tells_33 rfl (lv_at hl 0 rfl) ?_
          refine r_iald C hw (hsh 77 _ rfl) (by omega) (by omega) dX12_tells_34 (ti_c (ig5 (B + 77) v4.toInt.toNat).toInt rfl fun z63 hz63 => ?_)
          refine lv_aload_n hx hb dX12_tells_35 rfl (lv_at hl 1 rfl) ?_
          refine r_get C hw (hsh 49 _ rfl) fl_X12_105 (oV_r rfl (hrm (49, 24, 67) (by decide))) dX12_tells_36 ?_
          refine lv_iload_n hx hb dX12_tells_39 rfl (lv_at hl 0 rfl) ?_
          refine r_iald C hw (hsh 67 _ rfl) (by omega) (by omega) dX12_tells_40 (ti_c (ig5 (B + 67) v4.toInt.toNat).toInt rfl fun z65 hz65 => ?_)
          refine b_eq (tgt := 142) hx hb dX12_tells_41 (by decide) (fun c41 => ?_) (fun c41 => ?_)
          · refine tc_inc hx hb dX12_tells_142 hl (k := 0) rfl (by decide) (by decide) (fun z67 hz67 ls hl => ?_)
            first | replace hz67 := hz67 (by omega) | clear hz67
            have hl : lv_has ls 2 [(1, .int z67), (0, .ref (B + 49))] := hl
            refine lv_goto (tgt := 7) hx hb dX12_tells_145 (by decide) ?_
            exact ih7 ls H locs ig5 lg6 z67 (lv_sub hl [0, 1] rfl) hw hI hF (by omega) (by omega) (by omega) (by omega)
          · exact J44 ls H locs ig5 lg6 (lv_sub hl [0, 1] rfl) hw hI hF (by omega)
  exact L7 ((288 - z3.toInt) + 1).toNat ls H locs ig2 lg z3 (lv_sub hl [0, 1] rfl) hw hI hF (by omega) (by omega) (by omega) (by omega)

set_option maxHeartbeats 4000000 in
set_option maxRecDepth 100000 in
theorem t_X12_changed {υ : Option Int} {τ : Tp} {φ : Option Int} (l : Launch) (B : Nat) (D : va_G) (cA : Nat → ClassId) (kd : sK) (ig : sI) (rg : sR) (lg : sG) (sz : Nat) (x : Int32) (y : Int32) (hI : IM τ φ υ B kd ig rg) : MC l B D cA yX12_changed cX12_changed 3 (some .int) (rL 0 0 0) [.ref (B + 49), .int x, .int y] kd ig rg lg sz (PM τ φ υ B [49] kd ig rg lg (fun r ig' lg' => ∃ z : Int32, r = some (.int z) ∧ True)) := by
  refine MC.of (own := RX12) (by decide +kernel) rfl (Nat.le_of_ble_eq_true rfl) ?_
  intro p e s m args below meth c ls C hr hlk hnm hw hsz hl
  have hx := C.1.1
  have hb := C.1.2.1
  have hown := C.1.2.2.2.1
  have hts := C.1.2.2.2.2
  have hl : lv_has ls 3 [(0, .ref (B + 49)), (1, .int x), (2, .int y)] := hl
  have hF : Ft B [49] ig lg ig lg := Ft.rf
  have hsh := hI.sh
  have hrm := hI.rm
  refine lv_aload_n hx hb dX12_changed_0 rfl (lv_at hl 0 rfl) ?_
  refine lv_iconst (v := 0) hx hb dX12_changed_1 (by decide) (ti_c 0 (by decide) fun z1 hz1 => ?_)
  refine r_puti C hw (hsh 49 _ rfl) fl_X12_1 rfl rfl rfl dX12_changed_2 (fun H locs hH hw => ?_)
  obtain ⟨ig2, eig2⟩ : ∃ f, f = up2 ig (B + 49) 0 z1 := ⟨_, rfl⟩
  rw [← eig2] at hw
  have hF : Ft B [49] ig lg ig2 lg := by rw [eig2]; exact hF.pi (by decide)
  have hI : IM τ φ υ B kd ig2 rg := by rw [eig2]; exact hI.pi (by decide) (show okR none _ from trivial)
  have wig2_49_41 : (ig2 (B + 49) 41).toInt = (ig (B + 49) 41).toInt := by rw [eig2, up2_j (by decide)]
  refine lv_iload_n hx hb dX12_changed_5 rfl (lv_at hl 1 rfl) ?_
  refine z_lt (tgt := 26) hx hb dX12_changed_6 (by decide) (fun c6 => ?_) (fun c6 => ?_)
  · refine lv_iconst (v := (-1)) hx hb dX12_changed_26 (by decide) (ti_c (-1) (by decide) fun z3 hz3 => ?_)
    refine lv_goto (tgt := 40) hx hb dX12_changed_27 (by decide) ?_
    exact r_iret C hw hr hlk rfl (Nat.le_of_ble_eq_true rfl) (Nat.le_of_ble_eq_true rfl) dX12_changed_40 ⟨rfl, rfl, hI, hF, ⟨_, rfl, trivial⟩⟩
  · refine lv_iload_n hx hb dX12_changed_9 rfl (lv_at hl 1 rfl) ?_
    refine lv_aload_n hx hb dX12_changed_10 rfl (lv_at hl 0 rfl) ?_
    refine r_get C hw (hsh 49 _ rfl) fl_X12_339 (oV_i rfl) dX12_changed_11 (ti_c (ig2 (B + 49) 41).toInt rfl fun z4 hz4 => ?_)
    have k5 : 0 ≤ (ig2 (B + 49) 41).toInt ∧ (ig2 (B + 49) 41).toInt ≤ 288 := hI.i 49 41 (by decide) (by decide)
    refine b_ge (tgt := 26) hx hb dX12_changed_14 (by decide) (fun c14 => ?_) (fun c14 => ?_)
    · refine lv_iconst (v := (-1)) hx hb dX12_changed_26 (by decide) (ti_c (-1) (by decide) fun z6 hz6 => ?_)
      refine lv_goto (tgt := 40) hx hb dX12_changed_27 (by decide) ?_
      exact r_iret C hw hr hlk rfl (Nat.le_of_ble_eq_true rfl) (Nat.le_of_ble_eq_true rfl) dX12_changed_40 ⟨rfl, rfl, hI, hF, ⟨_, rfl, trivial⟩⟩
    · refine lv_iload_n hx hb dX12_changed_17 rfl (lv_at hl 2 rfl) ?_
      refine z_lt (tgt := 26) hx hb dX12_changed_18 (by decide) (fun c18 => ?_) (fun c18 => ?_)
      · refine lv_iconst (v := (-1)) hx hb dX12_changed_26 (by decide) (ti_c (-1) (by decide) fun z7 hz7 => ?_)
        refine lv_goto (tgt := 40) hx hb dX12_changed_27 (by decide) ?_
        exact r_iret C hw hr hlk rfl (Nat.le_of_ble_eq_true rfl) (Nat.le_of_ble_eq_true rfl) dX12_changed_40 ⟨rfl, rfl, hI, hF, ⟨_, rfl, trivial⟩⟩
      · refine lv_iload_n hx hb dX12_changed_21 rfl (lv_at hl 2 rfl) ?_
        refine lv_iconst (v := 4) hx hb dX12_changed_22 (by decide) (ti_c 4 (by decide) fun z8 hz8 => ?_)
        refine b_le (tgt := 30) hx hb dX12_changed_23 (by decide) (fun c23 => ?_) (fun c23 => ?_)
        · refine lv_aload_n hx hb dX12_changed_30 rfl (lv_at hl 0 rfl) ?_
          refine r_get C hw (hsh 49 _ rfl) fl_X12_139 (oV_r rfl (hrm (49, 42, 78) (by decide))) dX12_changed_31 ?_
          refine lv_iconst (v := 5) hx hb dX12_changed_34 (by decide) (ti_c 5 (by decide) fun z9 hz9 => ?_)
          refine lv_iload_n hx hb dX12_changed_35 rfl (lv_at hl 1 rfl) ?_
          refine lv_imul hx hb dX12_changed_36 (tc_mulL 5 hz9 fun z10 hz10 => ?_)
          first | replace hz10 := hz10 (by omega) | clear hz10
          refine lv_iload_n hx hb dX12_changed_37 rfl (lv_at hl 2 rfl) ?_
          refine lv_iadd hx hb dX12_changed_38 (tc_add fun z11 hz11 => ?_)
          first | replace hz11 := hz11 (by omega) | clear hz11
          refine r_iald C hw (hsh 78 _ rfl) (by omega) (by omega) dX12_changed_39 (ti_c (ig2 (B + 78) z11.toInt.toNat).toInt rfl fun z12 hz12 => ?_)
          exact r_iret C hw hr hlk rfl (Nat.le_of_ble_eq_true rfl) (Nat.le_of_ble_eq_true rfl) dX12_changed_40 ⟨rfl, rfl, hI, hF, ⟨_, rfl, trivial⟩⟩
        · refine lv_iconst (v := (-1)) hx hb dX12_changed_26 (by decide) (ti_c (-1) (by decide) fun z14 hz14 => ?_)
          refine lv_goto (tgt := 40) hx hb dX12_changed_27 (by decide) ?_
          exact r_iret C hw hr hlk rfl (Nat.le_of_ble_eq_true rfl) (Nat.le_of_ble_eq_true rfl) dX12_changed_40 ⟨rfl, rfl, hI, hF, ⟨_, rfl, trivial⟩⟩

set_option maxHeartbeats 4000000 in
set_option maxRecDepth 100000 in
theorem t_X12_keep {υ : Option Int} {τ : Tp} {φ : Option Int} (l : Launch) (B : Nat) (D : va_G) (cA : Nat → ClassId) (kd : sK) (ig : sI) (rg : sR) (lg : sG) (sz : Nat) (x : Int32) (y : Int32) (hy : y.toInt = 0 ∨ y.toInt = 1) (hI : IM τ φ υ B kd ig rg) : MC l B D cA yX12_keep cX12_keep 3 (some .boolean) (rL 1 0 0) [.ref (B + 49), .int x, .int y] kd ig rg lg sz (PM τ φ υ B [49, 62] kd ig rg lg (fun r ig' lg' => ∃ z : Int32, r = some (.int z) ∧ ((0 ≤ x.toInt ∧ x.toInt < 288) → z.toInt = 1) ∧ (¬ (0 ≤ x.toInt ∧ x.toInt < 288) → z.toInt = 0))) := by
  refine MC.of (own := RX12) (by decide +kernel) rfl (Nat.le_of_ble_eq_true rfl) ?_
  intro p e s m args below meth c ls C hr hlk hnm hw hsz hl
  have hx := C.1.1
  have hb := C.1.2.1
  have hown := C.1.2.2.2.1
  have hts := C.1.2.2.2.2
  have hl : lv_has ls 3 [(0, .ref (B + 49)), (1, .int x), (2, .int y)] := hl
  have hF : Ft B [49, 62] ig lg ig lg := Ft.rf
  have hsh := hI.sh
  have hrm := hI.rm
  refine lv_aload_n hx hb dX12_keep_0 rfl (lv_at hl 0 rfl) ?_
  refine lv_iconst (v := 0) hx hb dX12_keep_1 (by decide) (ti_c 0 (by decide) fun z1 hz1 => ?_)
  refine r_puti C hw (hsh 49 _ rfl) fl_X12_1 rfl rfl rfl dX12_keep_2 (fun H locs hH hw => ?_)
  obtain ⟨ig2, eig2⟩ : ∃ f, f = up2 ig (B + 49) 0 z1 := ⟨_, rfl⟩
  rw [← eig2] at hw
  have hF : Ft B [49, 62] ig lg ig2 lg := by rw [eig2]; exact hF.pi (by decide)
  have hI : IM τ φ υ B kd ig2 rg := by rw [eig2]; exact hI.pi (by decide) (show okR none _ from trivial)
  refine lv_iload_n hx hb dX12_keep_5 rfl (lv_at hl 1 rfl) ?_
  refine r_callS (As := [.int x]) (rest := []) C hw (t_X12_isPlace l B D cA kd ig2 rg lg _ x  hI) ss_X12_198 rfl hl.1 rfl (Nat.le_of_ble_eq_true rfl) ⟨Nat.le_of_ble_eq_true rfl, Nat.le_of_ble_eq_true rfl⟩ ⟨Nat.le_of_ble_eq_true rfl, Nat.le_of_ble_eq_true rfl⟩ dX12_keep_6 (fun r7 kd3 ig4 rg5 lg6 H locs hw hH hp8 => ?_)
  obtain ⟨rfl, rfl, rfl, rfl, hzhp8, hrhp8⟩ := hp8
  obtain ⟨z9, rfl, hz9⟩ := hrhp8
  refine z_ne (tgt := 14) hx hb dX12_keep_9 (by decide) (fun c9 => ?_) (fun c9 => ?_)
  · refine lv_aload_n hx hb dX12_keep_14 rfl (lv_at hl 0 rfl) ?_
    refine r_get C hw (hsh 49 _ rfl) fl_X12_89 (oV_r rfl (hrm (49, 18, 62) (by decide))) dX12_keep_15 ?_
    refine lv_iload_n hx hb dX12_keep_18 rfl (lv_at hl 1 rfl) ?_
    refine lv_iload_n hx hb dX12_keep_19 rfl (lv_at hl 2 rfl) ?_
    refine r_zast C hw (hsh 62 _ rfl) (by omega) (by omega) (nar_b (by omega)) dX12_keep_20 (fun H locs hH hw => ?_)
    obtain ⟨ig10, eig10⟩ : ∃ f, f = up2 ig2 (B + 62) x.toInt.toNat y := ⟨_, rfl⟩
    rw [← eig10] at hw
    have hF : Ft B [49, 62] ig lg ig10 lg := by rw [eig10]; exact hF.pi (by decide)
    have hI : IM τ φ υ B kd ig10 rg := by rw [eig10]; exact hI.pi (by decide) (show okR none _ from trivial)
    refine lv_iconst (v := 1) hx hb dX12_keep_21 (by decide) (ti_c 1 (by decide) fun z11 hz11 => ?_)
    exact r_iret C hw hr hlk (nar_b (by omega)) (Nat.le_of_ble_eq_true rfl) (Nat.le_of_ble_eq_true rfl) dX12_keep_22 ⟨rfl, rfl, hI, hF, ⟨_, rfl, by omega⟩⟩
  · refine lv_iconst (v := 0) hx hb dX12_keep_12 (by decide) (ti_c 0 (by decide) fun z12 hz12 => ?_)
    exact r_iret C hw hr hlk (nar_b (by omega)) (Nat.le_of_ble_eq_true rfl) (Nat.le_of_ble_eq_true rfl) dX12_keep_13 ⟨rfl, rfl, hI, hF, ⟨_, rfl, by omega⟩⟩

set_option maxHeartbeats 4000000 in
set_option maxRecDepth 100000 in
theorem t_X12_ways {υ : Option Int} {τ : Tp} {φ : Option Int} (l : Launch) (B : Nat) (D : va_G) (cA : Nat → ClassId) (kd : sK) (ig : sI) (rg : sR) (lg : sG) (sz : Nat) (x : Int32) (y : Int32) (hI : IM τ φ υ B kd ig rg) : MC l B D cA yX12_ways cX12_ways 4 (some .int) (rL 1 0 0) [.ref (B + 49), .int x, .int y] kd ig rg lg sz (PM τ φ υ B [49] kd ig rg lg (fun r ig' lg' => ∃ z : Int32, r = some (.int z) ∧ True)) := by
  refine MC.of (own := RX12) (by decide +kernel) rfl (Nat.le_of_ble_eq_true rfl) ?_
  intro p e s m args below meth c ls C hr hlk hnm hw hsz hl
  have hx := C.1.1
  have hb := C.1.2.1
  have hown := C.1.2.2.2.1
  have hts := C.1.2.2.2.2
  have hl : lv_has ls 4 [(0, .ref (B + 49)), (1, .int x), (2, .int y)] := hl
  have hF : Ft B [49] ig lg ig lg := Ft.rf
  have hsh := hI.sh
  have hrm := hI.rm
  refine lv_aload_n hx hb dX12_ways_0 rfl (lv_at hl 0 rfl) ?_
  refine lv_iconst (v := 0) hx hb dX12_ways_1 (by decide) (ti_c 0 (by decide) fun z1 hz1 => ?_)
  refine r_puti C hw (hsh 49 _ rfl) fl_X12_1 rfl rfl rfl dX12_ways_2 (fun H locs hH hw => ?_)
  obtain ⟨ig2, eig2⟩ : ∃ f, f = up2 ig (B + 49) 0 z1 := ⟨_, rfl⟩
  rw [← eig2] at hw
  have hF : Ft B [49] ig lg ig2 lg := by rw [eig2]; exact hF.pi (by decide)
  have hI : IM τ φ υ B kd ig2 rg := by rw [eig2]; exact hI.pi (by decide) (show okR none _ from trivial)
  refine lv_iload_n hx hb dX12_ways_5 rfl (lv_at hl 1 rfl) ?_
  refine r_callS (As := [.int x]) (rest := []) C hw (t_X12_isPlace l B D cA kd ig2 rg lg _ x  hI) ss_X12_198 rfl hl.1 rfl (Nat.le_of_ble_eq_true rfl) ⟨Nat.le_of_ble_eq_true rfl, Nat.le_of_ble_eq_true rfl⟩ ⟨Nat.le_of_ble_eq_true rfl, Nat.le_of_ble_eq_true rfl⟩ dX12_ways_6 (fun r7 kd3 ig4 rg5 lg6 H locs hw hH hp8 => ?_)
  obtain ⟨rfl, rfl, rfl, rfl, hzhp8, hrhp8⟩ := hp8
  obtain ⟨z9, rfl, hz9⟩ := hrhp8
  refine z_eq (tgt := 28) hx hb dX12_ways_9 (by decide) (fun c9 => ?_) (fun c9 => ?_)
  · refine lv_iconst (v := (-1)) hx hb dX12_ways_28 (by decide) (ti_c (-1) (by decide) fun z10 hz10 => ?_)
    exact r_iret C hw hr hlk rfl (Nat.le_of_ble_eq_true rfl) (Nat.le_of_ble_eq_true rfl) dX12_ways_29 ⟨rfl, rfl, hI, hF, ⟨_, rfl, trivial⟩⟩
  · refine lv_iload_n hx hb dX12_ways_12 rfl (lv_at hl 2 rfl) ?_
    refine r_callS (As := [.int y]) (rest := []) C hw (t_X12_isPlace l B D cA kd ig2 rg lg _ y  hI) ss_X12_198 rfl hl.1 rfl (Nat.le_of_ble_eq_true rfl) ⟨Nat.le_of_ble_eq_true rfl, Nat.le_of_ble_eq_true rfl⟩ ⟨Nat.le_of_ble_eq_true rfl, Nat.le_of_ble_eq_true rfl⟩ dX12_ways_13 (fun r15 kd11 ig12 rg13 lg14 H locs hw hH hp16 => ?_)
    obtain ⟨rfl, rfl, rfl, rfl, hzhp16, hrhp16⟩ := hp16
    obtain ⟨z17, rfl, hz17⟩ := hrhp16
    refine z_eq (tgt := 28) hx hb dX12_ways_16 (by decide) (fun c16 => ?_) (fun c16 => ?_)
    · refine lv_iconst (v := (-1)) hx hb dX12_ways_28 (by decide) (ti_c (-1) (by decide) fun z18 hz18 => ?_)
      exact r_iret C hw hr hlk rfl (Nat.le_of_ble_eq_true rfl) (Nat.le_of_ble_eq_true rfl) dX12_ways_29 ⟨rfl, rfl, hI, hF, ⟨_, rfl, trivial⟩⟩
    · refine lv_aload_n hx hb dX12_ways_19 rfl (lv_at hl 0 rfl) ?_
      refine r_get C hw (hsh 49 _ rfl) fl_X12_114 (oV_r rfl (hrm (49, 27, 70) (by decide))) dX12_ways_20 ?_
      refine lv_iload_n hx hb dX12_ways_23 rfl (lv_at hl 2 rfl) ?_
      refine r_zald C hw (hsh 70 _ rfl) (by omega) (by omega) dX12_ways_24 (ti_c (ig2 (B + 70) y.toInt.toNat).toInt rfl fun z19 hz19 => ?_)
      refine z_ne (tgt := 30) hx hb dX12_ways_25 (by decide) (fun c25 => ?_) (fun c25 => ?_)
      · refine lv_aload_n hx hb dX12_ways_30 rfl (lv_at hl 0 rfl) ?_
        refine r_get C hw (hsh 49 _ rfl) fl_X12_121 (oV_r rfl (hrm (49, 29, 72) (by decide))) dX12_ways_31 ?_
        refine lv_sipush (v := 288) hx hb dX12_ways_34 (by decide) (ti_c 288 (by decide) fun z21 hz21 => ?_)
        refine lv_iload_n hx hb dX12_ways_37 rfl (lv_at hl 2 rfl) ?_
        refine lv_imul hx hb dX12_ways_38 (tc_mulL 288 hz21 fun z22 hz22 => ?_)
        first | replace hz22 := hz22 (by omega) | clear hz22
        refine lv_iload_n hx hb dX12_ways_39 rfl (lv_at hl 1 rfl) ?_
        refine lv_iadd hx hb dX12_ways_40 (tc_add fun z23 hz23 => ?_)
        first | replace hz23 := hz23 (by omega) | clear hz23
        refine r_iald C hw (hsh 72 _ rfl) (by omega) (by omega) dX12_ways_41 (ti_c (ig2 (B + 72) z23.toInt.toNat).toInt rfl fun z24 hz24 => ?_)
        refine lv_istore_n (lv' := [(3, .int z24), (0, .ref (B + 49)), (1, .int x), (2, .int y)]) hx hb dX12_ways_42 rfl hl (by decide) rfl (fun ls hl => ?_)
        refine lv_iload_n hx hb dX12_ways_43 rfl (lv_at hl 0 rfl) ?_
        refine lv_bipush (v := 9) hx hb dX12_ways_44 (by decide) (ti_c 9 (by decide) fun z26 hz26 => ?_)
        refine b_le (tgt := 54) hx hb dX12_ways_46 (by decide) (fun c46 => ?_) (fun c46 => ?_)
        · refine lv_iload_n hx hb dX12_ways_54 rfl (lv_at hl 0 rfl) ?_
          exact r_iret C hw hr hlk rfl (Nat.le_of_ble_eq_true rfl) (Nat.le_of_ble_eq_true rfl) dX12_ways_55 ⟨rfl, rfl, hI, hF, ⟨_, rfl, trivial⟩⟩
        · refine lv_bipush (v := 9) hx hb dX12_ways_49 (by decide) (ti_c 9 (by decide) fun z27 hz27 => ?_)
          refine lv_goto (tgt := 55) hx hb dX12_ways_51 (by decide) ?_
          exact r_iret C hw hr hlk rfl (Nat.le_of_ble_eq_true rfl) (Nat.le_of_ble_eq_true rfl) dX12_ways_55 ⟨rfl, rfl, hI, hF, ⟨_, rfl, trivial⟩⟩
      · refine lv_iconst (v := (-1)) hx hb dX12_ways_28 (by decide) (ti_c (-1) (by decide) fun z28 hz28 => ?_)
        exact r_iret C hw hr hlk rfl (Nat.le_of_ble_eq_true rfl) (Nat.le_of_ble_eq_true rfl) dX12_ways_29 ⟨rfl, rfl, hI, hF, ⟨_, rfl, trivial⟩⟩

set_option maxHeartbeats 4000000 in
set_option maxRecDepth 100000 in
theorem t_X12_count {υ : Option Int} {τ : Tp} {φ : Option Int} (l : Launch) (B : Nat) (D : va_G) (cA : Nat → ClassId) (kd : sK) (ig : sI) (rg : sR) (lg : sG) (sz : Nat) (x : Int32) (hI : IM τ φ υ B kd ig rg) : MC l B D cA yX12_count cX12_count 7 (some .int) (rL 0 0 0) [.ref (B + 49), .int x] kd ig rg lg sz (PM τ φ υ B [49] kd ig rg lg (fun r ig' lg' => ∃ z : Int32, r = some (.int z) ∧ True)) := by
  refine MC.of (own := RX12) (by decide +kernel) rfl (Nat.le_of_ble_eq_true rfl) ?_
  intro p e s m args below meth c ls C hr hlk hnm hw hsz hl
  have hx := C.1.1
  have hb := C.1.2.1
  have hown := C.1.2.2.2.1
  have hts := C.1.2.2.2.2
  have hl : lv_has ls 7 [(0, .ref (B + 49)), (1, .int x)] := hl
  have hF : Ft B [49] ig lg ig lg := Ft.rf
  have hsh := hI.sh
  have hrm := hI.rm
  refine lv_aload_n hx hb dX12_count_0 rfl (lv_at hl 0 rfl) ?_
  refine lv_iconst (v := 0) hx hb dX12_count_1 (by decide) (ti_c 0 (by decide) fun z1 hz1 => ?_)
  refine r_puti C hw (hsh 49 _ rfl) fl_X12_1 rfl rfl rfl dX12_count_2 (fun H locs hH hw => ?_)
  obtain ⟨ig2, eig2⟩ : ∃ f, f = up2 ig (B + 49) 0 z1 := ⟨_, rfl⟩
  rw [← eig2] at hw
  have hF : Ft B [49] ig lg ig2 lg := by rw [eig2]; exact hF.pi (by decide)
  have hI : IM τ φ υ B kd ig2 rg := by rw [eig2]; exact hI.pi (by decide) (show okR none _ from trivial)
  have wig2_49_2 : (ig2 (B + 49) 2).toInt = (ig (B + 49) 2).toInt := by rw [eig2, up2_j (by decide)]
  have wig2_49_19 : (ig2 (B + 49) 19).toInt = (ig (B + 49) 19).toInt := by rw [eig2, up2_j (by decide)]
  refine lv_iconst (v := 0) hx hb dX12_count_5 (by decide) (ti_c 0 (by decide) fun z3 hz3 => ?_)
  refine lv_istore_n (lv' := [(2, .int z3), (0, .ref (B + 49)), (1, .int x)]) hx hb dX12_count_6 rfl hl (by decide) rfl (fun ls hl => ?_)
  refine lv_iconst (v := 0) hx hb dX12_count_7 (by decide) (ti_c 0 (by decide) fun z4 hz4 => ?_)
  refine lv_istore_n (lv' := [(3, .int z4), (2, .int z3), (0, .ref (B + 49)), (1, .int x)]) hx hb dX12_count_8 rfl hl (by decide) rfl (fun ls hl => ?_)
  refine lv_iconst (v := 0) hx hb dX12_count_9 (by decide) (ti_c 0 (by decide) fun z5 hz5 => ?_)
  refine lv_istore (lv' := [(4, .int z5), (3, .int z4), (2, .int z3), (0, .ref (B + 49)), (1, .int x)]) hx hb dX12_count_10 hl (by decide) rfl (fun ls hl => ?_)
  refine lv_iconst (v := 0) hx hb dX12_count_12 (by decide) (ti_c 0 (by decide) fun z6 hz6 => ?_)
  refine lv_istore (lv' := [(5, .int z6), (4, .int z5), (3, .int z4), (2, .int z3), (0, .ref (B + 49)), (1, .int x)]) hx hb dX12_count_13 hl (by decide) rfl (fun ls hl => ?_)
  refine lv_iconst (v := 0) hx hb dX12_count_15 (by decide) (ti_c 0 (by decide) fun z7 hz7 => ?_)
  refine lv_istore (lv' := [(6, .int z7), (5, .int z6), (4, .int z5), (3, .int z4), (2, .int z3), (0, .ref (B + 49)), (1, .int x)]) hx hb dX12_count_16 hl (by decide) rfl (fun ls hl => ?_)
  have L18 : ∀ (n : Nat) (ls : Array Slot) (H : Heap) (locs : List Loc) (ig13 : sI) (lg14 : sG) (v8 : Int32) (v9 : Int32) (v10 : Int32) (v11 : Int32) (v12 : Int32), lv_has ls 7 [(6, .int v8), (5, .int v9), (4, .int v10), (3, .int v11), (2, .int v12), (0, .ref (B + 49)), (1, .int x)] → WD B D cA s.heap kd ig13 rg lg14 H locs → IM τ φ υ B kd ig13 rg → Ft B [49] ig lg ig13 lg14 → (0 ≤ v8.toInt) → (v8.toInt ≤ 288) → 288 - v8.toInt < (n : Int) → W p l e (rL 0 0 0) s m args below meth c H locs 0 0 (MQ below (QcW B D cA (PM τ φ υ B [49] kd ig rg lg (fun r ig' lg' => ∃ z : Int32, r = some (.int z) ∧ True))) args s 0 0 (fun q => B ≤ q)) (F0 m 18 ls []) := by
    intro n18
    induction n18 with
    | zero => intro ls H locs ig13 lg14 v8 v9 v10 v11 v12 hl hw hI hF g18_0 g18_1 hmu; exact absurd hmu (by omega)
    | succ n18 ih18 =>
      intro ls H locs ig13 lg14 v8 v9 v10 v11 v12 hl hw hI hF g18_0 g18_1 hmu
      refine lv_iload hx hb dX12_count_18 (lv_at hl 0 rfl) ?_
      refine lv_sipush (v := 288) hx hb dX12_count_20 (by decide) (ti_c 288 (by decide) fun z15 hz15 => ?_)
      refine b_ge (tgt := 123) hx hb dX12_count_23 (by decide) (fun c23 => ?_) (fun c23 => ?_)
      · refine lv_iload_n hx hb dX12_count_123 rfl (lv_at hl 6 rfl) ?_
        refine z_ne (tgt := 131) hx hb dX12_count_124 (by decide) (fun c124 => ?_) (fun c124 => ?_)
        · refine lv_iload_n hx hb dX12_count_131 rfl (lv_at hl 6 rfl) ?_
          refine lv_iconst (v := 1) hx hb dX12_count_132 (by decide) (ti_c 1 (by decide) fun z16 hz16 => ?_)
          refine b_ne (tgt := 140) hx hb dX12_count_133 (by decide) (fun c133 => ?_) (fun c133 => ?_)
          · refine lv_iload_n hx hb dX12_count_140 rfl (lv_at hl 6 rfl) ?_
            refine lv_iconst (v := 2) hx hb dX12_count_141 (by decide) (ti_c 2 (by decide) fun z17 hz17 => ?_)
            refine b_ne (tgt := 150) hx hb dX12_count_142 (by decide) (fun c142 => ?_) (fun c142 => ?_)
            · refine lv_iload_n hx hb dX12_count_150 rfl (lv_at hl 6 rfl) ?_
              refine lv_iconst (v := 3) hx hb dX12_count_151 (by decide) (ti_c 3 (by decide) fun z18 hz18 => ?_)
              refine b_ne (tgt := 160) hx hb dX12_count_152 (by decide) (fun c152 => ?_) (fun c152 => ?_)
              · refine lv_iload_n hx hb dX12_count_160 rfl (lv_at hl 6 rfl) ?_
                refine lv_iconst (v := 4) hx hb dX12_count_161 (by decide) (ti_c 4 (by decide) fun z19 hz19 => ?_)
                refine b_ne (tgt := 172) hx hb dX12_count_162 (by decide) (fun c162 => ?_) (fun c162 => ?_)
                · refine lv_iload_n hx hb dX12_count_172 rfl (lv_at hl 6 rfl) ?_
                  refine lv_iconst (v := 5) hx hb dX12_count_173 (by decide) (ti_c 5 (by decide) fun z20 hz20 => ?_)
                  refine b_ne (tgt := 184) hx hb dX12_count_174 (by decide) (fun c174 => ?_) (fun c174 => ?_)
                  · refine lv_iconst (v := (-1)) hx hb dX12_count_184 (by decide) (ti_c (-1) (by decide) fun z21 hz21 => ?_)
                    exact r_iret C hw hr hlk rfl (Nat.le_of_ble_eq_true rfl) (Nat.le_of_ble_eq_true rfl) dX12_count_185 ⟨rfl, rfl, hI, hF, ⟨_, rfl, trivial⟩⟩
                  · refine lv_aload_n hx hb dX12_count_177 rfl (lv_at hl 5 rfl) ?_
                    refine r_get C hw (hsh 49 _ rfl) fl_X12_188 (oV_i rfl) dX12_count_178 (ti_c (ig13 (B + 49) 19).toInt rfl fun z22 hz22 => ?_)
                    have k23 : 0 ≤ (ig13 (B + 49) 19).toInt ∧ (ig13 (B + 49) 19).toInt ≤ 20 := hI.i 49 19 (by decide) (by decide)
                    refine lv_goto (tgt := 185) hx hb dX12_count_181 (by decide) ?_
                    exact r_iret C hw hr hlk rfl (Nat.le_of_ble_eq_true rfl) (Nat.le_of_ble_eq_true rfl) dX12_count_185 ⟨rfl, rfl, hI, hF, ⟨_, rfl, trivial⟩⟩
                · refine lv_aload_n hx hb dX12_count_165 rfl (lv_at hl 5 rfl) ?_
                  refine r_get C hw (hsh 49 _ rfl) fl_X12_11 (oV_i rfl) dX12_count_166 (ti_c (ig13 (B + 49) 2).toInt rfl fun z24 hz24 => ?_)
                  have k25 : 0 ≤ (ig13 (B + 49) 2).toInt ∧ (ig13 (B + 49) 2).toInt ≤ 120 := hI.i 49 2 (by decide) (by decide)
                  refine lv_goto (tgt := 185) hx hb dX12_count_169 (by decide) ?_
                  exact r_iret C hw hr hlk rfl (Nat.le_of_ble_eq_true rfl) (Nat.le_of_ble_eq_true rfl) dX12_count_185 ⟨rfl, rfl, hI, hF, ⟨_, rfl, trivial⟩⟩
              · refine lv_iload hx hb dX12_count_155 (lv_at hl 1 rfl) ?_
                refine lv_goto (tgt := 185) hx hb dX12_count_157 (by decide) ?_
                exact r_iret C hw hr hlk rfl (Nat.le_of_ble_eq_true rfl) (Nat.le_of_ble_eq_true rfl) dX12_count_185 ⟨rfl, rfl, hI, hF, ⟨_, rfl, trivial⟩⟩
            · refine lv_iload hx hb dX12_count_145 (lv_at hl 2 rfl) ?_
              refine lv_goto (tgt := 185) hx hb dX12_count_147 (by decide) ?_
              exact r_iret C hw hr hlk rfl (Nat.le_of_ble_eq_true rfl) (Nat.le_of_ble_eq_true rfl) dX12_count_185 ⟨rfl, rfl, hI, hF, ⟨_, rfl, trivial⟩⟩
          · refine lv_iload_n hx hb dX12_count_136 rfl (lv_at hl 3 rfl) ?_
            refine lv_goto (tgt := 185) hx hb dX12_count_137 (by decide) ?_
            exact r_iret C hw hr hlk rfl (Nat.le_of_ble_eq_true rfl) (Nat.le_of_ble_eq_true rfl) dX12_count_185 ⟨rfl, rfl, hI, hF, ⟨_, rfl, trivial⟩⟩
        · refine lv_iload_n hx hb dX12_count_127 rfl (lv_at hl 4 rfl) ?_
          refine lv_goto (tgt := 185) hx hb dX12_count_128 (by decide) ?_
          exact r_iret C hw hr hlk rfl (Nat.le_of_ble_eq_true rfl) (Nat.le_of_ble_eq_true rfl) dX12_count_185 ⟨rfl, rfl, hI, hF, ⟨_, rfl, trivial⟩⟩
      · refine lv_iload_n hx hb dX12_count_26 rfl (lv_at hl 4 rfl) ?_
        refine lv_aload_n hx hb dX12_count_27 rfl (lv_at hl 5 rfl) ?_
        refine r_get C hw (hsh 49 _ rfl) fl_X12_80 (oV_r rfl (hrm (49, 15, 59) (by decide))) dX12_count_28 ?_
        refine lv_iload hx hb dX12_count_31 (lv_at hl 0 rfl) ?_
        refine r_iald C hw (hsh 59 _ rfl) (by omega) (by omega) dX12_count_33 (ti_c (ig13 (B + 59) v8.toInt.toNat).toInt rfl fun z26 hz26 => ?_)
        rw [Ft.i hF 59 _ (by decide)] at hz26
        refine lv_iconst (v := 1) hx hb dX12_count_34 (by decide) (ti_c 1 (by decide) fun z28 hz28 => ?_)
        have J43 : ∀ (ls : Array Slot) (H : Heap) (locs : List Loc) (ig30 : sI) (lg31 : sG) (u29 : Int32), lv_has ls 7 [(6, .int v8), (5, .int v9), (4, .int v10), (3, .int v11), (0, .ref (B + 49)), (1, .int x)] → WD B D cA s.heap kd ig30 rg lg31 H locs → IM τ φ υ B kd ig30 rg → Ft B [49] ig lg ig30 lg31 → (u29.toInt = 0 ∨ u29.toInt = 1) → W p l e (rL 0 0 0) s m args below meth c H locs 0 0 (MQ below (QcW B D cA (PM τ φ υ B [49] kd ig rg lg (fun r ig' lg' => ∃ z : Int32, r = some (.int z) ∧ True))) args s 0 0 (fun q => B ≤ q)) (F0 m 43 ls [.int u29, .int v12]) := by
          intro ls H locs ig30 lg31 u29 hl hw hI hF g43_0
          refine lv_iadd hx hb dX12_count_43 (tc_add fun z32 hz32 => ?_)
          first | replace hz32 := hz32 (by omega) | clear hz32
          refine lv_istore_n (lv' := [(2, .int z32), (6, .int v8), (5, .int v9), (4, .int v10), (3, .int v11), (0, .ref (B + 49)), (1, .int x)]) hx hb dX12_count_44 rfl hl (by decide) rfl (fun ls hl => ?_)
          refine lv_iload_n hx hb dX12_count_45 rfl (lv_at hl 4 rfl) ?_
          refine lv_aload_n hx hb dX12_count_46 rfl (lv_at hl 5 rfl) ?_
          refine r_get C hw (hsh 49 _ rfl) fl_X12_80 (oV_r rfl (hrm (49, 15, 59) (by decide))) dX12_count_47 ?_
          refine lv_iload hx hb dX12_count_50 (lv_at hl 1 rfl) ?_
          refine r_iald C hw (hsh 59 _ rfl) (by omega) (by omega) dX12_count_52 (ti_c (ig30 (B + 59) v8.toInt.toNat).toInt rfl fun z33 hz33 => ?_)
          rw [Ft.i hF 59 _ (by decide)] at hz33
          refine lv_iconst (v := 2) hx hb dX12_count_53 (by decide) (ti_c 2 (by decide) fun z35 hz35 => ?_)
          have J62 : ∀ (ls : Array Slot) (H : Heap) (locs : List Loc) (ig37 : sI) (lg38 : sG) (u36 : Int32), lv_has ls 7 [(2, .int z32), (6, .int v8), (5, .int v9), (4, .int v10), (0, .ref (B + 49)), (1, .int x)] → WD B D cA s.heap kd ig37 rg lg38 H locs → IM τ φ υ B kd ig37 rg → Ft B [49] ig lg ig37 lg38 → (u36.toInt = 0 ∨ u36.toInt = 1) → W p l e (rL 0 0 0) s m args below meth c H locs 0 0 (MQ below (QcW B D cA (PM τ φ υ B [49] kd ig rg lg (fun r ig' lg' => ∃ z : Int32, r = some (.int z) ∧ True))) args s 0 0 (fun q => B ≤ q)) (F0 m 62 ls [.int u36, .int v11]) := by
            intro ls H locs ig37 lg38 u36 hl hw hI hF g62_0
            refine lv_iadd hx hb dX12_count_62 (tc_add fun z39 hz39 => ?_)
            first | replace hz39 := hz39 (by omega) | clear hz39
            refine lv_istore_n (lv' := [(3, .int z39), (2, .int z32), (6, .int v8), (5, .int v9), (4, .int v10), (0, .ref (B + 49)), (1, .int x)]) hx hb dX12_count_63 rfl hl (by decide) rfl (fun ls hl => ?_)
            refine lv_iload hx hb dX12_count_64 (lv_at hl 4 rfl) ?_
            refine lv_aload_n hx hb dX12_count_66 rfl (lv_at hl 5 rfl) ?_
            refine r_get C hw (hsh 49 _ rfl) fl_X12_80 (oV_r rfl (hrm (49, 15, 59) (by decide))) dX12_count_67 ?_
            refine lv_iload hx hb dX12_count_70 (lv_at hl 2 rfl) ?_
            refine r_iald C hw (hsh 59 _ rfl) (by omega) (by omega) dX12_count_72 (ti_c (ig37 (B + 59) v8.toInt.toNat).toInt rfl fun z40 hz40 => ?_)
            rw [Ft.i hF 59 _ (by decide)] at hz40
            refine lv_iconst (v := 2) hx hb dX12_count_73 (by decide) (ti_c 2 (by decide) fun z42 hz42 => ?_)
            have J94 : ∀ (ls : Array Slot) (H : Heap) (locs : List Loc) (ig44 : sI) (lg45 : sG) (u43 : Int32), lv_has ls 7 [(3, .int z39), (2, .int z32), (6, .int v8), (5, .int v9), (0, .ref (B + 49)), (1, .int x)] → WD B D cA s.heap kd ig44 rg lg45 H locs → IM τ φ υ B kd ig44 rg → Ft B [49] ig lg ig44 lg45 → (u43.toInt = 0 ∨ u43.toInt = 1) → W p l e (rL 0 0 0) s m args below meth c H locs 0 0 (MQ below (QcW B D cA (PM τ φ υ B [49] kd ig rg lg (fun r ig' lg' => ∃ z : Int32, r = some (.int z) ∧ True))) args s 0 0 (fun q => B ≤ q)) (F0 m 94 ls [.int u43, .int v10]) := by
              intro ls H locs ig44 lg45 u43 hl hw hI hF g94_0
              refine lv_iadd hx hb dX12_count_94 (tc_add fun z46 hz46 => ?_)
              first | replace hz46 := hz46 (by omega) | clear hz46
              refine lv_istore (lv' := [(4, .int z46), (3, .int z39), (2, .int z32), (6, .int v8), (5, .int v9), (0, .ref (B + 49)), (1, .int x)]) hx hb dX12_count_95 hl (by decide) rfl (fun ls hl => ?_)
              refine lv_iload hx hb dX12_count_97 (lv_at hl 4 rfl) ?_
              refine lv_aload_n hx hb dX12_count_99 rfl (lv_at hl 5 rfl) ?_
              refine r_get C hw (hsh 49 _ rfl) fl_X12_105 (oV_r rfl (hrm (49, 24, 67) (by decide))) dX12_count_100 ?_
              refine lv_iload hx hb dX12_count_103 (lv_at hl 3 rfl) ?_
              refine r_iald C hw (hsh 67 _ rfl) (by omega) (by omega) dX12_count_105 (ti_c (ig44 (B + 67) v8.toInt.toNat).toInt rfl fun z47 hz47 => ?_)
              refine z_le (tgt := 113) hx hb dX12_count_106 (by decide) (fun c106 => ?_) (fun c106 => ?_)
              · refine lv_iconst (v := 0) hx hb dX12_count_113 (by decide) (ti_c 0 (by decide) fun z49 hz49 => ?_)
                refine lv_iadd hx hb dX12_count_114 (tc_add fun z50 hz50 => ?_)
                first | replace hz50 := hz50 (by omega) | clear hz50
                refine lv_istore (lv' := [(5, .int z50), (4, .int z46), (3, .int z39), (2, .int z32), (6, .int v8), (0, .ref (B + 49)), (1, .int x)]) hx hb dX12_count_115 hl (by decide) rfl (fun ls hl => ?_)
                refine tc_inc hx hb dX12_count_117 hl (k := 4) rfl (by decide) (by decide) (fun z51 hz51 ls hl => ?_)
                first | replace hz51 := hz51 (by omega) | clear hz51
                have hl : lv_has ls 7 [(6, .int z51), (5, .int z50), (4, .int z46), (3, .int z39), (2, .int z32), (0, .ref (B + 49)), (1, .int x)] := hl
                refine lv_goto (tgt := 18) hx hb dX12_count_120 (by decide) ?_
                exact ih18 ls H locs ig44 lg45 z51 z50 z46 z39 z32 (lv_sub hl [0, 1, 2, 3, 4, 5, 6] rfl) hw hI hF (by omega) (by omega) (by omega)
              · refine lv_iconst (v := 1) hx hb dX12_count_109 (by decide) (ti_c 1 (by decide) fun z52 hz52 => ?_)
                refine lv_goto (tgt := 114) hx hb dX12_count_110 (by decide) ?_
                refine lv_iadd hx hb dX12_count_114 (tc_add fun z53 hz53 => ?_)
                first | replace hz53 := hz53 (by omega) | clear hz53
                refine lv_istore (lv' := [(5, .int z53), (4, .int z46), (3, .int z39), (2, .int z32), (6, .int v8), (0, .ref (B + 49)), (1, .int x)]) hx hb dX12_count_115 hl (by decide) rfl (fun ls hl => ?_)
                refine tc_inc hx hb dX12_count_117 hl (k := 4) rfl (by decide) (by decide) (fun z54 hz54 ls hl => ?_)
                first | replace hz54 := hz54 (by omega) | clear hz54
                have hl : lv_has ls 7 [(6, .int z54), (5, .int z53), (4, .int z46), (3, .int z39), (2, .int z32), (0, .ref (B + 49)), (1, .int x)] := hl
                refine lv_goto (tgt := 18) hx hb dX12_count_120 (by decide) ?_
                exact ih18 ls H locs ig44 lg45 z54 z53 z46 z39 z32 (lv_sub hl [0, 1, 2, 3, 4, 5, 6] rfl) hw hI hF (by omega) (by omega) (by omega)
            refine b_ne (tgt := 93) hx hb dX12_count_74 (by decide) (fun c74 => ?_) (fun c74 => ?_)
            · refine lv_iconst (v := 0) hx hb dX12_count_93 (by decide) (ti_c 0 (by decide) fun z55 hz55 => ?_)
              exact J94 ls H locs ig37 lg38 z55 (lv_sub hl [0, 1, 2, 3, 5, 6] rfl) hw hI hF (by omega)
            · refine lv_aload_n hx hb dX12_count_77 rfl (lv_at hl 5 rfl) ?_
              refine r_get C hw (hsh 49 _ rfl) fl_X12_117 (oV_r rfl (hrm (49, 28, 71) (by decide))) dX12_count_78 ?_
              refine lv_iload hx hb dX12_count_81 (lv_at hl 2 rfl) ?_
              refine r_iald C hw (hsh 71 _ rfl) (by omega) (by omega) dX12_count_83 (ti_c (ig37 (B + 71) v8.toInt.toNat).toInt rfl fun z56 hz56 => ?_)
              refine lv_iload hx hb dX12_count_84 (lv_at hl 2 rfl) ?_
              refine b_ne (tgt := 93) hx hb dX12_count_86 (by decide) (fun c86 => ?_) (fun c86 => ?_)
              · refine lv_iconst (v := 0) hx hb dX12_count_93 (by decide) (ti_c 0 (by decide) fun z58 hz58 => ?_)
                exact J94 ls H locs ig37 lg38 z58 (lv_sub hl [0, 1, 2, 3, 5, 6] rfl) hw hI hF (by omega)
              · refine lv_iconst (v := 1) hx hb dX12_count_89 (by decide) (ti_c 1 (by decide) fun z59 hz59 => ?_)
                refine lv_goto (tgt := 94) hx hb dX12_count_90 (by decide) ?_
                exact J94 ls H locs ig37 lg38 z59 (lv_sub hl [0, 1, 2, 3, 5, 6] rfl) hw hI hF (by omega)
          refine b_ne (tgt := 61) hx hb dX12_count_54 (by decide) (fun c54 => ?_) (fun c54 => ?_)
          · refine lv_iconst (v := 0) hx hb dX12_count_61 (by decide) (ti_c 0 (by decide) fun z60 hz60 => ?_)
            exact J62 ls H locs ig30 lg31 z60 (lv_sub hl [0, 1, 2, 3, 5, 6] rfl) hw hI hF (by omega)
          · refine lv_iconst (v := 1) hx hb dX12_count_57 (by decide) (ti_c 1 (by decide) fun z61 hz61 => ?_)
            refine lv_goto (tgt := 62) hx hb dX12_count_58 (by decide) ?_
            exact J62 ls H locs ig30 lg31 z61 (lv_sub hl [0, 1, 2, 3, 5, 6] rfl) hw hI hF (by omega)
        refine b_ne (tgt := 42) hx hb dX12_count_35 (by decide) (fun c35 => ?_) (fun c35 => ?_)
        · refine lv_iconst (v := 0) hx hb dX12_count_42 (by decide) (ti_c 0 (by decide) fun z62 hz62 => ?_)
          exact J43 ls H locs ig13 lg14 z62 (lv_sub hl [0, 1, 2, 3, 5, 6] rfl) hw hI hF (by omega)
        · refine lv_iconst (v := 1) hx hb dX12_count_38 (by decide) (ti_c 1 (by decide) fun z63 hz63 => ?_)
          refine lv_goto (tgt := 43) hx hb dX12_count_39 (by decide) ?_
          exact J43 ls H locs ig13 lg14 z63 (lv_sub hl [0, 1, 2, 3, 5, 6] rfl) hw hI hF (by omega)
  exact L18 ((288 - z7.toInt) + 1).toNat ls H locs ig2 lg z7 z6 z5 z4 z3 (lv_sub hl [0, 1, 2, 3, 4, 5, 6] rfl) hw hI hF (by omega) (by omega) (by omega)

set_option maxHeartbeats 4000000 in
set_option maxRecDepth 100000 in
theorem t_X12_cell {υ : Option Int} {τ : Tp} {φ : Option Int} (l : Launch) (B : Nat) (D : va_G) (cA : Nat → ClassId) (kd : sK) (ig : sI) (rg : sR) (lg : sG) (sz : Nat) (x : Int32) (y : Int32) (hI : IM τ φ υ B kd ig rg) : MC l B D cA yX12_cell cX12_cell 3 (some .int) (rL 2 0 0) [.ref (B + 49), .int x, .int y] kd ig rg lg sz (PM τ φ υ B [49] kd ig rg lg (fun r ig' lg' => ∃ z : Int32, r = some (.int z) ∧ True)) := by
  refine MC.of (own := RX12) (by decide +kernel) rfl (Nat.le_of_ble_eq_true rfl) ?_
  intro p e s m args below meth c ls C hr hlk hnm hw hsz hl
  have hx := C.1.1
  have hb := C.1.2.1
  have hown := C.1.2.2.2.1
  have hts := C.1.2.2.2.2
  have hl : lv_has ls 3 [(0, .ref (B + 49)), (1, .int x), (2, .int y)] := hl
  have hF : Ft B [49] ig lg ig lg := Ft.rf
  have hsh := hI.sh
  have hrm := hI.rm
  refine lv_aload_n hx hb dX12_cell_0 rfl (lv_at hl 0 rfl) ?_
  refine lv_iload_n hx hb dX12_cell_1 rfl (lv_at hl 1 rfl) ?_
  refine r_callS (As := [.int x]) (rest := [.ref (B + 49)]) C hw (t_X12_isPlace l B D cA kd ig rg lg _ x  hI) ss_X12_198 rfl hl.1 rfl (Nat.le_of_ble_eq_true rfl) ⟨Nat.le_of_ble_eq_true rfl, Nat.le_of_ble_eq_true rfl⟩ ⟨Nat.le_of_ble_eq_true rfl, Nat.le_of_ble_eq_true rfl⟩ dX12_cell_2 (fun r5 kd1 ig2 rg3 lg4 H locs hw hH hp6 => ?_)
  obtain ⟨rfl, rfl, rfl, rfl, hzhp6, hrhp6⟩ := hp6
  obtain ⟨z7, rfl, hz7⟩ := hrhp6
  have J23 : ∀ (ls : Array Slot) (H : Heap) (locs : List Loc) (ig9 : sI) (lg10 : sG) (u8 : Int32), lv_has ls 3 [(0, .ref (B + 49)), (1, .int x), (2, .int y)] → WD B D cA s.heap kd ig9 rg lg10 H locs → IM τ φ υ B kd ig9 rg → Ft B [49] ig lg ig9 lg10 → (u8.toInt = 1 ∨ (u8.toInt = 0 ∧ (0 ≤ x.toInt ∧ x.toInt < 288) ∧ 0 ≤ y.toInt ∧ y.toInt ≤ 10)) → W p l e (rL 2 0 0) s m args below meth c H locs 0 0 (MQ below (QcW B D cA (PM τ φ υ B [49] kd ig rg lg (fun r ig' lg' => ∃ z : Int32, r = some (.int z) ∧ True))) args s 0 0 (fun q => B ≤ q)) (F0 m 23 ls [.int u8, .ref (B + 49)]) := by
    intro ls H locs ig9 lg10 u8 hl hw hI hF g23_0
    refine r_puti C hw (hsh 49 _ rfl) fl_X12_1 rfl rfl rfl dX12_cell_23 (fun H locs hH hw => ?_)
    obtain ⟨ig11, eig11⟩ : ∃ f, f = up2 ig9 (B + 49) 0 u8 := ⟨_, rfl⟩
    rw [← eig11] at hw
    have hF : Ft B [49] ig lg ig11 lg10 := by rw [eig11]; exact hF.pi (by decide)
    have hI : IM τ φ υ B kd ig11 rg := by rw [eig11]; exact hI.pi (by decide) (show okR none _ from trivial)
    have wig11 : (ig11 (B + 49) 0).toInt = u8.toInt := by rw [eig11, up2_eq]
    refine lv_aload_n hx hb dX12_cell_26 rfl (lv_at hl 0 rfl) ?_
    refine r_get C hw (hsh 49 _ rfl) fl_X12_1 (oV_i rfl) dX12_cell_27 (ti_c (ig11 (B + 49) 0).toInt rfl fun z12 hz12 => ?_)
    refine z_le (tgt := 35) hx hb dX12_cell_30 (by decide) (fun c30 => ?_) (fun c30 => ?_)
    · refine lv_iload_n hx hb dX12_cell_35 rfl (lv_at hl 2 rfl) ?_
      by_cases s36_0 : y.toInt = 0
      · refine lv_tableIn hx hb dX12_cell_36 (by omega) (by omega) (off := 56) (by rw [s36_0]; rfl) (tgt := 92) (by decide) ?_
        refine lv_aload_n hx hb dX12_cell_92 rfl (lv_at hl 0 rfl) ?_
        refine r_get C hw (hsh 49 _ rfl) fl_X12_80 (oV_r rfl (hrm (49, 15, 59) (by decide))) dX12_cell_93 ?_
        refine lv_iload_n hx hb dX12_cell_96 rfl (lv_at hl 1 rfl) ?_
        refine r_iald C hw (hsh 59 _ rfl) (by omega) (by omega) dX12_cell_97 (ti_c (ig11 (B + 59) x.toInt.toNat).toInt rfl fun z13 hz13 => ?_)
        rw [Ft.i hF 59 _ (by decide)] at hz13
        exact r_iret C hw hr hlk rfl (Nat.le_of_ble_eq_true rfl) (Nat.le_of_ble_eq_true rfl) dX12_cell_98 ⟨rfl, rfl, hI, hF, ⟨_, rfl, trivial⟩⟩
      by_cases s36_1 : y.toInt = 1
      · refine lv_tableIn hx hb dX12_cell_36 (by omega) (by omega) (off := 63) (by rw [s36_1]; rfl) (tgt := 99) (by decide) ?_
        refine lv_aload_n hx hb dX12_cell_99 rfl (lv_at hl 0 rfl) ?_
        refine r_get C hw (hsh 49 _ rfl) fl_X12_102 (oV_r rfl (hrm (49, 23, 66) (by decide))) dX12_cell_100 ?_
        refine lv_iload_n hx hb dX12_cell_103 rfl (lv_at hl 1 rfl) ?_
        refine r_iald C hw (hsh 66 _ rfl) (by omega) (by omega) dX12_cell_104 (ti_c (ig11 (B + 66) x.toInt.toNat).toInt rfl fun z15 hz15 => ?_)
        exact r_iret C hw hr hlk rfl (Nat.le_of_ble_eq_true rfl) (Nat.le_of_ble_eq_true rfl) dX12_cell_105 ⟨rfl, rfl, hI, hF, ⟨_, rfl, trivial⟩⟩
      by_cases s36_2 : y.toInt = 2
      · refine lv_tableIn hx hb dX12_cell_36 (by omega) (by omega) (off := 70) (by rw [s36_2]; rfl) (tgt := 106) (by decide) ?_
        refine lv_aload_n hx hb dX12_cell_106 rfl (lv_at hl 0 rfl) ?_
        refine r_get C hw (hsh 49 _ rfl) fl_X12_105 (oV_r rfl (hrm (49, 24, 67) (by decide))) dX12_cell_107 ?_
        refine lv_iload_n hx hb dX12_cell_110 rfl (lv_at hl 1 rfl) ?_
        refine r_iald C hw (hsh 67 _ rfl) (by omega) (by omega) dX12_cell_111 (ti_c (ig11 (B + 67) x.toInt.toNat).toInt rfl fun z17 hz17 => ?_)
        exact r_iret C hw hr hlk rfl (Nat.le_of_ble_eq_true rfl) (Nat.le_of_ble_eq_true rfl) dX12_cell_112 ⟨rfl, rfl, hI, hF, ⟨_, rfl, trivial⟩⟩
      by_cases s36_3 : y.toInt = 3
      · refine lv_tableIn hx hb dX12_cell_36 (by omega) (by omega) (off := 77) (by rw [s36_3]; rfl) (tgt := 113) (by decide) ?_
        refine lv_aload_n hx hb dX12_cell_113 rfl (lv_at hl 0 rfl) ?_
        refine r_get C hw (hsh 49 _ rfl) fl_X12_117 (oV_r rfl (hrm (49, 28, 71) (by decide))) dX12_cell_114 ?_
        refine lv_iload_n hx hb dX12_cell_117 rfl (lv_at hl 1 rfl) ?_
        refine r_iald C hw (hsh 71 _ rfl) (by omega) (by omega) dX12_cell_118 (ti_c (ig11 (B + 71) x.toInt.toNat).toInt rfl fun z19 hz19 => ?_)
        exact r_iret C hw hr hlk rfl (Nat.le_of_ble_eq_true rfl) (Nat.le_of_ble_eq_true rfl) dX12_cell_119 ⟨rfl, rfl, hI, hF, ⟨_, rfl, trivial⟩⟩
      by_cases s36_4 : y.toInt = 4
      · refine lv_tableIn hx hb dX12_cell_36 (by omega) (by omega) (off := 84) (by rw [s36_4]; rfl) (tgt := 120) (by decide) ?_
        refine lv_aload_n hx hb dX12_cell_120 rfl (lv_at hl 0 rfl) ?_
        refine r_get C hw (hsh 49 _ rfl) fl_X12_108 (oV_r rfl (hrm (49, 25, 68) (by decide))) dX12_cell_121 ?_
        refine lv_iconst (v := 3) hx hb dX12_cell_124 (by decide) (ti_c 3 (by decide) fun z21 hz21 => ?_)
        refine lv_iload_n hx hb dX12_cell_125 rfl (lv_at hl 1 rfl) ?_
        refine lv_imul hx hb dX12_cell_126 (tc_mulL 3 hz21 fun z22 hz22 => ?_)
        first | replace hz22 := hz22 (by omega) | clear hz22
        refine lv_iload_n hx hb dX12_cell_127 rfl (lv_at hl 2 rfl) ?_
        refine lv_iadd hx hb dX12_cell_128 (tc_add fun z23 hz23 => ?_)
        first | replace hz23 := hz23 (by omega) | clear hz23
        refine lv_iconst (v := 4) hx hb dX12_cell_129 (by decide) (ti_c 4 (by decide) fun z24 hz24 => ?_)
        refine lv_isub hx hb dX12_cell_130 (tc_sub fun z25 hz25 => ?_)
        first | replace hz25 := hz25 (by omega) | clear hz25
        refine r_iald C hw (hsh 68 _ rfl) (by omega) (by omega) dX12_cell_131 (ti_c (ig11 (B + 68) z25.toInt.toNat).toInt rfl fun z26 hz26 => ?_)
        exact r_iret C hw hr hlk rfl (Nat.le_of_ble_eq_true rfl) (Nat.le_of_ble_eq_true rfl) dX12_cell_132 ⟨rfl, rfl, hI, hF, ⟨_, rfl, trivial⟩⟩
      by_cases s36_5 : y.toInt = 5
      · refine lv_tableIn hx hb dX12_cell_36 (by omega) (by omega) (off := 84) (by rw [s36_5]; rfl) (tgt := 120) (by decide) ?_
        refine lv_aload_n hx hb dX12_cell_120 rfl (lv_at hl 0 rfl) ?_
        refine r_get C hw (hsh 49 _ rfl) fl_X12_108 (oV_r rfl (hrm (49, 25, 68) (by decide))) dX12_cell_121 ?_
        refine lv_iconst (v := 3) hx hb dX12_cell_124 (by decide) (ti_c 3 (by decide) fun z28 hz28 => ?_)
        refine lv_iload_n hx hb dX12_cell_125 rfl (lv_at hl 1 rfl) ?_
        refine lv_imul hx hb dX12_cell_126 (tc_mulL 3 hz28 fun z29 hz29 => ?_)
        first | replace hz29 := hz29 (by omega) | clear hz29
        refine lv_iload_n hx hb dX12_cell_127 rfl (lv_at hl 2 rfl) ?_
        refine lv_iadd hx hb dX12_cell_128 (tc_add fun z30 hz30 => ?_)
        first | replace hz30 := hz30 (by omega) | clear hz30
        refine lv_iconst (v := 4) hx hb dX12_cell_129 (by decide) (ti_c 4 (by decide) fun z31 hz31 => ?_)
        refine lv_isub hx hb dX12_cell_130 (tc_sub fun z32 hz32 => ?_)
        first | replace hz32 := hz32 (by omega) | clear hz32
        refine r_iald C hw (hsh 68 _ rfl) (by omega) (by omega) dX12_cell_131 (ti_c (ig11 (B + 68) z32.toInt.toNat).toInt rfl fun z33 hz33 => ?_)
        exact r_iret C hw hr hlk rfl (Nat.le_of_ble_eq_true rfl) (Nat.le_of_ble_eq_true rfl) dX12_cell_132 ⟨rfl, rfl, hI, hF, ⟨_, rfl, trivial⟩⟩
      by_cases s36_6 : y.toInt = 6
      · refine lv_tableIn hx hb dX12_cell_36 (by omega) (by omega) (off := 84) (by rw [s36_6]; rfl) (tgt := 120) (by decide) ?_
        refine lv_aload_n hx hb dX12_cell_120 rfl (lv_at hl 0 rfl) ?_
        refine r_get C hw (hsh 49 _ rfl) fl_X12_108 (oV_r rfl (hrm (49, 25, 68) (by decide))) dX12_cell_121 ?_
        refine lv_iconst (v := 3) hx hb dX12_cell_124 (by decide) (ti_c 3 (by decide) fun z35 hz35 => ?_)
        refine lv_iload_n hx hb dX12_cell_125 rfl (lv_at hl 1 rfl) ?_
        refine lv_imul hx hb dX12_cell_126 (tc_mulL 3 hz35 fun z36 hz36 => ?_)
        first | replace hz36 := hz36 (by omega) | clear hz36
        refine lv_iload_n hx hb dX12_cell_127 rfl (lv_at hl 2 rfl) ?_
        refine lv_iadd hx hb dX12_cell_128 (tc_add fun z37 hz37 => ?_)
        first | replace hz37 := hz37 (by omega) | clear hz37
        refine lv_iconst (v := 4) hx hb dX12_cell_129 (by decide) (ti_c 4 (by decide) fun z38 hz38 => ?_)
        refine lv_isub hx hb dX12_cell_130 (tc_sub fun z39 hz39 => ?_)
        first | replace hz39 := hz39 (by omega) | clear hz39
        refine r_iald C hw (hsh 68 _ rfl) (by omega) (by omega) dX12_cell_131 (ti_c (ig11 (B + 68) z39.toInt.toNat).toInt rfl fun z40 hz40 => ?_)
        exact r_iret C hw hr hlk rfl (Nat.le_of_ble_eq_true rfl) (Nat.le_of_ble_eq_true rfl) dX12_cell_132 ⟨rfl, rfl, hI, hF, ⟨_, rfl, trivial⟩⟩
      by_cases s36_7 : y.toInt = 7
      · refine lv_tableIn hx hb dX12_cell_36 (by omega) (by omega) (off := 97) (by rw [s36_7]; rfl) (tgt := 133) (by decide) ?_
        refine lv_aload_n hx hb dX12_cell_133 rfl (lv_at hl 0 rfl) ?_
        refine r_get C hw (hsh 49 _ rfl) fl_X12_114 (oV_r rfl (hrm (49, 27, 70) (by decide))) dX12_cell_134 ?_
        refine lv_iload_n hx hb dX12_cell_137 rfl (lv_at hl 1 rfl) ?_
        refine r_zald C hw (hsh 70 _ rfl) (by omega) (by omega) dX12_cell_138 (ti_c (ig11 (B + 70) x.toInt.toNat).toInt rfl fun z42 hz42 => ?_)
        refine z_eq (tgt := 146) hx hb dX12_cell_139 (by decide) (fun c139 => ?_) (fun c139 => ?_)
        · refine lv_iconst (v := 0) hx hb dX12_cell_146 (by decide) (ti_c 0 (by decide) fun z44 hz44 => ?_)
          exact r_iret C hw hr hlk rfl (Nat.le_of_ble_eq_true rfl) (Nat.le_of_ble_eq_true rfl) dX12_cell_147 ⟨rfl, rfl, hI, hF, ⟨_, rfl, trivial⟩⟩
        · refine lv_iconst (v := 1) hx hb dX12_cell_142 (by decide) (ti_c 1 (by decide) fun z45 hz45 => ?_)
          refine lv_goto (tgt := 147) hx hb dX12_cell_143 (by decide) ?_
          exact r_iret C hw hr hlk rfl (Nat.le_of_ble_eq_true rfl) (Nat.le_of_ble_eq_true rfl) dX12_cell_147 ⟨rfl, rfl, hI, hF, ⟨_, rfl, trivial⟩⟩
      by_cases s36_8 : y.toInt = 8
      · refine lv_tableIn hx hb dX12_cell_36 (by omega) (by omega) (off := 112) (by rw [s36_8]; rfl) (tgt := 148) (by decide) ?_
        refine lv_aload_n hx hb dX12_cell_148 rfl (lv_at hl 0 rfl) ?_
        refine lv_iload_n hx hb dX12_cell_149 rfl (lv_at hl 1 rfl) ?_
        refine r_callV (As := [.int x]) (rest := []) C hw (t_X12_readMany l B D cA kd ig11 rg lg10 _ x (by omega) hI) sv_X12_351 (hsh 49 _ rfl) rfl hl.1 rfl (Nat.le_of_ble_eq_true rfl) ⟨Nat.le_of_ble_eq_true rfl, Nat.le_of_ble_eq_true rfl⟩ ⟨Nat.le_of_ble_eq_true rfl, Nat.le_of_ble_eq_true rfl⟩ dX12_cell_150 (fun r50 kd46 ig47 rg48 lg49 H locs hw hH hp51 => ?_)
        obtain ⟨rfl, rfl, rfl, rfl, hzhp51, hrhp51⟩ := hp51
        obtain ⟨z52, rfl, hz52⟩ := hrhp51
        exact r_iret C hw hr hlk rfl (Nat.le_of_ble_eq_true rfl) (Nat.le_of_ble_eq_true rfl) dX12_cell_153 ⟨rfl, rfl, hI, hF, ⟨_, rfl, trivial⟩⟩
      by_cases s36_9 : y.toInt = 9
      · refine lv_tableIn hx hb dX12_cell_36 (by omega) (by omega) (off := 118) (by rw [s36_9]; rfl) (tgt := 154) (by decide) ?_
        refine lv_aload_n hx hb dX12_cell_154 rfl (lv_at hl 0 rfl) ?_
        refine lv_iload_n hx hb dX12_cell_155 rfl (lv_at hl 1 rfl) ?_
        refine r_callV (As := [.int x]) (rest := []) C hw (t_X12_readers l B D cA kd ig11 rg lg10 _ x (by omega) hI) sv_X12_336 (hsh 49 _ rfl) rfl hl.1 rfl (Nat.le_of_ble_eq_true rfl) ⟨Nat.le_of_ble_eq_true rfl, Nat.le_of_ble_eq_true rfl⟩ ⟨Nat.le_of_ble_eq_true rfl, Nat.le_of_ble_eq_true rfl⟩ dX12_cell_156 (fun r57 kd53 ig54 rg55 lg56 H locs hw hH hp58 => ?_)
        obtain ⟨rfl, rfl, rfl, rfl, hzhp58, hrhp58⟩ := hp58
        obtain ⟨z59, rfl, hz59⟩ := hrhp58
        exact r_iret C hw hr hlk rfl (Nat.le_of_ble_eq_true rfl) (Nat.le_of_ble_eq_true rfl) dX12_cell_159 ⟨rfl, rfl, hI, hF, ⟨_, rfl, trivial⟩⟩
      refine lv_tableOut hx hb dX12_cell_36 (by omega) (tgt := 160) (by decide) ?_
      refine lv_aload_n hx hb dX12_cell_160 rfl (lv_at hl 0 rfl) ?_
      refine r_get C hw (hsh 49 _ rfl) fl_X12_89 (oV_r rfl (hrm (49, 18, 62) (by decide))) dX12_cell_161 ?_
      refine lv_iload_n hx hb dX12_cell_164 rfl (lv_at hl 1 rfl) ?_
      refine r_zald C hw (hsh 62 _ rfl) (by omega) (by omega) dX12_cell_165 (ti_c (ig11 (B + 62) x.toInt.toNat).toInt rfl fun z60 hz60 => ?_)
      refine z_eq (tgt := 173) hx hb dX12_cell_166 (by decide) (fun c166 => ?_) (fun c166 => ?_)
      · refine lv_iconst (v := 0) hx hb dX12_cell_173 (by decide) (ti_c 0 (by decide) fun z62 hz62 => ?_)
        exact r_iret C hw hr hlk rfl (Nat.le_of_ble_eq_true rfl) (Nat.le_of_ble_eq_true rfl) dX12_cell_174 ⟨rfl, rfl, hI, hF, ⟨_, rfl, trivial⟩⟩
      · refine lv_iconst (v := 1) hx hb dX12_cell_169 (by decide) (ti_c 1 (by decide) fun z63 hz63 => ?_)
        refine lv_goto (tgt := 174) hx hb dX12_cell_170 (by decide) ?_
        exact r_iret C hw hr hlk rfl (Nat.le_of_ble_eq_true rfl) (Nat.le_of_ble_eq_true rfl) dX12_cell_174 ⟨rfl, rfl, hI, hF, ⟨_, rfl, trivial⟩⟩
    · refine lv_iconst (v := 0) hx hb dX12_cell_33 (by decide) (ti_c 0 (by decide) fun z64 hz64 => ?_)
      exact r_iret C hw hr hlk rfl (Nat.le_of_ble_eq_true rfl) (Nat.le_of_ble_eq_true rfl) dX12_cell_34 ⟨rfl, rfl, hI, hF, ⟨_, rfl, trivial⟩⟩
  refine z_eq (tgt := 22) hx hb dX12_cell_5 (by decide) (fun c5 => ?_) (fun c5 => ?_)
  · refine lv_iconst (v := 1) hx hb dX12_cell_22 (by decide) (ti_c 1 (by decide) fun z65 hz65 => ?_)
    exact J23 ls H locs ig lg z65 (lv_sub hl [0, 1, 2] rfl) hw hI hF (by omega)
  · refine lv_iload_n hx hb dX12_cell_8 rfl (lv_at hl 2 rfl) ?_
    refine z_lt (tgt := 22) hx hb dX12_cell_9 (by decide) (fun c9 => ?_) (fun c9 => ?_)
    · refine lv_iconst (v := 1) hx hb dX12_cell_22 (by decide) (ti_c 1 (by decide) fun z66 hz66 => ?_)
      exact J23 ls H locs ig lg z66 (lv_sub hl [0, 1, 2] rfl) hw hI hF (by omega)
    · refine lv_iload_n hx hb dX12_cell_12 rfl (lv_at hl 2 rfl) ?_
      refine lv_bipush (v := 10) hx hb dX12_cell_13 (by decide) (ti_c 10 (by decide) fun z67 hz67 => ?_)
      refine b_gt (tgt := 22) hx hb dX12_cell_15 (by decide) (fun c15 => ?_) (fun c15 => ?_)
      · refine lv_iconst (v := 1) hx hb dX12_cell_22 (by decide) (ti_c 1 (by decide) fun z68 hz68 => ?_)
        exact J23 ls H locs ig lg z68 (lv_sub hl [0, 1, 2] rfl) hw hI hF (by omega)
      · refine lv_iconst (v := 0) hx hb dX12_cell_18 (by decide) (ti_c 0 (by decide) fun z69 hz69 => ?_)
        refine lv_goto (tgt := 23) hx hb dX12_cell_19 (by decide) ?_
        exact J23 ls H locs ig lg z69 (lv_sub hl [0, 1, 2] rfl) hw hI hF (by omega)

set_option maxHeartbeats 4000000 in
set_option maxRecDepth 100000 in
theorem t_X12_isUnitSame {υ : Option Int} {τ : Tp} {φ : Option Int} (l : Launch) (B : Nat) (D : va_G) (cA : Nat → ClassId) (kd : sK) (ig : sI) (rg : sR) (lg : sG) (sz : Nat) (x : Int32) (y : Int32) (hx0 : 0 ≤ x.toInt ∧ x.toInt < 288) (hy0 : 0 ≤ y.toInt ∧ y.toInt < 288) (hI : IM τ φ υ B kd ig rg) : MC l B D cA yX12_isUnitSame cX12_isUnitSame 3 (some .boolean) (rL 0 0 0) [.ref (B + 49), .int x, .int y] kd ig rg lg sz (Pu kd ig rg lg sz (fun r => ∃ z : Int32, r = some (.int z) ∧ (z.toInt = 0 ∨ z.toInt = 1))) := by
  refine MC.of (own := RX12) (by decide +kernel) rfl (Nat.le_of_ble_eq_true rfl) ?_
  intro p e s m args below meth c ls C hr hlk hnm hw hsz hl
  have hx := C.1.1
  have hb := C.1.2.1
  have hown := C.1.2.2.2.1
  have hts := C.1.2.2.2.2
  have hl : lv_has ls 3 [(0, .ref (B + 49)), (1, .int x), (2, .int y)] := hl
  have hsh := hI.sh
  have hrm := hI.rm
  refine lv_aload_n hx hb dX12_isUnitSame_0 rfl (lv_at hl 0 rfl) ?_
  refine r_get C hw (hsh 49 _ rfl) fl_X12_108 (oV_r rfl (hrm (49, 25, 68) (by decide))) dX12_isUnitSame_1 ?_
  refine lv_iconst (v := 3) hx hb dX12_isUnitSame_4 (by decide) (ti_c 3 (by decide) fun z1 hz1 => ?_)
  refine lv_iload_n hx hb dX12_isUnitSame_5 rfl (lv_at hl 1 rfl) ?_
  refine lv_imul hx hb dX12_isUnitSame_6 (tc_mulL 3 hz1 fun z2 hz2 => ?_)
  first | replace hz2 := hz2 (by omega) | clear hz2
  refine r_iald C hw (hsh 68 _ rfl) (by omega) (by omega) dX12_isUnitSame_7 (ti_c (ig (B + 68) z2.toInt.toNat).toInt rfl fun z3 hz3 => ?_)
  refine lv_aload_n hx hb dX12_isUnitSame_8 rfl (lv_at hl 0 rfl) ?_
  refine r_get C hw (hsh 49 _ rfl) fl_X12_108 (oV_r rfl (hrm (49, 25, 68) (by decide))) dX12_isUnitSame_9 ?_
  refine lv_iconst (v := 3) hx hb dX12_isUnitSame_12 (by decide) (ti_c 3 (by decide) fun z5 hz5 => ?_)
  refine lv_iload_n hx hb dX12_isUnitSame_13 rfl (lv_at hl 2 rfl) ?_
  refine lv_imul hx hb dX12_isUnitSame_14 (tc_mulL 3 hz5 fun z6 hz6 => ?_)
  first | replace hz6 := hz6 (by omega) | clear hz6
  refine r_iald C hw (hsh 68 _ rfl) (by omega) (by omega) dX12_isUnitSame_15 (ti_c (ig (B + 68) z6.toInt.toNat).toInt rfl fun z7 hz7 => ?_)
  refine b_ne (tgt := 69) hx hb dX12_isUnitSame_16 (by decide) (fun c16 => ?_) (fun c16 => ?_)
  · refine lv_iconst (v := 0) hx hb dX12_isUnitSame_69 (by decide) (ti_c 0 (by decide) fun z9 hz9 => ?_)
    exact r_iret C hw hr hlk (nar_b (by omega)) (Nat.le_of_ble_eq_true rfl) (Nat.le_of_ble_eq_true rfl) dX12_isUnitSame_70 ⟨rfl, rfl, rfl, rfl, hsz, ⟨_, rfl, by omega⟩⟩
  · refine lv_aload_n hx hb dX12_isUnitSame_19 rfl (lv_at hl 0 rfl) ?_
    refine r_get C hw (hsh 49 _ rfl) fl_X12_108 (oV_r rfl (hrm (49, 25, 68) (by decide))) dX12_isUnitSame_20 ?_
    refine lv_iconst (v := 3) hx hb dX12_isUnitSame_23 (by decide) (ti_c 3 (by decide) fun z10 hz10 => ?_)
    refine lv_iload_n hx hb dX12_isUnitSame_24 rfl (lv_at hl 1 rfl) ?_
    refine lv_imul hx hb dX12_isUnitSame_25 (tc_mulL 3 hz10 fun z11 hz11 => ?_)
    first | replace hz11 := hz11 (by omega) | clear hz11
    refine lv_iconst (v := 1) hx hb dX12_isUnitSame_26 (by decide) (ti_c 1 (by decide) fun z12 hz12 => ?_)
    refine lv_iadd hx hb dX12_isUnitSame_27 (tc_add fun z13 hz13 => ?_)
    first | replace hz13 := hz13 (by omega) | clear hz13
    refine r_iald C hw (hsh 68 _ rfl) (by omega) (by omega) dX12_isUnitSame_28 (ti_c (ig (B + 68) z13.toInt.toNat).toInt rfl fun z14 hz14 => ?_)
    refine lv_aload_n hx hb dX12_isUnitSame_29 rfl (lv_at hl 0 rfl) ?_
    refine r_get C hw (hsh 49 _ rfl) fl_X12_108 (oV_r rfl (hrm (49, 25, 68) (by decide))) dX12_isUnitSame_30 ?_
    refine lv_iconst (v := 3) hx hb dX12_isUnitSame_33 (by decide) (ti_c 3 (by decide) fun z16 hz16 => ?_)
    refine lv_iload_n hx hb dX12_isUnitSame_34 rfl (lv_at hl 2 rfl) ?_
    refine lv_imul hx hb dX12_isUnitSame_35 (tc_mulL 3 hz16 fun z17 hz17 => ?_)
    first | replace hz17 := hz17 (by omega) | clear hz17
    refine lv_iconst (v := 1) hx hb dX12_isUnitSame_36 (by decide) (ti_c 1 (by decide) fun z18 hz18 => ?_)
    refine lv_iadd hx hb dX12_isUnitSame_37 (tc_add fun z19 hz19 => ?_)
    first | replace hz19 := hz19 (by omega) | clear hz19
    refine r_iald C hw (hsh 68 _ rfl) (by omega) (by omega) dX12_isUnitSame_38 (ti_c (ig (B + 68) z19.toInt.toNat).toInt rfl fun z20 hz20 => ?_)
    refine b_ne (tgt := 69) hx hb dX12_isUnitSame_39 (by decide) (fun c39 => ?_) (fun c39 => ?_)
    · refine lv_iconst (v := 0) hx hb dX12_isUnitSame_69 (by decide) (ti_c 0 (by decide) fun z22 hz22 => ?_)
      exact r_iret C hw hr hlk (nar_b (by omega)) (Nat.le_of_ble_eq_true rfl) (Nat.le_of_ble_eq_true rfl) dX12_isUnitSame_70 ⟨rfl, rfl, rfl, rfl, hsz, ⟨_, rfl, by omega⟩⟩
    · refine lv_aload_n hx hb dX12_isUnitSame_42 rfl (lv_at hl 0 rfl) ?_
      refine r_get C hw (hsh 49 _ rfl) fl_X12_108 (oV_r rfl (hrm (49, 25, 68) (by decide))) dX12_isUnitSame_43 ?_
      refine lv_iconst (v := 3) hx hb dX12_isUnitSame_46 (by decide) (ti_c 3 (by decide) fun z23 hz23 => ?_)
      refine lv_iload_n hx hb dX12_isUnitSame_47 rfl (lv_at hl 1 rfl) ?_
      refine lv_imul hx hb dX12_isUnitSame_48 (tc_mulL 3 hz23 fun z24 hz24 => ?_)
      first | replace hz24 := hz24 (by omega) | clear hz24
      refine lv_iconst (v := 2) hx hb dX12_isUnitSame_49 (by decide) (ti_c 2 (by decide) fun z25 hz25 => ?_)
      refine lv_iadd hx hb dX12_isUnitSame_50 (tc_add fun z26 hz26 => ?_)
      first | replace hz26 := hz26 (by omega) | clear hz26
      refine r_iald C hw (hsh 68 _ rfl) (by omega) (by omega) dX12_isUnitSame_51 (ti_c (ig (B + 68) z26.toInt.toNat).toInt rfl fun z27 hz27 => ?_)
      refine lv_aload_n hx hb dX12_isUnitSame_52 rfl (lv_at hl 0 rfl) ?_
      refine r_get C hw (hsh 49 _ rfl) fl_X12_108 (oV_r rfl (hrm (49, 25, 68) (by decide))) dX12_isUnitSame_53 ?_
      refine lv_iconst (v := 3) hx hb dX12_isUnitSame_56 (by decide) (ti_c 3 (by decide) fun z29 hz29 => ?_)
      refine lv_iload_n hx hb dX12_isUnitSame_57 rfl (lv_at hl 2 rfl) ?_
      refine lv_imul hx hb dX12_isUnitSame_58 (tc_mulL 3 hz29 fun z30 hz30 => ?_)
      first | replace hz30 := hz30 (by omega) | clear hz30
      refine lv_iconst (v := 2) hx hb dX12_isUnitSame_59 (by decide) (ti_c 2 (by decide) fun z31 hz31 => ?_)
      refine lv_iadd hx hb dX12_isUnitSame_60 (tc_add fun z32 hz32 => ?_)
      first | replace hz32 := hz32 (by omega) | clear hz32
      refine r_iald C hw (hsh 68 _ rfl) (by omega) (by omega) dX12_isUnitSame_61 (ti_c (ig (B + 68) z32.toInt.toNat).toInt rfl fun z33 hz33 => ?_)
      refine b_ne (tgt := 69) hx hb dX12_isUnitSame_62 (by decide) (fun c62 => ?_) (fun c62 => ?_)
      · refine lv_iconst (v := 0) hx hb dX12_isUnitSame_69 (by decide) (ti_c 0 (by decide) fun z35 hz35 => ?_)
        exact r_iret C hw hr hlk (nar_b (by omega)) (Nat.le_of_ble_eq_true rfl) (Nat.le_of_ble_eq_true rfl) dX12_isUnitSame_70 ⟨rfl, rfl, rfl, rfl, hsz, ⟨_, rfl, by omega⟩⟩
      · refine lv_iconst (v := 1) hx hb dX12_isUnitSame_65 (by decide) (ti_c 1 (by decide) fun z36 hz36 => ?_)
        refine lv_goto (tgt := 70) hx hb dX12_isUnitSame_66 (by decide) ?_
        exact r_iret C hw hr hlk (nar_b (by omega)) (Nat.le_of_ble_eq_true rfl) (Nat.le_of_ble_eq_true rfl) dX12_isUnitSame_70 ⟨rfl, rfl, rfl, rfl, hsz, ⟨_, rfl, by omega⟩⟩

set_option maxHeartbeats 4000000 in
set_option maxRecDepth 100000 in
theorem t_X12_finds {υ : Option Int} {τ : Tp} {φ : Option Int} (l : Launch) (B : Nat) (D : va_G) (cA : Nat → ClassId) (kd : sK) (ig : sI) (rg : sR) (lg : sG) (sz : Nat) (x : Int32) (y : Int32) (u : Int32) (hs0 : (ig (B + 49) 37).toInt ≤ 99999) (hI : IM τ φ υ B kd ig rg) : MC l B D cA yX12_finds cX12_finds 4 none (rL 0 0 0) [.ref (B + 49), .int x, .int y, .int u] kd ig rg lg sz (PM τ φ υ B [49, 75, 79] kd ig rg lg (fun r ig' lg' => (r = none ∧ (ig' (B + 49) 37).toInt = (ig (B + 49) 37).toInt + 1))) := by
  refine MC.of (own := RX12) (by decide +kernel) rfl (Nat.le_of_ble_eq_true rfl) ?_
  intro p e s m args below meth c ls C hr hlk hnm hw hsz hl
  have hx := C.1.1
  have hb := C.1.2.1
  have hown := C.1.2.2.2.1
  have hts := C.1.2.2.2.2
  have hl : lv_has ls 4 [(0, .ref (B + 49)), (1, .int x), (2, .int y), (3, .int u)] := hl
  have hF : Ft B [49, 75, 79] ig lg ig lg := Ft.rf
  have hsh := hI.sh
  have hrm := hI.rm
  refine lv_aload_n hx hb dX12_finds_0 rfl (lv_at hl 0 rfl) ?_
  refine r_get C hw (hsh 49 _ rfl) fl_X12_314 (oV_i rfl) dX12_finds_1 (ti_c (ig (B + 49) 37).toInt rfl fun z1 hz1 => ?_)
  have k2 : 0 ≤ (ig (B + 49) 37).toInt ∧ (ig (B + 49) 37).toInt ≤ 100000 := hI.i 49 37 (by decide) (by decide)
  refine lv_sipush (v := 300) hx hb dX12_finds_4 (by decide) (ti_c 300 (by decide) fun z3 hz3 => ?_)
  have J50 : ∀ (ls : Array Slot) (H : Heap) (locs : List Loc) (ig4 : sI) (lg5 : sG) , lv_has ls 4 [(0, .ref (B + 49))] → WD B D cA s.heap kd ig4 rg lg5 H locs → IM τ φ υ B kd ig4 rg → Ft B [49, 75, 79] ig lg ig4 lg5 → ((ig4 (B + 49) 37).toInt = (ig (B + 49) 37).toInt) → W p l e (rL 0 0 0) s m args below meth c H locs 0 0 (MQ below (QcW B D cA (PM τ φ υ B [49, 75, 79] kd ig rg lg (fun r ig' lg' => (r = none ∧ (ig' (B + 49) 37).toInt = (ig (B + 49) 37).toInt + 1)))) args s 0 0 (fun q => B ≤ q)) (F0 m 50 ls []) := by
    intro ls H locs ig4 lg5 hl hw hI hF g50_0
    refine lv_aload_n hx hb dX12_finds_50 rfl (lv_at hl 0 rfl) ?_
    refine lv_dup hx hb dX12_finds_51 rfl ?_
    refine r_get C hw (hsh 49 _ rfl) fl_X12_314 (oV_i rfl) dX12_finds_52 (ti_c (ig4 (B + 49) 37).toInt rfl fun z6 hz6 => ?_)
    have k7 : 0 ≤ (ig4 (B + 49) 37).toInt ∧ (ig4 (B + 49) 37).toInt ≤ 100000 := hI.i 49 37 (by decide) (by decide)
    refine lv_iconst (v := 1) hx hb dX12_finds_55 (by decide) (ti_c 1 (by decide) fun z8 hz8 => ?_)
    refine lv_iadd hx hb dX12_finds_56 (tc_add fun z9 hz9 => ?_)
    first | replace hz9 := hz9 (by omega) | clear hz9
    refine r_puti C hw (hsh 49 _ rfl) fl_X12_314 rfl rfl rfl dX12_finds_57 (fun H locs hH hw => ?_)
    obtain ⟨ig10, eig10⟩ : ∃ f, f = up2 ig4 (B + 49) 37 z9 := ⟨_, rfl⟩
    rw [← eig10] at hw
    have hF : Ft B [49, 75, 79] ig lg ig10 lg5 := by rw [eig10]; exact hF.pi (by decide)
    have hI : IM τ φ υ B kd ig10 rg := by rw [eig10]; exact hI.pi (by decide) (show okR (some (0, 100000)) _ from ⟨by show (0 : Int) ≤ _; omega, by show _ ≤ (100000 : Int); omega⟩)
    have wig10 : (ig10 (B + 49) 37).toInt = z9.toInt := by rw [eig10, up2_eq]
    exact r_vret C hw hr hlk (Nat.le_of_ble_eq_true rfl) (Nat.le_of_ble_eq_true rfl) dX12_finds_60 ⟨rfl, rfl, hI, hF, ⟨rfl, by omega⟩⟩
  refine b_ge (tgt := 50) hx hb dX12_finds_7 (by decide) (fun c7 => ?_) (fun c7 => ?_)
  · exact J50 ls s.heap [] ig lg (lv_sub hl [0] rfl) hw hI hF (by omega)
  · refine lv_aload_n hx hb dX12_finds_10 rfl (lv_at hl 0 rfl) ?_
    refine r_get C hw (hsh 49 _ rfl) fl_X12_130 (oV_r rfl (hrm (49, 38, 75) (by decide))) dX12_finds_11 ?_
    refine lv_iconst (v := 3) hx hb dX12_finds_14 (by decide) (ti_c 3 (by decide) fun z11 hz11 => ?_)
    refine lv_aload_n hx hb dX12_finds_15 rfl (lv_at hl 0 rfl) ?_
    refine r_get C hw (hsh 49 _ rfl) fl_X12_314 (oV_i rfl) dX12_finds_16 (ti_c (ig (B + 49) 37).toInt rfl fun z12 hz12 => ?_)
    have k13 : 0 ≤ (ig (B + 49) 37).toInt ∧ (ig (B + 49) 37).toInt ≤ 100000 := hI.i 49 37 (by decide) (by decide)
    refine lv_imul hx hb dX12_finds_19 (tc_mulL 3 hz11 fun z14 hz14 => ?_)
    first | replace hz14 := hz14 (by omega) | clear hz14
    refine lv_iload_n hx hb dX12_finds_20 rfl (lv_at hl 1 rfl) ?_
    refine r_iast C hw (hsh 75 _ rfl) (by omega) (by omega) dX12_finds_21 (fun H locs hH hw => ?_)
    obtain ⟨ig15, eig15⟩ : ∃ f, f = up2 ig (B + 75) z14.toInt.toNat x := ⟨_, rfl⟩
    rw [← eig15] at hw
    have hF : Ft B [49, 75, 79] ig lg ig15 lg := by rw [eig15]; exact hF.pi (by decide)
    have hI : IM τ φ υ B kd ig15 rg := by rw [eig15]; exact hI.pi (by decide) (show okR none _ from trivial)
    have wig15_49_37 : (ig15 (B + 49) 37).toInt = (ig (B + 49) 37).toInt := by rw [eig15, up2_a (by omega)]
    refine lv_aload_n hx hb dX12_finds_22 rfl (lv_at hl 0 rfl) ?_
    refine r_get C hw (hsh 49 _ rfl) fl_X12_130 (oV_r rfl (hrm (49, 38, 75) (by decide))) dX12_finds_23 ?_
    refine lv_iconst (v := 3) hx hb dX12_finds_26 (by decide) (ti_c 3 (by decide) fun z16 hz16 => ?_)
    refine lv_aload_n hx hb dX12_finds_27 rfl (lv_at hl 0 rfl) ?_
    refine r_get C hw (hsh 49 _ rfl) fl_X12_314 (oV_i rfl) dX12_finds_28 (ti_c (ig15 (B + 49) 37).toInt rfl fun z17 hz17 => ?_)
    have k18 : 0 ≤ (ig15 (B + 49) 37).toInt ∧ (ig15 (B + 49) 37).toInt ≤ 100000 := hI.i 49 37 (by decide) (by decide)
    refine lv_imul hx hb dX12_finds_31 (tc_mulL 3 hz16 fun z19 hz19 => ?_)
    first | replace hz19 := hz19 (by omega) | clear hz19
    refine lv_iconst (v := 1) hx hb dX12_finds_32 (by decide) (ti_c 1 (by decide) fun z20 hz20 => ?_)
    refine lv_iadd hx hb dX12_finds_33 (tc_add fun z21 hz21 => ?_)
    first | replace hz21 := hz21 (by omega) | clear hz21
    refine lv_iload_n hx hb dX12_finds_34 rfl (lv_at hl 2 rfl) ?_
    refine r_iast C hw (hsh 75 _ rfl) (by omega) (by omega) dX12_finds_35 (fun H locs hH hw => ?_)
    obtain ⟨ig22, eig22⟩ : ∃ f, f = up2 ig15 (B + 75) z21.toInt.toNat y := ⟨_, rfl⟩
    rw [← eig22] at hw
    have hF : Ft B [49, 75, 79] ig lg ig22 lg := by rw [eig22]; exact hF.pi (by decide)
    have hI : IM τ φ υ B kd ig22 rg := by rw [eig22]; exact hI.pi (by decide) (show okR none _ from trivial)
    have wig22_49_37 : (ig22 (B + 49) 37).toInt = (ig15 (B + 49) 37).toInt := by rw [eig22, up2_a (by omega)]
    refine lv_aload_n hx hb dX12_finds_36 rfl (lv_at hl 0 rfl) ?_
    refine r_get C hw (hsh 49 _ rfl) fl_X12_130 (oV_r rfl (hrm (49, 38, 75) (by decide))) dX12_finds_37 ?_
    refine lv_iconst (v := 3) hx hb dX12_finds_40 (by decide) (ti_c 3 (by decide) fun z23 hz23 => ?_)
    refine lv_aload_n hx hb dX12_finds_41 rfl (lv_at hl 0 rfl) ?_
    refine r_get C hw (hsh 49 _ rfl) fl_X12_314 (oV_i rfl) dX12_finds_42 (ti_c (ig22 (B + 49) 37).toInt rfl fun z24 hz24 => ?_)
    have k25 : 0 ≤ (ig22 (B + 49) 37).toInt ∧ (ig22 (B + 49) 37).toInt ≤ 100000 := hI.i 49 37 (by decide) (by decide)
    refine lv_imul hx hb dX12_finds_45 (tc_mulL 3 hz23 fun z26 hz26 => ?_)
    first | replace hz26 := hz26 (by omega) | clear hz26
    refine lv_iconst (v := 2) hx hb dX12_finds_46 (by decide) (ti_c 2 (by decide) fun z27 hz27 => ?_)
    refine lv_iadd hx hb dX12_finds_47 (tc_add fun z28 hz28 => ?_)
    first | replace hz28 := hz28 (by omega) | clear hz28
    refine lv_iload_n hx hb dX12_finds_48 rfl (lv_at hl 3 rfl) ?_
    refine r_iast C hw (hsh 75 _ rfl) (by omega) (by omega) dX12_finds_49 (fun H locs hH hw => ?_)
    obtain ⟨ig29, eig29⟩ : ∃ f, f = up2 ig22 (B + 75) z28.toInt.toNat u := ⟨_, rfl⟩
    rw [← eig29] at hw
    have hF : Ft B [49, 75, 79] ig lg ig29 lg := by rw [eig29]; exact hF.pi (by decide)
    have hI : IM τ φ υ B kd ig29 rg := by rw [eig29]; exact hI.pi (by decide) (show okR none _ from trivial)
    have wig29_49_37 : (ig29 (B + 49) 37).toInt = (ig22 (B + 49) 37).toInt := by rw [eig29, up2_a (by omega)]
    exact J50 ls H locs ig29 lg (lv_sub hl [0] rfl) hw hI hF (by omega)
