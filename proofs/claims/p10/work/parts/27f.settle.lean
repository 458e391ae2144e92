/-- what stays of it while the counts are made -/
def GRk (B : Nat) (σ : Sg) (ig : sI) (lg : sG) : Prop :=
  (∀ p, p < 288 → (ig (B + 20) p).toInt = 0) ∧ (∀ i, i < fN B ig → fL B ig i < 288 ∧ fo σ (fL B ig i)) ∧ (∀ i j, i < j → j < fN B ig → fL B ig i < fL B ig j) ∧ (∀ p, fo σ p → ∃ i, i < fN B ig ∧ fL B ig i = p) ∧
  (∀ q, q < 320 → (bR (lg (B + 17)) 0 q = true ↔ q < 288 ∧ fo σ q)) ∧ ∀ p q, p < 288 → q < 320 → (bR (lg (B + 18)) p q = true ↔ p < 288 ∧ Rd σ p q)
section GRK
variable {τ : Tp} {φ : Option Int} {B : Nat} {σ : Sg} {π : Ps} {ig ig' : sI} {lg lg' : sG}
theorem GRk.of (h : GR B σ 288 ig lg) : GRk B σ ig lg := ⟨fun p hp => (h.1 p hp).1, h.2.1, h.2.2.1, fun p hp => h.2.2.2.1 p hp.1 hp, h.2.2.2.2⟩
theorem GRk.ag (h : GRk B σ ig lg) (e15 : (ig' (B + 15) 2).toInt = (ig (B + 15) 2).toInt) (e16 : ∀ i, ig' (B + 16) i = ig (B + 16) i) (e20 : ∀ p, ig' (B + 20) p = ig (B + 20) p) (e : ∀ j, lg' (B + 17) j = lg (B + 17) j ∧ lg' (B + 18) j = lg (B + 18) j) : GRk B σ ig' lg' := by
  have a : fN B ig' = fN B ig := by unfold fN; rw [e15]
  have b : ∀ i, fL B ig' i = fL B ig i := fun i => by unfold fL; rw [e16]
  have d7 : lg' (B + 17) = lg (B + 17) := funext fun j => (e j).1
  have d8 : lg' (B + 18) = lg (B + 18) := funext fun j => (e j).2
  obtain ⟨h1, h2, h3, h4, h5⟩ := h
  refine ⟨fun p hp => by rw [e20]; exact h1 p hp, fun i hi => by rw [b]; exact h2 i (by omega), fun i j hij hj => by rw [b, b]; exact h3 i j hij (by omega), fun p hf => ?_, by rw [d7, d8]; exact h5⟩
  obtain ⟨i, hi, q⟩ := h4 p hf
  exact ⟨i, by omega, by rw [b]; exact q⟩
theorem GRk.F (h : GRk B σ ig lg) (hW : WS σ π) : LkF B σ ig lg := by
  obtain ⟨h1, h2, h3, h4, h5, h6⟩ := h
  exact ⟨fun i hi => (h2 i hi).2, h3, h4, fun p q hp hq => (h6 p q hp (by omega)).trans ⟨fun w => w.2, fun w => ⟨hp, w⟩⟩, fun p q w => w.lt hW⟩
theorem GRk.inj (h : GRk B σ ig lg) {i j : Nat} (hi : i < fN B ig) (hj : j < fN B ig) (e : fL B ig i = fL B ig j) : i = j := by
  rcases Nat.lt_trichotomy i j with q | q | q
  · have := h.2.2.1 i j q hj; omega
  · exact q
  · have := h.2.2.1 j i q hi; omega
theorem GRk.cn (h : GRk B σ ig lg) {p : Nat} (hp : p < 288) : CntIs (fun q => Rd σ p q ∧ fo σ q) 288 (cnt (fRB B lg p) 320) := by
  obtain ⟨-, -, -, -, h5, h6⟩ := h
  refine ⟨fRB B lg p, fun q hq => ?_, ?_⟩
  · unfold fRB
    rw [Bool.and_eq_true, h6 p q hp (by omega), h5 q (by omega)]
    exact ⟨fun w => ⟨w.1.2, w.2.2⟩, fun w => ⟨⟨hp, w.1⟩, hq, w.2⟩⟩
  · have z : cnt (fun k => fRB B lg p (288 + k)) 32 = 0 := cnt.zero fun k hk => by
      unfold fRB
      cases c : bR (lg (B + 17)) 0 (288 + k) with
      | false => simp
      | true => have := ((h5 (288 + k) (by omega)).mp c).1; omega
    have e : cnt (fRB B lg p) (288 + 32) = cnt (fRB B lg p) 288 := by rw [cnt.add, z, Nat.add_zero]
    exact e.symm
theorem GRk.la (h : GRk B σ ig lg) : LAz B ig lg := fun p hp hq w hw => by
  have nf : ¬ fo σ p := fun w => by
    obtain ⟨i, hi, e⟩ := h.2.2.2.1 p w
    exact hq i hi e
  apply Bt.ext
  intro j hj
  rw [Bt.z]
  have q := h.2.2.2.2.2 p (64 * w + j) hp (by omega)
  have e : bR (lg (B + 18)) p (64 * w + j) = Bt (lg (B + 18) (5 * p + w)) j := by unfold bR; rw [show (64 * w + j) / 64 = w by omega, show (64 * w + j) % 64 = j by omega]
  rw [e] at q
  cases c : Bt (lg (B + 18) (5 * p + w)) j with
  | false => rfl
  | true => exact (nf (q.mp c).2.f).elim
end GRK
theorem SIs {B : Nat} {ig : sI} {k r : Nat} (hr : fL B ig k = r) (p : Nat) : (∃ i, i < k + 1 ∧ fL B ig i = p) ↔ (∃ i, i < k ∧ fL B ig i = p) ∨ p = r := by
  constructor
  · rintro ⟨i, hi, e⟩
    by_cases c : i = k
    · subst c; exact Or.inr (e.symm.trans hr)
    · exact Or.inl ⟨i, by omega, e⟩
  · rintro (⟨i, hi, e⟩ | rfl)
    · exact ⟨i, by omega, e⟩
    · exact ⟨k, by omega, hr⟩
theorem RL0.eqf {B : Nat} {σ : Sg} {ig ig' : sI} {k : Nat} {od : Nat → Nat} {n : Nat} {W : Nat → Int} (h : RL0 σ (fun p => ∃ i, i < k ∧ fL B ig i = p) od n W) (e : ∀ i, fL B ig' i = fL B ig i) : RL0 σ (fun p => ∃ i, i < k ∧ fL B ig' i = p) od n W := RL0.eqS h fun p => by
  constructor
  · rintro ⟨i, hi, q⟩; exact ⟨i, hi, by rw [← e]; exact q⟩
  · rintro ⟨i, hi, q⟩; exact ⟨i, hi, by rw [e]; exact q⟩

theorem oDn_up {B : Nat} {ig ig' : sI} {r : Nat} {v : Int32} (e : ig' = up2 ig (B + 21) r v) : oD B ig' = oD B ig := by rw [e]; exact funext fun j => oD_up
theorem oNn_up {B : Nat} {ig ig' : sI} {r : Nat} {v : Int32} (e : ig' = up2 ig (B + 21) r v) : oN B ig' = oN B ig := by rw [e]; exact oN_up

set_option maxHeartbeats 4000000 in
set_option maxRecDepth 100000 in
theorem t_X5_settleE {κ : Int} {τ : Tp} (l : Launch) (B : Nat) (D : va_G) (cA : Nat → ClassId) (kd : sK) (ig : sI) (rg : sR) (lg : sG) (sz : Nat) (σ : Sg) (π : Ps) (ν : Nat) (hS : SCh B σ π ν kd ig rg) (hLv : LV κ B σ ν ig lg) (hW : WS σ π) (hI : IC τ B kd ig rg) : MC l B D cA yX5_settle cX5_settle 3 none (rL 5 0 0) [.ref (B + 15)] kd ig rg lg sz (PI 1014 τ B none kd ig rg lg (fun r kd' ig' rg' lg' => (r = none ∧ ((LSt B σ ig' lg' ∧ LAz B ig' lg' ∧ (ig' (B + 15) 11).toInt = (ν : Int)) ∧ Fo B [15, 16, 17, 18, 19, 20, 21, 22, 23] ig lg ig' lg')))) := by
  refine MC.of (own := RX5) (by decide +kernel) rfl (Nat.le_of_ble_eq_true rfl) ?_
  intro p e s m args below meth c ls C hr hlk hnm hw hsz hl
  have hx := C.1.1
  have hb := C.1.2.1
  have hown := C.1.2.2.2.1
  have hts := C.1.2.2.2.2
  have hl : lv_has ls 3 [(0, .ref (B + 15))] := hl
  have hN : Nx 1014 B none kd ig rg lg kd ig rg lg := Nx.rf
  have hsh := hI.sh
  have hrs := hI.rs
  have hO : Fo B [15, 16, 17, 18, 19, 20, 21, 22, 23] ig lg ig lg := Fo.rf
  have hv9 := hS.v
  refine lv_aload_n hx hb dX5_settle_0 rfl (lv_at hl 0 rfl) ?_
  refine r_get C hw (hsh 15 _ rfl) fl_X5_42 (oV_i rfl) dX5_settle_1 (ti_c (ig (B + 15) 11).toInt rfl fun z1 hz1 => ?_)
  refine lv_aload_n hx hb dX5_settle_4 rfl (lv_at hl 0 rfl) ?_
  refine r_get C hw (hsh 15 _ rfl) fl_X5_9 (oV_r rfl (hrs (15, 0, 9) (by decide))) dX5_settle_5 ?_
  refine r_get C hw (hsh 9 _ rfl) fl_X5_46 (oV_i rfl) dX5_settle_8 (ti_c (ig (B + 9) 6).toInt rfl fun z2 hz2 => ?_)
  refine b_ne (tgt := 15) hx hb dX5_settle_11 (by decide) (fun c11 => ?_) (fun c11 => ?_)
  · refine lv_aload_n hx hb dX5_settle_15 rfl (lv_at hl 0 rfl) ?_
    refine lv_aload_n hx hb dX5_settle_16 rfl (lv_at hl 0 rfl) ?_
    refine r_get C hw (hsh 15 _ rfl) fl_X5_9 (oV_r rfl (hrs (15, 0, 9) (by decide))) dX5_settle_17 ?_
    refine r_get C hw (hsh 9 _ rfl) fl_X5_46 (oV_i rfl) dX5_settle_20 (ti_c (ig (B + 9) 6).toInt rfl fun z3 hz3 => ?_)
    refine r_puti C hw (hsh 15 _ rfl) fl_X5_42 rfl rfl rfl dX5_settle_23 (fun H locs hH hw => ?_)
    have hO0 := hO
    obtain ⟨ig4, eig4⟩ : ∃ f, f = up2 ig (B + 15) 11 z3 := ⟨_, rfl⟩
    rw [← eig4] at hw
    have hN : Nx 1014 B none kd ig rg lg kd ig4 rg lg := by rw [eig4]; exact hN.pi (by omega)
    have hI : IC τ B kd ig4 rg := by rw [eig4]; exact hI.pi (show okR none _ from trivial)
    have wig4_15_2 : (ig4 (B + 15) 2).toInt = (ig (B + 15) 2).toInt := by rw [eig4, up2_j (by decide)]
    have wig4_15_9 : (ig4 (B + 15) 9).toInt = (ig (B + 15) 9).toInt := by rw [eig4, up2_j (by decide)]
    have wig4 : (ig4 (B + 15) 11).toInt = z3.toInt := by rw [eig4, up2_eq]
    have wig4_9_6 : (ig4 (B + 9) 6).toInt = (ig (B + 9) 6).toInt := by rw [eig4, up2_a (by omega)]
    have hO : Fo B [15, 16, 17, 18, 19, 20, 21, 22, 23] ig lg ig4 lg := by rw [eig4]; exact hO0.pi (by decide)
    clear hO0
    refine lv_aload_n hx hb dX5_settle_26 rfl (lv_at hl 0 rfl) ?_
    refine r_callV (As := []) (rest := []) C hw (t_X5_forgetReadsE l B D cA kd ig4 rg lg _  (by rw [eig4]; exact hLv.2.1.ag (by rw [up2_j (by decide)]) (fun i => up2_a (by omega)) (fun j => rfl)) hI) sv_X5_49 (hsh 15 _ rfl) rfl hl.1 rfl (Nat.le_of_ble_eq_true rfl) ⟨Nat.le_of_ble_eq_true rfl, Nat.le_of_ble_eq_true rfl⟩ ⟨Nat.le_of_ble_eq_true rfl, Nat.le_of_ble_eq_true rfl⟩ dX5_settle_27 (fun r9 kd5 ig6 rg7 lg8 H locs hw hH hp10 => ?_)
    obtain ⟨hI, hchp10, hrhp10⟩ := hp10
    have hN := hN.tr hchp10
    have hsh := hI.sh
    have hrs := hI.rs
    obtain ⟨rfl, hvhp10⟩ := hrhp10
    obtain ⟨phvhp10, ohvhp10, khvhp10_0, khvhp10_1⟩ := hvhp10
    have hO := hO.tr ohvhp10
    have kwhvhp10_9_6 : (ig6 (B + 9) 6).toInt = (ig4 (B + 9) 6).toInt := by rw [ohvhp10.i 9 6]
    refine lv_aload_n hx hb dX5_settle_30 rfl (lv_at hl 0 rfl) ?_
    refine r_callV (As := []) (rest := []) C hw (t_X5_gatherReadsE l B D cA kd5 ig6 rg7 lg8 _  σ π ν (hS.nx hN) hW phvhp10.1 phvhp10.2.1 phvhp10.2.2 hI) sv_X5_52 (hsh 15 _ rfl) rfl hl.1 rfl (Nat.le_of_ble_eq_true rfl) ⟨Nat.le_of_ble_eq_true rfl, Nat.le_of_ble_eq_true rfl⟩ ⟨Nat.le_of_ble_eq_true rfl, Nat.le_of_ble_eq_true rfl⟩ dX5_settle_31 (fun r15 kd11 ig12 rg13 lg14 H locs hw hH hp16 => ?_)
    obtain ⟨hI, hchp16, hrhp16⟩ := hp16
    have hN := hN.tr hchp16
    have hsh := hI.sh
    have hrs := hI.rs
    obtain ⟨rfl, hvhp16⟩ := hrhp16
    obtain ⟨phvhp16, ohvhp16, khvhp16_0, khvhp16_1⟩ := hvhp16
    have hO := hO.tr ohvhp16
    have kwhvhp16_9_6 : (ig12 (B + 9) 6).toInt = (ig6 (B + 9) 6).toInt := by rw [ohvhp16.i 9 6]
    refine lv_aload_n hx hb dX5_settle_34 rfl (lv_at hl 0 rfl) ?_
    refine lv_iconst (v := 0) hx hb dX5_settle_35 (by decide) (ti_c 0 (by decide) fun z17 hz17 => ?_)
    refine r_puti C hw (hsh 15 _ rfl) fl_X5_55 rfl rfl rfl dX5_settle_36 (fun H locs hH hw => ?_)
    have hO0 := hO
    obtain ⟨ig18, eig18⟩ : ∃ f, f = up2 ig12 (B + 15) 9 z17 := ⟨_, rfl⟩
    rw [← eig18] at hw
    have hN : Nx 1014 B none kd ig rg lg kd11 ig18 rg13 lg14 := by rw [eig18]; exact hN.pi (by omega)
    have hI : IC τ B kd11 ig18 rg13 := by rw [eig18]; exact hI.pi (show okR (some (0, 288)) _ from ⟨by show (0 : Int) ≤ _; omega, by show _ ≤ (288 : Int); omega⟩)
    have wig18_15_2 : (ig18 (B + 15) 2).toInt = (ig12 (B + 15) 2).toInt := by rw [eig18, up2_j (by decide)]
    have wig18 : (ig18 (B + 15) 9).toInt = z17.toInt := by rw [eig18, up2_eq]
    have wig18_15_11 : (ig18 (B + 15) 11).toInt = (ig12 (B + 15) 11).toInt := by rw [eig18, up2_j (by decide)]
    have wig18_9_6 : (ig18 (B + 9) 6).toInt = (ig12 (B + 9) 6).toInt := by rw [eig18, up2_a (by omega)]
    have hO : Fo B [15, 16, 17, 18, 19, 20, 21, 22, 23] ig lg ig18 lg14 := by rw [eig18]; exact hO0.pi (by decide)
    clear hO0
    refine lv_iconst (v := 0) hx hb dX5_settle_39 (by decide) (ti_c 0 (by decide) fun z19 hz19 => ?_)
    refine lv_istore_n (lv' := [(1, .int z19), (0, .ref (B + 15))]) hx hb dX5_settle_40 rfl hl (by decide) rfl (fun ls hl => ?_)
    have L41 : ∀ (n : Nat) (ls : Array Slot) (H : Heap) (locs : List Loc) (kd21 : sK) (ig22 : sI) (rg23 : sR) (lg24 : sG) (v20 : Int32), lv_has ls 3 [(1, .int v20), (0, .ref (B + 15))] → WD B D cA s.heap kd21 ig22 rg23 lg24 H locs → IC τ B kd21 ig22 rg23 → Nx 1014 B none kd ig rg lg kd21 ig22 rg23 lg24 → (0 ≤ v20.toInt) → (v20.toInt ≤ 288) → (GRk B σ ig22 lg24) → (RL0 σ (fun p => ∃ i, i < v20.toInt.toNat ∧ fL B ig22 i = p) (oD B ig22) (oN B ig22) (wT B ig22)) → (0 ≤ (ig22 (B + 15) 9).toInt ∧ (ig22 (B + 15) 9).toInt ≤ v20.toInt) → ((ig22 (B + 15) 11).toInt = (ν : Int)) → (Fo B [15, 16, 17, 18, 19, 20, 21, 22, 23] ig lg ig22 lg24) → 288 - v20.toInt < (n : Int) → W p l e (rL 5 0 0) s m args below meth c H locs 0 0 (MQ below (QcW B D cA (PI 1014 τ B none kd ig rg lg (fun r kd' ig' rg' lg' => (r = none ∧ ((LSt B σ ig' lg' ∧ LAz B ig' lg' ∧ (ig' (B + 15) 11).toInt = (ν : Int)) ∧ Fo B [15, 16, 17, 18, 19, 20, 21, 22, 23] ig lg ig' lg'))))) args s 0 0 (fun q => B ≤ q)) (F0 m 41 ls []) := by
      intro n41
      induction n41 with
      | zero => intro ls H locs kd21 ig22 rg23 lg24 v20 hl hw hI hN g41_0 g41_1 g41_2 g41_3 g41_4 g41_5 g41_6 hmu; exact absurd hmu (by omega)
      | succ n41 ih41 =>
        intro ls H locs kd21 ig22 rg23 lg24 v20 hl hw hI hN g41_0 g41_1 g41_2 g41_3 g41_4 g41_5 g41_6 hmu
        have hsh := hI.sh
        have hrs := hI.rs
        have hO := g41_6
        refine lv_iload_n hx hb dX5_settle_41 rfl (lv_at hl 0 rfl) ?_
        refine lv_aload_n hx hb dX5_settle_42 rfl (lv_at hl 1 rfl) ?_
        refine r_get C hw (hsh 15 _ rfl) fl_X5_58 (oV_i rfl) dX5_settle_43 (ti_c (ig22 (B + 15) 2).toInt rfl fun z25 hz25 => ?_)
        have k26 : 0 ≤ (ig22 (B + 15) 2).toInt ∧ (ig22 (B + 15) 2).toInt ≤ 288 := hI.i 15 2 (by decide)
        refine b_ge (tgt := 87) hx hb dX5_settle_46 (by decide) (fun c46 => ?_) (fun c46 => ?_)
        · refine lv_aload_n hx hb dX5_settle_87 rfl (lv_at hl 1 rfl) ?_
          refine lv_iconst (v := 0) hx hb dX5_settle_88 (by decide) (ti_c 0 (by decide) fun z27 hz27 => ?_)
          refine r_callV (As := [.int z27]) (rest := []) C hw (t_X5_releaseE l B D cA kd21 ig22 rg23 lg24 _ z27 σ ((g41_2).F hW) (fun _ => False) (by omega) (by have q9 := RL0.fin g41_3 (fun p hp => (g41_2.2.2.2.1 p hp).elim fun i q9 => ⟨i, by have q7 := q9.1; unfold fN at q7; omega, q9.2⟩); rw [show z27.toInt.toNat = 0 by omega]; exact q9) hI) sv_X5_69 (hsh 15 _ rfl) rfl hl.1 rfl (Nat.le_of_ble_eq_true rfl) ⟨Nat.le_of_ble_eq_true rfl, Nat.le_of_ble_eq_true rfl⟩ ⟨Nat.le_of_ble_eq_true rfl, Nat.le_of_ble_eq_true rfl⟩ dX5_settle_89 (fun r32 kd28 ig29 rg30 lg31 H locs hw hH hp33 => ?_)
          obtain ⟨hI, hchp33, hrhp33⟩ := hp33
          have hN := hN.tr hchp33
          have hsh := hI.sh
          have hrs := hI.rs
          obtain ⟨rfl, hvhp33⟩ := hrhp33
          obtain ⟨phvhp33, ohvhp33, khvhp33_0, khvhp33_1⟩ := hvhp33
          have hO := hO.tr ohvhp33
          have kwhvhp33_9_6 : (ig29 (B + 9) 6).toInt = (ig22 (B + 9) 6).toInt := by rw [ohvhp33.i 9 6]
          have gr8 : GRk B σ ig29 lg31 := g41_2.ag (by omega) (fun i => ohvhp33.i 16 i) (fun p => ohvhp33.i 20 p) (fun j => ⟨ohvhp33.l 17 j, ohvhp33.l 18 j⟩)
          have hR8 := phvhp33
          refine lv_aload_n hx hb dX5_settle_92 rfl (lv_at hl 1 rfl) ?_
          refine r_get C hw (hsh 15 _ rfl) fl_X5_55 (oV_i rfl) dX5_settle_93 (ti_c (ig29 (B + 15) 9).toInt rfl fun z34 hz34 => ?_)
          have k35 : 0 ≤ (ig29 (B + 15) 9).toInt ∧ (ig29 (B + 15) 9).toInt ≤ 288 := hI.i 15 9 (by decide)
          refine lv_aload_n hx hb dX5_settle_96 rfl (lv_at hl 1 rfl) ?_
          refine r_get C hw (hsh 15 _ rfl) fl_X5_58 (oV_i rfl) dX5_settle_97 (ti_c (ig29 (B + 15) 2).toInt rfl fun z36 hz36 => ?_)
          have k37 : 0 ≤ (ig29 (B + 15) 2).toInt ∧ (ig29 (B + 15) 2).toInt ≤ 288 := hI.i 15 2 (by decide)
          refine b_ge (tgt := 117) hx hb dX5_settle_100 (by decide) (fun c100 => ?_) (fun c100 => ?_)
          · exact r_vret C hw hr hlk (Nat.le_of_ble_eq_true rfl) (Nat.le_of_ble_eq_true rfl) dX5_settle_117 ⟨hI, hN, ⟨rfl, ⟨(by have fu9 : ∀ p, fo σ p → inO (oD B ig29) (oN B ig29) p := (fun p hp => RLk.full hR8 gr8.2.2.2.1 (by unfold fN oN; omega) hp); have nr9 : ∀ p, Rg σ p ↔ False := (fun p => ⟨fun w9 => RLk.noring hR8 (fu9 p (TG.f w9)) w9, False.elim⟩); exact ⟨⟨gr8.F hW, fun p hp => Or.inr ⟨gr8.1 p hp, fun w9 => (nr9 p).mp w9⟩, LkS.ok (hR8.eqX nr9) fu9⟩, gr8.la, by omega⟩), hO⟩⟩⟩
          · refine lv_aload_n hx hb dX5_settle_103 rfl (lv_at hl 1 rfl) ?_
            refine r_get C hw (hsh 15 _ rfl) fl_X5_55 (oV_i rfl) dX5_settle_104 (ti_c (ig29 (B + 15) 9).toInt rfl fun z38 hz38 => ?_)
            have k39 : 0 ≤ (ig29 (B + 15) 9).toInt ∧ (ig29 (B + 15) 9).toInt ≤ 288 := hI.i 15 9 (by decide)
            refine lv_istore_n (lv' := [(1, .int z38), (0, .ref (B + 15))]) hx hb dX5_settle_107 rfl hl (by decide) rfl (fun ls hl => ?_)
            refine lv_aload_n hx hb dX5_settle_108 rfl (lv_at hl 1 rfl) ?_
            refine r_callV (As := []) (rest := []) C hw (t_X5_findRingsE l B D cA kd28 ig29 rg30 lg31 _  σ (gr8.F hW) hR8 gr8.1 hI) sv_X5_72 (hsh 15 _ rfl) rfl hl.1 rfl (Nat.le_of_ble_eq_true rfl) ⟨Nat.le_of_ble_eq_true rfl, Nat.le_of_ble_eq_true rfl⟩ ⟨Nat.le_of_ble_eq_true rfl, Nat.le_of_ble_eq_true rfl⟩ dX5_settle_109 (fun r44 kd40 ig41 rg42 lg43 H locs hw hH hp45 => ?_)
            obtain ⟨hI, hchp45, hrhp45⟩ := hp45
            have hN := hN.tr hchp45
            have hsh := hI.sh
            have hrs := hI.rs
            obtain ⟨rfl, hvhp45⟩ := hrhp45
            obtain ⟨phvhp45, ohvhp45, khvhp45_0, khvhp45_1⟩ := hvhp45
            have hO := hO.tr ohvhp45
            have kwhvhp45_9_6 : (ig41 (B + 9) 6).toInt = (ig29 (B + 9) 6).toInt := by rw [ohvhp45.i 9 6]
            have gr7 : LkF B σ ig41 lg43 := (gr8.F hW).ag (by omega) (fun i => ohvhp45.i 16 i) (fun j => ohvhp45.l 18 j)
            have hF7 := phvhp45
            have la7 : LAz B ig41 lg43 := gr8.la.ag (by omega) (fun i => ohvhp45.i 16 i) (fun j => ohvhp45.l 18 j)
            have hF72 := hF7.2.2
            refine lv_aload_n hx hb dX5_settle_112 rfl (lv_at hl 1 rfl) ?_
            refine lv_iload_n hx hb dX5_settle_113 rfl (lv_at hl 0 rfl) ?_
            refine r_callV (As := [.int z38]) (rest := []) C hw (t_X5_releaseE l B D cA kd40 ig41 rg42 lg43 _ z38 σ gr7 (Rg σ) (by omega) (by have q9 := hF7.1; rw [show oN B ig29 = z38.toInt.toNat by unfold oN; omega] at q9; exact q9) hI) sv_X5_69 (hsh 15 _ rfl) rfl hl.1 rfl (Nat.le_of_ble_eq_true rfl) ⟨Nat.le_of_ble_eq_true rfl, Nat.le_of_ble_eq_true rfl⟩ ⟨Nat.le_of_ble_eq_true rfl, Nat.le_of_ble_eq_true rfl⟩ dX5_settle_114 (fun r50 kd46 ig47 rg48 lg49 H locs hw hH hp51 => ?_)
            obtain ⟨hI, hchp51, hrhp51⟩ := hp51
            have hN := hN.tr hchp51
            have hsh := hI.sh
            have hrs := hI.rs
            obtain ⟨rfl, hvhp51⟩ := hrhp51
            obtain ⟨phvhp51, ohvhp51, khvhp51_0, khvhp51_1⟩ := hvhp51
            have hO := hO.tr ohvhp51
            have kwhvhp51_9_6 : (ig47 (B + 9) 6).toInt = (ig41 (B + 9) 6).toInt := by rw [ohvhp51.i 9 6]
            exact r_vret C hw hr hlk (Nat.le_of_ble_eq_true rfl) (Nat.le_of_ble_eq_true rfl) dX5_settle_117 ⟨hI, hN, ⟨rfl, ⟨⟨⟨gr7.ag (by omega) (fun i => ohvhp51.i 16 i) (fun j => ohvhp51.l 18 j), hF7.2.1.ag (fun p => ohvhp51.i 20 p), LkS.ok phvhp51 (fun p hp => RLk.whole phvhp51 hp)⟩, la7.ag (by omega) (fun i => ohvhp51.i 16 i) (fun j => ohvhp51.l 18 j), by omega⟩, hO⟩⟩⟩
        · refine lv_aload_n hx hb dX5_settle_49 rfl (lv_at hl 1 rfl) ?_
          refine r_get C hw (hsh 15 _ rfl) fl_X5_15 (oV_r rfl (hrs (15, 1, 16) (by decide))) dX5_settle_50 ?_
          refine lv_iload_n hx hb dX5_settle_53 rfl (lv_at hl 0 rfl) ?_
          refine r_iald C hw (hsh 16 _ rfl) (by omega) (by omega) dX5_settle_54 (ti_c (ig22 (B + 16) v20.toInt.toNat).toInt rfl fun z52 hz52 => ?_)
          have k53 : 0 ≤ (ig22 (B + 16) (v20.toInt.toNat)).toInt ∧ (ig22 (B + 16) (v20.toInt.toNat)).toInt ≤ 287 := hI.i 16 (v20.toInt.toNat) (by decide)
          have hfk : fL B ig22 v20.toInt.toNat = z52.toInt.toNat := by unfold fL; rw [← hz52]
          have hfo9 : fo σ z52.toInt.toNat := hfk ▸ (g41_2.2.1 _ (by unfold fN; omega)).2
          have ho9 := hfo9.1
          refine lv_istore_n (lv' := [(2, .int z52), (1, .int v20), (0, .ref (B + 15))]) hx hb dX5_settle_55 rfl hl (by decide) rfl (fun ls hl => ?_)
          refine lv_aload_n hx hb dX5_settle_56 rfl (lv_at hl 2 rfl) ?_
          refine r_get C hw (hsh 15 _ rfl) fl_X5_33 (oV_r rfl (hrs (15, 7, 21) (by decide))) dX5_settle_57 ?_
          refine lv_iload_n hx hb dX5_settle_60 rfl (lv_at hl 0 rfl) ?_
          refine lv_aload_n hx hb dX5_settle_61 rfl (lv_at hl 2 rfl) ?_
          refine lv_iload_n hx hb dX5_settle_62 rfl (lv_at hl 0 rfl) ?_
          refine r_callV (As := [.int z52]) (rest := [.int z52, .ref (B + 21)]) C hw (t_X5_formulasReadByE l B D cA kd21 ig22 rg23 lg24 _ z52 (by omega) hI) sv_X5_61 (hsh 15 _ rfl) rfl hl.1 rfl (Nat.le_of_ble_eq_true rfl) ⟨Nat.le_of_ble_eq_true rfl, Nat.le_of_ble_eq_true rfl⟩ ⟨Nat.le_of_ble_eq_true rfl, Nat.le_of_ble_eq_true rfl⟩ dX5_settle_63 (fun r58 kd54 ig55 rg56 lg57 H locs hw hH hp59 => ?_)
          obtain ⟨rfl, rfl, rfl, rfl, hzhp59, hrhp59⟩ := hp59
          obtain ⟨z60, rfl, hz60⟩ := hrhp59
          have hcn := g41_2.cn (p := z52.toInt.toNat) (by omega)
          obtain ⟨k9, ek9⟩ : ∃ k9, k9 = cnt (fRB B lg24 z52.toInt.toNat) 320 := ⟨_, rfl⟩
          rw [← ek9] at hcn
          have hz9 : z60.toInt = (k9 : Int) := by rw [hz60, ek9]
          refine r_iast C hw (hsh 21 _ rfl) (by omega) (by omega) dX5_settle_66 (fun H locs hH hw => ?_)
          have hO0 := hO
          obtain ⟨ig61, eig61⟩ : ∃ f, f = up2 ig22 (B + 21) z52.toInt.toNat z60 := ⟨_, rfl⟩
          rw [← eig61] at hw
          have hN : Nx 1014 B none kd ig rg lg kd21 ig61 rg23 lg24 := by rw [eig61]; exact hN.pi (by omega)
          have hI : IC τ B kd21 ig61 rg23 := by rw [eig61]; exact hI.pi (show okR none _ from trivial)
          have wig61_15_2 : (ig61 (B + 15) 2).toInt = (ig22 (B + 15) 2).toInt := by rw [eig61, up2_a (by omega)]
          have wig61_15_9 : (ig61 (B + 15) 9).toInt = (ig22 (B + 15) 9).toInt := by rw [eig61, up2_a (by omega)]
          have wig61_15_11 : (ig61 (B + 15) 11).toInt = (ig22 (B + 15) 11).toInt := by rw [eig61, up2_a (by omega)]
          have wig61_9_6 : (ig61 (B + 9) 6).toInt = (ig22 (B + 9) 6).toInt := by rw [eig61, up2_a (by omega)]
          have hO : Fo B [15, 16, 17, 18, 19, 20, 21, 22, 23] ig lg ig61 lg24 := by rw [eig61]; exact hO0.pi (by decide)
          clear hO0
          have w21 : (ig61 (B + 21) z52.toInt.toNat).toInt = (k9 : Int) := by rw [eig61, up2_eq]; exact hz9
          have ns9 : ¬ ∃ i, i < v20.toInt.toNat ∧ fL B ig22 i = z52.toInt.toNat := fun w9 => w9.elim fun i q9 => by have q7 := q9.1; have q8 := g41_2.inj (i := i) (j := v20.toInt.toNat) (by unfold fN; omega) (by unfold fN; omega) (q9.2.trans hfk.symm); omega
          have ew9 : wT B ig61 = upZ (wT B ig22) z52.toInt.toNat (k9 : Int) := by rw [eig61, wT_up, hz9]
          have ef9 : ∀ i, fL B ig61 i = fL B ig22 i := fun i => by unfold fL; rw [eig61, up2_a (by omega)]
          have gr9 : GRk B σ ig61 lg24 := g41_2.ag (by rw [eig61, up2_a (by omega)]) (fun i => by rw [eig61, up2_a (by omega)]) (fun p => by rw [eig61, up2_a (by omega)]) (fun j => ⟨rfl, rfl⟩)
          refine lv_aload_n hx hb dX5_settle_67 rfl (lv_at hl 2 rfl) ?_
          refine r_get C hw (hsh 15 _ rfl) fl_X5_33 (oV_r rfl (hrs (15, 7, 21) (by decide))) dX5_settle_68 ?_
          refine lv_iload_n hx hb dX5_settle_71 rfl (lv_at hl 0 rfl) ?_
          refine r_iald C hw (hsh 21 _ rfl) (by omega) (by omega) dX5_settle_72 (ti_c (ig61 (B + 21) z52.toInt.toNat).toInt rfl fun z62 hz62 => ?_)
          have J81 : ∀ (ls : Array Slot) (H : Heap) (locs : List Loc) (kd63 : sK) (ig64 : sI) (rg65 : sR) (lg66 : sG) , lv_has ls 3 [(1, .int v20), (0, .ref (B + 15))] → WD B D cA s.heap kd63 ig64 rg65 lg66 H locs → IC τ B kd63 ig64 rg65 → Nx 1014 B none kd ig rg lg kd63 ig64 rg65 lg66 → (GRk B σ ig64 lg66) → (RL0 σ (fun p => ∃ i, i < (v20.toInt.toNat + 1) ∧ fL B ig64 i = p) (oD B ig64) (oN B ig64) (wT B ig64)) → (0 ≤ (ig64 (B + 15) 9).toInt ∧ (ig64 (B + 15) 9).toInt ≤ v20.toInt + 1) → ((ig64 (B + 15) 11).toInt = (ν : Int)) → (Fo B [15, 16, 17, 18, 19, 20, 21, 22, 23] ig lg ig64 lg66) → W p l e (rL 5 0 0) s m args below meth c H locs 0 0 (MQ below (QcW B D cA (PI 1014 τ B none kd ig rg lg (fun r kd' ig' rg' lg' => (r = none ∧ ((LSt B σ ig' lg' ∧ LAz B ig' lg' ∧ (ig' (B + 15) 11).toInt = (ν : Int)) ∧ Fo B [15, 16, 17, 18, 19, 20, 21, 22, 23] ig lg ig' lg'))))) args s 0 0 (fun q => B ≤ q)) (F0 m 81 ls []) := by
            intro ls H locs kd63 ig64 rg65 lg66 hl hw hI hN g81_0 g81_1 g81_2 g81_3 g81_4
            have hsh := hI.sh
            have hrs := hI.rs
            have hO := g81_4
            refine tc_inc hx hb dX5_settle_81 hl (k := 0) rfl (by decide) (by decide) (fun z67 hz67 ls hl => ?_)
            first | replace hz67 := hz67 (by omega) | clear hz67
            have hl : lv_has ls 3 [(1, .int z67), (0, .ref (B + 15))] := hl
            refine lv_goto (tgt := 41) hx hb dX5_settle_84 (by decide) ?_
            exact ih41 ls H locs kd63 ig64 rg65 lg66 z67 (lv_sub hl [0, 1] rfl) hw hI hN (by omega) (by omega) (g81_0) (by rw [show z67.toInt.toNat = v20.toInt.toNat + 1 by omega]; exact g81_1) (by omega) (by omega) (hO) (by omega)
          refine z_ne (tgt := 81) hx hb dX5_settle_73 (by decide) (fun c73 => ?_) (fun c73 => ?_)
          · exact J81 ls H locs kd21 ig61 rg23 lg24 (lv_sub hl [1, 2] rfl) hw hI hN (gr9) ((by have q9 := RL0.skip g41_3 (r := z52.toInt.toNat) (k := k9) hfo9 ns9 hcn (by omega); rw [← ew9] at q9; have q8 := RL0.eqf (RL0.eqS q9 (SIs hfk)) ef9; rw [oDn_up eig61, oNn_up eig61]; exact q8)) (by omega) (by omega) (hO)
          · refine lv_aload_n hx hb dX5_settle_76 rfl (lv_at hl 2 rfl) ?_
            refine lv_iload_n hx hb dX5_settle_77 rfl (lv_at hl 0 rfl) ?_
            refine r_callV (As := [.int z52]) (rest := []) C hw (t_X5_appendToOrderE l B D cA kd21 ig61 rg23 lg24 _ z52 (by omega) hI) sv_X5_65 (hsh 15 _ rfl) rfl hl.1 rfl (Nat.le_of_ble_eq_true rfl) ⟨Nat.le_of_ble_eq_true rfl, Nat.le_of_ble_eq_true rfl⟩ ⟨Nat.le_of_ble_eq_true rfl, Nat.le_of_ble_eq_true rfl⟩ dX5_settle_78 (fun r72 kd68 ig69 rg70 lg71 H locs hw hH hp73 => ?_)
            obtain ⟨hI, hchp73, hrhp73⟩ := hp73
            have hN := hN.tr hchp73
            have hsh := hI.sh
            have hrs := hI.rs
            obtain ⟨rfl, hvhp73⟩ := hrhp73
            obtain ⟨phvhp73, ohvhp73, khvhp73_0, khvhp73_1⟩ := hvhp73
            have hO := hO.tr ohvhp73
            have kwhvhp73_9_6 : (ig69 (B + 9) 6).toInt = (ig61 (B + 9) 6).toInt := by rw [ohvhp73.i 9 6]
            exact J81 ls H locs kd68 ig69 rg70 lg71 (lv_sub hl [1, 2] rfl) hw hI hN (gr9.ag (by omega) (fun i => ohvhp73.i 16 i) (fun p => ohvhp73.i 20 p) (fun j => ⟨ohvhp73.l 17 j, ohvhp73.l 18 j⟩)) ((by have k0 : k9 = 0 := (by omega); subst k0; have q9 := RL0.put g41_3 (r := z52.toInt.toNat) hfo9 ns9 hcn; rw [show ((0 : Int)) = ((0 : Nat) : Int) from rfl, ← ew9] at q9; have q8 := RL0.eqf (ig' := ig69) (RL0.eqS q9 (SIs hfk)) (fun i => by rw [← ef9]; unfold fL; rw [ohvhp73.i 16 _]); have ed := ApO.d phvhp73 (by omega); have en := ApO.n phvhp73 (by omega); rw [oDn_up eig61, oNn_up eig61] at ed; rw [oNn_up eig61] at en; rw [ed, en, show wT B ig69 = wT B ig61 from funext fun p => by unfold wT; rw [ohvhp73.i 21 _]]; exact q8)) (by have q9 := phvhp73.1; omega) (by omega) (hO)
    exact L41 ((288 - z19.toInt) + 1).toNat ls H locs kd11 ig18 rg13 lg14 z19 (lv_sub hl [0, 1] rfl) hw hI hN (by omega) (by omega) ((GRk.of phvhp16).ag (by rw [eig18, up2_j (by decide)]) (fun i => by rw [eig18, up2_a (by omega)]) (fun p => by rw [eig18, up2_a (by omega)]) (fun j => ⟨rfl, rfl⟩)) (by rw [show oN B ig18 = 0 by unfold oN; omega]; exact RL0.zero (fun p w9 => w9.elim fun i q9 => by have := q9.1; omega)) (by omega) (by omega) (hO) (by omega)
  · exact r_vret C hw hr hlk (Nat.le_of_ble_eq_true rfl) (Nat.le_of_ble_eq_true rfl) dX5_settle_14 ⟨hI, hN, ⟨rfl, ⟨⟨hLv.2.2 (by omega), hLv.2.1, by omega⟩, hO⟩⟩⟩
