section REFS
variable {τ : Tp} {φ : Option Int} {B N : Nat} {ig ig' ig1 : sI} {lg lg' : sG} {v : Int32}
def C3 (B : Nat) (ig : sI) (v : Int32) : Prop := (ig (B + 49) 8).toInt = 0 → 0 ≤ v.toInt ∧ v.toInt < 12
def DV (B N : Nat) (ig : sI) : Prop := (ig (B + 49) 8).toInt = 0 → (ig (B + 49) 7).toInt < (N : Int)
def EV (B N : Nat) (m : Int) (ig : sI) (lg : sG) : Prop := (ig (B + 49) 8).toInt = 0 → (ig (B + 49) 7).toInt < (N : Int) ∧ 1 ≤ (lg (B + 53) (ig (B + 49) 7).toInt.toNat).toInt ∧ (lg (B + 53) (ig (B + 49) 7).toInt.toNat).toInt ≤ m
theorem C3.pr (h : C3 B ig v) (hp : PR B ig ig') : C3 B ig' v := fun q => h (hp.2.2.1 q)
/-- the items' columns and rows are as they were -/
def IA (B : Nat) (ig ig' : sI) : Prop := ∀ j, ig' (B + 55) j = ig (B + 55) j ∧ ig' (B + 56) j = ig (B + 56) j
theorem IA.rf : IA B ig ig := fun _ => ⟨rfl, rfl⟩
theorem IA.ft {T : List Nat} (h : IA B ig ig1) (hF : Ft B T ig1 lg ig' lg') (hT : ∀ q ∈ T, 55 ≠ q ∧ 56 ≠ q) : IA B ig ig' := fun j => by
  rw [hF.i 55 j (fun x hx => (hT x hx).1), hF.i 56 j (fun x hx => (hT x hx).2)]
  exact h j
theorem IA.wr {c i : Nat} (h : IA B ig ig') (hc : c ≠ 55 ∧ c ≠ 56) : IA B ig (up2 ig' (B + c) i v) := fun j => by
  rw [up2_c (by omega), up2_c (by omega)]
  exact h j
/-- how far left and up the second REF of a SPAN may be -/
def LX (B : Nat) (x : Int32) (ig : sI) (lc lr : Int) : Prop := (x.toInt = -1 ∧ lc = 0 ∧ lr = 0) ∨ (34560 ≤ x.toInt ∧ (ig (B + 55) x.toInt.toNat).toInt = lc ∧ (ig (B + 56) x.toInt.toNat).toInt = lr)
theorem LX.z {x : Int32} {lc lr : Int} (h : LX B x ig lc lr) : x.toInt ≠ -1 ∨ (lc = 0 ∧ lr = 0) := by
  unfold LX at h
  omega
theorem LX.c {x : Int32} {lc lr : Int} (h : LX B x ig lc lr) (hx : 0 ≤ x.toInt) : (ig (B + 55) x.toInt.toNat).toInt = lc := by
  rcases h with h | h
  · omega
  · exact h.2.1
theorem LX.r {x : Int32} {lc lr : Int} (h : LX B x ig lc lr) (hx : 0 ≤ x.toInt) : (ig (B + 56) x.toInt.toNat).toInt = lr := by
  rcases h with h | h
  · omega
  · exact h.2.2
theorem QR.x {K V S : Nat → Int} {lc lr f0 a0 f a co : Int} {X : Nat → Prop} (h : QR K V S lc lr f0 a0 f a co X) (hf : f = 0) : X a.toNat := by
  rcases h with h | ⟨-, -, a1, -, -, -, -, -, -, x⟩
  · exact absurd hf h.ne
  · exact x
end REFS
/-- the items as they were -/
def IBx (B : Nat) (ig ig' : sI) : Prop := ∀ c k, 54 ≤ c → c ≤ 61 → ig' (B + c) k = ig (B + c) k
theorem IBx.rf {B : Nat} {ig : sI} : IBx B ig ig := fun _ _ _ _ => rfl
theorem IBx.ft {B : Nat} {ig ig' ig1 : sI} {lg lg' : sG} {T : List Nat} (h : IBx B ig ig1) (hF : Ft B T ig1 lg ig' lg') (hT : ∀ q ∈ T, ¬ (54 ≤ q ∧ q ≤ 61)) : IBx B ig ig' := fun c k a b => by
  rw [hF.i c k (fun q hq e => by have := hT q hq; omega)]
  exact h c k a b
theorem IBx.wr {B : Nat} {ig ig' : sI} {v : Int32} {c i : Nat} (h : IBx B ig ig') (hc : c < 54 ∨ 61 < c) : IBx B ig (up2 ig' (B + c) i v) := fun c2 k a b => by
  rw [up2_c (by omega)]
  exact h c2 k a b
theorem IBx.nd {B : Nat} {ig ig' : sI} (h : IBx B ig ig') : NDr B ig ig' := fun c k a b _ => h c k a b
/-- which of column and row are fixed, by how far the reader went -/
def Qf (K : Nat → Int) (a0 f a fx : Int) : Prop := f = 0 → ∃ a1 : Nat, dol K a0.toNat a1 ∧ dol K (a1 + 1) a.toNat ∧ 0 ≤ a ∧ fx = ((a1 : Int) - a0) + 2 * (a - ((a1 : Int) + 1))
theorem Qf.mk {K V S : Nat → Int} {lc lr f0 a0 f a co f' a' fx gx : Int} (q : Q3 K V S lc lr f0 a0 f a co) (hf : f' = f) (hx : f = 0 → fx = a - 1 - a0 ∧ 0 ≤ a) (hd : f = 0 → (K a.toNat = 36 ∧ a' = a + 1 ∧ gx = 1) ∨ (K a.toNat ≠ 36 ∧ a' = a ∧ gx = 0)) : Qf K a0 f' a' (fx + 2 * gx) := fun e => by
  rw [hf] at e
  rcases q with q | ⟨e0, -, a1, d1, -, -, -, ea⟩
  · exact absurd e q.ne
  · obtain ⟨x1, x2⟩ := hx e
    refine ⟨a1, d1, ?_⟩
    rw [show a.toNat = a1 + 1 by omega] at hd
    rcases hd e with ⟨h1, h2, h3⟩ | ⟨h1, h2, h3⟩
    · exact ⟨Or.inl ⟨h1, by omega⟩, by omega, by omega⟩
    · exact ⟨Or.inr ⟨h1, by omega⟩, by omega, by omega⟩
theorem Qf.no {K : Nat → Int} {a0 f a fx : Int} (hf : f ≠ 0) : Qf K a0 f a fx := fun e => (hf e).elim
theorem dol.dl {τ : Tp} {a a1 : Nat} (d : dol (tK τ) a a1) : dlf τ a a1 ((a1 : Int) - (a : Int)) := by
  rcases d with ⟨h1, h2⟩ | ⟨h1, h2⟩
  · exact Or.inl ⟨h1, h2, by omega⟩
  · exact Or.inr ⟨h1, h2, by omega⟩
theorem Ref.it {τ : Tp} {lc lr f0 a0 f a co fx : Int} (q : QR (tK τ) (tV τ) (tS τ) lc lr f0 a0 f a co (fun q => tK τ q = 110 ∧ (1 ≤ tV τ q ∧ tV τ q ≤ 24) ∧ lr ≤ tV τ q - 1)) (qf : Qf (tK τ) a0 f a fx) (hf : f = 0) (h0 : 0 ≤ a0) : f0 = 0 ∧ (0 ≤ fx ∧ fx ≤ 3) ∧ ∀ h : Nat, tRf τ h a0.toNat (a.toNat + 1) (pkW (fx % 2) (fx / 2) co (tV τ a.toNat - 1) (h : Int)) := by
  rcases q with q | ⟨e0, -, a1, d1, o1, -, ec, d2, ha, x1, x2, -⟩
  · exact absurd hf q.ne
  · obtain ⟨a1', d1', d2', -, efx⟩ := qf hf
    obtain rfl := d1.det d1'
    have b1 := d1.dl
    have b2 := d2.dl
    have c1 := b1.b
    have c2 := b2.b
    refine ⟨e0, by omega, fun h => ⟨a1, a.toNat, fx % 2, fx / 2, ?_, o1, ?_, ⟨x1, x2.1, x2.2⟩, rfl, by rw [ec]⟩⟩
    · rw [show fx % 2 = (a1 : Int) - (a0.toNat : Int) by omega]; exact b1
    · rw [show fx / 2 = (a.toNat : Int) - ((a1 + 1 : Nat) : Int) by omega]; exact b2
theorem l_sub1 {a b x : Int64} (h : x = a - b) (hb : b.toInt = 1) (ha : 0 ≤ a.toInt) : x.toInt = a.toInt - 1 := by
  subst h
  have h1 := Int64.toInt_lt a
  rw [Int64.toInt_sub, hb, Int.bmod_eq_of_le (by omega) (by omega)]

set_option maxHeartbeats 4000000 in
set_option maxRecDepth 100000 in
theorem t_X12_readRef {υ : Option Int} {τ : Tp} (l : Launch) (B : Nat) (D : va_G) (cA : Nat → ClassId) (kd : sK) (ig : sI) (rg : sR) (lg : sG) (sz : Nat) (x : Int32) (N : Nat) (hpv : PV B N ig) (hmt : MT B N τ ig lg) (hx0 : x.toInt = -1 ∨ (34560 ≤ x.toInt ∧ x.toInt < 34690)) (lc lr : Int) (hlx : LX B x ig lc lr) (hI : IM [] none υ B kd ig rg) : MC l B D cA yX12_readRef cX12_readRef 4 none (rL 2 0 0) [.ref (B + 49), .int x] kd ig rg lg sz (PM [] none υ B [49, 54, 55, 56, 57, 58] kd ig rg lg (fun r ig' lg' => (r = none ∧ (PV B N ig' ∧ PR B ig ig' ∧ ((ig' (B + 49) 8).toInt = 0 → RS B ig ig') ∧ (∃ c r, FR (tK τ) (tV τ) (tS τ) lc lr (ig (B + 49) 8).toInt (ig (B + 49) 7).toInt (ig' (B + 49) 8).toInt (ig' (B + 49) 7).toInt c r ∧ ((ig' (B + 49) 8).toInt = 0 → mA B ig' (34560 + (ig (B + 58) 288).toInt.toNat) = c ∧ mB B ig' (34560 + (ig (B + 58) 288).toInt.toNat) = r)) ∧ TRk B τ ig ig')))) := by
  refine MC.of (own := RX12) (by decide +kernel) rfl (Nat.le_of_ble_eq_true rfl) ?_
  intro p e s m args below meth c ls C hr hlk hnm hw hsz hl
  have hx := C.1.1
  have hb := C.1.2.1
  have hown := C.1.2.2.2.1
  have hts := C.1.2.2.2.2
  have hl : lv_has ls 4 [(0, .ref (B + 49)), (1, .int x)] := hl
  have hF : Ft B [49, 54, 55, 56, 57, 58] ig lg ig lg := Ft.rf
  have hsh := hI.sh
  have hrm := hI.rm
  have pv := hpv
  have mt := hmt
  obtain ⟨hps, hat, hfa, hit, hN⟩ := hpv
  have hl0 := hlx.z
  have pr : PR B ig ig := PR.rf
  have ie : ig (B + 58) 288 = ig (B + 58) 288 := rfl
  have ia : IA B ig ig := IA.rf
  have ib : IBx B ig ig := IBx.rf
  refine lv_aload_n hx hb dX12_readRef_0 rfl (lv_at hl 0 rfl) ?_
  refine lv_bipush (v := 36) hx hb dX12_readRef_1 (by decide) (ti_c 36 (by decide) fun z1 hz1 => ?_)
  refine r_callV (As := [.int z1]) (rest := []) C hw (t_X12_hasSign l B D cA kd ig rg lg _ z1 N pv mt hI) sv_X12_183 (hsh 49 _ rfl) rfl hl.1 rfl (Nat.le_of_ble_eq_true rfl) ⟨Nat.le_of_ble_eq_true rfl, Nat.le_of_ble_eq_true rfl⟩ ⟨Nat.le_of_ble_eq_true rfl, Nat.le_of_ble_eq_true rfl⟩ dX12_readRef_3 (fun r6 kd2 ig3 rg4 lg5 H locs hw hH hp7 => ?_)
  obtain ⟨rfl, rfl, hI, hchp7, hrhp7⟩ := hp7
  have hF : Ft B [49, 54, 55, 56, 57, 58] ig lg ig3 lg5 := Ft.tr hF hchp7 (by decide) (by decide)
  obtain ⟨z8, rfl, hz8⟩ := hrhp7
  obtain ⟨zb, pv, pr1, hsd, hfe⟩ := hz8
  have fz1 : (z8.toInt = 0 ∨ z8.toInt = 1) ∧ z8.toInt = (ig3 (B + 49) 7).toInt - (ig (B + 49) 7).toInt := (by rcases hsd with ⟨w1, -, w2⟩ | ⟨w1, -, w2⟩ <;> omega)
  have q1 : Q1 (tK τ) (ig (B + 49) 8).toInt (ig (B + 49) 7).toInt (ig3 (B + 49) 8).toInt (ig3 (B + 49) 7).toInt := Q1.mk (by omega) (by omega) (fun q => (by rcases hsd with ⟨-, w1, w2⟩ | ⟨-, w1, w2⟩; exact Or.inl ⟨(SG.k mt hat w1).trans hz1, w2⟩; exact Or.inr ⟨fun e9 => SG.kn mt hat (by unfold sgn; omega) q w1 (e9.trans hz1.symm), w2⟩))
  clear hsd zb
  have pr := pr.tr pr1
  have ie := (hchp7.i 58 288 (by decide)).trans ie
  have mt := MT.ft mt hchp7 (by decide)
  have ia := IA.ft ia hchp7 (by decide)
  have ib := IBx.ft ib hchp7 (by decide)
  have pvn := pv
  obtain ⟨hps, hat, hfa, hit, hN⟩ := pvn
  have J14 : ∀ (ls : Array Slot) (H : Heap) (locs : List Loc) (ig10 : sI) (lg11 : sG) (u9 : Int32), lv_has ls 4 [(0, .ref (B + 49)), (1, .int x)] → WD B D cA s.heap kd ig10 rg lg11 H locs → IM [] none υ B kd ig10 rg → Ft B [49, 54, 55, 56, 57, 58] ig lg ig10 lg11 → (PV B N ig10) → (PR B ig ig10) → (ig10 (B + 58) 288 = ig (B + 58) 288) → (MT B N τ ig10 lg11) → (IA B ig ig10) → (IBx B ig ig10) → (Q1 (tK τ) (ig (B + 49) 8).toInt (ig (B + 49) 7).toInt (ig10 (B + 49) 8).toInt (ig10 (B + 49) 7).toInt) → ((u9.toInt = 0 ∨ u9.toInt = 1) ∧ u9.toInt = (ig10 (B + 49) 7).toInt - (ig (B + 49) 7).toInt) → W p l e (rL 2 0 0) s m args below meth c H locs 0 0 (MQ below (QcW B D cA (PM [] none υ B [49, 54, 55, 56, 57, 58] kd ig rg lg (fun r ig' lg' => (r = none ∧ (PV B N ig' ∧ PR B ig ig' ∧ ((ig' (B + 49) 8).toInt = 0 → RS B ig ig') ∧ (∃ c r, FR (tK τ) (tV τ) (tS τ) lc lr (ig (B + 49) 8).toInt (ig (B + 49) 7).toInt (ig' (B + 49) 8).toInt (ig' (B + 49) 7).toInt c r ∧ ((ig' (B + 49) 8).toInt = 0 → mA B ig' (34560 + (ig (B + 58) 288).toInt.toNat) = c ∧ mB B ig' (34560 + (ig (B + 58) 288).toInt.toNat) = r)) ∧ TRk B τ ig ig'))))) args s 0 0 (fun q => B ≤ q)) (F0 m 14 ls [.int u9]) := by
    intro ls H locs ig10 lg11 u9 hl hw hI hF g14_0 g14_1 g14_2 g14_3 g14_4 g14_5 g14_6 g14_7
    have pv := g14_0
    have pr := g14_1
    have ie := g14_2
    have mt := g14_3
    have ia := g14_4
    have ib := g14_5
    have q1 := g14_6
    have fx14 := g14_7
    have pvn := pv
    obtain ⟨hps, hat, hfa, hit, hN⟩ := pvn
    refine lv_istore_n (lv' := [(2, .int u9), (0, .ref (B + 49)), (1, .int x)]) hx hb dX12_readRef_14 rfl hl (by decide) rfl (fun ls hl => ?_)
    refine lv_aload_n hx hb dX12_readRef_15 rfl (lv_at hl 1 rfl) ?_
    refine r_callV (As := []) (rest := []) C hw (t_X12_isColumn l B D cA kd ig10 rg lg11 _  (by omega) hI) sv_X12_164 (hsh 49 _ rfl) rfl hl.1 rfl (Nat.le_of_ble_eq_true rfl) ⟨Nat.le_of_ble_eq_true rfl, Nat.le_of_ble_eq_true rfl⟩ ⟨Nat.le_of_ble_eq_true rfl, Nat.le_of_ble_eq_true rfl⟩ dX12_readRef_16 (fun r16 kd12 ig13 rg14 lg15 H locs hw hH hp17 => ?_)
    obtain ⟨rfl, rfl, rfl, rfl, hzhp17, hrhp17⟩ := hp17
    obtain ⟨z18, rfl, hz18⟩ := hrhp17
    have J62 : ∀ (ls : Array Slot) (H : Heap) (locs : List Loc) (ig19 : sI) (lg20 : sG) , lv_has ls 4 [(2, .int u9), (0, .ref (B + 49)), (1, .int x)] → WD B D cA s.heap kd ig19 rg lg20 H locs → IM [] none υ B kd ig19 rg → Ft B [49, 54, 55, 56, 57, 58] ig lg ig19 lg20 → (PV B N ig19) → (PR B ig ig19) → (ig19 (B + 58) 288 = ig (B + 58) 288) → (MT B N τ ig19 lg20) → (IA B ig ig19) → (IBx B ig ig19) → (EV B N 12 ig19 lg20) → (Q2 (tK τ) (tV τ) (tS τ) lc lr (ig (B + 49) 8).toInt (ig (B + 49) 7).toInt (ig19 (B + 49) 8).toInt (ig19 (B + 49) 7).toInt) → ((u9.toInt = 0 ∨ u9.toInt = 1) ∧ u9.toInt = (ig19 (B + 49) 7).toInt - (ig (B + 49) 7).toInt) → W p l e (rL 2 0 0) s m args below meth c H locs 0 0 (MQ below (QcW B D cA (PM [] none υ B [49, 54, 55, 56, 57, 58] kd ig rg lg (fun r ig' lg' => (r = none ∧ (PV B N ig' ∧ PR B ig ig' ∧ ((ig' (B + 49) 8).toInt = 0 → RS B ig ig') ∧ (∃ c r, FR (tK τ) (tV τ) (tS τ) lc lr (ig (B + 49) 8).toInt (ig (B + 49) 7).toInt (ig' (B + 49) 8).toInt (ig' (B + 49) 7).toInt c r ∧ ((ig' (B + 49) 8).toInt = 0 → mA B ig' (34560 + (ig (B + 58) 288).toInt.toNat) = c ∧ mB B ig' (34560 + (ig (B + 58) 288).toInt.toNat) = r)) ∧ TRk B τ ig ig'))))) args s 0 0 (fun q => B ≤ q)) (F0 m 62 ls []) := by
      intro ls H locs ig19 lg20 hl hw hI hF g62_0 g62_1 g62_2 g62_3 g62_4 g62_5 g62_6 g62_7 g62_8
      have pv := g62_0
      have pr := g62_1
      have ie := g62_2
      have mt := g62_3
      have ia := g62_4
      have ib := g62_5
      have cv := g62_6
      have q2 := g62_7
      have fx62 := g62_8
      have pvn := pv
      obtain ⟨hps, hat, hfa, hit, hN⟩ := pvn
      refine lv_aload_n hx hb dX12_readRef_62 rfl (lv_at hl 1 rfl) ?_
      refine r_get C hw (hsh 49 _ rfl) fl_X12_45 (oV_r rfl (hrm (49, 6, 53) (by decide))) dX12_readRef_63 ?_
      refine lv_aload_n hx hb dX12_readRef_66 rfl (lv_at hl 1 rfl) ?_
      refine r_get C hw (hsh 49 _ rfl) fl_X12_49 (oV_i rfl) dX12_readRef_67 (ti_c (ig19 (B + 49) 7).toInt rfl fun z21 hz21 => ?_)
      have ezz21 : nEq z21.toInt.toNat (ig19 (B + 49) 7).toInt.toNat := by show _ = _; omega
      refine r_lald C hw (hsh 53 _ rfl) (by omega) (by omega) dX12_readRef_70 (lv_topl fun x22 hx22 => ?_)
      have tx22 : x22.toInt = (lg20 (B + 53) (ig19 (B + 49) 7).toInt.toNat).toInt := by have q := hx22; rw [nEq.e ezz21] at q; exact congrArg Int64.toInt q
      refine lv_l2i hx hb dX12_readRef_71 rfl (lv_topi fun z23 hz23 => ?_)
      refine lv_iconst (v := 1) hx hb dX12_readRef_72 (by decide) (ti_c 1 (by decide) fun z24 hz24 => ?_)
      refine lv_isub hx hb dX12_readRef_73 (tc_sub fun z25 hz25 => ?_)
      have chz25 := hz25
      first | replace hz25 := hz25 (by omega) | clear hz25
      refine lv_istore_n (lv' := [(3, .int z25), (2, .int u9), (0, .ref (B + 49)), (1, .int x)]) hx hb dX12_readRef_74 rfl hl (by decide) rfl (fun ls hl => ?_)
      have c3 : C3 B ig19 z25 := fun q => by
        obtain ⟨a1, a2, a3⟩ := cv q
        have e1 := l2i_e hz23 (by omega) (by omega)
        have e2 := chz25 (by omega)
        omega
      have hco : (ig19 (B + 49) 8).toInt = 0 → z25.toInt = tV τ (ig19 (B + 49) 7).toInt.toNat := fun q => by
        obtain ⟨a1, a2, a3⟩ := cv q
        have e1 := l2i_e hz23 (by omega) (by omega)
        have e2 := chz25 (by omega)
        rcases q2 with w | ⟨-, -, -, -, ho, -⟩
        · exact absurd q w.ne
        · have e3 := mt_colv mt hat ((mt_col mt hat).mpr ho)
          omega
      clear chz25
      refine lv_aload_n hx hb dX12_readRef_75 rfl (lv_at hl 2 rfl) ?_
      refine lv_dup hx hb dX12_readRef_76 rfl ?_
      refine r_get C hw (hsh 49 _ rfl) fl_X12_49 (oV_i rfl) dX12_readRef_77 (ti_c (ig19 (B + 49) 7).toInt rfl fun z26 hz26 => ?_)
      refine lv_aload_n hx hb dX12_readRef_80 rfl (lv_at hl 2 rfl) ?_
      refine r_get C hw (hsh 49 _ rfl) fl_X12_52 (oV_i rfl) dX12_readRef_81 (ti_c (ig19 (B + 49) 8).toInt rfl fun z27 hz27 => ?_)
      have J92 : ∀ (ls : Array Slot) (H : Heap) (locs : List Loc) (ig29 : sI) (lg30 : sG) (u28 : Int32), lv_has ls 4 [(3, .int z25), (2, .int u9), (0, .ref (B + 49)), (1, .int x)] → WD B D cA s.heap kd ig29 rg lg30 H locs → IM [] none υ B kd ig29 rg → Ft B [49, 54, 55, 56, 57, 58] ig lg ig29 lg30 → (PV B N ig29) → (PR B ig ig29) → (ig29 (B + 58) 288 = ig (B + 58) 288) → (MT B N τ ig29 lg30) → (IA B ig ig29) → (IBx B ig ig29) → (C3 B ig29 z25) → ((u28.toInt = 0 ∧ (ig29 (B + 49) 8).toInt ≠ 0) ∨ (u28.toInt = 1 ∧ (ig29 (B + 49) 8).toInt = 0 ∧ (ig29 (B + 49) 7).toInt < (N : Int))) → (z26.toInt = (ig29 (B + 49) 7).toInt) → (Q2 (tK τ) (tV τ) (tS τ) lc lr (ig (B + 49) 8).toInt (ig (B + 49) 7).toInt (ig29 (B + 49) 8).toInt (ig29 (B + 49) 7).toInt) → ((ig29 (B + 49) 8).toInt = 0 → z25.toInt = tV τ (ig29 (B + 49) 7).toInt.toNat) → ((u9.toInt = 0 ∨ u9.toInt = 1) ∧ u9.toInt = (ig29 (B + 49) 7).toInt - (ig (B + 49) 7).toInt) → W p l e (rL 2 0 0) s m args below meth c H locs 0 0 (MQ below (QcW B D cA (PM [] none υ B [49, 54, 55, 56, 57, 58] kd ig rg lg (fun r ig' lg' => (r = none ∧ (PV B N ig' ∧ PR B ig ig' ∧ ((ig' (B + 49) 8).toInt = 0 → RS B ig ig') ∧ (∃ c r, FR (tK τ) (tV τ) (tS τ) lc lr (ig (B + 49) 8).toInt (ig (B + 49) 7).toInt (ig' (B + 49) 8).toInt (ig' (B + 49) 7).toInt c r ∧ ((ig' (B + 49) 8).toInt = 0 → mA B ig' (34560 + (ig (B + 58) 288).toInt.toNat) = c ∧ mB B ig' (34560 + (ig (B + 58) 288).toInt.toNat) = r)) ∧ TRk B τ ig ig'))))) args s 0 0 (fun q => B ≤ q)) (F0 m 92 ls [.int u28, .int z26, .ref (B + 49)]) := by
        intro ls H locs ig29 lg30 u28 hl hw hI hF g92_0 g92_1 g92_2 g92_3 g92_4 g92_5 g92_6 g92_7 g92_8 g92_9 g92_10 g92_11
        have pv := g92_0
        have pr := g92_1
        have ie := g92_2
        have mt := g92_3
        have ia := g92_4
        have ib := g92_5
        have c3 := g92_6
        have q2 := g92_9
        have hco := g92_10
        have fx92 := g92_11
        have pvn := pv
        obtain ⟨hps, hat, hfa, hit, hN⟩ := pvn
        refine lv_iadd hx hb dX12_readRef_92 (tc_add fun z31 hz31 => ?_)
        have chz31 := hz31
        first | replace hz31 := hz31 (by omega) | clear hz31
        refine r_puti C hw (hsh 49 _ rfl) fl_X12_49 rfl rfl rfl dX12_readRef_93 (fun H locs hH hw => ?_)
        obtain ⟨ig32, eig32⟩ : ∃ f, f = up2 ig29 (B + 49) 7 z31 := ⟨_, rfl⟩
        rw [← eig32] at hw
        have hF : Ft B [49, 54, 55, 56, 57, 58] ig lg ig32 lg30 := by rw [eig32]; exact hF.pi (by decide)
        have hI : IM [] none υ B kd ig32 rg := by rw [eig32]; exact hI.pi (by decide) (show okR none _ from trivial)
        have wig32 : (ig32 (B + 49) 7).toInt = z31.toInt := by rw [eig32, up2_eq]
        have wig32_49_8 : (ig32 (B + 49) 8).toInt = (ig29 (B + 49) 8).toInt := by rw [eig32, up2_j (by decide)]
        have q3 : Q3 (tK τ) (tV τ) (tS τ) lc lr (ig (B + 49) 8).toInt (ig (B + 49) 7).toInt (ig32 (B + 49) 8).toInt (ig32 (B + 49) 7).toInt z25.toInt := Q3.mk q2 (by rw [eig32, up2_j (by decide)]) (fun q => ⟨by rw [eig32, up2_eq]; omega, hco q⟩)
        obtain ⟨pv, pr1⟩ : PV B N ig32 ∧ PR B ig29 ig32 := by rw [eig32]; exact pv.at (by omega)
        have pr := pr.tr pr1
        have ie : ig32 (B + 58) 288 = ig (B + 58) 288 := by rw [eig32, up2_c (by decide)]; exact ie
        have mt : MT B N τ ig32 lg30 := by rw [eig32]; exact mt.wr (by decide)
        have ia : IA B ig ig32 := by rw [eig32]; exact ia.wr (by decide)
        have ib : IBx B ig ig32 := by rw [eig32]; exact ib.wr (by omega)
        have a93 : (ig32 (B + 49) 8).toInt = 0 → u9.toInt = (ig32 (B + 49) 7).toInt - 1 - (ig (B + 49) 7).toInt := fun q => by rw [eig32, up2_eq]; rw [eig32, up2_j (by decide)] at q; omega
        have c3 := c3.pr pr1
        have pvn := pv
        obtain ⟨hps, hat, hfa, hit, hN⟩ := pvn
        refine lv_iload_n hx hb dX12_readRef_96 rfl (lv_at hl 1 rfl) ?_
        refine lv_aload_n hx hb dX12_readRef_97 rfl (lv_at hl 2 rfl) ?_
        refine lv_bipush (v := 36) hx hb dX12_readRef_98 (by decide) (ti_c 36 (by decide) fun z33 hz33 => ?_)
        refine r_callV (As := [.int z33]) (rest := [.int u9]) C hw (t_X12_hasSign l B D cA kd ig32 rg lg30 _ z33 N pv mt hI) sv_X12_183 (hsh 49 _ rfl) rfl hl.1 rfl (Nat.le_of_ble_eq_true rfl) ⟨Nat.le_of_ble_eq_true rfl, Nat.le_of_ble_eq_true rfl⟩ ⟨Nat.le_of_ble_eq_true rfl, Nat.le_of_ble_eq_true rfl⟩ dX12_readRef_100 (fun r38 kd34 ig35 rg36 lg37 H locs hw hH hp39 => ?_)
        obtain ⟨rfl, rfl, hI, hchp39, hrhp39⟩ := hp39
        have hF : Ft B [49, 54, 55, 56, 57, 58] ig lg ig35 lg37 := Ft.tr hF hchp39 (by decide) (by decide)
        obtain ⟨z40, rfl, hz40⟩ := hrhp39
        have hat9 := hat
        have q3z := q3
        obtain ⟨zb, pv, pr1, hsd, hfe⟩ := hz40
        have fz2 : z40.toInt = 0 ∨ z40.toInt = 1 := zb
        have qf : Qf (tK τ) (ig (B + 49) 7).toInt (ig35 (B + 49) 8).toInt (ig35 (B + 49) 7).toInt (u9.toInt + 2 * z40.toInt) := Qf.mk q3 hfe (fun q => ⟨by omega, by omega⟩) (fun q => (by rcases hsd with ⟨w0, w1, w2⟩ | ⟨w0, w1, w2⟩; exact Or.inl ⟨(SG.k mt hat w1).trans hz33, w2, by omega⟩; exact Or.inr ⟨fun e9 => SG.kn mt hat (by unfold sgn; omega) q w1 (e9.trans hz33.symm), w2, by omega⟩))
        have q4 : QR (tK τ) (tV τ) (tS τ) lc lr (ig (B + 49) 8).toInt (ig (B + 49) 7).toInt (ig35 (B + 49) 8).toInt (ig35 (B + 49) 7).toInt z25.toInt (fun _ => True) := QR.mk q3 hfe (fun q => (by rcases hsd with ⟨-, w1, w2⟩ | ⟨-, w1, w2⟩; exact Or.inl ⟨(SG.k mt hat w1).trans hz33, w2⟩; exact Or.inr ⟨fun e9 => SG.kn mt hat (by unfold sgn; omega) q w1 (e9.trans hz33.symm), w2⟩))
        clear hsd zb
        have pr := pr.tr pr1
        have ie := (hchp39.i 58 288 (by decide)).trans ie
        have mt := MT.ft mt hchp39 (by decide)
        have ia := IA.ft ia hchp39 (by decide)
        have ib := IBx.ft ib hchp39 (by decide)
        have c3 := c3.pr pr1
        have pvn := pv
        obtain ⟨hps, hat, hfa, hit, hN⟩ := pvn
        have J111 : ∀ (ls : Array Slot) (H : Heap) (locs : List Loc) (ig42 : sI) (lg43 : sG) (u41 : Int32), lv_has ls 4 [(3, .int z25), (0, .ref (B + 49)), (1, .int x)] → WD B D cA s.heap kd ig42 rg lg43 H locs → IM [] none υ B kd ig42 rg → Ft B [49, 54, 55, 56, 57, 58] ig lg ig42 lg43 → (PV B N ig42) → (PR B ig ig42) → (ig42 (B + 58) 288 = ig (B + 58) 288) → (MT B N τ ig42 lg43) → (IA B ig ig42) → (IBx B ig ig42) → (C3 B ig42 z25) → (QR (tK τ) (tV τ) (tS τ) lc lr (ig (B + 49) 8).toInt (ig (B + 49) 7).toInt (ig42 (B + 49) 8).toInt (ig42 (B + 49) 7).toInt z25.toInt (fun _ => True)) → (Qf (tK τ) (ig (B + 49) 7).toInt (ig42 (B + 49) 8).toInt (ig42 (B + 49) 7).toInt (u9.toInt + u41.toInt)) → ((u9.toInt = 0 ∨ u9.toInt = 1) ∧ (u41.toInt = 0 ∨ u41.toInt = 2)) → W p l e (rL 2 0 0) s m args below meth c H locs 0 0 (MQ below (QcW B D cA (PM [] none υ B [49, 54, 55, 56, 57, 58] kd ig rg lg (fun r ig' lg' => (r = none ∧ (PV B N ig' ∧ PR B ig ig' ∧ ((ig' (B + 49) 8).toInt = 0 → RS B ig ig') ∧ (∃ c r, FR (tK τ) (tV τ) (tS τ) lc lr (ig (B + 49) 8).toInt (ig (B + 49) 7).toInt (ig' (B + 49) 8).toInt (ig' (B + 49) 7).toInt c r ∧ ((ig' (B + 49) 8).toInt = 0 → mA B ig' (34560 + (ig (B + 58) 288).toInt.toNat) = c ∧ mB B ig' (34560 + (ig (B + 58) 288).toInt.toNat) = r)) ∧ TRk B τ ig ig'))))) args s 0 0 (fun q => B ≤ q)) (F0 m 111 ls [.int u41, .int u9]) := by
          intro ls H locs ig42 lg43 u41 hl hw hI hF g111_0 g111_1 g111_2 g111_3 g111_4 g111_5 g111_6 g111_7 g111_8 g111_9
          have pv := g111_0
          have pr := g111_1
          have ie := g111_2
          have mt := g111_3
          have ia := g111_4
          have ib := g111_5
          have c3 := g111_6
          have q4 := g111_7
          have qf1 := g111_8
          have fx111 := g111_9
          have pvn := pv
          obtain ⟨hps, hat, hfa, hit, hN⟩ := pvn
          refine lv_iadd hx hb dX12_readRef_111 (tc_add fun z44 hz44 => ?_)
          have chz44 := hz44
          first | replace hz44 := hz44 (by omega) | clear hz44
          refine lv_istore_n (lv' := [(2, .int z44), (3, .int z25), (0, .ref (B + 49)), (1, .int x)]) hx hb dX12_readRef_112 rfl hl (by decide) rfl (fun ls hl => ?_)
          have qf : Qf (tK τ) (ig (B + 49) 7).toInt (ig42 (B + 49) 8).toInt (ig42 (B + 49) 7).toInt z44.toInt := by have w := qf1; rw [show _ = z44.toInt from (by omega : u9.toInt + u41.toInt = z44.toInt)] at w; exact w
          refine lv_aload_n hx hb dX12_readRef_113 rfl (lv_at hl 2 rfl) ?_
          refine r_get C hw (hsh 49 _ rfl) fl_X12_52 (oV_i rfl) dX12_readRef_114 (ti_c (ig42 (B + 49) 8).toInt rfl fun z45 hz45 => ?_)
          have J225 : ∀ (ls : Array Slot) (H : Heap) (locs : List Loc) (ig46 : sI) (lg47 : sG) , lv_has ls 4 [(2, .int z44), (3, .int z25), (0, .ref (B + 49))] → WD B D cA s.heap kd ig46 rg lg47 H locs → IM [] none υ B kd ig46 rg → Ft B [49, 54, 55, 56, 57, 58] ig lg ig46 lg47 → (PV B N ig46) → (PR B ig ig46) → (ig46 (B + 58) 288 = ig (B + 58) 288) → (MT B N τ ig46 lg47) → (IA B ig ig46) → (IBx B ig ig46) → (C3 B ig46 z25) → (EV B N 24 ig46 lg47) → (QR (tK τ) (tV τ) (tS τ) lc lr (ig (B + 49) 8).toInt (ig (B + 49) 7).toInt (ig46 (B + 49) 8).toInt (ig46 (B + 49) 7).toInt z25.toInt (fun q => tK τ q = 110 ∧ (1 ≤ tV τ q ∧ tV τ q ≤ 24) ∧ lr ≤ tV τ q - 1)) → (Qf (tK τ) (ig (B + 49) 7).toInt (ig46 (B + 49) 8).toInt (ig46 (B + 49) 7).toInt z44.toInt) → W p l e (rL 2 0 0) s m args below meth c H locs 0 0 (MQ below (QcW B D cA (PM [] none υ B [49, 54, 55, 56, 57, 58] kd ig rg lg (fun r ig' lg' => (r = none ∧ (PV B N ig' ∧ PR B ig ig' ∧ ((ig' (B + 49) 8).toInt = 0 → RS B ig ig') ∧ (∃ c r, FR (tK τ) (tV τ) (tS τ) lc lr (ig (B + 49) 8).toInt (ig (B + 49) 7).toInt (ig' (B + 49) 8).toInt (ig' (B + 49) 7).toInt c r ∧ ((ig' (B + 49) 8).toInt = 0 → mA B ig' (34560 + (ig (B + 58) 288).toInt.toNat) = c ∧ mB B ig' (34560 + (ig (B + 58) 288).toInt.toNat) = r)) ∧ TRk B τ ig ig'))))) args s 0 0 (fun q => B ≤ q)) (F0 m 225 ls []) := by
            intro ls H locs ig46 lg47 hl hw hI hF g225_0 g225_1 g225_2 g225_3 g225_4 g225_5 g225_6 g225_7 g225_8 g225_9
            have pv := g225_0
            have pr := g225_1
            have ie := g225_2
            have mt := g225_3
            have ia := g225_4
            have ib := g225_5
            have c3 := g225_6
            have ev := g225_7
            have q7 := g225_8
            have qf := g225_9
            have pvn := pv
            obtain ⟨hps, hat, hfa, hit, hN⟩ := pvn
            refine lv_aload_n hx hb dX12_readRef_225 rfl (lv_at hl 2 rfl) ?_
            refine r_get C hw (hsh 49 _ rfl) fl_X12_52 (oV_i rfl) dX12_readRef_226 (ti_c (ig46 (B + 49) 8).toInt rfl fun z48 hz48 => ?_)
            refine z_ne (tgt := 261) hx hb dX12_readRef_229 (by decide) (fun c229 => ?_) (fun c229 => ?_)
            · obtain ⟨c9, r9, fr9⟩ : ∃ c r, FR (tK τ) (tV τ) (tS τ) lc lr (ig (B + 49) 8).toInt (ig (B + 49) 7).toInt (ig46 (B + 49) 8).toInt (ig46 (B + 49) 7).toInt c r := (by rcases q7 with w | ⟨-, w, -⟩; exact w.fr; omega)
              have fin : (PV B N ig46 ∧ PR B ig ig46 ∧ ((ig46 (B + 49) 8).toInt = 0 → RS B ig ig46) ∧ (∃ c r, FR (tK τ) (tV τ) (tS τ) lc lr (ig (B + 49) 8).toInt (ig (B + 49) 7).toInt (ig46 (B + 49) 8).toInt (ig46 (B + 49) 7).toInt c r ∧ ((ig46 (B + 49) 8).toInt = 0 → mA B ig46 (34560 + (ig (B + 58) 288).toInt.toNat) = c ∧ mB B ig46 (34560 + (ig (B + 58) 288).toInt.toNat) = r)) ∧ TRk B τ ig ig46) := ⟨pv, pr, fun q => absurd q (by omega), ⟨c9, r9, fr9, fun q => absurd q (by omega)⟩, TRk.no ib.nd (by omega)⟩
              exact r_vret C hw hr hlk (Nat.le_of_ble_eq_true rfl) (Nat.le_of_ble_eq_true rfl) dX12_readRef_261 ⟨rfl, rfl, hI, hF, ⟨rfl, fin⟩⟩
            · obtain ⟨e1, e2, e3⟩ := ev (by omega)
              obtain ⟨c1, c2⟩ := c3 (by omega)
              refine lv_aload_n hx hb dX12_readRef_232 rfl (lv_at hl 2 rfl) ?_
              refine lv_iconst (v := 3) hx hb dX12_readRef_233 (by decide) (ti_c 3 (by decide) fun z49 hz49 => ?_)
              refine lv_iload_n hx hb dX12_readRef_234 rfl (lv_at hl 1 rfl) ?_
              refine lv_aload_n hx hb dX12_readRef_235 rfl (lv_at hl 2 rfl) ?_
              refine r_get C hw (hsh 49 _ rfl) fl_X12_45 (oV_r rfl (hrm (49, 6, 53) (by decide))) dX12_readRef_236 ?_
              refine lv_aload_n hx hb dX12_readRef_239 rfl (lv_at hl 2 rfl) ?_
              refine r_get C hw (hsh 49 _ rfl) fl_X12_49 (oV_i rfl) dX12_readRef_240 (ti_c (ig46 (B + 49) 7).toInt rfl fun z50 hz50 => ?_)
              have ezz50 : nEq z50.toInt.toNat (ig46 (B + 49) 7).toInt.toNat := by show _ = _; omega
              refine r_lald C hw (hsh 53 _ rfl) (by omega) (by omega) dX12_readRef_243 (lv_topl fun x51 hx51 => ?_)
              have tx51 : x51.toInt = (lg47 (B + 53) (ig46 (B + 49) 7).toInt.toNat).toInt := by have q := hx51; rw [nEq.e ezz50] at q; exact congrArg Int64.toInt q
              refine lv_l2i hx hb dX12_readRef_244 rfl (lv_topi fun z52 hz52 => ?_)
              have lez52 := l2i_e hz52 (by omega) (by omega)
              refine lv_iconst (v := 1) hx hb dX12_readRef_245 (by decide) (ti_c 1 (by decide) fun z53 hz53 => ?_)
              refine lv_isub hx hb dX12_readRef_246 (tc_sub fun z54 hz54 => ?_)
              have chz54 := hz54
              first | replace hz54 := hz54 (by omega) | clear hz54
              refine lv_iload_n hx hb dX12_readRef_247 rfl (lv_at hl 0 rfl) ?_
              refine r_callV (As := [.int z49, .int z25, .int z54, .int z44]) (rest := []) C hw (t_X12_add l B D cA kd ig46 rg lg47 _ z49 z25 z54 z44 (by omega) hI) sv_X12_143 (hsh 49 _ rfl) rfl hl.1 rfl (Nat.le_of_ble_eq_true rfl) ⟨Nat.le_of_ble_eq_true rfl, Nat.le_of_ble_eq_true rfl⟩ ⟨Nat.le_of_ble_eq_true rfl, Nat.le_of_ble_eq_true rfl⟩ dX12_readRef_248 (fun r59 kd55 ig56 rg57 lg58 H locs hw hH hp60 => ?_)
              obtain ⟨rfl, rfl, hI, hchp60, hrhp60⟩ := hp60
              have hF : Ft B [49, 54, 55, 56, 57, 58] ig lg ig56 lg58 := Ft.tr hF hchp60 (by decide) (by decide)
              obtain ⟨rfl, hvhp60⟩ := hrhp60
              have a7 := congrArg Int32.toInt (hchp60.i 49 7 (by decide))
              have a8 := congrArg Int32.toInt (hchp60.i 49 8 (by decide))
              refine lv_aload_n hx hb dX12_readRef_251 rfl (lv_at hl 2 rfl) ?_
              refine lv_dup hx hb dX12_readRef_252 rfl ?_
              refine r_get C hw (hsh 49 _ rfl) fl_X12_49 (oV_i rfl) dX12_readRef_253 (ti_c (ig56 (B + 49) 7).toInt rfl fun z61 hz61 => ?_)
              refine lv_iconst (v := 1) hx hb dX12_readRef_256 (by decide) (ti_c 1 (by decide) fun z62 hz62 => ?_)
              refine lv_iadd hx hb dX12_readRef_257 (tc_add fun z63 hz63 => ?_)
              have chz63 := hz63
              first | replace hz63 := hz63 (by omega) | clear hz63
              refine r_puti C hw (hsh 49 _ rfl) fl_X12_49 rfl rfl rfl dX12_readRef_258 (fun H locs hH hw => ?_)
              obtain ⟨ig64, eig64⟩ : ∃ f, f = up2 ig56 (B + 49) 7 z63 := ⟨_, rfl⟩
              rw [← eig64] at hw
              have hF : Ft B [49, 54, 55, 56, 57, 58] ig lg ig64 lg58 := by rw [eig64]; exact hF.pi (by decide)
              have hI : IM [] none υ B kd ig64 rg := by rw [eig64]; exact hI.pi (by decide) (show okR none _ from trivial)
              have wig64 : (ig64 (B + 49) 7).toInt = z63.toInt := by rw [eig64, up2_eq]
              have wig64_49_8 : (ig64 (B + 49) 8).toInt = (ig56 (B + 49) 8).toInt := by rw [eig64, up2_j (by decide)]
              have fin3 := ADD.at (v := z63) hvhp60.1 pv hchp60 (by omega) (by omega) (by decide) (by decide) (by decide)
              rw [← eig64] at fin3
              have rs := (ADD.rs fin3.2.2 (by omega) (by omega) (by omega)).at ie.symm
              have frr := QR.ok (f' := (ig64 (B + 49) 8).toInt) (a' := (ig64 (B + 49) 7).toInt) q7 (by omega) (by rw [eig64, up2_j (by decide)]; omega) (by rw [eig64, up2_eq]; omega)
              have e9 := mt_numv mt hat ((mt_num mt hat).mpr (QR.x q7 (by omega)).1)
              have ab : mA B ig64 (34560 + (ig (B + 58) 288).toInt.toNat) = z25.toInt ∧ mB B ig64 (34560 + (ig (B + 58) 288).toInt.toNat) = tV τ (ig46 (B + 49) 7).toInt.toNat - 1 := by
                have y1 := fin3.2.2.2.1
                rw [ie] at y1
                simp only [mA, mB]
                rw [y1.2.1, y1.2.2]
                exact ⟨rfl, by omega⟩
              have rit := Ref.it q7 qf (by omega) (by omega)
              have trk : TRk B τ ig ig64 := TRk.add (x := z49) (y := z25) (u := z54) (w := z44) fin3.2.2 (by rw [eig64]; exact hvhp60.2.at) (by omega) (fun c k a b => by rw [eig64, up2_c (by omega)]; exact hchp60.i c k (fun q hq e => by have := hq; simp at this; omega)) (fun k => ib 58 k (by decide) (by decide)) ib (fun _ => ⟨fun _ => by omega, fun q => absurd (show z49.toInt = 3 by omega) q, fun q => absurd q (by omega)⟩) (fun q => ⟨rit.1, fun h => Or.inr (Or.inr (Or.inr ⟨_, by rw [if_pos (show z49.toInt = 3 by omega)], by have w := rit.2.2 h; rw [show tV τ (ig46 (B + 49) 7).toInt.toNat - 1 = z54.toInt by omega] at w; rw [show (ig64 (B + 49) 7).toInt.toNat = (ig46 (B + 49) 7).toInt.toNat + 1 by rw [eig64, up2_eq]; omega]; exact w⟩))⟩)
              have fin : (PV B N ig64 ∧ PR B ig ig64 ∧ ((ig64 (B + 49) 8).toInt = 0 → RS B ig ig64) ∧ (∃ c r, FR (tK τ) (tV τ) (tS τ) lc lr (ig (B + 49) 8).toInt (ig (B + 49) 7).toInt (ig64 (B + 49) 8).toInt (ig64 (B + 49) 7).toInt c r ∧ ((ig64 (B + 49) 8).toInt = 0 → mA B ig64 (34560 + (ig (B + 58) 288).toInt.toNat) = c ∧ mB B ig64 (34560 + (ig (B + 58) 288).toInt.toNat) = r)) ∧ TRk B τ ig ig64) := ⟨fin3.1, pr.tr fin3.2.1, fun _ => rs, ⟨_, _, frr, fun _ => ab⟩, trk⟩
              exact r_vret C hw hr hlk (Nat.le_of_ble_eq_true rfl) (Nat.le_of_ble_eq_true rfl) dX12_readRef_261 ⟨rfl, rfl, hI, hF, ⟨rfl, fin⟩⟩
          have J141 : ∀ (ls : Array Slot) (H : Heap) (locs : List Loc) (ig65 : sI) (lg66 : sG) , lv_has ls 4 [(2, .int z44), (3, .int z25), (0, .ref (B + 49)), (1, .int x)] → WD B D cA s.heap kd ig65 rg lg66 H locs → IM [] none υ B kd ig65 rg → Ft B [49, 54, 55, 56, 57, 58] ig lg ig65 lg66 → (PV B N ig65) → (PR B ig ig65) → (ig65 (B + 58) 288 = ig (B + 58) 288) → (MT B N τ ig65 lg66) → (IA B ig ig65) → (IBx B ig ig65) → (C3 B ig65 z25) → (DV B N ig65) → (QR (tK τ) (tV τ) (tS τ) lc lr (ig (B + 49) 8).toInt (ig (B + 49) 7).toInt (ig65 (B + 49) 8).toInt (ig65 (B + 49) 7).toInt z25.toInt (fun q => tK τ q = 110)) → (Qf (tK τ) (ig (B + 49) 7).toInt (ig65 (B + 49) 8).toInt (ig65 (B + 49) 7).toInt z44.toInt) → W p l e (rL 2 0 0) s m args below meth c H locs 0 0 (MQ below (QcW B D cA (PM [] none υ B [49, 54, 55, 56, 57, 58] kd ig rg lg (fun r ig' lg' => (r = none ∧ (PV B N ig' ∧ PR B ig ig' ∧ ((ig' (B + 49) 8).toInt = 0 → RS B ig ig') ∧ (∃ c r, FR (tK τ) (tV τ) (tS τ) lc lr (ig (B + 49) 8).toInt (ig (B + 49) 7).toInt (ig' (B + 49) 8).toInt (ig' (B + 49) 7).toInt c r ∧ ((ig' (B + 49) 8).toInt = 0 → mA B ig' (34560 + (ig (B + 58) 288).toInt.toNat) = c ∧ mB B ig' (34560 + (ig (B + 58) 288).toInt.toNat) = r)) ∧ TRk B τ ig ig'))))) args s 0 0 (fun q => B ≤ q)) (F0 m 141 ls []) := by
            intro ls H locs ig65 lg66 hl hw hI hF g141_0 g141_1 g141_2 g141_3 g141_4 g141_5 g141_6 g141_7 g141_8 g141_9
            have pv := g141_0
            have pr := g141_1
            have ie := g141_2
            have mt := g141_3
            have ia := g141_4
            have ib := g141_5
            have c3 := g141_6
            have dv := g141_7
            have q5 := g141_8
            have qf := g141_9
            have pvn := pv
            obtain ⟨hps, hat, hfa, hit, hN⟩ := pvn
            refine lv_aload_n hx hb dX12_readRef_141 rfl (lv_at hl 2 rfl) ?_
            refine r_get C hw (hsh 49 _ rfl) fl_X12_52 (oV_i rfl) dX12_readRef_142 (ti_c (ig65 (B + 49) 8).toInt rfl fun z67 hz67 => ?_)
            have J186 : ∀ (ls : Array Slot) (H : Heap) (locs : List Loc) (ig68 : sI) (lg69 : sG) , lv_has ls 4 [(2, .int z44), (3, .int z25), (0, .ref (B + 49)), (1, .int x)] → WD B D cA s.heap kd ig68 rg lg69 H locs → IM [] none υ B kd ig68 rg → Ft B [49, 54, 55, 56, 57, 58] ig lg ig68 lg69 → (PV B N ig68) → (PR B ig ig68) → (ig68 (B + 58) 288 = ig (B + 58) 288) → (MT B N τ ig68 lg69) → (IA B ig ig68) → (IBx B ig ig68) → (C3 B ig68 z25) → (EV B N 24 ig68 lg69) → (QR (tK τ) (tV τ) (tS τ) lc lr (ig (B + 49) 8).toInt (ig (B + 49) 7).toInt (ig68 (B + 49) 8).toInt (ig68 (B + 49) 7).toInt z25.toInt (fun q => tK τ q = 110 ∧ 1 ≤ tV τ q ∧ tV τ q ≤ 24)) → (Qf (tK τ) (ig (B + 49) 7).toInt (ig68 (B + 49) 8).toInt (ig68 (B + 49) 7).toInt z44.toInt) → W p l e (rL 2 0 0) s m args below meth c H locs 0 0 (MQ below (QcW B D cA (PM [] none υ B [49, 54, 55, 56, 57, 58] kd ig rg lg (fun r ig' lg' => (r = none ∧ (PV B N ig' ∧ PR B ig ig' ∧ ((ig' (B + 49) 8).toInt = 0 → RS B ig ig') ∧ (∃ c r, FR (tK τ) (tV τ) (tS τ) lc lr (ig (B + 49) 8).toInt (ig (B + 49) 7).toInt (ig' (B + 49) 8).toInt (ig' (B + 49) 7).toInt c r ∧ ((ig' (B + 49) 8).toInt = 0 → mA B ig' (34560 + (ig (B + 58) 288).toInt.toNat) = c ∧ mB B ig' (34560 + (ig (B + 58) 288).toInt.toNat) = r)) ∧ TRk B τ ig ig'))))) args s 0 0 (fun q => B ≤ q)) (F0 m 186 ls []) := by
              intro ls H locs ig68 lg69 hl hw hI hF g186_0 g186_1 g186_2 g186_3 g186_4 g186_5 g186_6 g186_7 g186_8 g186_9
              have pv := g186_0
              have pr := g186_1
              have ie := g186_2
              have mt := g186_3
              have ia := g186_4
              have ib := g186_5
              have c3 := g186_6
              have ev := g186_7
              have q6 := g186_8
              have qf := g186_9
              have pvn := pv
              obtain ⟨hps, hat, hfa, hit, hN⟩ := pvn
              refine lv_aload_n hx hb dX12_readRef_186 rfl (lv_at hl 2 rfl) ?_
              refine r_get C hw (hsh 49 _ rfl) fl_X12_52 (oV_i rfl) dX12_readRef_187 (ti_c (ig68 (B + 49) 8).toInt rfl fun z70 hz70 => ?_)
              refine z_ne (tgt := 225) hx hb dX12_readRef_190 (by decide) (fun c190 => ?_) (fun c190 => ?_)
              · exact J225 ls H locs ig68 lg69 (lv_sub hl [0, 1, 2] rfl) hw hI hF (pv) (pr) (ie) (mt) (ia) (ib) (c3) (ev) (QR.st q6 (fun q x9 => by first | exact absurd q (by omega) | exact ⟨x9.1, x9.2, by have e9 := mt_numv mt hat ((mt_num mt hat).mpr x9.1); omega⟩)) (qf)
              · refine lv_iload_n hx hb dX12_readRef_193 rfl (lv_at hl 3 rfl) ?_
                refine z_lt (tgt := 225) hx hb dX12_readRef_194 (by decide) (fun c194 => ?_) (fun c194 => ?_)
                · exact J225 ls H locs ig68 lg69 (lv_sub hl [0, 1, 2] rfl) hw hI hF (pv) (pr) (ie) (mt) (ia) (ib) (c3) (ev) (QR.st q6 (fun q x9 => by first | exact absurd q (by omega) | exact ⟨x9.1, x9.2, by have e9 := mt_numv mt hat ((mt_num mt hat).mpr x9.1); omega⟩)) (qf)
                · refine lv_aload_n hx hb dX12_readRef_197 rfl (lv_at hl 2 rfl) ?_
                  refine r_get C hw (hsh 49 _ rfl) fl_X12_45 (oV_r rfl (hrm (49, 6, 53) (by decide))) dX12_readRef_198 ?_
                  refine lv_aload_n hx hb dX12_readRef_201 rfl (lv_at hl 2 rfl) ?_
                  refine r_get C hw (hsh 49 _ rfl) fl_X12_49 (oV_i rfl) dX12_readRef_202 (ti_c (ig68 (B + 49) 7).toInt rfl fun z71 hz71 => ?_)
                  have evv := ev (by omega)
                  have ezz71 : nEq z71.toInt.toNat (ig68 (B + 49) 7).toInt.toNat := by show _ = _; omega
                  refine r_lald C hw (hsh 53 _ rfl) (by omega) (by omega) dX12_readRef_205 (lv_topl fun x72 hx72 => ?_)
                  have tx72 : x72.toInt = (lg69 (B + 53) (ig68 (B + 49) 7).toInt.toNat).toInt := by have q := hx72; rw [nEq.e ezz71] at q; exact congrArg Int64.toInt q
                  refine lv_lconst (v := 1) hx hb dX12_readRef_206 (by decide) (lv_topl fun x73 hx73 => ?_)
                  have tx73 : x73.toInt = 1 := by rw [hx73]; decide
                  refine lv_lsub hx hb dX12_readRef_207 (lv_topl fun x74 hx74 => ?_)
                  have tx74 := l_sub1 hx74 tx73 (by omega)
                  refine lv_aload_n hx hb dX12_readRef_208 rfl (lv_at hl 2 rfl) ?_
                  refine r_get C hw (hsh 49 _ rfl) fl_X12_71 (oV_r rfl (hrm (49, 11, 56) (by decide))) dX12_readRef_209 ?_
                  refine lv_iload_n hx hb dX12_readRef_212 rfl (lv_at hl 3 rfl) ?_
                  refine r_iald C hw (hsh 56 _ rfl) (by omega) (by omega) dX12_readRef_213 (ti_c (ig68 (B + 56) x.toInt.toNat).toInt rfl fun z75 hz75 => ?_)
                  have iz75 : z75.toInt = lr := by rw [hz75, (ia _).2]; exact hlx.r (by omega)
                  refine lv_i2l hx hb dX12_readRef_214 rfl (lv_topl fun x77 hx77 => ?_)
                  have tx77 := congrArg Int64.toInt hx77
                  rw [Int32.toInt_toInt64] at tx77
                  refine W.lcmp hx hb dX12_readRef_215 (lv_topi fun z78 hz78 => ?_)
                  have lcz78 := lgc hz78
                  refine z_ge (tgt := 225) hx hb dX12_readRef_216 (by decide) (fun c216 => ?_) (fun c216 => ?_)
                  · exact J225 ls H locs ig68 lg69 (lv_sub hl [0, 1, 2] rfl) hw hI hF (pv) (pr) (ie) (mt) (ia) (ib) (c3) (ev) (QR.st q6 (fun q x9 => by first | exact absurd q (by omega) | exact ⟨x9.1, x9.2, by have e9 := mt_numv mt hat ((mt_num mt hat).mpr x9.1); omega⟩)) (qf)
                  · refine lv_aload_n hx hb dX12_readRef_219 rfl (lv_at hl 2 rfl) ?_
                    refine lv_bipush (v := 7) hx hb dX12_readRef_220 (by decide) (ti_c 7 (by decide) fun z79 hz79 => ?_)
                    refine r_callV (As := [.int z79]) (rest := []) C hw (t_X12_wrong l B D cA kd ig68 rg lg69 _ z79 N pv mt (by omega) hI) sv_X12_147 (hsh 49 _ rfl) rfl hl.1 rfl (Nat.le_of_ble_eq_true rfl) ⟨Nat.le_of_ble_eq_true rfl, Nat.le_of_ble_eq_true rfl⟩ ⟨Nat.le_of_ble_eq_true rfl, Nat.le_of_ble_eq_true rfl⟩ dX12_readRef_222 (fun r84 kd80 ig81 rg82 lg83 H locs hw hH hp85 => ?_)
                    obtain ⟨rfl, rfl, hI, hchp85, hrhp85⟩ := hp85
                    have hF : Ft B [49, 54, 55, 56, 57, 58] ig lg ig81 lg83 := Ft.tr hF hchp85 (by decide) (by decide)
                    obtain ⟨rfl, hvhp85⟩ := hrhp85
                    obtain ⟨pv, pr1, w3, w4, w5, w6⟩ := hvhp85
                    have q7 : QR (tK τ) (tV τ) (tS τ) lc lr (ig (B + 49) 8).toInt (ig (B + 49) 7).toInt (ig81 (B + 49) 8).toInt (ig81 (B + 49) 7).toInt z25.toInt (fun q => tK τ q = 110 ∧ (1 ≤ tV τ q ∧ tV τ q ≤ 24) ∧ lr ≤ tV τ q - 1) := Or.inl (QR.bad (k := 7) q6 (by decide) fw_ne (fun _ x9 => Or.inr (Or.inr ⟨rfl, x9.1, x9.2, by have e9 := mt_numv mt hat ((mt_num mt hat).mpr x9.1); omega⟩)) (fun q => by rw [w4 q]; unfold fw; omega) w5)
                    have qf : Qf (tK τ) (ig (B + 49) 7).toInt (ig81 (B + 49) 8).toInt (ig81 (B + 49) 7).toInt z44.toInt := Qf.no (by omega)
                    have pr := pr.tr pr1
                    have ie := (hchp85.i 58 288 (by decide)).trans ie
                    have mt := MT.ft mt hchp85 (by decide)
                    have ia := IA.ft ia hchp85 (by decide)
                    have ib := IBx.ft ib hchp85 (by decide)
                    have c3 := c3.pr pr1
                    have pvn := pv
                    obtain ⟨hps, hat, hfa, hit, hN⟩ := pvn
                    exact J225 ls H locs ig81 lg83 (lv_sub hl [0, 1, 2] rfl) hw hI hF (pv) (pr) (ie) (mt) (ia) (ib) (c3) (fun q => absurd q (by omega)) (q7) (qf)
            refine z_ne (tgt := 186) hx hb dX12_readRef_145 (by decide) (fun c145 => ?_) (fun c145 => ?_)
            · exact J186 ls H locs ig65 lg66 (lv_sub hl [0, 1, 2, 3] rfl) hw hI hF (pv) (pr) (ie) (mt) (ia) (ib) (c3) (fun q => absurd q (by omega)) (QR.st q5 (fun q => absurd q (by omega))) (qf)
            · refine lv_aload_n hx hb dX12_readRef_148 rfl (lv_at hl 2 rfl) ?_
              refine r_get C hw (hsh 49 _ rfl) fl_X12_45 (oV_r rfl (hrm (49, 6, 53) (by decide))) dX12_readRef_149 ?_
              refine lv_aload_n hx hb dX12_readRef_152 rfl (lv_at hl 2 rfl) ?_
              refine r_get C hw (hsh 49 _ rfl) fl_X12_49 (oV_i rfl) dX12_readRef_153 (ti_c (ig65 (B + 49) 7).toInt rfl fun z86 hz86 => ?_)
              have ezz86 : nEq z86.toInt.toNat (ig65 (B + 49) 7).toInt.toNat := by show _ = _; omega
              refine r_lald C hw (hsh 53 _ rfl) (by omega) (by omega) dX12_readRef_156 (lv_topl fun x87 hx87 => ?_)
              have tx87 : x87.toInt = (lg66 (B + 53) (ig65 (B + 49) 7).toInt.toNat).toInt := by have q := hx87; rw [nEq.e ezz86] at q; exact congrArg Int64.toInt q
              refine lv_lconst (v := 1) hx hb dX12_readRef_157 (by decide) (lv_topl fun x88 hx88 => ?_)
              have tx88 : x88.toInt = 1 := by rw [hx88]; decide
              refine W.lcmp hx hb dX12_readRef_158 (lv_topi fun z89 hz89 => ?_)
              have lcz89 := lgc hz89
              have J178 : ∀ (ls : Array Slot) (H : Heap) (locs : List Loc) (ig90 : sI) (lg91 : sG) , lv_has ls 4 [(2, .int z44), (3, .int z25), (0, .ref (B + 49))] → WD B D cA s.heap kd ig90 rg lg91 H locs → IM [] none υ B kd ig90 rg → Ft B [49, 54, 55, 56, 57, 58] ig lg ig90 lg91 → (PV B N ig90) → (PR B ig ig90) → (ig90 (B + 58) 288 = ig (B + 58) 288) → (MT B N τ ig90 lg91) → (IA B ig ig90) → (IBx B ig ig90) → (C3 B ig90 z25) → (QR (tK τ) (tV τ) (tS τ) lc lr (ig (B + 49) 8).toInt (ig (B + 49) 7).toInt (ig90 (B + 49) 8).toInt (ig90 (B + 49) 7).toInt z25.toInt (fun q => tK τ q = 110)) → ((lg91 (B + 53) (ig90 (B + 49) 7).toInt.toNat).toInt < 1 ∨ 24 < (lg91 (B + 53) (ig90 (B + 49) 7).toInt.toNat).toInt) → (Qf (tK τ) (ig (B + 49) 7).toInt (ig90 (B + 49) 8).toInt (ig90 (B + 49) 7).toInt z44.toInt) → W p l e (rL 2 0 0) s m args below meth c H locs 0 0 (MQ below (QcW B D cA (PM [] none υ B [49, 54, 55, 56, 57, 58] kd ig rg lg (fun r ig' lg' => (r = none ∧ (PV B N ig' ∧ PR B ig ig' ∧ ((ig' (B + 49) 8).toInt = 0 → RS B ig ig') ∧ (∃ c r, FR (tK τ) (tV τ) (tS τ) lc lr (ig (B + 49) 8).toInt (ig (B + 49) 7).toInt (ig' (B + 49) 8).toInt (ig' (B + 49) 7).toInt c r ∧ ((ig' (B + 49) 8).toInt = 0 → mA B ig' (34560 + (ig (B + 58) 288).toInt.toNat) = c ∧ mB B ig' (34560 + (ig (B + 58) 288).toInt.toNat) = r)) ∧ TRk B τ ig ig'))))) args s 0 0 (fun q => B ≤ q)) (F0 m 178 ls []) := by
                intro ls H locs ig90 lg91 hl hw hI hF g178_0 g178_1 g178_2 g178_3 g178_4 g178_5 g178_6 g178_7 g178_8 g178_9
                have pv := g178_0
                have pr := g178_1
                have ie := g178_2
                have mt := g178_3
                have ia := g178_4
                have ib := g178_5
                have c3 := g178_6
                have q5 := g178_7
                have vr := g178_8
                have qf := g178_9
                have pvn := pv
                obtain ⟨hps, hat, hfa, hit, hN⟩ := pvn
                refine lv_aload_n hx hb dX12_readRef_178 rfl (lv_at hl 2 rfl) ?_
                refine lv_iconst (v := 4) hx hb dX12_readRef_179 (by decide) (ti_c 4 (by decide) fun z92 hz92 => ?_)
                refine r_callV (As := [.int z92]) (rest := []) C hw (t_X12_wrong l B D cA kd ig90 rg lg91 _ z92 N pv mt (by omega) hI) sv_X12_147 (hsh 49 _ rfl) rfl hl.1 rfl (Nat.le_of_ble_eq_true rfl) ⟨Nat.le_of_ble_eq_true rfl, Nat.le_of_ble_eq_true rfl⟩ ⟨Nat.le_of_ble_eq_true rfl, Nat.le_of_ble_eq_true rfl⟩ dX12_readRef_180 (fun r97 kd93 ig94 rg95 lg96 H locs hw hH hp98 => ?_)
                obtain ⟨rfl, rfl, hI, hchp98, hrhp98⟩ := hp98
                have hF : Ft B [49, 54, 55, 56, 57, 58] ig lg ig94 lg96 := Ft.tr hF hchp98 (by decide) (by decide)
                obtain ⟨rfl, hvhp98⟩ := hrhp98
                obtain ⟨pv, pr1, w3, w4, w5, w6⟩ := hvhp98
                have q7 : QR (tK τ) (tV τ) (tS τ) lc lr (ig (B + 49) 8).toInt (ig (B + 49) 7).toInt (ig94 (B + 49) 8).toInt (ig94 (B + 49) 7).toInt z25.toInt (fun q => tK τ q = 110 ∧ (1 ≤ tV τ q ∧ tV τ q ≤ 24) ∧ lr ≤ tV τ q - 1) := Or.inl (QR.bad (k := 4) q5 (by decide) fw_ne (fun _ x9 => Or.inr (Or.inl ⟨rfl, x9, by have e9 := mt_numv mt hat ((mt_num mt hat).mpr x9); omega⟩)) (fun q => by rw [w4 q]; unfold fw; omega) w5)
                have qf : Qf (tK τ) (ig (B + 49) 7).toInt (ig94 (B + 49) 8).toInt (ig94 (B + 49) 7).toInt z44.toInt := Qf.no (by omega)
                have pr := pr.tr pr1
                have ie := (hchp98.i 58 288 (by decide)).trans ie
                have mt := MT.ft mt hchp98 (by decide)
                have ia := IA.ft ia hchp98 (by decide)
                have ib := IBx.ft ib hchp98 (by decide)
                have c3 := c3.pr pr1
                have pvn := pv
                obtain ⟨hps, hat, hfa, hit, hN⟩ := pvn
                refine lv_goto (tgt := 225) hx hb dX12_readRef_183 (by decide) ?_
                exact J225 ls H locs ig94 lg96 (lv_sub hl [0, 1, 2] rfl) hw hI hF (pv) (pr) (ie) (mt) (ia) (ib) (c3) (fun q => absurd q (by omega)) (q7) (qf)
              refine z_lt (tgt := 178) hx hb dX12_readRef_159 (by decide) (fun c159 => ?_) (fun c159 => ?_)
              · exact J178 ls H locs ig65 lg66 (lv_sub hl [0, 1, 2] rfl) hw hI hF (pv) (pr) (ie) (mt) (ia) (ib) (c3) (q5) (by omega) (qf)
              · refine lv_aload_n hx hb dX12_readRef_162 rfl (lv_at hl 2 rfl) ?_
                refine r_get C hw (hsh 49 _ rfl) fl_X12_45 (oV_r rfl (hrm (49, 6, 53) (by decide))) dX12_readRef_163 ?_
                refine lv_aload_n hx hb dX12_readRef_166 rfl (lv_at hl 2 rfl) ?_
                refine r_get C hw (hsh 49 _ rfl) fl_X12_49 (oV_i rfl) dX12_readRef_167 (ti_c (ig65 (B + 49) 7).toInt rfl fun z99 hz99 => ?_)
                have ezz99 : nEq z99.toInt.toNat (ig65 (B + 49) 7).toInt.toNat := by show _ = _; omega
                refine r_lald C hw (hsh 53 _ rfl) (by omega) (by omega) dX12_readRef_170 (lv_topl fun x100 hx100 => ?_)
                have tx100 : x100.toInt = (lg66 (B + 53) (ig65 (B + 49) 7).toInt.toNat).toInt := by have q := hx100; rw [nEq.e ezz99] at q; exact congrArg Int64.toInt q
                refine lv_ldc2 (v := 24) hx hb hown (hts _ kl_X12_186) dX12_readRef_171 (lv_topl fun x101 hx101 => ?_)
                have tx101 : x101.toInt = 24 := by rw [hx101]; decide
                refine W.lcmp hx hb dX12_readRef_174 (lv_topi fun z102 hz102 => ?_)
                have lcz102 := lgc hz102
                refine z_le (tgt := 186) hx hb dX12_readRef_175 (by decide) (fun c175 => ?_) (fun c175 => ?_)
                · exact J186 ls H locs ig65 lg66 (lv_sub hl [0, 1, 2, 3] rfl) hw hI hF (pv) (pr) (ie) (mt) (ia) (ib) (c3) (fun q => ⟨dv q, by omega, by omega⟩) (QR.st q5 (fun _ x9 => ⟨x9, by have e9 := mt_numv mt hat ((mt_num mt hat).mpr x9); omega, by have e9 := mt_numv mt hat ((mt_num mt hat).mpr x9); omega⟩)) (qf)
                · exact J178 ls H locs ig65 lg66 (lv_sub hl [0, 1, 2] rfl) hw hI hF (pv) (pr) (ie) (mt) (ia) (ib) (c3) (q5) (by omega) (qf)
          refine z_ne (tgt := 141) hx hb dX12_readRef_117 (by decide) (fun c117 => ?_) (fun c117 => ?_)
          · exact J141 ls H locs ig42 lg43 (lv_sub hl [0, 1, 2, 3] rfl) hw hI hF (pv) (pr) (ie) (mt) (ia) (ib) (c3) (fun q => absurd q (by omega)) (QR.st q4 (fun q => absurd q (by omega))) (qf)
          · refine lv_aload_n hx hb dX12_readRef_120 rfl (lv_at hl 2 rfl) ?_
            refine r_get C hw (hsh 49 _ rfl) fl_X12_32 (oV_r rfl (hrm (49, 4, 51) (by decide))) dX12_readRef_121 ?_
            refine lv_aload_n hx hb dX12_readRef_124 rfl (lv_at hl 2 rfl) ?_
            refine r_get C hw (hsh 49 _ rfl) fl_X12_49 (oV_i rfl) dX12_readRef_125 (ti_c (ig42 (B + 49) 7).toInt rfl fun z103 hz103 => ?_)
            have ezz103 : nEq z103.toInt.toNat (ig42 (B + 49) 7).toInt.toNat := by show _ = _; omega
            refine r_iald C hw (hsh 51 _ rfl) (by omega) (by omega) dX12_readRef_128 (ti_c (ig42 (B + 51) z103.toInt.toNat).toInt rfl fun z104 hz104 => ?_)
            rw [nEq.e ezz103] at hz104
            refine lv_iconst (v := 2) hx hb dX12_readRef_129 (by decide) (ti_c 2 (by decide) fun z106 hz106 => ?_)
            refine b_eq (tgt := 141) hx hb dX12_readRef_130 (by decide) (fun c130 => ?_) (fun c130 => ?_)
            · exact J141 ls H locs ig42 lg43 (lv_sub hl [0, 1, 2, 3] rfl) hw hI hF (pv) (pr) (ie) (mt) (ia) (ib) (c3) (fun _ => PV.lt pv (k := (ig42 (B + 49) 7).toInt.toNat) (by omega) (q := 2) (by omega) (by decide)) (QR.st q4 (fun _ _ => (mt_num mt hat).mp (by omega))) (qf)
            · refine lv_aload_n hx hb dX12_readRef_133 rfl (lv_at hl 2 rfl) ?_
              refine lv_iconst (v := 1) hx hb dX12_readRef_134 (by decide) (ti_c 1 (by decide) fun z107 hz107 => ?_)
              refine r_callV (As := [.int z107]) (rest := []) C hw (t_X12_wrong l B D cA kd ig42 rg lg43 _ z107 N pv mt (by omega) hI) sv_X12_147 (hsh 49 _ rfl) rfl hl.1 rfl (Nat.le_of_ble_eq_true rfl) ⟨Nat.le_of_ble_eq_true rfl, Nat.le_of_ble_eq_true rfl⟩ ⟨Nat.le_of_ble_eq_true rfl, Nat.le_of_ble_eq_true rfl⟩ dX12_readRef_135 (fun r112 kd108 ig109 rg110 lg111 H locs hw hH hp113 => ?_)
              obtain ⟨rfl, rfl, hI, hchp113, hrhp113⟩ := hp113
              have hF : Ft B [49, 54, 55, 56, 57, 58] ig lg ig109 lg111 := Ft.tr hF hchp113 (by decide) (by decide)
              obtain ⟨rfl, hvhp113⟩ := hrhp113
              obtain ⟨pv, pr1, w3, w4, w5, w6⟩ := hvhp113
              have q7 : QR (tK τ) (tV τ) (tS τ) lc lr (ig (B + 49) 8).toInt (ig (B + 49) 7).toInt (ig109 (B + 49) 8).toInt (ig109 (B + 49) 7).toInt z25.toInt (fun q => tK τ q = 110 ∧ (1 ≤ tV τ q ∧ tV τ q ≤ 24) ∧ lr ≤ tV τ q - 1) := Or.inl (QR.bad (k := 1) q4 (by decide) fw_ne (fun _ _ => Or.inl ⟨rfl, fun e9 => absurd ((mt_num mt hat).mpr e9) (by omega)⟩) (fun q => by rw [w4 q]; unfold fw; omega) w5)
              have qf : Qf (tK τ) (ig (B + 49) 7).toInt (ig109 (B + 49) 8).toInt (ig109 (B + 49) 7).toInt z44.toInt := Qf.no (by omega)
              have pr := pr.tr pr1
              have ie := (hchp113.i 58 288 (by decide)).trans ie
              have mt := MT.ft mt hchp113 (by decide)
              have ia := IA.ft ia hchp113 (by decide)
              have ib := IBx.ft ib hchp113 (by decide)
              have c3 := c3.pr pr1
              have pvn := pv
              obtain ⟨hps, hat, hfa, hit, hN⟩ := pvn
              refine lv_goto (tgt := 225) hx hb dX12_readRef_138 (by decide) ?_
              exact J225 ls H locs ig109 lg111 (lv_sub hl [0, 1, 2] rfl) hw hI hF (pv) (pr) (ie) (mt) (ia) (ib) (c3) (fun q => absurd q (by omega)) (q7) (qf)
        refine z_eq (tgt := 110) hx hb dX12_readRef_103 (by decide) (fun c103 => ?_) (fun c103 => ?_)
        · refine lv_iconst (v := 0) hx hb dX12_readRef_110 (by decide) (ti_c 0 (by decide) fun z114 hz114 => ?_)
          exact J111 ls H locs ig35 lg37 z114 (lv_sub hl [0, 2, 3] rfl) hw hI hF (pv) (pr) (ie) (mt) (ia) (ib) (c3) (q4) (by have w := qf; rw [show 2 * z40.toInt = z114.toInt by omega] at w; exact w) (by omega)
        · refine lv_iconst (v := 2) hx hb dX12_readRef_106 (by decide) (ti_c 2 (by decide) fun z115 hz115 => ?_)
          refine lv_goto (tgt := 111) hx hb dX12_readRef_107 (by decide) ?_
          exact J111 ls H locs ig35 lg37 z115 (lv_sub hl [0, 2, 3] rfl) hw hI hF (pv) (pr) (ie) (mt) (ia) (ib) (c3) (q4) (by have w := qf; rw [show 2 * z40.toInt = z115.toInt by omega] at w; exact w) (by omega)
      refine z_ne (tgt := 91) hx hb dX12_readRef_84 (by decide) (fun c84 => ?_) (fun c84 => ?_)
      · refine lv_iconst (v := 0) hx hb dX12_readRef_91 (by decide) (ti_c 0 (by decide) fun z116 hz116 => ?_)
        exact J92 ls H locs ig19 lg20 z116 (lv_sub hl [0, 1, 2, 3] rfl) hw hI hF (pv) (pr) (ie) (mt) (ia) (ib) (c3) (by omega) (by omega) (q2) (hco) (by omega)
      · have cl := (cv (by omega)).1
        refine lv_iconst (v := 1) hx hb dX12_readRef_87 (by decide) (ti_c 1 (by decide) fun z117 hz117 => ?_)
        refine lv_goto (tgt := 92) hx hb dX12_readRef_88 (by decide) ?_
        exact J92 ls H locs ig19 lg20 z117 (lv_sub hl [0, 1, 2, 3] rfl) hw hI hF (pv) (pr) (ie) (mt) (ia) (ib) (c3) (by omega) (by omega) (q2) (hco) (by omega)
    refine z_ne (tgt := 30) hx hb dX12_readRef_19 (by decide) (fun c19 => ?_) (fun c19 => ?_)
    · have cl := PV.lt pv (k := (ig10 (B + 49) 7).toInt.toNat) (by omega) (q := 1) (by omega) (by decide)
      have hoc := (mt_col mt hat).mp (by omega)
      have hvl := mt_colv mt hat (by omega)
      refine lv_iload_n hx hb dX12_readRef_30 rfl (lv_at hl 2 rfl) ?_
      refine z_lt (tgt := 62) hx hb dX12_readRef_31 (by decide) (fun c31 => ?_) (fun c31 => ?_)
      · exact J62 ls H locs ig10 lg11 (lv_sub hl [0, 1, 2] rfl) hw hI hF (pv) (pr) (ie) (mt) (ia) (ib) (fun _ => ⟨cl, by omega, by omega⟩) (Q2.ok q1 (by omega) hoc (by omega)) (by omega)
      · refine lv_aload_n hx hb dX12_readRef_34 rfl (lv_at hl 1 rfl) ?_
        refine r_get C hw (hsh 49 _ rfl) fl_X12_45 (oV_r rfl (hrm (49, 6, 53) (by decide))) dX12_readRef_35 ?_
        refine lv_aload_n hx hb dX12_readRef_38 rfl (lv_at hl 1 rfl) ?_
        refine r_get C hw (hsh 49 _ rfl) fl_X12_49 (oV_i rfl) dX12_readRef_39 (ti_c (ig10 (B + 49) 7).toInt rfl fun z118 hz118 => ?_)
        have ezz118 : nEq z118.toInt.toNat (ig10 (B + 49) 7).toInt.toNat := by show _ = _; omega
        refine r_lald C hw (hsh 53 _ rfl) (by omega) (by omega) dX12_readRef_42 (lv_topl fun x119 hx119 => ?_)
        have tx119 : x119.toInt = (lg11 (B + 53) (ig10 (B + 49) 7).toInt.toNat).toInt := by have q := hx119; rw [nEq.e ezz118] at q; exact congrArg Int64.toInt q
        refine lv_lconst (v := 1) hx hb dX12_readRef_43 (by decide) (lv_topl fun x120 hx120 => ?_)
        have tx120 : x120.toInt = 1 := by rw [hx120]; decide
        refine lv_lsub hx hb dX12_readRef_44 (lv_topl fun x121 hx121 => ?_)
        have tx121 := l_sub1 hx121 tx120 (by omega)
        refine lv_aload_n hx hb dX12_readRef_45 rfl (lv_at hl 1 rfl) ?_
        refine r_get C hw (hsh 49 _ rfl) fl_X12_68 (oV_r rfl (hrm (49, 10, 55) (by decide))) dX12_readRef_46 ?_
        refine lv_iload_n hx hb dX12_readRef_49 rfl (lv_at hl 2 rfl) ?_
        refine r_iald C hw (hsh 55 _ rfl) (by omega) (by omega) dX12_readRef_50 (ti_c (ig10 (B + 55) x.toInt.toNat).toInt rfl fun z122 hz122 => ?_)
        have iz122 : z122.toInt = lc := by rw [hz122, (ia _).1]; exact hlx.c (by omega)
        refine lv_i2l hx hb dX12_readRef_51 rfl (lv_topl fun x124 hx124 => ?_)
        have tx124 := congrArg Int64.toInt hx124
        rw [Int32.toInt_toInt64] at tx124
        refine W.lcmp hx hb dX12_readRef_52 (lv_topi fun z125 hz125 => ?_)
        have lcz125 := lgc hz125
        refine z_ge (tgt := 62) hx hb dX12_readRef_53 (by decide) (fun c53 => ?_) (fun c53 => ?_)
        · exact J62 ls H locs ig10 lg11 (lv_sub hl [0, 1, 2] rfl) hw hI hF (pv) (pr) (ie) (mt) (ia) (ib) (fun _ => ⟨cl, by omega, by omega⟩) (Q2.ok q1 (by omega) hoc (by omega)) (by omega)
        · refine lv_aload_n hx hb dX12_readRef_56 rfl (lv_at hl 1 rfl) ?_
          refine lv_bipush (v := 6) hx hb dX12_readRef_57 (by decide) (ti_c 6 (by decide) fun z126 hz126 => ?_)
          refine r_callV (As := [.int z126]) (rest := []) C hw (t_X12_wrong l B D cA kd ig10 rg lg11 _ z126 N pv mt (by omega) hI) sv_X12_147 (hsh 49 _ rfl) rfl hl.1 rfl (Nat.le_of_ble_eq_true rfl) ⟨Nat.le_of_ble_eq_true rfl, Nat.le_of_ble_eq_true rfl⟩ ⟨Nat.le_of_ble_eq_true rfl, Nat.le_of_ble_eq_true rfl⟩ dX12_readRef_59 (fun r131 kd127 ig128 rg129 lg130 H locs hw hH hp132 => ?_)
          obtain ⟨rfl, rfl, hI, hchp132, hrhp132⟩ := hp132
          have hF : Ft B [49, 54, 55, 56, 57, 58] ig lg ig128 lg130 := Ft.tr hF hchp132 (by decide) (by decide)
          obtain ⟨rfl, hvhp132⟩ := hrhp132
          obtain ⟨pv, pr1, w3, w4, w5, w6⟩ := hvhp132
          have q2 : Q2 (tK τ) (tV τ) (tS τ) lc lr (ig (B + 49) 8).toInt (ig (B + 49) 7).toInt (ig128 (B + 49) 8).toInt (ig128 (B + 49) 7).toInt := Q2.bad (k := 6) q1 (by decide) fw_ne (fun q => Or.inr ⟨rfl, hoc, by omega⟩) (fun q => by rw [w4 q]; unfold fw; omega) w5
          have pr := pr.tr pr1
          have ie := (hchp132.i 58 288 (by decide)).trans ie
          have mt := MT.ft mt hchp132 (by decide)
          have ia := IA.ft ia hchp132 (by decide)
          have ib := IBx.ft ib hchp132 (by decide)
          have pvn := pv
          obtain ⟨hps, hat, hfa, hit, hN⟩ := pvn
          exact J62 ls H locs ig128 lg130 (lv_sub hl [0, 1, 2] rfl) hw hI hF (pv) (pr) (ie) (mt) (ia) (ib) (fun q => absurd q (by omega)) (q2) (by omega)
    · refine lv_aload_n hx hb dX12_readRef_22 rfl (lv_at hl 1 rfl) ?_
      refine lv_iconst (v := 1) hx hb dX12_readRef_23 (by decide) (ti_c 1 (by decide) fun z133 hz133 => ?_)
      refine r_callV (As := [.int z133]) (rest := []) C hw (t_X12_wrong l B D cA kd ig10 rg lg11 _ z133 N pv mt (by omega) hI) sv_X12_147 (hsh 49 _ rfl) rfl hl.1 rfl (Nat.le_of_ble_eq_true rfl) ⟨Nat.le_of_ble_eq_true rfl, Nat.le_of_ble_eq_true rfl⟩ ⟨Nat.le_of_ble_eq_true rfl, Nat.le_of_ble_eq_true rfl⟩ dX12_readRef_24 (fun r138 kd134 ig135 rg136 lg137 H locs hw hH hp139 => ?_)
      obtain ⟨rfl, rfl, hI, hchp139, hrhp139⟩ := hp139
      have hF : Ft B [49, 54, 55, 56, 57, 58] ig lg ig135 lg137 := Ft.tr hF hchp139 (by decide) (by decide)
      obtain ⟨rfl, hvhp139⟩ := hrhp139
      obtain ⟨pv, pr1, w3, w4, w5, w6⟩ := hvhp139
      have q2 : Q2 (tK τ) (tV τ) (tS τ) lc lr (ig (B + 49) 8).toInt (ig (B + 49) 7).toInt (ig135 (B + 49) 8).toInt (ig135 (B + 49) 7).toInt := Q2.bad (k := 1) q1 (by decide) fw_ne (fun q => Or.inl ⟨rfl, fun e9 => absurd ((mt_col mt hat).mpr e9) (by omega)⟩) (fun q => by rw [w4 q]; unfold fw; omega) w5
      have pr := pr.tr pr1
      have ie := (hchp139.i 58 288 (by decide)).trans ie
      have mt := MT.ft mt hchp139 (by decide)
      have ia := IA.ft ia hchp139 (by decide)
      have ib := IBx.ft ib hchp139 (by decide)
      have pvn := pv
      obtain ⟨hps, hat, hfa, hit, hN⟩ := pvn
      refine lv_goto (tgt := 62) hx hb dX12_readRef_27 (by decide) ?_
      exact J62 ls H locs ig135 lg137 (lv_sub hl [0, 1, 2] rfl) hw hI hF (pv) (pr) (ie) (mt) (ia) (ib) (fun q => absurd q (by omega)) (q2) (by omega)
  refine z_eq (tgt := 13) hx hb dX12_readRef_6 (by decide) (fun c6 => ?_) (fun c6 => ?_)
  · refine lv_iconst (v := 0) hx hb dX12_readRef_13 (by decide) (ti_c 0 (by decide) fun z140 hz140 => ?_)
    exact J14 ls H locs ig3 lg5 z140 (lv_sub hl [0, 1] rfl) hw hI hF (pv) (pr) (ie) (mt) (ia) (ib) (q1) (by omega)
  · refine lv_iconst (v := 1) hx hb dX12_readRef_9 (by decide) (ti_c 1 (by decide) fun z141 hz141 => ?_)
    refine lv_goto (tgt := 14) hx hb dX12_readRef_10 (by decide) ?_
    exact J14 ls H locs ig3 lg5 z141 (lv_sub hl [0, 1] rfl) hw hI hF (pv) (pr) (ie) (mt) (ia) (ib) (q1) (by omega)
