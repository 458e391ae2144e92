def byM (x : Int64) (i : Nat) : Int32 := (x >>> ((sh8 i).toInt64 &&& 63)).toInt32 &&& 255
/-- the model as new SheetDoctorModel() leaves it -/
def FM (B : Nat) (kd : sK) (ig : sI) (rg : sR) (lg : sG) : Prop := Sh B kd ∧ Rm B rg ∧ (∀ c j, 49 ≤ c → c < 80 → c ≠ 71 → ig (B + c) j = 0) ∧ (∀ j, j < 288 → ig (B + 71) j = -1) ∧ ∀ c j, 49 ≤ c → c < 79 → lg (B + c) j = 0
/-- no formula stands in the model's rows -/
def KI (B : Nat) (ig : sI) : Prop := (∀ j, j < 309 → (ig (B + 59) j).toInt = 0 ∨ (ig (B + 59) j).toInt = 1) ∧ ∀ j, j < 309 → ig (B + 58) j = 0
theorem KI.off {B lo hi : Nat} {ig ig' : sI} (h : KI B ig) (ho : Off B lo hi ig' ig) (e : hi ≤ 58 ∨ 60 ≤ lo) : KI B ig' := ⟨fun j hj => by rw [ho _ _ (by omega)]; exact h.1 j hj, fun j hj => by rw [ho _ _ (by omega)]; exact h.2 j hj⟩
theorem KI.k {B : Nat} {ig : sI} {i v : Int32} (h : KI B ig) (hv : v.toInt = 0 ∨ v.toInt = 1) : KI B (up2 ig (B + 59) i.toInt.toNat v) := by
  refine ⟨fun j hj => ?_, fun j hj => ?_⟩
  · by_cases e1 : j = i.toInt.toNat
    · subst e1; rw [up2_eq]; exact hv
    · rw [up2_j e1]; exact h.1 j hj
  · rw [up2_a (by omega)]; exact h.2 j hj
theorem KI.i {B : Nat} {ig : sI} {i v : Int32} (h : KI B ig) (hv : v = 0) : KI B (up2 ig (B + 58) i.toInt.toNat v) := by
  refine ⟨fun j hj => ?_, fun j hj => ?_⟩
  · rw [up2_a (by omega)]; exact h.1 j hj
  · by_cases e1 : j = i.toInt.toNat
    · subst e1; rw [up2_eq]; exact hv
    · rw [up2_j e1]; exact h.2 j hj
theorem KI.o {B c j : Nat} {ig : sI} {v : Int32} (h : KI B ig) (e : c ≠ 58 ∧ c ≠ 59) : KI B (up2 ig (B + c) j v) := ⟨fun j hj => by rw [up2_a (by omega)]; exact h.1 j hj, fun j hj => by rw [up2_a (by omega)]; exact h.2 j hj⟩

set_option maxHeartbeats 4000000 in
set_option maxRecDepth 100000 in
theorem t_X12_isPlace (l : Launch) (B : Nat) (D : va_G) (cA : Nat → ClassId) (kd : sK) (ig : sI) (rg : sR) (lg : sG) (sz : Nat) (x : Int32) : MC l B D cA yX12_isPlace cX12_isPlace 1 (some .boolean) (rL 0 0 0) [.int x] kd ig rg lg sz (Pu kd ig rg lg sz (fun r => ∃ z : Int32, r = some (.int z) ∧ ((0 ≤ x.toInt ∧ x.toInt < 288) → z.toInt = 1) ∧ (¬ (0 ≤ x.toInt ∧ x.toInt < 288) → z.toInt = 0))) := by
  refine MC.of (own := RX12) (by decide +kernel) rfl (Nat.le_of_ble_eq_true rfl) ?_
  intro p e s m args below meth c ls C hr hlk hnm hw hsz hl
  have hx := C.1.1
  have hb := C.1.2.1
  have hown := C.1.2.2.2.1
  have hts := C.1.2.2.2.2
  have hl : lv_has ls 1 [(0, .int x)] := hl
  refine lv_iload_n hx hb dX12_isPlace_0 rfl (lv_at hl 0 rfl) ?_
  refine z_lt (tgt := 15) hx hb dX12_isPlace_1 (by decide) (fun c1 => ?_) (fun c1 => ?_)
  · refine lv_iconst (v := 0) hx hb dX12_isPlace_15 (by decide) (ti_c 0 (by decide) fun z1 hz1 => ?_)
    exact r_iret C hw hr hlk (nar_b (by omega)) (Nat.le_of_ble_eq_true rfl) (Nat.le_of_ble_eq_true rfl) dX12_isPlace_16 ⟨rfl, rfl, rfl, rfl, hsz, _, rfl, by omega⟩
  · refine lv_iload_n hx hb dX12_isPlace_4 rfl (lv_at hl 0 rfl) ?_
    refine lv_sipush (v := 288) hx hb dX12_isPlace_5 (by decide) (ti_c 288 (by decide) fun z2 hz2 => ?_)
    refine b_ge (tgt := 15) hx hb dX12_isPlace_8 (by decide) (fun c8 => ?_) (fun c8 => ?_)
    · refine lv_iconst (v := 0) hx hb dX12_isPlace_15 (by decide) (ti_c 0 (by decide) fun z3 hz3 => ?_)
      exact r_iret C hw hr hlk (nar_b (by omega)) (Nat.le_of_ble_eq_true rfl) (Nat.le_of_ble_eq_true rfl) dX12_isPlace_16 ⟨rfl, rfl, rfl, rfl, hsz, _, rfl, by omega⟩
    · refine lv_iconst (v := 1) hx hb dX12_isPlace_11 (by decide) (ti_c 1 (by decide) fun z4 hz4 => ?_)
      refine lv_goto (tgt := 16) hx hb dX12_isPlace_12 (by decide) ?_
      exact r_iret C hw hr hlk (nar_b (by omega)) (Nat.le_of_ble_eq_true rfl) (Nat.le_of_ble_eq_true rfl) dX12_isPlace_16 ⟨rfl, rfl, rfl, rfl, hsz, _, rfl, by omega⟩

set_option maxHeartbeats 4000000 in
set_option maxRecDepth 100000 in
theorem t_X12_thrown (l : Launch) (B : Nat) (D : va_G) (cA : Nat → ClassId) (kd : sK) (ig : sI) (rg : sR) (lg : sG) (sz : Nat) (hsh : Sh B kd) : MC l B D cA yX12_thrown cX12_thrown 1 (some .int) (rL 0 0 0) [.ref (B + 49)] kd ig rg lg sz (Pu kd ig rg lg sz (fun r => ∃ z : Int32, r = some (.int z) ∧ z.toInt = (ig (B + 49) 0).toInt)) := by
  refine MC.of (own := RX12) (by decide +kernel) rfl (Nat.le_of_ble_eq_true rfl) ?_
  intro p e s m args below meth c ls C hr hlk hnm hw hsz hl
  have hx := C.1.1
  have hb := C.1.2.1
  have hown := C.1.2.2.2.1
  have hts := C.1.2.2.2.2
  have hl : lv_has ls 1 [(0, .ref (B + 49))] := hl
  refine lv_aload_n hx hb dX12_thrown_0 rfl (lv_at hl 0 rfl) ?_
  refine r_get C hw (hsh 49 _ rfl) fl_X12_1 (oV_i rfl) dX12_thrown_1 (ti_c (ig (B + 49) 0).toInt rfl fun z1 hz1 => ?_)
  exact r_iret C hw hr hlk rfl (Nat.le_of_ble_eq_true rfl) (Nat.le_of_ble_eq_true rfl) dX12_thrown_4 ⟨rfl, rfl, rfl, rfl, hsz, _, rfl, by omega⟩

set_option maxHeartbeats 4000000 in
set_option maxRecDepth 100000 in
theorem t_X12_lay (l : Launch) (B : Nat) (D : va_G) (cA : Nat → ClassId) (kd : sK) (ig : sI) (rg : sR) (lg : sG) (sz : Nat) (x : Int64) (hsh : Sh B kd) (hrm : Rm B rg) (hle : 0 ≤ (ig (B + 49) 2).toInt ∧ (ig (B + 49) 2).toInt ≤ 112) : MC l B D cA yX12_lay cX12_lay 5 none (rL 0 0 0) [.ref (B + 49), .long x] kd ig rg lg sz (fun r kd' ig' rg' lg' n => kd = kd' ∧ rg = rg' ∧ lg = lg' ∧ n = sz ∧ (r = none) ∧ (ig' (B + 49) 2).toInt = (ig (B + 49) 2).toInt + (cn (byM x) 8 : Nat)) := by
  refine MC.of (own := RX12) (by decide +kernel) rfl (Nat.le_of_ble_eq_true rfl) ?_
  intro p e s m args below meth c ls C hr hlk hnm hw hsz hl
  have hx := C.1.1
  have hb := C.1.2.1
  have hown := C.1.2.2.2.1
  have hts := C.1.2.2.2.2
  have hl : lv_has ls 5 [(0, .ref (B + 49)), (1, .long x)] := hl
  have oig : Off B 49 51 ig ig := Off.rf
  refine lv_bipush (v := 56) hx hb dX12_lay_0 (by decide) (ti_c 56 (by decide) fun z1 hz1 => ?_)
  refine lv_istore_n (lv' := [(3, .int z1), (0, .ref (B + 49)), (1, .long x)]) hx hb dX12_lay_2 rfl hl (by decide) rfl (fun ls hl => ?_)
  have L3 : ∀ (n : Nat) (ls : Array Slot) (H : Heap) (locs : List Loc) (ig3 : sI) (v2 : Int32), lv_has ls 5 [(3, .int v2), (0, .ref (B + 49)), (1, .long x)] → WD B D cA s.heap kd ig3 rg lg H locs → H.size = sz → (∃ i : Nat, i ≤ 8 ∧ v2.toInt = 56 - 8 * (i : Int) ∧ (ig3 (B + 49) 2).toInt = (ig (B + 49) 2).toInt + (cn (byM x) i : Nat)) → (Off B 49 51 ig3 ig) → v2.toInt + 8 < (n : Int) → W p l e (rL 0 0 0) s m args below meth c H locs 0 0 (MQ below (QcW B D cA (fun r kd' ig' rg' lg' n => kd = kd' ∧ rg = rg' ∧ lg = lg' ∧ n = sz ∧ (r = none) ∧ (ig' (B + 49) 2).toInt = (ig (B + 49) 2).toInt + (cn (byM x) 8 : Nat))) args s 0 0 (fun q => B ≤ q)) (F0 m 3 ls []) := by
    intro n
    induction n with
    | zero => intro ls H locs ig3 v2 hl hw hsz g3_0 g3_1 hmu; exact absurd hmu (by omega)
    | succ n ih =>
      intro ls H locs ig3 v2 hl hw hsz g3_0 g3_1 hmu
      have oig := g3_1
      obtain ⟨i, hi8, hs3, hlen⟩ := g3_0
      have hcn := cn_le (byM x) i
      refine lv_iload_n hx hb dX12_lay_3 rfl (lv_at hl 0 rfl) ?_
      refine z_lt (tgt := 67) hx hb dX12_lay_4 (by decide) (fun c4 => ?_) (fun c4 => ?_)
      · exact r_vret C hw hr hlk (Nat.le_of_ble_eq_true rfl) (Nat.le_of_ble_eq_true rfl) dX12_lay_67 ⟨rfl, rfl, rfl, hsz, rfl, by rw [hlen]; rw [show i = 8 by omega]⟩
      · refine lv_lload_n hx hb dX12_lay_7 rfl (lv_at hl 2 rfl) ?_
        refine lv_iload_n hx hb dX12_lay_8 rfl (lv_at hl 0 rfl) ?_
        refine lv_lshr hx hb dX12_lay_9 rfl (lv_topl fun x4 hx4 => ?_)
        refine lv_l2i hx hb dX12_lay_10 rfl (lv_topi fun z5 hz5 => ?_)
        refine lv_sipush (v := 255) hx hb dX12_lay_11 (by decide) (ti_c 255 (by decide) fun z6 hz6 => ?_)
        refine lv_iand hx hb dX12_lay_14 (lv_topi fun z7 hz7 => ?_)
        refine lv_istore (lv' := [(4, .int z7), (3, .int v2), (0, .ref (B + 49)), (1, .long x)]) hx hb dX12_lay_15 hl (by decide) rfl (fun ls hl => ?_)
        have hby : z7 = byM x i := by rw [hz7, hz5, hx4, i32_inj (hz6.trans (show (255 : Int) = (255 : Int32).toInt from rfl)), show v2 = sh8 i from i32_inj (hs3.trans (sh8_toInt (by omega)).symm)]; rfl
        refine lv_iload hx hb dX12_lay_17 (lv_at hl 0 rfl) ?_
        refine lv_bipush (v := 32) hx hb dX12_lay_19 (by decide) (ti_c 32 (by decide) fun z8 hz8 => ?_)
        have J61 : ∀ (ls : Array Slot) (H : Heap) (locs : List Loc) (ig9 : sI), lv_has ls 5 [(3, .int v2), (0, .ref (B + 49)), (1, .long x)] → WD B D cA s.heap kd ig9 rg lg H locs → H.size = sz → ((ig9 (B + 49) 2).toInt = (ig (B + 49) 2).toInt + (cn (byM x) (i + 1) : Nat)) → (Off B 49 51 ig9 ig) → W p l e (rL 0 0 0) s m args below meth c H locs 0 0 (MQ below (QcW B D cA (fun r kd' ig' rg' lg' n => kd = kd' ∧ rg = rg' ∧ lg = lg' ∧ n = sz ∧ (r = none) ∧ (ig' (B + 49) 2).toInt = (ig (B + 49) 2).toInt + (cn (byM x) 8 : Nat))) args s 0 0 (fun q => B ≤ q)) (F0 m 61 ls []) := by
          intro ls H locs ig9 hl hw hsz g61_0 g61_1
          have oig := g61_1
          refine ti_inc hx hb dX12_lay_61 hl (k := 0) rfl (by decide) (by decide) (by omega) (fun z10 hz10 ls hl => ?_)
          have hl : lv_has ls 5 [(3, .int z10), (0, .ref (B + 49)), (1, .long x)] := hl
          refine lv_goto (tgt := 3) hx hb dX12_lay_64 (by decide) ?_
          exact ih ls H locs ig9 z10 (lv_sub hl [0, 1, 2] rfl) hw hsz (⟨i + 1, by omega, by omega, g61_0⟩) oig (by omega)
        refine b_lt (tgt := 61) hx hb dX12_lay_21 (by decide) (fun c21 => ?_) (fun c21 => ?_)
        · exact J61 ls H locs ig3  (lv_sub hl [1, 2, 3] rfl) hw hsz (by rw [cn, if_neg (by rw [← hby]; omega)]; exact hlen) oig
        · refine lv_iload hx hb dX12_lay_24 (lv_at hl 0 rfl) ?_
          refine lv_bipush (v := 126) hx hb dX12_lay_26 (by decide) (ti_c 126 (by decide) fun z11 hz11 => ?_)
          refine b_gt (tgt := 61) hx hb dX12_lay_28 (by decide) (fun c28 => ?_) (fun c28 => ?_)
          · exact J61 ls H locs ig3  (lv_sub hl [1, 2, 3] rfl) hw hsz (by rw [cn, if_neg (by rw [← hby]; omega)]; exact hlen) oig
          · refine lv_aload_n hx hb dX12_lay_31 rfl (lv_at hl 2 rfl) ?_
            refine r_get C hw (hsh 49 _ rfl) fl_X12_11 (oV_i rfl) dX12_lay_32 (ti_c (ig3 (B + 49) 2).toInt rfl fun z12 hz12 => ?_)
            refine lv_bipush (v := 120) hx hb dX12_lay_35 (by decide) (ti_c 120 (by decide) fun z13 hz13 => ?_)
            refine b_ge (tgt := 61) hx hb dX12_lay_37 (by decide) (fun c37 => ?_) (fun c37 => ?_)
            · exact absurd c37 (by omega)
            · refine lv_aload_n hx hb dX12_lay_40 rfl (lv_at hl 2 rfl) ?_
              refine r_get C hw (hsh 49 _ rfl) fl_X12_14 (oV_r rfl (hrm (49, 1, 50) (by decide))) dX12_lay_41 ?_
              refine lv_aload_n hx hb dX12_lay_44 rfl (lv_at hl 2 rfl) ?_
              refine r_get C hw (hsh 49 _ rfl) fl_X12_11 (oV_i rfl) dX12_lay_45 (ti_c (ig3 (B + 49) 2).toInt rfl fun z14 hz14 => ?_)
              refine lv_iload hx hb dX12_lay_48 (lv_at hl 0 rfl) ?_
              refine r_iast C hw (hsh 50 _ rfl) (by omega) (by omega) dX12_lay_50 (fun H locs hH hw => ?_)
              obtain ⟨ig15, eig15⟩ : ∃ f, f = up2 ig3 (B + 50) z14.toInt.toNat z7 := ⟨_, rfl⟩
              rw [← eig15] at hw
              have hsz := hH.trans hsz
              have oig : Off B 49 51 ig15 ig := fun a j h => by rw [eig15]; exact (up2_a (by omega)).trans (oig a j h)
              refine lv_aload_n hx hb dX12_lay_51 rfl (lv_at hl 2 rfl) ?_
              refine lv_dup hx hb dX12_lay_52 rfl ?_
              refine r_get C hw (hsh 49 _ rfl) fl_X12_11 (oV_i rfl) dX12_lay_53 (ti_c (ig15 (B + 49) 2).toInt rfl fun z16 hz16 => ?_)
              have k17 : (ig15 (B + 49) 2).toInt = (ig3 (B + 49) 2).toInt := by rw [eig15, up2_a (by omega)]
              refine lv_iconst (v := 1) hx hb dX12_lay_56 (by decide) (ti_c 1 (by decide) fun z18 hz18 => ?_)
              refine lv_iadd hx hb dX12_lay_57 (ti_add (by omega) fun z19 hz19 => ?_)
              refine r_puti C hw (hsh 49 _ rfl) fl_X12_11 rfl rfl rfl dX12_lay_58 (fun H locs hH hw => ?_)
              obtain ⟨ig20, eig20⟩ : ∃ f, f = up2 ig15 (B + 49) 2 z19 := ⟨_, rfl⟩
              rw [← eig20] at hw
              have hsz := hH.trans hsz
              have oig : Off B 49 51 ig20 ig := fun a j h => by rw [eig20]; exact (up2_a (by omega)).trans (oig a j h)
              exact J61 ls H locs ig20  (lv_sub hl [1, 2, 3] rfl) hw hsz (by rw [cn, if_pos (by rw [← hby]; omega)]; rw [eig20, up2_eq]; omega) oig
  exact L3 ((z1.toInt + 8) + 1).toNat ls s.heap [] ig z1 (lv_sub hl [0, 1, 2] rfl) hw hsz (⟨0, by omega, by omega, by simp [cn]⟩) oig (by omega)

set_option maxHeartbeats 4000000 in
set_option maxRecDepth 100000 in
theorem t_X12_feed (l : Launch) (B : Nat) (D : va_G) (cA : Nat → ClassId) (kd : sK) (ig : sI) (rg : sR) (lg : sG) (sz : Nat) (a b c0 : Int64) (F8 : FM B kd ig rg lg) : MC l B D cA yX12_feed cX12_feed 7 (some .int) (rL 6 0 0) [.ref (B + 49), .long a, .long b, .long c0] kd ig rg lg sz (fun r kd' ig' rg' lg' n => kd = kd' ∧ rg = rg' ∧ ∃ z : Int32, r = some (.int z) ∧ z.toInt = ((cn (byM a) 8 + cn (byM b) 8 + cn (byM c0) 8 : Nat) : Int)) := by
  refine MC.of (own := RX12) (by decide +kernel) rfl (Nat.le_of_ble_eq_true rfl) ?_
  intro p e s m args below meth c ls C hr hlk hnm hw hsz hl
  have hx := C.1.1
  have hb := C.1.2.1
  have hown := C.1.2.2.2.1
  have hts := C.1.2.2.2.2
  have hl : lv_has ls 7 [(0, .ref (B + 49)), (1, .long a), (3, .long b), (5, .long c0)] := hl
  obtain ⟨hsh, hrm, hz, hf71, hlz⟩ := F8
  refine lv_aload_n hx hb dX12_feed_0 rfl (lv_at hl 0 rfl) ?_
  refine lv_iconst (v := 0) hx hb dX12_feed_1 (by decide) (ti_c 0 (by decide) fun z1 hz1 => ?_)
  refine r_puti C hw (hsh 49 _ rfl) fl_X12_1 rfl rfl rfl dX12_feed_2 (fun H locs hH hw => ?_)
  obtain ⟨ig2, eig2⟩ : ∃ f, f = up2 ig (B + 49) 0 z1 := ⟨_, rfl⟩
  rw [← eig2] at hw
  have hsz := hH.trans hsz
  have h0 : (ig2 (B + 49) 2).toInt = 0 := by rw [eig2, up2_j (by decide)]; exact z0 (hz 49 2 (by decide) (by decide) (by decide))
  refine lv_aload_n hx hb dX12_feed_5 rfl (lv_at hl 0 rfl) ?_
  refine lv_lload_n hx hb dX12_feed_6 rfl (lv_at hl 1 rfl) ?_
  refine r_callV (As := [.long a]) (rest := []) C hw (t_X12_lay l B D cA kd ig2 rg lg _ a hsh hrm (by omega)) sv_X12_7 (hsh 49 _ rfl) rfl hl.1 rfl (Nat.le_of_ble_eq_true rfl) ⟨Nat.le_of_ble_eq_true rfl, Nat.le_of_ble_eq_true rfl⟩ ⟨Nat.le_of_ble_eq_true rfl, Nat.le_of_ble_eq_true rfl⟩ dX12_feed_7 (fun r8 kd4 ig5 rg6 lg7 H locs hw hH hp9 => ?_)
  obtain ⟨rfl, rfl, rfl, hq3, rfl, hl3⟩ := hp9
  have hsz := hq3.trans hsz
  have hc3 := cn_le (byM a) 8
  refine lv_aload_n hx hb dX12_feed_10 rfl (lv_at hl 0 rfl) ?_
  refine lv_lload_n hx hb dX12_feed_11 rfl (lv_at hl 2 rfl) ?_
  refine r_callV (As := [.long b]) (rest := []) C hw (t_X12_lay l B D cA kd ig5 rg lg _ b hsh hrm (by omega)) sv_X12_7 (hsh 49 _ rfl) rfl hl.1 rfl (Nat.le_of_ble_eq_true rfl) ⟨Nat.le_of_ble_eq_true rfl, Nat.le_of_ble_eq_true rfl⟩ ⟨Nat.le_of_ble_eq_true rfl, Nat.le_of_ble_eq_true rfl⟩ dX12_feed_12 (fun r15 kd11 ig12 rg13 lg14 H locs hw hH hp16 => ?_)
  obtain ⟨rfl, rfl, rfl, hq10, rfl, hl10⟩ := hp16
  have hsz := hq10.trans hsz
  have hc10 := cn_le (byM b) 8
  refine lv_aload_n hx hb dX12_feed_15 rfl (lv_at hl 0 rfl) ?_
  refine lv_lload hx hb dX12_feed_16 (lv_at hl 3 rfl) ?_
  refine r_callV (As := [.long c0]) (rest := []) C hw (t_X12_lay l B D cA kd ig12 rg lg _ c0 hsh hrm (by omega)) sv_X12_7 (hsh 49 _ rfl) rfl hl.1 rfl (Nat.le_of_ble_eq_true rfl) ⟨Nat.le_of_ble_eq_true rfl, Nat.le_of_ble_eq_true rfl⟩ ⟨Nat.le_of_ble_eq_true rfl, Nat.le_of_ble_eq_true rfl⟩ dX12_feed_18 (fun r22 kd18 ig19 rg20 lg21 H locs hw hH hp23 => ?_)
  obtain ⟨rfl, rfl, rfl, hq17, rfl, hl17⟩ := hp23
  have hsz := hq17.trans hsz
  have hc17 := cn_le (byM c0) 8
  refine lv_aload_n hx hb dX12_feed_21 rfl (lv_at hl 0 rfl) ?_
  refine r_get C hw (hsh 49 _ rfl) fl_X12_11 (oV_i rfl) dX12_feed_22 (ti_c (ig19 (B + 49) 2).toInt rfl fun z24 hz24 => ?_)
  exact r_iret C hw hr hlk rfl (Nat.le_of_ble_eq_true rfl) (Nat.le_of_ble_eq_true rfl) dX12_feed_25 ⟨rfl, rfl, _, rfl, by omega⟩

set_option maxHeartbeats 4000000 in
set_option maxRecDepth 100000 in
theorem t_X12_isSign (l : Launch) (B : Nat) (D : va_G) (cA : Nat → ClassId) (kd : sK) (ig : sI) (rg : sR) (lg : sG) (sz : Nat) (x : Int32) (hsh : Sh B kd) (hrm : Rm B rg) (ha : ig (B + 49) 7 = 0) (hs : ig (B + 51) 0 = 0) : MC l B D cA yX12_isSign cX12_isSign 2 (some .boolean) (rL 0 0 0) [.ref (B + 49), .int x] kd ig rg lg sz (Pu kd ig rg lg sz (fun r => ∃ z : Int32, r = some (.int z) ∧ z.toInt = 0)) := by
  refine MC.of (own := RX12) (by decide +kernel) rfl (Nat.le_of_ble_eq_true rfl) ?_
  intro p e s m args below meth c ls C hr hlk hnm hw hsz hl
  have hx := C.1.1
  have hb := C.1.2.1
  have hown := C.1.2.2.2.1
  have hts := C.1.2.2.2.2
  have hl : lv_has ls 2 [(0, .ref (B + 49)), (1, .int x)] := hl
  refine lv_aload_n hx hb dX12_isSign_0 rfl (lv_at hl 0 rfl) ?_
  refine r_get C hw (hsh 49 _ rfl) fl_X12_52 (oV_i rfl) dX12_isSign_1 (ti_c (ig (B + 49) 8).toInt rfl fun z1 hz1 => ?_)
  refine z_ne (tgt := 39) hx hb dX12_isSign_4 (by decide) (fun c4 => ?_) (fun c4 => ?_)
  · refine lv_iconst (v := 0) hx hb dX12_isSign_39 (by decide) (ti_c 0 (by decide) fun z2 hz2 => ?_)
    exact r_iret C hw hr hlk (nar_b (by omega)) (Nat.le_of_ble_eq_true rfl) (Nat.le_of_ble_eq_true rfl) dX12_isSign_40 ⟨rfl, rfl, rfl, rfl, hsz, _, rfl, by omega⟩
  · refine lv_aload_n hx hb dX12_isSign_7 rfl (lv_at hl 0 rfl) ?_
    refine r_get C hw (hsh 49 _ rfl) fl_X12_32 (oV_r rfl (hrm (49, 4, 51) (by decide))) dX12_isSign_8 ?_
    refine lv_aload_n hx hb dX12_isSign_11 rfl (lv_at hl 0 rfl) ?_
    refine r_get C hw (hsh 49 _ rfl) fl_X12_49 (oV_i rfl) dX12_isSign_12 (ti_c (ig (B + 49) 7).toInt rfl fun z3 hz3 => ?_)
    have k4 := z0 ha
    refine r_iald C hw (hsh 51 _ rfl) (by omega) (by omega) dX12_isSign_15 (ti_c (ig (B + 51) z3.toInt.toNat).toInt rfl fun z5 hz5 => ?_)
    have k6 : (ig (B + 51) z3.toInt.toNat).toInt = 0 := by rw [show z3.toInt.toNat = 0 by omega]; exact z0 hs
    refine lv_iconst (v := 3) hx hb dX12_isSign_16 (by decide) (ti_c 3 (by decide) fun z7 hz7 => ?_)
    refine b_ne (tgt := 39) hx hb dX12_isSign_17 (by decide) (fun c17 => ?_) (fun c17 => ?_)
    · refine lv_iconst (v := 0) hx hb dX12_isSign_39 (by decide) (ti_c 0 (by decide) fun z8 hz8 => ?_)
      exact r_iret C hw hr hlk (nar_b (by omega)) (Nat.le_of_ble_eq_true rfl) (Nat.le_of_ble_eq_true rfl) dX12_isSign_40 ⟨rfl, rfl, rfl, rfl, hsz, _, rfl, by omega⟩
    · exact absurd c17 (by omega)

set_option maxHeartbeats 4000000 in
set_option maxRecDepth 100000 in
theorem t_X12_isSum (l : Launch) (B : Nat) (D : va_G) (cA : Nat → ClassId) (kd : sK) (ig : sI) (rg : sR) (lg : sG) (sz : Nat) (hsh : Sh B kd) (hrm : Rm B rg) (ha : ig (B + 49) 7 = 0) (hs : ig (B + 51) 0 = 0) : MC l B D cA yX12_isSum cX12_isSum 1 (some .boolean) (rL 0 0 0) [.ref (B + 49)] kd ig rg lg sz (Pu kd ig rg lg sz (fun r => ∃ z : Int32, r = some (.int z) ∧ z.toInt = 0)) := by
  refine MC.of (own := RX12) (by decide +kernel) rfl (Nat.le_of_ble_eq_true rfl) ?_
  intro p e s m args below meth c ls C hr hlk hnm hw hsz hl
  have hx := C.1.1
  have hb := C.1.2.1
  have hown := C.1.2.2.2.1
  have hts := C.1.2.2.2.2
  have hl : lv_has ls 1 [(0, .ref (B + 49))] := hl
  refine lv_aload_n hx hb dX12_isSum_0 rfl (lv_at hl 0 rfl) ?_
  refine r_get C hw (hsh 49 _ rfl) fl_X12_52 (oV_i rfl) dX12_isSum_1 (ti_c (ig (B + 49) 8).toInt rfl fun z1 hz1 => ?_)
  refine z_ne (tgt := 40) hx hb dX12_isSum_4 (by decide) (fun c4 => ?_) (fun c4 => ?_)
  · refine lv_iconst (v := 0) hx hb dX12_isSum_40 (by decide) (ti_c 0 (by decide) fun z2 hz2 => ?_)
    exact r_iret C hw hr hlk (nar_b (by omega)) (Nat.le_of_ble_eq_true rfl) (Nat.le_of_ble_eq_true rfl) dX12_isSum_41 ⟨rfl, rfl, rfl, rfl, hsz, _, rfl, by omega⟩
  · refine lv_aload_n hx hb dX12_isSum_7 rfl (lv_at hl 0 rfl) ?_
    refine r_get C hw (hsh 49 _ rfl) fl_X12_32 (oV_r rfl (hrm (49, 4, 51) (by decide))) dX12_isSum_8 ?_
    refine lv_aload_n hx hb dX12_isSum_11 rfl (lv_at hl 0 rfl) ?_
    refine r_get C hw (hsh 49 _ rfl) fl_X12_49 (oV_i rfl) dX12_isSum_12 (ti_c (ig (B + 49) 7).toInt rfl fun z3 hz3 => ?_)
    have k4 := z0 ha
    refine r_iald C hw (hsh 51 _ rfl) (by omega) (by omega) dX12_isSum_15 (ti_c (ig (B + 51) z3.toInt.toNat).toInt rfl fun z5 hz5 => ?_)
    have k6 : (ig (B + 51) z3.toInt.toNat).toInt = 0 := by rw [show z3.toInt.toNat = 0 by omega]; exact z0 hs
    refine lv_iconst (v := 1) hx hb dX12_isSum_16 (by decide) (ti_c 1 (by decide) fun z7 hz7 => ?_)
    refine b_ne (tgt := 40) hx hb dX12_isSum_17 (by decide) (fun c17 => ?_) (fun c17 => ?_)
    · refine lv_iconst (v := 0) hx hb dX12_isSum_40 (by decide) (ti_c 0 (by decide) fun z8 hz8 => ?_)
      exact r_iret C hw hr hlk (nar_b (by omega)) (Nat.le_of_ble_eq_true rfl) (Nat.le_of_ble_eq_true rfl) dX12_isSum_41 ⟨rfl, rfl, rfl, rfl, hsz, _, rfl, by omega⟩
    · exact absurd c17 (by omega)

set_option maxHeartbeats 4000000 in
set_option maxRecDepth 100000 in
theorem t_X12_isColumn (l : Launch) (B : Nat) (D : va_G) (cA : Nat → ClassId) (kd : sK) (ig : sI) (rg : sR) (lg : sG) (sz : Nat) (hsh : Sh B kd) (hrm : Rm B rg) (ha : ig (B + 49) 7 = 0) (hs : ig (B + 51) 0 = 0) : MC l B D cA yX12_isColumn cX12_isColumn 1 (some .boolean) (rL 0 0 0) [.ref (B + 49)] kd ig rg lg sz (Pu kd ig rg lg sz (fun r => ∃ z : Int32, r = some (.int z) ∧ z.toInt = 0)) := by
  refine MC.of (own := RX12) (by decide +kernel) rfl (Nat.le_of_ble_eq_true rfl) ?_
  intro p e s m args below meth c ls C hr hlk hnm hw hsz hl
  have hx := C.1.1
  have hb := C.1.2.1
  have hown := C.1.2.2.2.1
  have hts := C.1.2.2.2.2
  have hl : lv_has ls 1 [(0, .ref (B + 49))] := hl
  refine lv_aload_n hx hb dX12_isColumn_0 rfl (lv_at hl 0 rfl) ?_
  refine r_get C hw (hsh 49 _ rfl) fl_X12_52 (oV_i rfl) dX12_isColumn_1 (ti_c (ig (B + 49) 8).toInt rfl fun z1 hz1 => ?_)
  refine z_ne (tgt := 54) hx hb dX12_isColumn_4 (by decide) (fun c4 => ?_) (fun c4 => ?_)
  · refine lv_iconst (v := 0) hx hb dX12_isColumn_54 (by decide) (ti_c 0 (by decide) fun z2 hz2 => ?_)
    exact r_iret C hw hr hlk (nar_b (by omega)) (Nat.le_of_ble_eq_true rfl) (Nat.le_of_ble_eq_true rfl) dX12_isColumn_55 ⟨rfl, rfl, rfl, rfl, hsz, _, rfl, by omega⟩
  · refine lv_aload_n hx hb dX12_isColumn_7 rfl (lv_at hl 0 rfl) ?_
    refine r_get C hw (hsh 49 _ rfl) fl_X12_32 (oV_r rfl (hrm (49, 4, 51) (by decide))) dX12_isColumn_8 ?_
    refine lv_aload_n hx hb dX12_isColumn_11 rfl (lv_at hl 0 rfl) ?_
    refine r_get C hw (hsh 49 _ rfl) fl_X12_49 (oV_i rfl) dX12_isColumn_12 (ti_c (ig (B + 49) 7).toInt rfl fun z3 hz3 => ?_)
    have k4 := z0 ha
    refine r_iald C hw (hsh 51 _ rfl) (by omega) (by omega) dX12_isColumn_15 (ti_c (ig (B + 51) z3.toInt.toNat).toInt rfl fun z5 hz5 => ?_)
    have k6 : (ig (B + 51) z3.toInt.toNat).toInt = 0 := by rw [show z3.toInt.toNat = 0 by omega]; exact z0 hs
    refine lv_iconst (v := 1) hx hb dX12_isColumn_16 (by decide) (ti_c 1 (by decide) fun z7 hz7 => ?_)
    refine b_ne (tgt := 54) hx hb dX12_isColumn_17 (by decide) (fun c17 => ?_) (fun c17 => ?_)
    · refine lv_iconst (v := 0) hx hb dX12_isColumn_54 (by decide) (ti_c 0 (by decide) fun z8 hz8 => ?_)
      exact r_iret C hw hr hlk (nar_b (by omega)) (Nat.le_of_ble_eq_true rfl) (Nat.le_of_ble_eq_true rfl) dX12_isColumn_55 ⟨rfl, rfl, rfl, rfl, hsz, _, rfl, by omega⟩
    · exact absurd c17 (by omega)

set_option maxHeartbeats 4000000 in
set_option maxRecDepth 100000 in
theorem t_X12_isPart (l : Launch) (B : Nat) (D : va_G) (cA : Nat → ClassId) (kd : sK) (ig : sI) (rg : sR) (lg : sG) (sz : Nat) (hsh : Sh B kd) (hrm : Rm B rg) (ha : ig (B + 49) 7 = 0) (hs : ig (B + 51) 0 = 0) : MC l B D cA yX12_isPart cX12_isPart 1 (some .boolean) (rL 1 0 0) [.ref (B + 49)] kd ig rg lg sz (Pu kd ig rg lg sz (fun r => ∃ z : Int32, r = some (.int z) ∧ z.toInt = 0)) := by
  refine MC.of (own := RX12) (by decide +kernel) rfl (Nat.le_of_ble_eq_true rfl) ?_
  intro p e s m args below meth c ls C hr hlk hnm hw hsz hl
  have hx := C.1.1
  have hb := C.1.2.1
  have hown := C.1.2.2.2.1
  have hts := C.1.2.2.2.2
  have hl : lv_has ls 1 [(0, .ref (B + 49))] := hl
  refine lv_aload_n hx hb dX12_isPart_0 rfl (lv_at hl 0 rfl) ?_
  refine r_get C hw (hsh 49 _ rfl) fl_X12_52 (oV_i rfl) dX12_isPart_1 (ti_c (ig (B + 49) 8).toInt rfl fun z1 hz1 => ?_)
  refine z_ne (tgt := 65) hx hb dX12_isPart_4 (by decide) (fun c4 => ?_) (fun c4 => ?_)
  · refine lv_iconst (v := 0) hx hb dX12_isPart_65 (by decide) (ti_c 0 (by decide) fun z2 hz2 => ?_)
    exact r_iret C hw hr hlk (nar_b (by omega)) (Nat.le_of_ble_eq_true rfl) (Nat.le_of_ble_eq_true rfl) dX12_isPart_66 ⟨rfl, rfl, rfl, rfl, hsz, _, rfl, by omega⟩
  · refine lv_aload_n hx hb dX12_isPart_7 rfl (lv_at hl 0 rfl) ?_
    refine r_get C hw (hsh 49 _ rfl) fl_X12_32 (oV_r rfl (hrm (49, 4, 51) (by decide))) dX12_isPart_8 ?_
    refine lv_aload_n hx hb dX12_isPart_11 rfl (lv_at hl 0 rfl) ?_
    refine r_get C hw (hsh 49 _ rfl) fl_X12_49 (oV_i rfl) dX12_isPart_12 (ti_c (ig (B + 49) 7).toInt rfl fun z3 hz3 => ?_)
    have k4 := z0 ha
    refine r_iald C hw (hsh 51 _ rfl) (by omega) (by omega) dX12_isPart_15 (ti_c (ig (B + 51) z3.toInt.toNat).toInt rfl fun z5 hz5 => ?_)
    have k6 : (ig (B + 51) z3.toInt.toNat).toInt = 0 := by rw [show z3.toInt.toNat = 0 by omega]; exact z0 hs
    refine lv_iconst (v := 2) hx hb dX12_isPart_16 (by decide) (ti_c 2 (by decide) fun z7 hz7 => ?_)
    refine b_eq (tgt := 61) hx hb dX12_isPart_17 (by decide) (fun c17 => ?_) (fun c17 => ?_)
    · exact absurd c17 (by omega)
    · refine lv_aload_n hx hb dX12_isPart_20 rfl (lv_at hl 0 rfl) ?_
      refine r_callV (As := []) (rest := []) C hw (t_X12_isColumn l B D cA kd ig rg lg _ hsh hrm ha hs) sv_X12_164 (hsh 49 _ rfl) rfl hl.1 rfl (Nat.le_of_ble_eq_true rfl) ⟨Nat.le_of_ble_eq_true rfl, Nat.le_of_ble_eq_true rfl⟩ ⟨Nat.le_of_ble_eq_true rfl, Nat.le_of_ble_eq_true rfl⟩ dX12_isPart_21 (fun r13 kd9 ig10 rg11 lg12 H locs hw hH hp14 => ?_)
      obtain ⟨rfl, rfl, rfl, rfl, hzz8, z8, rfl, hz8⟩ := hp14
      have hsz := hzz8.trans hsz
      refine z_ne (tgt := 61) hx hb dX12_isPart_24 (by decide) (fun c24 => ?_) (fun c24 => ?_)
      · exact absurd c24 (by omega)
      · refine lv_aload_n hx hb dX12_isPart_27 rfl (lv_at hl 0 rfl) ?_
        refine r_callV (As := []) (rest := []) C hw (t_X12_isSum l B D cA kd ig rg lg _ hsh hrm ha hs) sv_X12_168 (hsh 49 _ rfl) rfl hl.1 rfl (Nat.le_of_ble_eq_true rfl) ⟨Nat.le_of_ble_eq_true rfl, Nat.le_of_ble_eq_true rfl⟩ ⟨Nat.le_of_ble_eq_true rfl, Nat.le_of_ble_eq_true rfl⟩ dX12_isPart_28 (fun r20 kd16 ig17 rg18 lg19 H locs hw hH hp21 => ?_)
        obtain ⟨rfl, rfl, rfl, rfl, hzz15, z15, rfl, hz15⟩ := hp21
        have hsz := hzz15.trans hsz
        refine z_ne (tgt := 61) hx hb dX12_isPart_31 (by decide) (fun c31 => ?_) (fun c31 => ?_)
        · exact absurd c31 (by omega)
        · refine lv_aload_n hx hb dX12_isPart_34 rfl (lv_at hl 0 rfl) ?_
          refine lv_bipush (v := 36) hx hb dX12_isPart_35 (by decide) (ti_c 36 (by decide) fun z22 hz22 => ?_)
          refine r_callV (As := [.int z22]) (rest := []) C hw (t_X12_isSign l B D cA kd ig rg lg _ z22 hsh hrm ha hs) sv_X12_55 (hsh 49 _ rfl) rfl hl.1 rfl (Nat.le_of_ble_eq_true rfl) ⟨Nat.le_of_ble_eq_true rfl, Nat.le_of_ble_eq_true rfl⟩ ⟨Nat.le_of_ble_eq_true rfl, Nat.le_of_ble_eq_true rfl⟩ dX12_isPart_37 (fun r28 kd24 ig25 rg26 lg27 H locs hw hH hp29 => ?_)
          obtain ⟨rfl, rfl, rfl, rfl, hzz23, z23, rfl, hz23⟩ := hp29
          have hsz := hzz23.trans hsz
          refine z_ne (tgt := 61) hx hb dX12_isPart_40 (by decide) (fun c40 => ?_) (fun c40 => ?_)
          · exact absurd c40 (by omega)
          · refine lv_aload_n hx hb dX12_isPart_43 rfl (lv_at hl 0 rfl) ?_
            refine lv_bipush (v := 40) hx hb dX12_isPart_44 (by decide) (ti_c 40 (by decide) fun z30 hz30 => ?_)
            refine r_callV (As := [.int z30]) (rest := []) C hw (t_X12_isSign l B D cA kd ig rg lg _ z30 hsh hrm ha hs) sv_X12_55 (hsh 49 _ rfl) rfl hl.1 rfl (Nat.le_of_ble_eq_true rfl) ⟨Nat.le_of_ble_eq_true rfl, Nat.le_of_ble_eq_true rfl⟩ ⟨Nat.le_of_ble_eq_true rfl, Nat.le_of_ble_eq_true rfl⟩ dX12_isPart_46 (fun r36 kd32 ig33 rg34 lg35 H locs hw hH hp37 => ?_)
            obtain ⟨rfl, rfl, rfl, rfl, hzz31, z31, rfl, hz31⟩ := hp37
            have hsz := hzz31.trans hsz
            refine z_ne (tgt := 61) hx hb dX12_isPart_49 (by decide) (fun c49 => ?_) (fun c49 => ?_)
            · exact absurd c49 (by omega)
            · refine lv_aload_n hx hb dX12_isPart_52 rfl (lv_at hl 0 rfl) ?_
              refine lv_bipush (v := 45) hx hb dX12_isPart_53 (by decide) (ti_c 45 (by decide) fun z38 hz38 => ?_)
              refine r_callV (As := [.int z38]) (rest := []) C hw (t_X12_isSign l B D cA kd ig rg lg _ z38 hsh hrm ha hs) sv_X12_55 (hsh 49 _ rfl) rfl hl.1 rfl (Nat.le_of_ble_eq_true rfl) ⟨Nat.le_of_ble_eq_true rfl, Nat.le_of_ble_eq_true rfl⟩ ⟨Nat.le_of_ble_eq_true rfl, Nat.le_of_ble_eq_true rfl⟩ dX12_isPart_55 (fun r44 kd40 ig41 rg42 lg43 H locs hw hH hp45 => ?_)
              obtain ⟨rfl, rfl, rfl, rfl, hzz39, z39, rfl, hz39⟩ := hp45
              have hsz := hzz39.trans hsz
              refine z_eq (tgt := 65) hx hb dX12_isPart_58 (by decide) (fun c58 => ?_) (fun c58 => ?_)
              · refine lv_iconst (v := 0) hx hb dX12_isPart_65 (by decide) (ti_c 0 (by decide) fun z46 hz46 => ?_)
                exact r_iret C hw hr hlk (nar_b (by omega)) (Nat.le_of_ble_eq_true rfl) (Nat.le_of_ble_eq_true rfl) dX12_isPart_66 ⟨rfl, rfl, rfl, rfl, hsz, _, rfl, by omega⟩
              · exact absurd c58 (by omega)

set_option maxHeartbeats 4000000 in
set_option maxRecDepth 100000 in
theorem t_X12_wrong (l : Launch) (B : Nat) (D : va_G) (cA : Nat → ClassId) (kd : sK) (ig : sI) (rg : sR) (lg : sG) (sz : Nat) (x : Int32) (hx0 : x.toInt = 1) (hsh : Sh B kd) (hrm : Rm B rg) (ha : ig (B + 49) 7 = 0) (hp0 : ig (B + 52) 0 = 0) (hf0 : ig (B + 49) 8 = 0) : MC l B D cA yX12_wrong cX12_wrong 2 none (rL 0 0 0) [.ref (B + 49), .int x] kd ig rg lg sz (fun r kd' ig' rg' lg' n => kd = kd' ∧ rg = rg' ∧ lg = lg' ∧ n = sz ∧ (r = none) ∧ Off B 49 50 ig' ig ∧ (ig' (B + 49) 8).toInt = 1 ∧ ig' (B + 49) 7 = 0) := by
  refine MC.of (own := RX12) (by decide +kernel) rfl (Nat.le_of_ble_eq_true rfl) ?_
  intro p e s m args below meth c ls C hr hlk hnm hw hsz hl
  have hx := C.1.1
  have hb := C.1.2.1
  have hown := C.1.2.2.2.1
  have hts := C.1.2.2.2.2
  have hl : lv_has ls 2 [(0, .ref (B + 49)), (1, .int x)] := hl
  have oig : Off B 49 50 ig ig := Off.rf
  refine lv_aload_n hx hb dX12_wrong_0 rfl (lv_at hl 0 rfl) ?_
  refine r_get C hw (hsh 49 _ rfl) fl_X12_52 (oV_i rfl) dX12_wrong_1 (ti_c (ig (B + 49) 8).toInt rfl fun z1 hz1 => ?_)
  have k2 := z0 hf0
  refine z_ne (tgt := 25) hx hb dX12_wrong_4 (by decide) (fun c4 => ?_) (fun c4 => ?_)
  · exact absurd c4 (by omega)
  · refine lv_aload_n hx hb dX12_wrong_7 rfl (lv_at hl 0 rfl) ?_
    refine lv_iload_n hx hb dX12_wrong_8 rfl (lv_at hl 1 rfl) ?_
    refine lv_bipush (v := 16) hx hb dX12_wrong_9 (by decide) (ti_c 16 (by decide) fun z3 hz3 => ?_)
    refine lv_aload_n hx hb dX12_wrong_11 rfl (lv_at hl 0 rfl) ?_
    refine r_get C hw (hsh 49 _ rfl) fl_X12_21 (oV_r rfl (hrm (49, 5, 52) (by decide))) dX12_wrong_12 ?_
    refine lv_aload_n hx hb dX12_wrong_15 rfl (lv_at hl 0 rfl) ?_
    refine r_get C hw (hsh 49 _ rfl) fl_X12_49 (oV_i rfl) dX12_wrong_16 (ti_c (ig (B + 49) 7).toInt rfl fun z4 hz4 => ?_)
    have k5 := z0 ha
    refine r_iald C hw (hsh 52 _ rfl) (by omega) (by omega) dX12_wrong_19 (ti_c (ig (B + 52) z4.toInt.toNat).toInt rfl fun z6 hz6 => ?_)
    have k7 : (ig (B + 52) z4.toInt.toNat).toInt = 0 := by rw [show z4.toInt.toNat = 0 by omega]; exact z0 hp0
    refine lv_imul hx hb dX12_wrong_20 (ti_mulL 16 hz3 (by omega) fun z8 hz8 => ?_)
    refine lv_iadd hx hb dX12_wrong_21 (ti_add (by omega) fun z9 hz9 => ?_)
    refine r_puti C hw (hsh 49 _ rfl) fl_X12_52 rfl rfl rfl dX12_wrong_22 (fun H locs hH hw => ?_)
    obtain ⟨ig10, eig10⟩ : ∃ f, f = up2 ig (B + 49) 8 z9 := ⟨_, rfl⟩
    rw [← eig10] at hw
    have hsz := hH.trans hsz
    have oig : Off B 49 50 ig10 ig := fun a j h => by rw [eig10]; exact (up2_a (by omega)).trans (oig a j h)
    exact r_vret C hw hr hlk (Nat.le_of_ble_eq_true rfl) (Nat.le_of_ble_eq_true rfl) dX12_wrong_25 ⟨rfl, rfl, rfl, hsz, rfl, oig, by rw [eig10, up2_eq]; omega, by rw [eig10, up2_j (by decide)]; exact ha⟩

set_option maxHeartbeats 4000000 in
set_option maxRecDepth 100000 in
theorem t_X12_readPart (l : Launch) (B : Nat) (D : va_G) (cA : Nat → ClassId) (kd : sK) (ig : sI) (rg : sR) (lg : sG) (sz : Nat) (hsh : Sh B kd) (hrm : Rm B rg) (ha : ig (B + 49) 7 = 0) (hs : ig (B + 51) 0 = 0) (hp0 : ig (B + 52) 0 = 0) (hf0 : ig (B + 49) 8 = 0) : MC l B D cA yX12_readPart cX12_readPart 2 none (rL 2 0 0) [.ref (B + 49)] kd ig rg lg sz (fun r kd' ig' rg' lg' n => kd = kd' ∧ rg = rg' ∧ lg = lg' ∧ n = sz ∧ (r = none) ∧ Off B 49 50 ig' ig ∧ (ig' (B + 49) 8).toInt = 1 ∧ ig' (B + 49) 7 = 0) := by
  refine MC.of (own := RX12) (by decide +kernel) rfl (Nat.le_of_ble_eq_true rfl) ?_
  intro p e s m args below meth c ls C hr hlk hnm hw hsz hl
  have hx := C.1.1
  have hb := C.1.2.1
  have hown := C.1.2.2.2.1
  have hts := C.1.2.2.2.2
  have hl : lv_has ls 2 [(0, .ref (B + 49))] := hl
  have oig : Off B 49 50 ig ig := Off.rf
  refine lv_aload_n hx hb dX12_readPart_0 rfl (lv_at hl 0 rfl) ?_
  refine r_callV (As := []) (rest := []) C hw (t_X12_isPart l B D cA kd ig rg lg _ hsh hrm ha hs) sv_X12_171 (hsh 49 _ rfl) rfl hl.1 rfl (Nat.le_of_ble_eq_true rfl) ⟨Nat.le_of_ble_eq_true rfl, Nat.le_of_ble_eq_true rfl⟩ ⟨Nat.le_of_ble_eq_true rfl, Nat.le_of_ble_eq_true rfl⟩ dX12_readPart_1 (fun r6 kd2 ig3 rg4 lg5 H locs hw hH hp7 => ?_)
  obtain ⟨rfl, rfl, rfl, rfl, hzz1, z1, rfl, hz1⟩ := hp7
  have hsz := hzz1.trans hsz
  refine z_ne (tgt := 15) hx hb dX12_readPart_4 (by decide) (fun c4 => ?_) (fun c4 => ?_)
  · exact absurd c4 (by omega)
  · refine lv_aload_n hx hb dX12_readPart_7 rfl (lv_at hl 0 rfl) ?_
    refine lv_iconst (v := 1) hx hb dX12_readPart_8 (by decide) (ti_c 1 (by decide) fun z8 hz8 => ?_)
    refine r_callV (As := [.int z8]) (rest := []) C hw (t_X12_wrong l B D cA kd ig rg lg _ z8 (by omega) hsh hrm ha hp0 hf0) sv_X12_147 (hsh 49 _ rfl) rfl hl.1 rfl (Nat.le_of_ble_eq_true rfl) ⟨Nat.le_of_ble_eq_true rfl, Nat.le_of_ble_eq_true rfl⟩ ⟨Nat.le_of_ble_eq_true rfl, Nat.le_of_ble_eq_true rfl⟩ dX12_readPart_9 (fun r14 kd10 ig11 rg12 lg13 H locs hw hH hp15 => ?_)
    obtain ⟨rfl, rfl, rfl, hq9, rfl, oa9, hf8, ha⟩ := hp15
    have hsz := hq9.trans hsz
    have oig := Off.tr (lo := 49) (hi := 50) oa9 oig (by decide) (by decide)
    refine lv_goto (tgt := 29) hx hb dX12_readPart_12 (by decide) ?_
    refine lv_aload_n hx hb dX12_readPart_29 rfl (lv_at hl 0 rfl) ?_
    refine r_get C hw (hsh 49 _ rfl) fl_X12_52 (oV_i rfl) dX12_readPart_30 (ti_c (ig11 (B + 49) 8).toInt rfl fun z16 hz16 => ?_)
    refine z_le (tgt := 37) hx hb dX12_readPart_33 (by decide) (fun c33 => ?_) (fun c33 => ?_)
    · exact absurd c33 (by omega)
    · exact r_vret C hw hr hlk (Nat.le_of_ble_eq_true rfl) (Nat.le_of_ble_eq_true rfl) dX12_readPart_36 ⟨rfl, rfl, rfl, hsz, rfl, oig, hf8, ha⟩

set_option maxHeartbeats 4000000 in
set_option maxRecDepth 100000 in
theorem t_X12_readProduct (l : Launch) (B : Nat) (D : va_G) (cA : Nat → ClassId) (kd : sK) (ig : sI) (rg : sR) (lg : sG) (sz : Nat) (hsh : Sh B kd) (hrm : Rm B rg) (ha : ig (B + 49) 7 = 0) (hs : ig (B + 51) 0 = 0) (hp0 : ig (B + 52) 0 = 0) (hf0 : ig (B + 49) 8 = 0) : MC l B D cA yX12_readProduct cX12_readProduct 1 none (rL 3 0 0) [.ref (B + 49)] kd ig rg lg sz (fun r kd' ig' rg' lg' n => kd = kd' ∧ rg = rg' ∧ lg = lg' ∧ n = sz ∧ (r = none) ∧ Off B 49 50 ig' ig ∧ (ig' (B + 49) 8).toInt = 1 ∧ ig' (B + 49) 7 = 0) := by
  refine MC.of (own := RX12) (by decide +kernel) rfl (Nat.le_of_ble_eq_true rfl) ?_
  intro p e s m args below meth c ls C hr hlk hnm hw hsz hl
  have hx := C.1.1
  have hb := C.1.2.1
  have hown := C.1.2.2.2.1
  have hts := C.1.2.2.2.2
  have hl : lv_has ls 1 [(0, .ref (B + 49))] := hl
  have oig : Off B 49 50 ig ig := Off.rf
  refine lv_aload_n hx hb dX12_readProduct_0 rfl (lv_at hl 0 rfl) ?_
  refine r_callV (As := []) (rest := []) C hw (t_X12_readPart l B D cA kd ig rg lg _ hsh hrm ha hs hp0 hf0) sv_X12_161 (hsh 49 _ rfl) rfl hl.1 rfl (Nat.le_of_ble_eq_true rfl) ⟨Nat.le_of_ble_eq_true rfl, Nat.le_of_ble_eq_true rfl⟩ ⟨Nat.le_of_ble_eq_true rfl, Nat.le_of_ble_eq_true rfl⟩ dX12_readProduct_1 (fun r6 kd2 ig3 rg4 lg5 H locs hw hH hp7 => ?_)
  obtain ⟨rfl, rfl, rfl, hq1, rfl, oa1, hf8, ha⟩ := hp7
  have hsz := hq1.trans hsz
  have oig := Off.tr (lo := 49) (hi := 50) oa1 oig (by decide) (by decide)
  have hs := (oa1 (B + 51) 0 (by omega)).trans hs
  refine lv_aload_n hx hb dX12_readProduct_4 rfl (lv_at hl 0 rfl) ?_
  refine lv_bipush (v := 42) hx hb dX12_readProduct_5 (by decide) (ti_c 42 (by decide) fun z8 hz8 => ?_)
  refine r_callV (As := [.int z8]) (rest := []) C hw (t_X12_isSign l B D cA kd ig3 rg lg _ z8 hsh hrm ha hs) sv_X12_55 (hsh 49 _ rfl) rfl hl.1 rfl (Nat.le_of_ble_eq_true rfl) ⟨Nat.le_of_ble_eq_true rfl, Nat.le_of_ble_eq_true rfl⟩ ⟨Nat.le_of_ble_eq_true rfl, Nat.le_of_ble_eq_true rfl⟩ dX12_readProduct_7 (fun r14 kd10 ig11 rg12 lg13 H locs hw hH hp15 => ?_)
  obtain ⟨rfl, rfl, rfl, rfl, hzz9, z9, rfl, hz9⟩ := hp15
  have hsz := hzz9.trans hsz
  refine z_ne (tgt := 22) hx hb dX12_readProduct_10 (by decide) (fun c10 => ?_) (fun c10 => ?_)
  · exact absurd c10 (by omega)
  · refine lv_aload_n hx hb dX12_readProduct_13 rfl (lv_at hl 0 rfl) ?_
    refine lv_bipush (v := 47) hx hb dX12_readProduct_14 (by decide) (ti_c 47 (by decide) fun z16 hz16 => ?_)
    refine r_callV (As := [.int z16]) (rest := []) C hw (t_X12_isSign l B D cA kd ig3 rg lg _ z16 hsh hrm ha hs) sv_X12_55 (hsh 49 _ rfl) rfl hl.1 rfl (Nat.le_of_ble_eq_true rfl) ⟨Nat.le_of_ble_eq_true rfl, Nat.le_of_ble_eq_true rfl⟩ ⟨Nat.le_of_ble_eq_true rfl, Nat.le_of_ble_eq_true rfl⟩ dX12_readProduct_16 (fun r22 kd18 ig19 rg20 lg21 H locs hw hH hp23 => ?_)
    obtain ⟨rfl, rfl, rfl, rfl, hzz17, z17, rfl, hz17⟩ := hp23
    have hsz := hzz17.trans hsz
    refine z_eq (tgt := 43) hx hb dX12_readProduct_19 (by decide) (fun c19 => ?_) (fun c19 => ?_)
    · exact r_vret C hw hr hlk (Nat.le_of_ble_eq_true rfl) (Nat.le_of_ble_eq_true rfl) dX12_readProduct_43 ⟨rfl, rfl, rfl, hsz, rfl, oig, hf8, ha⟩
    · exact absurd c19 (by omega)

set_option maxHeartbeats 4000000 in
set_option maxRecDepth 100000 in
theorem t_X12_readE (l : Launch) (B : Nat) (D : va_G) (cA : Nat → ClassId) (kd : sK) (ig : sI) (rg : sR) (lg : sG) (sz : Nat) (hsh : Sh B kd) (hrm : Rm B rg) (ha : ig (B + 49) 7 = 0) (hs : ig (B + 51) 0 = 0) (hp0 : ig (B + 52) 0 = 0) (hf0 : ig (B + 49) 8 = 0) : MC l B D cA yX12_readE cX12_readE 1 none (rL 4 0 0) [.ref (B + 49)] kd ig rg lg sz (fun r kd' ig' rg' lg' n => kd = kd' ∧ rg = rg' ∧ lg = lg' ∧ n = sz ∧ (r = none) ∧ Off B 49 50 ig' ig ∧ (ig' (B + 49) 8).toInt = 1 ∧ ig' (B + 49) 7 = 0) := by
  refine MC.of (own := RX12) (by decide +kernel) rfl (Nat.le_of_ble_eq_true rfl) ?_
  intro p e s m args below meth c ls C hr hlk hnm hw hsz hl
  have hx := C.1.1
  have hb := C.1.2.1
  have hown := C.1.2.2.2.1
  have hts := C.1.2.2.2.2
  have hl : lv_has ls 1 [(0, .ref (B + 49))] := hl
  have oig : Off B 49 50 ig ig := Off.rf
  refine lv_aload_n hx hb dX12_readE_0 rfl (lv_at hl 0 rfl) ?_
  refine r_callV (As := []) (rest := []) C hw (t_X12_readProduct l B D cA kd ig rg lg _ hsh hrm ha hs hp0 hf0) sv_X12_155 (hsh 49 _ rfl) rfl hl.1 rfl (Nat.le_of_ble_eq_true rfl) ⟨Nat.le_of_ble_eq_true rfl, Nat.le_of_ble_eq_true rfl⟩ ⟨Nat.le_of_ble_eq_true rfl, Nat.le_of_ble_eq_true rfl⟩ dX12_readE_1 (fun r6 kd2 ig3 rg4 lg5 H locs hw hH hp7 => ?_)
  obtain ⟨rfl, rfl, rfl, hq1, rfl, oa1, hf8, ha⟩ := hp7
  have hsz := hq1.trans hsz
  have oig := Off.tr (lo := 49) (hi := 50) oa1 oig (by decide) (by decide)
  have hs := (oa1 (B + 51) 0 (by omega)).trans hs
  refine lv_aload_n hx hb dX12_readE_4 rfl (lv_at hl 0 rfl) ?_
  refine lv_bipush (v := 43) hx hb dX12_readE_5 (by decide) (ti_c 43 (by decide) fun z8 hz8 => ?_)
  refine r_callV (As := [.int z8]) (rest := []) C hw (t_X12_isSign l B D cA kd ig3 rg lg _ z8 hsh hrm ha hs) sv_X12_55 (hsh 49 _ rfl) rfl hl.1 rfl (Nat.le_of_ble_eq_true rfl) ⟨Nat.le_of_ble_eq_true rfl, Nat.le_of_ble_eq_true rfl⟩ ⟨Nat.le_of_ble_eq_true rfl, Nat.le_of_ble_eq_true rfl⟩ dX12_readE_7 (fun r14 kd10 ig11 rg12 lg13 H locs hw hH hp15 => ?_)
  obtain ⟨rfl, rfl, rfl, rfl, hzz9, z9, rfl, hz9⟩ := hp15
  have hsz := hzz9.trans hsz
  refine z_ne (tgt := 22) hx hb dX12_readE_10 (by decide) (fun c10 => ?_) (fun c10 => ?_)
  · exact absurd c10 (by omega)
  · refine lv_aload_n hx hb dX12_readE_13 rfl (lv_at hl 0 rfl) ?_
    refine lv_bipush (v := 45) hx hb dX12_readE_14 (by decide) (ti_c 45 (by decide) fun z16 hz16 => ?_)
    refine r_callV (As := [.int z16]) (rest := []) C hw (t_X12_isSign l B D cA kd ig3 rg lg _ z16 hsh hrm ha hs) sv_X12_55 (hsh 49 _ rfl) rfl hl.1 rfl (Nat.le_of_ble_eq_true rfl) ⟨Nat.le_of_ble_eq_true rfl, Nat.le_of_ble_eq_true rfl⟩ ⟨Nat.le_of_ble_eq_true rfl, Nat.le_of_ble_eq_true rfl⟩ dX12_readE_16 (fun r22 kd18 ig19 rg20 lg21 H locs hw hH hp23 => ?_)
    obtain ⟨rfl, rfl, rfl, rfl, hzz17, z17, rfl, hz17⟩ := hp23
    have hsz := hzz17.trans hsz
    refine z_eq (tgt := 43) hx hb dX12_readE_19 (by decide) (fun c19 => ?_) (fun c19 => ?_)
    · exact r_vret C hw hr hlk (Nat.le_of_ble_eq_true rfl) (Nat.le_of_ble_eq_true rfl) dX12_readE_43 ⟨rfl, rfl, rfl, hsz, rfl, oig, hf8, ha⟩
    · exact absurd c19 (by omega)

set_option maxHeartbeats 4000000 in
set_option maxRecDepth 100000 in
theorem t_X12_cutAll (l : Launch) (B : Nat) (D : va_G) (cA : Nat → ClassId) (kd : sK) (ig : sI) (rg : sR) (lg : sG) (sz : Nat) (hsh : Sh B kd) (hrm : Rm B rg) (ht : ig (B + 49) 2 = 0) : MC l B D cA yX12_cutAll cX12_cutAll 7 none (rL 0 0 0) [.ref (B + 49)] kd ig rg lg sz (fun r kd' ig' rg' lg' n => kd = kd' ∧ rg = rg' ∧ lg = lg' ∧ n = sz ∧ (r = none) ∧ Off B 49 53 ig' ig ∧ ig' (B + 49) 7 = 0 ∧ ig' (B + 49) 8 = 0 ∧ ig' (B + 51) 0 = 0 ∧ ig' (B + 52) 0 = 0) := by
  refine MC.of (own := RX12) (by decide +kernel) rfl (Nat.le_of_ble_eq_true rfl) ?_
  intro p e s m args below meth c ls C hr hlk hnm hw hsz hl
  have hx := C.1.1
  have hb := C.1.2.1
  have hown := C.1.2.2.2.1
  have hts := C.1.2.2.2.2
  have hl : lv_has ls 7 [(0, .ref (B + 49))] := hl
  have oig : Off B 49 53 ig ig := Off.rf
  refine lv_aload_n hx hb dX12_cutAll_0 rfl (lv_at hl 0 rfl) ?_
  refine lv_aload_n hx hb dX12_cutAll_1 rfl (lv_at hl 0 rfl) ?_
  refine r_get C hw (hsh 49 _ rfl) fl_X12_11 (oV_i rfl) dX12_cutAll_2 (ti_c (ig (B + 49) 2).toInt rfl fun z1 hz1 => ?_)
  have k2 : (ig (B + 49) (2)).toInt = 0 := by exact z0 (ht)
  refine r_puti C hw (hsh 49 _ rfl) fl_X12_18 rfl rfl rfl dX12_cutAll_5 (fun H locs hH hw => ?_)
  obtain ⟨ig3, eig3⟩ : ∃ f, f = up2 ig (B + 49) 3 z1 := ⟨_, rfl⟩
  rw [← eig3] at hw
  have hsz := hH.trans hsz
  have oig : Off B 49 53 ig3 ig := fun a j h => by rw [eig3]; exact (up2_a (by omega)).trans (oig a j h)
  refine lv_aload_n hx hb dX12_cutAll_8 rfl (lv_at hl 0 rfl) ?_
  refine lv_iconst (v := 0) hx hb dX12_cutAll_9 (by decide) (ti_c 0 (by decide) fun z4 hz4 => ?_)
  refine r_puti C hw (hsh 49 _ rfl) fl_X12_11 rfl rfl rfl dX12_cutAll_10 (fun H locs hH hw => ?_)
  obtain ⟨ig5, eig5⟩ : ∃ f, f = up2 ig3 (B + 49) 2 z4 := ⟨_, rfl⟩
  rw [← eig5] at hw
  have hsz := hH.trans hsz
  have oig : Off B 49 53 ig5 ig := fun a j h => by rw [eig5]; exact (up2_a (by omega)).trans (oig a j h)
  refine lv_iconst (v := 0) hx hb dX12_cutAll_13 (by decide) (ti_c 0 (by decide) fun z6 hz6 => ?_)
  refine lv_istore_n (lv' := [(1, .int z6), (0, .ref (B + 49))]) hx hb dX12_cutAll_14 rfl hl (by decide) rfl (fun ls hl => ?_)
  refine lv_iconst (v := 0) hx hb dX12_cutAll_15 (by decide) (ti_c 0 (by decide) fun z7 hz7 => ?_)
  refine lv_istore_n (lv' := [(2, .int z7), (1, .int z6), (0, .ref (B + 49))]) hx hb dX12_cutAll_16 rfl hl (by decide) rfl (fun ls hl => ?_)
  refine lv_iload_n hx hb dX12_cutAll_17 rfl (lv_at hl 0 rfl) ?_
  refine lv_aload_n hx hb dX12_cutAll_18 rfl (lv_at hl 2 rfl) ?_
  refine r_get C hw (hsh 49 _ rfl) fl_X12_18 (oV_i rfl) dX12_cutAll_19 (ti_c (ig5 (B + 49) 3).toInt rfl fun z8 hz8 => ?_)
  have k9 : (ig5 (B + 49) (3)).toInt = z1.toInt := by rw [eig5, up2_j (by decide), eig3, up2_eq]
  refine b_ge (tgt := 274) hx hb dX12_cutAll_22 (by decide) (fun c22 => ?_) (fun c22 => ?_)
  · refine lv_aload_n hx hb dX12_cutAll_274 rfl (lv_at hl 2 rfl) ?_
    refine r_get C hw (hsh 49 _ rfl) fl_X12_32 (oV_r rfl (hrm (49, 4, 51) (by decide))) dX12_cutAll_275 ?_
    refine lv_iload_n hx hb dX12_cutAll_278 rfl (lv_at hl 1 rfl) ?_
    refine lv_iconst (v := 0) hx hb dX12_cutAll_279 (by decide) (ti_c 0 (by decide) fun z10 hz10 => ?_)
    refine r_iast C hw (hsh 51 _ rfl) (by omega) (by omega) dX12_cutAll_280 (fun H locs hH hw => ?_)
    obtain ⟨ig11, eig11⟩ : ∃ f, f = up2 ig5 (B + 51) z6.toInt.toNat z10 := ⟨_, rfl⟩
    rw [← eig11] at hw
    have hsz := hH.trans hsz
    have oig : Off B 49 53 ig11 ig := fun a j h => by rw [eig11]; exact (up2_a (by omega)).trans (oig a j h)
    refine lv_aload_n hx hb dX12_cutAll_281 rfl (lv_at hl 2 rfl) ?_
    refine r_get C hw (hsh 49 _ rfl) fl_X12_21 (oV_r rfl (hrm (49, 5, 52) (by decide))) dX12_cutAll_282 ?_
    refine lv_iload_n hx hb dX12_cutAll_285 rfl (lv_at hl 1 rfl) ?_
    refine lv_aload_n hx hb dX12_cutAll_286 rfl (lv_at hl 2 rfl) ?_
    refine r_get C hw (hsh 49 _ rfl) fl_X12_18 (oV_i rfl) dX12_cutAll_287 (ti_c (ig11 (B + 49) 3).toInt rfl fun z12 hz12 => ?_)
    have k13 : (ig11 (B + 49) (3)).toInt = z1.toInt := by rw [eig11, up2_a (by omega), eig5, up2_j (by decide), eig3, up2_eq]
    refine r_iast C hw (hsh 52 _ rfl) (by omega) (by omega) dX12_cutAll_290 (fun H locs hH hw => ?_)
    obtain ⟨ig14, eig14⟩ : ∃ f, f = up2 ig11 (B + 52) z6.toInt.toNat z12 := ⟨_, rfl⟩
    rw [← eig14] at hw
    have hsz := hH.trans hsz
    have oig : Off B 49 53 ig14 ig := fun a j h => by rw [eig14]; exact (up2_a (by omega)).trans (oig a j h)
    refine lv_aload_n hx hb dX12_cutAll_291 rfl (lv_at hl 2 rfl) ?_
    refine lv_iconst (v := 0) hx hb dX12_cutAll_292 (by decide) (ti_c 0 (by decide) fun z15 hz15 => ?_)
    refine r_puti C hw (hsh 49 _ rfl) fl_X12_49 rfl rfl rfl dX12_cutAll_293 (fun H locs hH hw => ?_)
    obtain ⟨ig16, eig16⟩ : ∃ f, f = up2 ig14 (B + 49) 7 z15 := ⟨_, rfl⟩
    rw [← eig16] at hw
    have hsz := hH.trans hsz
    have oig : Off B 49 53 ig16 ig := fun a j h => by rw [eig16]; exact (up2_a (by omega)).trans (oig a j h)
    refine lv_aload_n hx hb dX12_cutAll_296 rfl (lv_at hl 2 rfl) ?_
    refine lv_iconst (v := 0) hx hb dX12_cutAll_297 (by decide) (ti_c 0 (by decide) fun z17 hz17 => ?_)
    refine r_puti C hw (hsh 49 _ rfl) fl_X12_52 rfl rfl rfl dX12_cutAll_298 (fun H locs hH hw => ?_)
    obtain ⟨ig18, eig18⟩ : ∃ f, f = up2 ig16 (B + 49) 8 z17 := ⟨_, rfl⟩
    rw [← eig18] at hw
    have hsz := hH.trans hsz
    have oig : Off B 49 53 ig18 ig := fun a j h => by rw [eig18]; exact (up2_a (by omega)).trans (oig a j h)
    exact r_vret C hw hr hlk (Nat.le_of_ble_eq_true rfl) (Nat.le_of_ble_eq_true rfl) dX12_cutAll_301 ⟨rfl, rfl, rfl, hsz, rfl, oig, by rw [eig18, up2_j (by decide), eig16, up2_eq]; exact eq0 (by omega), by rw [eig18, up2_eq]; exact eq0 (by omega), by rw [eig18, up2_a (by omega), eig16, up2_a (by omega), eig14, up2_a (by omega), eig11, show z6.toInt.toNat = 0 by omega, up2_eq]; exact eq0 (by omega), by rw [eig18, up2_a (by omega), eig16, up2_a (by omega), eig14, show z6.toInt.toNat = 0 by omega, up2_eq]; exact eq0 (by omega)⟩
  · exact absurd c22 (by omega)

set_option maxHeartbeats 4000000 in
set_option maxRecDepth 100000 in
theorem t_X12_clearDraft (l : Launch) (B : Nat) (D : va_G) (cA : Nat → ClassId) (kd : sK) (ig : sI) (rg : sR) (lg : sG) (sz : Nat) (x y : Int32) (hsh : Sh B kd) (hrm : Rm B rg) : MC l B D cA yX12_clearDraft cX12_clearDraft 4 none (rL 0 0 0) [.ref (B + 49), .int x, .int y] kd ig rg lg sz (fun r kd' ig' rg' lg' n => kd = kd' ∧ rg = rg' ∧ lg = lg' ∧ n = sz ∧ (r = none) ∧ Off B 58 62 ig' ig ∧ (KI B ig → (x.toInt = 0 ∨ x.toInt = 1) → KI B ig')) := by
  refine MC.of (own := RX12) (by decide +kernel) rfl (Nat.le_of_ble_eq_true rfl) ?_
  intro p e s m args below meth c ls C hr hlk hnm hw hsz hl
  have hx := C.1.1
  have hb := C.1.2.1
  have hown := C.1.2.2.2.1
  have hts := C.1.2.2.2.2
  have hl : lv_has ls 4 [(0, .ref (B + 49)), (1, .int x), (2, .int y)] := hl
  have oig : Off B 58 62 ig ig := Off.rf
  refine lv_aload_n hx hb dX12_clearDraft_0 rfl (lv_at hl 0 rfl) ?_
  refine r_get C hw (hsh 49 _ rfl) fl_X12_80 (oV_r rfl (hrm (49, 15, 59) (by decide))) dX12_clearDraft_1 ?_
  refine lv_sipush (v := 288) hx hb dX12_clearDraft_4 (by decide) (ti_c 288 (by decide) fun z1 hz1 => ?_)
  refine lv_iload_n hx hb dX12_clearDraft_7 rfl (lv_at hl 1 rfl) ?_
  refine r_iast C hw (hsh 59 _ rfl) (by omega) (by omega) dX12_clearDraft_8 (fun H locs hH hw => ?_)
  obtain ⟨ig2, eig2⟩ : ∃ f, f = up2 ig (B + 59) z1.toInt.toNat x := ⟨_, rfl⟩
  rw [← eig2] at hw
  have hsz := hH.trans hsz
  have oig : Off B 58 62 ig2 ig := fun a j h => by rw [eig2]; exact (up2_a (by omega)).trans (oig a j h)
  refine lv_aload_n hx hb dX12_clearDraft_9 rfl (lv_at hl 0 rfl) ?_
  refine r_get C hw (hsh 49 _ rfl) fl_X12_83 (oV_r rfl (hrm (49, 16, 60) (by decide))) dX12_clearDraft_10 ?_
  refine lv_sipush (v := 288) hx hb dX12_clearDraft_13 (by decide) (ti_c 288 (by decide) fun z3 hz3 => ?_)
  refine lv_iload_n hx hb dX12_clearDraft_16 rfl (lv_at hl 2 rfl) ?_
  refine r_iast C hw (hsh 60 _ rfl) (by omega) (by omega) dX12_clearDraft_17 (fun H locs hH hw => ?_)
  obtain ⟨ig4, eig4⟩ : ∃ f, f = up2 ig2 (B + 60) z3.toInt.toNat y := ⟨_, rfl⟩
  rw [← eig4] at hw
  have hsz := hH.trans hsz
  have oig : Off B 58 62 ig4 ig := fun a j h => by rw [eig4]; exact (up2_a (by omega)).trans (oig a j h)
  refine lv_aload_n hx hb dX12_clearDraft_18 rfl (lv_at hl 0 rfl) ?_
  refine r_get C hw (hsh 49 _ rfl) fl_X12_77 (oV_r rfl (hrm (49, 13, 58) (by decide))) dX12_clearDraft_19 ?_
  refine lv_sipush (v := 288) hx hb dX12_clearDraft_22 (by decide) (ti_c 288 (by decide) fun z5 hz5 => ?_)
  refine lv_iconst (v := 0) hx hb dX12_clearDraft_25 (by decide) (ti_c 0 (by decide) fun z6 hz6 => ?_)
  refine r_iast C hw (hsh 58 _ rfl) (by omega) (by omega) dX12_clearDraft_26 (fun H locs hH hw => ?_)
  obtain ⟨ig7, eig7⟩ : ∃ f, f = up2 ig4 (B + 58) z5.toInt.toNat z6 := ⟨_, rfl⟩
  rw [← eig7] at hw
  have hsz := hH.trans hsz
  have oig : Off B 58 62 ig7 ig := fun a j h => by rw [eig7]; exact (up2_a (by omega)).trans (oig a j h)
  refine lv_iconst (v := 0) hx hb dX12_clearDraft_27 (by decide) (ti_c 0 (by decide) fun z8 hz8 => ?_)
  refine lv_istore_n (lv' := [(3, .int z8), (0, .ref (B + 49)), (1, .int x), (2, .int y)]) hx hb dX12_clearDraft_28 rfl hl (by decide) rfl (fun ls hl => ?_)
  have L29 : ∀ (n : Nat) (ls : Array Slot) (H : Heap) (locs : List Loc) (ig10 : sI) (v9 : Int32), lv_has ls 4 [(3, .int v9), (0, .ref (B + 49))] → WD B D cA s.heap kd ig10 rg lg H locs → H.size = sz → (0 ≤ v9.toInt) → (v9.toInt ≤ 3) → (KI B ig → (x.toInt = 0 ∨ x.toInt = 1) → KI B ig10) → (Off B 58 62 ig10 ig) → 3 - v9.toInt < (n : Int) → W p l e (rL 0 0 0) s m args below meth c H locs 0 0 (MQ below (QcW B D cA (fun r kd' ig' rg' lg' n => kd = kd' ∧ rg = rg' ∧ lg = lg' ∧ n = sz ∧ (r = none) ∧ Off B 58 62 ig' ig ∧ (KI B ig → (x.toInt = 0 ∨ x.toInt = 1) → KI B ig'))) args s 0 0 (fun q => B ≤ q)) (F0 m 29 ls []) := by
    intro n
    induction n with
    | zero => intro ls H locs ig10 v9 hl hw hsz g29_0 g29_1 g29_2 g29_3 hmu; exact absurd hmu (by omega)
    | succ n ih =>
      intro ls H locs ig10 v9 hl hw hsz g29_0 g29_1 g29_2 g29_3 hmu
      have oig := g29_3
      refine lv_iload_n hx hb dX12_clearDraft_29 rfl (lv_at hl 0 rfl) ?_
      refine lv_iconst (v := 3) hx hb dX12_clearDraft_30 (by decide) (ti_c 3 (by decide) fun z11 hz11 => ?_)
      refine b_ge (tgt := 51) hx hb dX12_clearDraft_31 (by decide) (fun c31 => ?_) (fun c31 => ?_)
      · exact r_vret C hw hr hlk (Nat.le_of_ble_eq_true rfl) (Nat.le_of_ble_eq_true rfl) dX12_clearDraft_51 ⟨rfl, rfl, rfl, hsz, rfl, oig, g29_2⟩
      · refine lv_aload_n hx hb dX12_clearDraft_34 rfl (lv_at hl 1 rfl) ?_
        refine r_get C hw (hsh 49 _ rfl) fl_X12_86 (oV_r rfl (hrm (49, 17, 61) (by decide))) dX12_clearDraft_35 ?_
        refine lv_sipush (v := 864) hx hb dX12_clearDraft_38 (by decide) (ti_c 864 (by decide) fun z12 hz12 => ?_)
        refine lv_iload_n hx hb dX12_clearDraft_41 rfl (lv_at hl 0 rfl) ?_
        refine lv_iadd hx hb dX12_clearDraft_42 (ti_add (by omega) fun z13 hz13 => ?_)
        refine lv_iconst (v := 0) hx hb dX12_clearDraft_43 (by decide) (ti_c 0 (by decide) fun z14 hz14 => ?_)
        refine r_iast C hw (hsh 61 _ rfl) (by omega) (by omega) dX12_clearDraft_44 (fun H locs hH hw => ?_)
        obtain ⟨ig15, eig15⟩ : ∃ f, f = up2 ig10 (B + 61) z13.toInt.toNat z14 := ⟨_, rfl⟩
        rw [← eig15] at hw
        have hsz := hH.trans hsz
        have oig : Off B 58 62 ig15 ig := fun a j h => by rw [eig15]; exact (up2_a (by omega)).trans (oig a j h)
        refine ti_inc hx hb dX12_clearDraft_45 hl (k := 0) rfl (by decide) (by decide) (by omega) (fun z16 hz16 ls hl => ?_)
        have hl : lv_has ls 4 [(3, .int z16), (0, .ref (B + 49))] := hl
        refine lv_goto (tgt := 29) hx hb dX12_clearDraft_48 (by decide) ?_
        exact ih ls H locs ig15 z16 (lv_sub hl [0, 1] rfl) hw hsz (by omega) (by omega) (fun hki hx => by rw [eig15]; exact KI.o (g29_2 hki hx) (by decide)) oig (by omega)
  exact L29 ((3 - z8.toInt) + 1).toNat ls H locs ig7 z8 (lv_sub hl [0, 1] rfl) hw hsz (by omega) (by omega) (fun hki hx => by rw [eig7, eig4, eig2]; exact (KI.i (KI.o (KI.k hki (by omega)) (by decide)) (eq0 (by omega)))) oig (by omega)

set_option maxHeartbeats 4000000 in
set_option maxRecDepth 100000 in
theorem t_X12_copyRow (l : Launch) (B : Nat) (D : va_G) (cA : Nat → ClassId) (kd : sK) (ig : sI) (rg : sR) (lg : sG) (sz : Nat) (x y : Int32) (hx0 : 0 ≤ x.toInt ∧ x.toInt < 309) (hy0 : 0 ≤ y.toInt ∧ y.toInt < 309) (hki : KI B ig) (hsh : Sh B kd) (hrm : Rm B rg) : MC l B D cA yX12_copyRow cX12_copyRow 4 none (rL 0 0 0) [.ref (B + 49), .int x, .int y] kd ig rg lg sz (fun r kd' ig' rg' lg' n => kd = kd' ∧ rg = rg' ∧ lg = lg' ∧ n = sz ∧ (r = none) ∧ Off B 58 62 ig' ig ∧ KI B ig') := by
  refine MC.of (own := RX12) (by decide +kernel) rfl (Nat.le_of_ble_eq_true rfl) ?_
  intro p e s m args below meth c ls C hr hlk hnm hw hsz hl
  have hx := C.1.1
  have hb := C.1.2.1
  have hown := C.1.2.2.2.1
  have hts := C.1.2.2.2.2
  have hl : lv_has ls 4 [(0, .ref (B + 49)), (1, .int x), (2, .int y)] := hl
  have oig : Off B 58 62 ig ig := Off.rf
  refine lv_aload_n hx hb dX12_copyRow_0 rfl (lv_at hl 0 rfl) ?_
  refine r_get C hw (hsh 49 _ rfl) fl_X12_80 (oV_r rfl (hrm (49, 15, 59) (by decide))) dX12_copyRow_1 ?_
  refine lv_iload_n hx hb dX12_copyRow_4 rfl (lv_at hl 2 rfl) ?_
  refine lv_aload_n hx hb dX12_copyRow_5 rfl (lv_at hl 0 rfl) ?_
  refine r_get C hw (hsh 49 _ rfl) fl_X12_80 (oV_r rfl (hrm (49, 15, 59) (by decide))) dX12_copyRow_6 ?_
  refine lv_iload_n hx hb dX12_copyRow_9 rfl (lv_at hl 1 rfl) ?_
  refine r_iald C hw (hsh 59 _ rfl) (by omega) (by omega) dX12_copyRow_10 (ti_c (ig (B + 59) x.toInt.toNat).toInt rfl fun z1 hz1 => ?_)
  have k2 := (show KI B ig from hki).1 (x.toInt.toNat) (by omega)
  refine r_iast C hw (hsh 59 _ rfl) (by omega) (by omega) dX12_copyRow_11 (fun H locs hH hw => ?_)
  obtain ⟨ig3, eig3⟩ : ∃ f, f = up2 ig (B + 59) y.toInt.toNat z1 := ⟨_, rfl⟩
  rw [← eig3] at hw
  have hsz := hH.trans hsz
  have oig : Off B 58 62 ig3 ig := fun a j h => by rw [eig3]; exact (up2_a (by omega)).trans (oig a j h)
  refine lv_aload_n hx hb dX12_copyRow_12 rfl (lv_at hl 0 rfl) ?_
  refine r_get C hw (hsh 49 _ rfl) fl_X12_83 (oV_r rfl (hrm (49, 16, 60) (by decide))) dX12_copyRow_13 ?_
  refine lv_iload_n hx hb dX12_copyRow_16 rfl (lv_at hl 2 rfl) ?_
  refine lv_aload_n hx hb dX12_copyRow_17 rfl (lv_at hl 0 rfl) ?_
  refine r_get C hw (hsh 49 _ rfl) fl_X12_83 (oV_r rfl (hrm (49, 16, 60) (by decide))) dX12_copyRow_18 ?_
  refine lv_iload_n hx hb dX12_copyRow_21 rfl (lv_at hl 1 rfl) ?_
  refine r_iald C hw (hsh 60 _ rfl) (by omega) (by omega) dX12_copyRow_22 (ti_c (ig3 (B + 60) x.toInt.toNat).toInt rfl fun z4 hz4 => ?_)
  refine r_iast C hw (hsh 60 _ rfl) (by omega) (by omega) dX12_copyRow_23 (fun H locs hH hw => ?_)
  obtain ⟨ig5, eig5⟩ : ∃ f, f = up2 ig3 (B + 60) y.toInt.toNat z4 := ⟨_, rfl⟩
  rw [← eig5] at hw
  have hsz := hH.trans hsz
  have oig : Off B 58 62 ig5 ig := fun a j h => by rw [eig5]; exact (up2_a (by omega)).trans (oig a j h)
  refine lv_aload_n hx hb dX12_copyRow_24 rfl (lv_at hl 0 rfl) ?_
  refine r_get C hw (hsh 49 _ rfl) fl_X12_77 (oV_r rfl (hrm (49, 13, 58) (by decide))) dX12_copyRow_25 ?_
  refine lv_iload_n hx hb dX12_copyRow_28 rfl (lv_at hl 2 rfl) ?_
  refine lv_aload_n hx hb dX12_copyRow_29 rfl (lv_at hl 0 rfl) ?_
  refine r_get C hw (hsh 49 _ rfl) fl_X12_77 (oV_r rfl (hrm (49, 13, 58) (by decide))) dX12_copyRow_30 ?_
  refine lv_iload_n hx hb dX12_copyRow_33 rfl (lv_at hl 1 rfl) ?_
  refine r_iald C hw (hsh 58 _ rfl) (by omega) (by omega) dX12_copyRow_34 (ti_c (ig5 (B + 58) x.toInt.toNat).toInt rfl fun z6 hz6 => ?_)
  have k7 := z0 ((show KI B ig5 from by rw [eig5, eig3]; exact (KI.o (KI.k hki (by omega)) (by decide))).2 (x.toInt.toNat) (by omega))
  refine r_iast C hw (hsh 58 _ rfl) (by omega) (by omega) dX12_copyRow_35 (fun H locs hH hw => ?_)
  obtain ⟨ig8, eig8⟩ : ∃ f, f = up2 ig5 (B + 58) y.toInt.toNat z6 := ⟨_, rfl⟩
  rw [← eig8] at hw
  have hsz := hH.trans hsz
  have oig : Off B 58 62 ig8 ig := fun a j h => by rw [eig8]; exact (up2_a (by omega)).trans (oig a j h)
  refine lv_iconst (v := 0) hx hb dX12_copyRow_36 (by decide) (ti_c 0 (by decide) fun z9 hz9 => ?_)
  refine lv_istore_n (lv' := [(3, .int z9), (0, .ref (B + 49)), (1, .int x), (2, .int y)]) hx hb dX12_copyRow_37 rfl hl (by decide) rfl (fun ls hl => ?_)
  have L38 : ∀ (n : Nat) (ls : Array Slot) (H : Heap) (locs : List Loc) (ig11 : sI) (v10 : Int32), lv_has ls 4 [(3, .int v10), (0, .ref (B + 49)), (1, .int x), (2, .int y)] → WD B D cA s.heap kd ig11 rg lg H locs → H.size = sz → (0 ≤ v10.toInt) → (v10.toInt ≤ 3) → (KI B ig11) → (Off B 58 62 ig11 ig) → 3 - v10.toInt < (n : Int) → W p l e (rL 0 0 0) s m args below meth c H locs 0 0 (MQ below (QcW B D cA (fun r kd' ig' rg' lg' n => kd = kd' ∧ rg = rg' ∧ lg = lg' ∧ n = sz ∧ (r = none) ∧ Off B 58 62 ig' ig ∧ KI B ig')) args s 0 0 (fun q => B ≤ q)) (F0 m 38 ls []) := by
    intro n
    induction n with
    | zero => intro ls H locs ig11 v10 hl hw hsz g38_0 g38_1 g38_2 g38_3 hmu; exact absurd hmu (by omega)
    | succ n ih =>
      intro ls H locs ig11 v10 hl hw hsz g38_0 g38_1 g38_2 g38_3 hmu
      have oig := g38_3
      have hki := g38_2
      refine lv_iload_n hx hb dX12_copyRow_38 rfl (lv_at hl 0 rfl) ?_
      refine lv_iconst (v := 3) hx hb dX12_copyRow_39 (by decide) (ti_c 3 (by decide) fun z12 hz12 => ?_)
      refine b_ge (tgt := 69) hx hb dX12_copyRow_40 (by decide) (fun c40 => ?_) (fun c40 => ?_)
      · refine lv_iconst (v := 0) hx hb dX12_copyRow_69 (by decide) (ti_c 0 (by decide) fun z13 hz13 => ?_)
        refine lv_istore_n (lv' := [(3, .int z13), (0, .ref (B + 49)), (1, .int x), (2, .int y)]) hx hb dX12_copyRow_70 rfl hl (by decide) rfl (fun ls hl => ?_)
        refine lv_iload_n hx hb dX12_copyRow_71 rfl (lv_at hl 0 rfl) ?_
        refine lv_aload_n hx hb dX12_copyRow_72 rfl (lv_at hl 1 rfl) ?_
        refine r_get C hw (hsh 49 _ rfl) fl_X12_77 (oV_r rfl (hrm (49, 13, 58) (by decide))) dX12_copyRow_73 ?_
        refine lv_iload_n hx hb dX12_copyRow_76 rfl (lv_at hl 2 rfl) ?_
        refine r_iald C hw (hsh 58 _ rfl) (by omega) (by omega) dX12_copyRow_77 (ti_c (ig11 (B + 58) x.toInt.toNat).toInt rfl fun z14 hz14 => ?_)
        have k15 := z0 ((show KI B ig11 from hki).2 (x.toInt.toNat) (by omega))
        refine b_ge (tgt := 175) hx hb dX12_copyRow_78 (by decide) (fun c78 => ?_) (fun c78 => ?_)
        · exact r_vret C hw hr hlk (Nat.le_of_ble_eq_true rfl) (Nat.le_of_ble_eq_true rfl) dX12_copyRow_175 ⟨rfl, rfl, rfl, hsz, rfl, oig, hki⟩
        · exact absurd c78 (by omega)
      · refine lv_aload_n hx hb dX12_copyRow_43 rfl (lv_at hl 1 rfl) ?_
        refine r_get C hw (hsh 49 _ rfl) fl_X12_86 (oV_r rfl (hrm (49, 17, 61) (by decide))) dX12_copyRow_44 ?_
        refine lv_iconst (v := 3) hx hb dX12_copyRow_47 (by decide) (ti_c 3 (by decide) fun z16 hz16 => ?_)
        refine lv_iload_n hx hb dX12_copyRow_48 rfl (lv_at hl 3 rfl) ?_
        refine lv_imul hx hb dX12_copyRow_49 (ti_mulL 3 hz16 (by omega) fun z17 hz17 => ?_)
        refine lv_iload_n hx hb dX12_copyRow_50 rfl (lv_at hl 0 rfl) ?_
        refine lv_iadd hx hb dX12_copyRow_51 (ti_add (by omega) fun z18 hz18 => ?_)
        refine lv_aload_n hx hb dX12_copyRow_52 rfl (lv_at hl 1 rfl) ?_
        refine r_get C hw (hsh 49 _ rfl) fl_X12_86 (oV_r rfl (hrm (49, 17, 61) (by decide))) dX12_copyRow_53 ?_
        refine lv_iconst (v := 3) hx hb dX12_copyRow_56 (by decide) (ti_c 3 (by decide) fun z19 hz19 => ?_)
        refine lv_iload_n hx hb dX12_copyRow_57 rfl (lv_at hl 2 rfl) ?_
        refine lv_imul hx hb dX12_copyRow_58 (ti_mulL 3 hz19 (by omega) fun z20 hz20 => ?_)
        refine lv_iload_n hx hb dX12_copyRow_59 rfl (lv_at hl 0 rfl) ?_
        refine lv_iadd hx hb dX12_copyRow_60 (ti_add (by omega) fun z21 hz21 => ?_)
        refine r_iald C hw (hsh 61 _ rfl) (by omega) (by omega) dX12_copyRow_61 (ti_c (ig11 (B + 61) z21.toInt.toNat).toInt rfl fun z22 hz22 => ?_)
        refine r_iast C hw (hsh 61 _ rfl) (by omega) (by omega) dX12_copyRow_62 (fun H locs hH hw => ?_)
        obtain ⟨ig23, eig23⟩ : ∃ f, f = up2 ig11 (B + 61) z18.toInt.toNat z22 := ⟨_, rfl⟩
        rw [← eig23] at hw
        have hsz := hH.trans hsz
        have oig : Off B 58 62 ig23 ig := fun a j h => by rw [eig23]; exact (up2_a (by omega)).trans (oig a j h)
        refine ti_inc hx hb dX12_copyRow_63 hl (k := 0) rfl (by decide) (by decide) (by omega) (fun z24 hz24 ls hl => ?_)
        have hl : lv_has ls 4 [(3, .int z24), (0, .ref (B + 49)), (1, .int x), (2, .int y)] := hl
        refine lv_goto (tgt := 38) hx hb dX12_copyRow_66 (by decide) ?_
        exact ih ls H locs ig23 z24 (lv_sub hl [0, 1, 2, 3] rfl) hw hsz (by omega) (by omega) (by rw [eig23]; exact (KI.o hki (by decide))) oig (by omega)
  exact L38 ((3 - z9.toInt) + 1).toNat ls H locs ig8 z9 (lv_sub hl [0, 1, 2, 3] rfl) hw hsz (by omega) (by omega) (by rw [eig8, eig5, eig3]; exact (KI.i (KI.o (KI.k hki (by omega)) (by decide)) (eq0 (by omega)))) oig (by omega)
