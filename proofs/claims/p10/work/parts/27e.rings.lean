section HBS
variable {τ : Tp} {φ : Option Int} {B : Nat} {σ : Sg} {ig0 ig : sI} {lg lg' : sG} {k d r q : Nat} {x y : Int32}
theorem hbY (hF : LkF B σ ig0 lg) (e : ∀ j, lg' (B + 18) j = lg (B + 18) j) (hr : fL B ig0 k = x.toInt.toNat) (hq : oD B ig d = y.toInt.toNat) (h : hbP (lg' (B + 18)) x.toInt y.toInt) : Rd σ (fL B ig0 k) (oD B ig d) := by
  obtain ⟨a, b, c⟩ := h
  rw [show lg' (B + 18) = lg (B + 18) from funext e] at c
  rw [hr, hq]
  exact (hF.2.2.2.1 _ _ (by omega) (by omega)).mp c
theorem hbN (hF : LkF B σ ig0 lg) (e : ∀ j, lg' (B + 18) j = lg (B + 18) j) (hr : fL B ig0 k = x.toInt.toNat) (hq : oD B ig d = y.toInt.toNat) (hx : 0 ≤ x.toInt ∧ x.toInt < 288) (hy : 0 ≤ y.toInt ∧ y.toInt < 288) (h : ¬ hbP (lg' (B + 18)) x.toInt y.toInt) : ¬ Rd σ (fL B ig0 k) (oD B ig d) := fun w => h (by
  refine ⟨hx, hy, ?_⟩
  rw [show lg' (B + 18) = lg (B + 18) from funext e]
  rw [hr, hq] at w
  exact (hF.2.2.2.1 _ _ (by omega) (by omega)).mpr w)
end HBS

set_option maxHeartbeats 4000000 in
set_option maxRecDepth 100000 in
theorem t_X5_releaseE {τ : Tp} (l : Launch) (B : Nat) (D : va_G) (cA : Nat → ClassId) (kd : sK) (ig : sI) (rg : sR) (lg : sG) (sz : Nat) (x : Int32) (σ : Sg) (hF : LkF B σ ig lg) (X : Nat → Prop) (hx0 : 0 ≤ x.toInt ∧ x.toInt ≤ (ig (B + 15) 9).toInt) (hR : LkS B σ X (fun _ q => inO (oD B ig) x.toInt.toNat q) ig) (hI : IC τ B kd ig rg) : MC l B D cA yX5_release cX5_release 5 none (rL 2 0 0) [.ref (B + 15), .int x] kd ig rg lg sz (PI 1014 τ B none kd ig rg lg (fun r kd' ig' rg' lg' => (r = none ∧ (LkS B σ X (fun _ q => inO (oD B ig') (oN B ig') q) ig' ∧ Fo B [15, 21, 22] ig lg ig' lg' ∧ (ig' (B + 15) 2).toInt = (ig (B + 15) 2).toInt ∧ (ig' (B + 15) 11).toInt = (ig (B + 15) 11).toInt)))) := by
  refine MC.of (own := RX5) (by decide +kernel) rfl (Nat.le_of_ble_eq_true rfl) ?_
  intro p e s m args below meth c ls C hr hlk hnm hw hsz hl
  have hx := C.1.1
  have hb := C.1.2.1
  have hown := C.1.2.2.2.1
  have hts := C.1.2.2.2.2
  have hl : lv_has ls 5 [(0, .ref (B + 15)), (1, .int x)] := hl
  have hN : Nx 1014 B none kd ig rg lg kd ig rg lg := Nx.rf
  have hsh := hI.sh
  have hrs := hI.rs
  have hO : Fo B [15, 21, 22] ig lg ig lg := Fo.rf
  refine lv_iload_n hx hb dX5_release_0 rfl (lv_at hl 1 rfl) ?_
  refine lv_istore_n (lv' := [(2, .int x), (0, .ref (B + 15)), (1, .int x)]) hx hb dX5_release_1 rfl hl (by decide) rfl (fun ls hl => ?_)
  have L2 : ∀ (n : Nat) (ls : Array Slot) (H : Heap) (locs : List Loc) (kd2 : sK) (ig3 : sI) (rg4 : sR) (lg5 : sG) (v1 : Int32), lv_has ls 5 [(2, .int v1), (0, .ref (B + 15))] → WD B D cA s.heap kd2 ig3 rg4 lg5 H locs → IC τ B kd2 ig3 rg4 → Nx 1014 B none kd ig rg lg kd2 ig3 rg4 lg5 → (0 ≤ v1.toInt) → (v1.toInt ≤ (ig3 (B + 15) 9).toInt) → (LkS B σ X (fun _ q => inO (oD B ig3) v1.toInt.toNat q) ig3) → (v1.toInt ≤ 288) → (Fo B [15, 21, 22] ig lg ig3 lg5) → ((ig3 (B + 15) 2).toInt = (ig (B + 15) 2).toInt) → ((ig3 (B + 15) 11).toInt = (ig (B + 15) 11).toInt) → 288 - v1.toInt < (n : Int) → W p l e (rL 2 0 0) s m args below meth c H locs 0 0 (MQ below (QcW B D cA (PI 1014 τ B none kd ig rg lg (fun r kd' ig' rg' lg' => (r = none ∧ (LkS B σ X (fun _ q => inO (oD B ig') (oN B ig') q) ig' ∧ Fo B [15, 21, 22] ig lg ig' lg' ∧ (ig' (B + 15) 2).toInt = (ig (B + 15) 2).toInt ∧ (ig' (B + 15) 11).toInt = (ig (B + 15) 11).toInt))))) args s 0 0 (fun q => B ≤ q)) (F0 m 2 ls []) := by
    intro n2
    induction n2 with
    | zero => intro ls H locs kd2 ig3 rg4 lg5 v1 hl hw hI hN g2_0 g2_1 g2_2 g2_3 g2_4 g2_5 g2_6 hmu; exact absurd hmu (by omega)
    | succ n2 ih2 =>
      intro ls H locs kd2 ig3 rg4 lg5 v1 hl hw hI hN g2_0 g2_1 g2_2 g2_3 g2_4 g2_5 g2_6 hmu
      have hsh := hI.sh
      have hrs := hI.rs
      have hO := g2_4
      refine lv_iload_n hx hb dX5_release_2 rfl (lv_at hl 0 rfl) ?_
      refine lv_aload_n hx hb dX5_release_3 rfl (lv_at hl 1 rfl) ?_
      refine r_get C hw (hsh 15 _ rfl) fl_X5_55 (oV_i rfl) dX5_release_4 (ti_c (ig3 (B + 15) 9).toInt rfl fun z6 hz6 => ?_)
      have k7 : 0 ≤ (ig3 (B + 15) 9).toInt ∧ (ig3 (B + 15) 9).toInt ≤ 288 := hI.i 15 9 (by decide)
      refine b_ge (tgt := 102) hx hb dX5_release_7 (by decide) (fun c7 => ?_) (fun c7 => ?_)
      · exact r_vret C hw hr hlk (Nat.le_of_ble_eq_true rfl) (Nat.le_of_ble_eq_true rfl) dX5_release_102 ⟨hI, hN, ⟨rfl, ⟨(by have q9 := g2_2; rw [show v1.toInt.toNat = oN B ig3 by unfold oN; omega] at q9; exact q9), hO, by omega, by omega⟩⟩⟩
      · refine lv_iload_n hx hb dX5_release_10 rfl (lv_at hl 0 rfl) ?_
        refine lv_sipush (v := 288) hx hb dX5_release_11 (by decide) (ti_c 288 (by decide) fun z8 hz8 => ?_)
        refine b_ge (tgt := 102) hx hb dX5_release_14 (by decide) (fun c14 => ?_) (fun c14 => ?_)
        · exact r_vret C hw hr hlk (Nat.le_of_ble_eq_true rfl) (Nat.le_of_ble_eq_true rfl) dX5_release_102 ⟨hI, hN, ⟨rfl, ⟨(by have q9 := g2_2; rw [show v1.toInt.toNat = oN B ig3 by unfold oN; omega] at q9; exact q9), hO, by omega, by omega⟩⟩⟩
        · refine lv_iconst (v := 0) hx hb dX5_release_17 (by decide) (ti_c 0 (by decide) fun z9 hz9 => ?_)
          refine lv_istore_n (lv' := [(3, .int z9), (2, .int v1), (0, .ref (B + 15))]) hx hb dX5_release_18 rfl hl (by decide) rfl (fun ls hl => ?_)
          have L19 : ∀ (n : Nat) (ls : Array Slot) (H : Heap) (locs : List Loc) (kd11 : sK) (ig12 : sI) (rg13 : sR) (lg14 : sG) (v10 : Int32), lv_has ls 5 [(3, .int v10), (2, .int v1), (0, .ref (B + 15))] → WD B D cA s.heap kd11 ig12 rg13 lg14 H locs → IC τ B kd11 ig12 rg13 → Nx 1014 B none kd ig rg lg kd11 ig12 rg13 lg14 → (0 ≤ v10.toInt) → (v10.toInt ≤ 288) → (v1.toInt < (ig12 (B + 15) 9).toInt) → (LkS B σ X (DR B ig ig12 v1.toInt.toNat v10.toInt.toNat) ig12) → (Fo B [15, 21, 22] ig lg ig12 lg14) → ((ig12 (B + 15) 2).toInt = (ig (B + 15) 2).toInt) → ((ig12 (B + 15) 11).toInt = (ig (B + 15) 11).toInt) → 288 - v10.toInt < (n : Int) → W p l e (rL 2 0 0) s m args below meth c H locs 0 0 (MQ below (QcW B D cA (PI 1014 τ B none kd ig rg lg (fun r kd' ig' rg' lg' => (r = none ∧ (LkS B σ X (fun _ q => inO (oD B ig') (oN B ig') q) ig' ∧ Fo B [15, 21, 22] ig lg ig' lg' ∧ (ig' (B + 15) 2).toInt = (ig (B + 15) 2).toInt ∧ (ig' (B + 15) 11).toInt = (ig (B + 15) 11).toInt))))) args s 0 0 (fun q => B ≤ q)) (F0 m 19 ls []) := by
            intro n19
            induction n19 with
            | zero => intro ls H locs kd11 ig12 rg13 lg14 v10 hl hw hI hN g19_0 g19_1 g19_2 g19_3 g19_4 g19_5 g19_6 hmu; exact absurd hmu (by omega)
            | succ n19 ih19 =>
              intro ls H locs kd11 ig12 rg13 lg14 v10 hl hw hI hN g19_0 g19_1 g19_2 g19_3 g19_4 g19_5 g19_6 hmu
              have hsh := hI.sh
              have hrs := hI.rs
              have hO := g19_4
              refine lv_iload_n hx hb dX5_release_19 rfl (lv_at hl 0 rfl) ?_
              refine lv_aload_n hx hb dX5_release_20 rfl (lv_at hl 2 rfl) ?_
              refine r_get C hw (hsh 15 _ rfl) fl_X5_58 (oV_i rfl) dX5_release_21 (ti_c (ig12 (B + 15) 2).toInt rfl fun z15 hz15 => ?_)
              have k16 : 0 ≤ (ig12 (B + 15) 2).toInt ∧ (ig12 (B + 15) 2).toInt ≤ 288 := hI.i 15 2 (by decide)
              refine b_ge (tgt := 96) hx hb dX5_release_24 (by decide) (fun c24 => ?_) (fun c24 => ?_)
              · refine tc_inc hx hb dX5_release_96 hl (k := 1) rfl (by decide) (by decide) (fun z17 hz17 ls hl => ?_)
                first | replace hz17 := hz17 (by omega) | clear hz17
                have hl : lv_has ls 5 [(2, .int z17), (3, .int v10), (0, .ref (B + 15))] := hl
                refine lv_goto (tgt := 2) hx hb dX5_release_99 (by decide) ?_
                exact ih2 ls H locs kd11 ig12 rg13 lg14 z17 (lv_sub hl [0, 2] rfl) hw hI hN (by omega) (by omega) (by rw [show z17.toInt.toNat = v1.toInt.toNat + 1 by omega]; exact g19_3.out hF (by unfold fN; omega)) (by omega) (hO) (by omega) (by omega) (by omega)
              · refine lv_aload_n hx hb dX5_release_27 rfl (lv_at hl 2 rfl) ?_
                refine r_get C hw (hsh 15 _ rfl) fl_X5_15 (oV_r rfl (hrs (15, 1, 16) (by decide))) dX5_release_28 ?_
                refine lv_iload_n hx hb dX5_release_31 rfl (lv_at hl 0 rfl) ?_
                refine r_iald C hw (hsh 16 _ rfl) (by omega) (by omega) dX5_release_32 (ti_c (ig12 (B + 16) v10.toInt.toNat).toInt rfl fun z18 hz18 => ?_)
                have k19 : 0 ≤ (ig12 (B + 16) (v10.toInt.toNat)).toInt ∧ (ig12 (B + 16) (v10.toInt.toNat)).toInt ≤ 287 := hI.i 16 (v10.toInt.toNat) (by decide)
                have hfk : fL B ig v10.toInt.toNat = z18.toInt.toNat := by unfold fL; rw [← hO.i 16 _, ← hz18]
                refine lv_istore (lv' := [(4, .int z18), (3, .int v10), (2, .int v1), (0, .ref (B + 15))]) hx hb dX5_release_33 hl (by decide) rfl (fun ls hl => ?_)
                refine lv_aload_n hx hb dX5_release_35 rfl (lv_at hl 3 rfl) ?_
                refine r_get C hw (hsh 15 _ rfl) fl_X5_33 (oV_r rfl (hrs (15, 7, 21) (by decide))) dX5_release_36 ?_
                refine lv_iload hx hb dX5_release_39 (lv_at hl 0 rfl) ?_
                refine r_iald C hw (hsh 21 _ rfl) (by omega) (by omega) dX5_release_41 (ti_c (ig12 (B + 21) z18.toInt.toNat).toInt rfl fun z20 hz20 => ?_)
                have hw9 : wT B ig12 (fL B ig v10.toInt.toNat) = z20.toInt := by unfold wT; rw [hfk, hz20]
                have J90 : ∀ (ls : Array Slot) (H : Heap) (locs : List Loc) (kd21 : sK) (ig22 : sI) (rg23 : sR) (lg24 : sG) , lv_has ls 5 [(3, .int v10), (2, .int v1), (0, .ref (B + 15))] → WD B D cA s.heap kd21 ig22 rg23 lg24 H locs → IC τ B kd21 ig22 rg23 → Nx 1014 B none kd ig rg lg kd21 ig22 rg23 lg24 → (v1.toInt < (ig22 (B + 15) 9).toInt) → (LkS B σ X (DR B ig ig22 v1.toInt.toNat (v10.toInt.toNat + 1)) ig22) → (Fo B [15, 21, 22] ig lg ig22 lg24) → ((ig22 (B + 15) 2).toInt = (ig (B + 15) 2).toInt) → ((ig22 (B + 15) 11).toInt = (ig (B + 15) 11).toInt) → W p l e (rL 2 0 0) s m args below meth c H locs 0 0 (MQ below (QcW B D cA (PI 1014 τ B none kd ig rg lg (fun r kd' ig' rg' lg' => (r = none ∧ (LkS B σ X (fun _ q => inO (oD B ig') (oN B ig') q) ig' ∧ Fo B [15, 21, 22] ig lg ig' lg' ∧ (ig' (B + 15) 2).toInt = (ig (B + 15) 2).toInt ∧ (ig' (B + 15) 11).toInt = (ig (B + 15) 11).toInt))))) args s 0 0 (fun q => B ≤ q)) (F0 m 90 ls []) := by
                  intro ls H locs kd21 ig22 rg23 lg24 hl hw hI hN g90_0 g90_1 g90_2 g90_3 g90_4
                  have hsh := hI.sh
                  have hrs := hI.rs
                  have hO := g90_2
                  refine tc_inc hx hb dX5_release_90 hl (k := 0) rfl (by decide) (by decide) (fun z25 hz25 ls hl => ?_)
                  first | replace hz25 := hz25 (by omega) | clear hz25
                  have hl : lv_has ls 5 [(3, .int z25), (2, .int v1), (0, .ref (B + 15))] := hl
                  refine lv_goto (tgt := 19) hx hb dX5_release_93 (by decide) ?_
                  exact ih19 ls H locs kd21 ig22 rg23 lg24 z25 (lv_sub hl [0, 1, 2] rfl) hw hI hN (by omega) (by omega) (by omega) (by rw [show z25.toInt.toNat = v10.toInt.toNat + 1 by omega]; exact g90_1) (hO) (by omega) (by omega) (by omega)
                refine z_le (tgt := 90) hx hb dX5_release_42 (by decide) (fun c42 => ?_) (fun c42 => ?_)
                · exact J90 ls H locs kd11 ig12 rg13 lg14 (lv_sub hl [1, 2, 3] rfl) hw hI hN (by omega) (g19_3.skip (Or.inl (by rw [hw9]; have q9 := RLk.nn g19_3 (hF.1 v10.toInt.toNat (by unfold fN; omega)); rw [hw9] at q9; omega))) (hO) (by omega) (by omega)
                · refine lv_aload_n hx hb dX5_release_45 rfl (lv_at hl 3 rfl) ?_
                  refine r_get C hw (hsh 15 _ rfl) fl_X5_23 (oV_r rfl (hrs (15, 4, 18) (by decide))) dX5_release_46 ?_
                  refine lv_iload hx hb dX5_release_49 (lv_at hl 0 rfl) ?_
                  refine lv_aload_n hx hb dX5_release_51 rfl (lv_at hl 3 rfl) ?_
                  refine r_get C hw (hsh 15 _ rfl) fl_X5_36 (oV_r rfl (hrs (15, 8, 22) (by decide))) dX5_release_52 ?_
                  refine lv_iload_n hx hb dX5_release_55 rfl (lv_at hl 2 rfl) ?_
                  refine r_iald C hw (hsh 22 _ rfl) (by omega) (by omega) dX5_release_56 (ti_c (ig12 (B + 22) v1.toInt.toNat).toInt rfl fun z26 hz26 => ?_)
                  have hfo := g19_3.1 v1.toInt.toNat (by unfold oN; omega)
                  have ho9 := hfo.1
                  have ho8 := oD_v ho9
                  have hod : oD B ig12 v1.toInt.toNat = z26.toInt.toNat := by omega
                  refine r_callN (As := [.ref (B + 18), .int z18, .int z26]) (rest := []) C hw (t_X11_hasBitE l B D cA kd11 ig12 rg13 lg14 _ 18 (Or.inl rfl) z18 z26  hI) sn_X5_85 rfl hl.1 rfl (Nat.le_of_ble_eq_true rfl) ⟨Nat.le_of_ble_eq_true rfl, Nat.le_of_ble_eq_true rfl⟩ ⟨Nat.le_of_ble_eq_true rfl, Nat.le_of_ble_eq_true rfl⟩ dX5_release_57 (fun r31 kd27 ig28 rg29 lg30 H locs hw hH hp32 => ?_)
                  obtain ⟨rfl, rfl, rfl, rfl, hzhp32, hrhp32⟩ := hp32
                  obtain ⟨z33, rfl, hz33⟩ := hrhp32
                  refine z_eq (tgt := 90) hx hb dX5_release_60 (by decide) (fun c60 => ?_) (fun c60 => ?_)
                  · exact J90 ls H locs kd11 ig12 rg13 lg14 (lv_sub hl [1, 2, 3] rfl) hw hI hN (by omega) (g19_3.skip (Or.inr (hbN hF (fun j => hO.l 18 j) hfk hod (by omega) (by omega) (by0 hz33 (by omega))))) (hO) (by omega) (by omega)
                  · have nn9 := RLk.nn g19_3 (hF.1 v10.toInt.toNat (by unfold fN; omega))
                    rw [hw9] at nn9
                    have hrd := hbY hF (fun j => hO.l 18 j) hfk hod (by1 hz33 (by omega))
                    refine lv_aload_n hx hb dX5_release_63 rfl (lv_at hl 3 rfl) ?_
                    refine r_get C hw (hsh 15 _ rfl) fl_X5_33 (oV_r rfl (hrs (15, 7, 21) (by decide))) dX5_release_64 ?_
                    refine lv_iload hx hb dX5_release_67 (lv_at hl 0 rfl) ?_
                    refine lv_dup2_11 hx hb dX5_release_69 rfl rfl ?_
                    refine r_iald C hw (hsh 21 _ rfl) (by omega) (by omega) dX5_release_70 (ti_c (ig12 (B + 21) z18.toInt.toNat).toInt rfl fun z34 hz34 => ?_)
                    refine lv_iconst (v := 1) hx hb dX5_release_71 (by decide) (ti_c 1 (by decide) fun z35 hz35 => ?_)
                    refine lv_isub hx hb dX5_release_72 (tc_sub fun z36 hz36 => ?_)
                    first | replace hz36 := hz36 (by omega) | clear hz36
                    refine r_iast C hw (hsh 21 _ rfl) (by omega) (by omega) dX5_release_73 (fun H locs hH hw => ?_)
                    have hO0 := hO
                    obtain ⟨ig37, eig37⟩ : ∃ f, f = up2 ig12 (B + 21) z18.toInt.toNat z36 := ⟨_, rfl⟩
                    rw [← eig37] at hw
                    have hN : Nx 1014 B none kd ig rg lg kd11 ig37 rg13 lg14 := by rw [eig37]; exact hN.pi (by omega)
                    have hI : IC τ B kd11 ig37 rg13 := by rw [eig37]; exact hI.pi (show okR none _ from trivial)
                    have wig37_15_9 : (ig37 (B + 15) 9).toInt = (ig12 (B + 15) 9).toInt := by rw [eig37, up2_a (by omega)]
                    have wig37_15_2 : (ig37 (B + 15) 2).toInt = (ig12 (B + 15) 2).toInt := by rw [eig37, up2_a (by omega)]
                    have wig37_15_11 : (ig37 (B + 15) 11).toInt = (ig12 (B + 15) 11).toInt := by rw [eig37, up2_a (by omega)]
                    have hO : Fo B [15, 21, 22] ig lg ig37 lg14 := by rw [eig37]; exact hO0.pi (by decide)
                    clear hO0
                    have hv9 : z36.toInt = wT B ig12 (fL B ig v10.toInt.toNat) - 1 := by rw [hw9]; omega
                    refine lv_aload_n hx hb dX5_release_74 rfl (lv_at hl 3 rfl) ?_
                    refine r_get C hw (hsh 15 _ rfl) fl_X5_33 (oV_r rfl (hrs (15, 7, 21) (by decide))) dX5_release_75 ?_
                    refine lv_iload hx hb dX5_release_78 (lv_at hl 0 rfl) ?_
                    refine r_iald C hw (hsh 21 _ rfl) (by omega) (by omega) dX5_release_80 (ti_c (ig37 (B + 21) z18.toInt.toNat).toInt rfl fun z38 hz38 => ?_)
                    have hzv : z38.toInt = z36.toInt := by rw [hz38, eig37, up2_eq]
                    refine z_ne (tgt := 90) hx hb dX5_release_81 (by decide) (fun c81 => ?_) (fun c81 => ?_)
                    · exact J90 ls H locs kd11 ig37 rg13 lg14 (lv_sub hl [1, 2, 3] rfl) hw hI hN (by omega) ((by rw [eig37]; exact LkS.off g19_3 hF (by unfold fN; omega) (by unfold oN; omega) hfk.symm (by rw [← hfk]; exact hrd) (by rw [← hfk, hw9]; omega) (by rw [← hfk]; exact hv9) (by omega))) (hO) (by omega) (by omega)
                    · refine lv_aload_n hx hb dX5_release_84 rfl (lv_at hl 3 rfl) ?_
                      refine lv_iload hx hb dX5_release_85 (lv_at hl 0 rfl) ?_
                      refine r_callV (As := [.int z18]) (rest := []) C hw (t_X5_appendToOrderE l B D cA kd11 ig37 rg13 lg14 _ z18 (by have q9 := g19_3.lt hF (k := v10.toInt.toNat) (by unfold fN; omega) (by rw [hw9]; omega); unfold oN at q9; omega) hI) sv_X5_65 (hsh 15 _ rfl) rfl hl.1 rfl (Nat.le_of_ble_eq_true rfl) ⟨Nat.le_of_ble_eq_true rfl, Nat.le_of_ble_eq_true rfl⟩ ⟨Nat.le_of_ble_eq_true rfl, Nat.le_of_ble_eq_true rfl⟩ dX5_release_87 (fun r43 kd39 ig40 rg41 lg42 H locs hw hH hp44 => ?_)
                      obtain ⟨hI, hchp44, hrhp44⟩ := hp44
                      have hN := hN.tr hchp44
                      have hsh := hI.sh
                      have hrs := hI.rs
                      obtain ⟨rfl, hvhp44⟩ := hrhp44
                      obtain ⟨phvhp44, ohvhp44, khvhp44_0, khvhp44_1⟩ := hvhp44
                      have hO := hO.tr ohvhp44
                      exact J90 ls H locs kd39 ig40 rg41 lg42 (lv_sub hl [1, 2, 3] rfl) hw hI hN (by have q9 := phvhp44.1; rw [eig37, up2_a (by omega)] at q9; omega) ((LkS.put g19_3 hF (r := z18.toInt.toNat) (v := z36) (by unfold fN; omega) (by unfold oN; omega) hfk.symm (by rw [← hfk]; exact hrd) (by rw [← hfk, hw9]; omega) (by omega) (by have q9 := phvhp44; rw [eig37] at q9; rw [show ((z18.toInt.toNat : Nat) : Int) = z18.toInt by omega]; exact q9) (fun p => by rw [ohvhp44.i 21 _, eig37]) (by omega))) (hO) (by omega) (by omega)
          exact L19 ((288 - z9.toInt) + 1).toNat ls H locs kd2 ig3 rg4 lg5 z9 (lv_sub hl [0, 1, 2] rfl) hw hI hN (by omega) (by omega) (by omega) (by rw [show z9.toInt.toNat = 0 by omega]; exact g2_2.in) (hO) (by omega) (by omega) (by omega)
  exact L2 ((288 - x.toInt) + 1).toNat ls s.heap [] kd ig rg lg x (lv_sub hl [0, 1] rfl) hw hI hN (by omega) (by omega) (hR) (by have q9 : 0 ≤ (ig (B + 15) 9).toInt ∧ (ig (B + 15) 9).toInt ≤ 288 := hI.i 15 9 (by decide); omega) (hO) (by omega) (by omega) (by omega)

set_option maxHeartbeats 4000000 in
set_option maxRecDepth 100000 in
theorem t_X5_reachThroughE {τ : Tp} (l : Launch) (B : Nat) (D : va_G) (cA : Nat → ClassId) (kd : sK) (ig : sI) (rg : sR) (lg : sG) (sz : Nat) (x : Int32) (σ : Sg) (hF : LkF B σ ig lg) (hx0 : 0 ≤ x.toInt ∧ x.toInt < 288) (hI : IC τ B kd ig rg) : MC l B D cA yX5_reachThrough cX5_reachThrough 5 none (rL 2 0 0) [.ref (B + 15), .int x] kd ig rg lg sz (PI 1014 τ B none kd ig rg lg (fun r kd' ig' rg' lg' => (r = none ∧ (Thr B σ x.toInt.toNat (fo σ) ig lg lg' ∧ Fo B [19] ig lg ig' lg')))) := by
  refine MC.of (own := RX5) (by decide +kernel) rfl (Nat.le_of_ble_eq_true rfl) ?_
  intro p e s m args below meth c ls C hr hlk hnm hw hsz hl
  have hx := C.1.1
  have hb := C.1.2.1
  have hown := C.1.2.2.2.1
  have hts := C.1.2.2.2.2
  have hl : lv_has ls 5 [(0, .ref (B + 15)), (1, .int x)] := hl
  have hN : Nx 1014 B none kd ig rg lg kd ig rg lg := Nx.rf
  have hsh := hI.sh
  have hrs := hI.rs
  have hO : Fo B [19] ig lg ig lg := Fo.rf
  refine lv_iconst (v := 0) hx hb dX5_reachThrough_0 (by decide) (ti_c 0 (by decide) fun z1 hz1 => ?_)
  refine lv_istore_n (lv' := [(2, .int z1), (0, .ref (B + 15)), (1, .int x)]) hx hb dX5_reachThrough_1 rfl hl (by decide) rfl (fun ls hl => ?_)
  have L2 : ∀ (n : Nat) (ls : Array Slot) (H : Heap) (locs : List Loc) (kd3 : sK) (ig4 : sI) (rg5 : sR) (lg6 : sG) (v2 : Int32), lv_has ls 5 [(2, .int v2), (0, .ref (B + 15)), (1, .int x)] → WD B D cA s.heap kd3 ig4 rg5 lg6 H locs → IC τ B kd3 ig4 rg5 → Nx 1014 B none kd ig rg lg kd3 ig4 rg5 lg6 → (0 ≤ v2.toInt) → (v2.toInt ≤ 288) → (Thr B σ x.toInt.toNat (fun a => ∃ i, i < v2.toInt.toNat ∧ fL B ig i = a) ig lg lg6) → (v2.toInt ≤ (ig (B + 15) 2).toInt) → (Fo B [19] ig lg ig4 lg6) → 288 - v2.toInt < (n : Int) → W p l e (rL 2 0 0) s m args below meth c H locs 0 0 (MQ below (QcW B D cA (PI 1014 τ B none kd ig rg lg (fun r kd' ig' rg' lg' => (r = none ∧ (Thr B σ x.toInt.toNat (fo σ) ig lg lg' ∧ Fo B [19] ig lg ig' lg'))))) args s 0 0 (fun q => B ≤ q)) (F0 m 2 ls []) := by
    intro n2
    induction n2 with
    | zero => intro ls H locs kd3 ig4 rg5 lg6 v2 hl hw hI hN g2_0 g2_1 g2_2 g2_3 g2_4 hmu; exact absurd hmu (by omega)
    | succ n2 ih2 =>
      intro ls H locs kd3 ig4 rg5 lg6 v2 hl hw hI hN g2_0 g2_1 g2_2 g2_3 g2_4 hmu
      have hsh := hI.sh
      have hrs := hI.rs
      have hO := g2_4
      have e152 : (ig4 (B + 15) 2).toInt = (ig (B + 15) 2).toInt := by rw [hO.i 15 2]
      refine lv_iload_n hx hb dX5_reachThrough_2 rfl (lv_at hl 0 rfl) ?_
      refine lv_aload_n hx hb dX5_reachThrough_3 rfl (lv_at hl 1 rfl) ?_
      refine r_get C hw (hsh 15 _ rfl) fl_X5_58 (oV_i rfl) dX5_reachThrough_4 (ti_c (ig4 (B + 15) 2).toInt rfl fun z7 hz7 => ?_)
      have k8 : 0 ≤ (ig4 (B + 15) 2).toInt ∧ (ig4 (B + 15) 2).toInt ≤ 288 := hI.i 15 2 (by decide)
      refine b_ge (tgt := 84) hx hb dX5_reachThrough_7 (by decide) (fun c7 => ?_) (fun c7 => ?_)
      · exact r_vret C hw hr hlk (Nat.le_of_ble_eq_true rfl) (Nat.le_of_ble_eq_true rfl) dX5_reachThrough_84 ⟨hI, hN, ⟨rfl, ⟨(Thr.eqS g2_2 (fun a => ⟨fun w9 => (hF.2.2.1 a w9).elim fun i q9 => ⟨i, by have := q9.1; unfold fN at this; omega, q9.2⟩, fun ⟨i, h1, h2⟩ => h2 ▸ hF.1 i (by unfold fN; omega)⟩)), hO⟩⟩⟩
      · refine lv_aload_n hx hb dX5_reachThrough_10 rfl (lv_at hl 1 rfl) ?_
        refine r_get C hw (hsh 15 _ rfl) fl_X5_15 (oV_r rfl (hrs (15, 1, 16) (by decide))) dX5_reachThrough_11 ?_
        refine lv_iload_n hx hb dX5_reachThrough_14 rfl (lv_at hl 0 rfl) ?_
        refine r_iald C hw (hsh 16 _ rfl) (by omega) (by omega) dX5_reachThrough_15 (ti_c (ig4 (B + 16) v2.toInt.toNat).toInt rfl fun z9 hz9 => ?_)
        have k10 : 0 ≤ (ig4 (B + 16) (v2.toInt.toNat)).toInt ∧ (ig4 (B + 16) (v2.toInt.toNat)).toInt ≤ 287 := hI.i 16 (v2.toInt.toNat) (by decide)
        have hfk : fL B ig v2.toInt.toNat = z9.toInt.toNat := by unfold fL; rw [← hO.i 16 _, ← hz9]
        refine lv_istore_n (lv' := [(3, .int z9), (2, .int v2), (0, .ref (B + 15)), (1, .int x)]) hx hb dX5_reachThrough_16 rfl hl (by decide) rfl (fun ls hl => ?_)
        refine lv_aload_n hx hb dX5_reachThrough_17 rfl (lv_at hl 2 rfl) ?_
        refine r_get C hw (hsh 15 _ rfl) fl_X5_33 (oV_r rfl (hrs (15, 7, 21) (by decide))) dX5_reachThrough_18 ?_
        refine lv_iload_n hx hb dX5_reachThrough_21 rfl (lv_at hl 0 rfl) ?_
        refine r_iald C hw (hsh 21 _ rfl) (by omega) (by omega) dX5_reachThrough_22 (ti_c (ig4 (B + 21) z9.toInt.toNat).toInt rfl fun z11 hz11 => ?_)
        have hw9 : wT B ig z9.toInt.toNat = z11.toInt := by unfold wT; rw [hz11, hO.i 21 _]
        have J78 : ∀ (ls : Array Slot) (H : Heap) (locs : List Loc) (kd12 : sK) (ig13 : sI) (rg14 : sR) (lg15 : sG) , lv_has ls 5 [(2, .int v2), (0, .ref (B + 15)), (1, .int x)] → WD B D cA s.heap kd12 ig13 rg14 lg15 H locs → IC τ B kd12 ig13 rg14 → Nx 1014 B none kd ig rg lg kd12 ig13 rg14 lg15 → (Thr B σ x.toInt.toNat (fun a => ∃ i, i < (v2.toInt.toNat + 1) ∧ fL B ig i = a) ig lg lg15) → (Fo B [19] ig lg ig13 lg15) → W p l e (rL 2 0 0) s m args below meth c H locs 0 0 (MQ below (QcW B D cA (PI 1014 τ B none kd ig rg lg (fun r kd' ig' rg' lg' => (r = none ∧ (Thr B σ x.toInt.toNat (fo σ) ig lg lg' ∧ Fo B [19] ig lg ig' lg'))))) args s 0 0 (fun q => B ≤ q)) (F0 m 78 ls []) := by
          intro ls H locs kd12 ig13 rg14 lg15 hl hw hI hN g78_0 g78_1
          have hsh := hI.sh
          have hrs := hI.rs
          have hO := g78_1
          refine tc_inc hx hb dX5_reachThrough_78 hl (k := 0) rfl (by decide) (by decide) (fun z16 hz16 ls hl => ?_)
          first | replace hz16 := hz16 (by omega) | clear hz16
          have hl : lv_has ls 5 [(2, .int z16), (0, .ref (B + 15)), (1, .int x)] := hl
          refine lv_goto (tgt := 2) hx hb dX5_reachThrough_81 (by decide) ?_
          exact ih2 ls H locs kd12 ig13 rg14 lg15 z16 (lv_sub hl [0, 1, 2] rfl) hw hI hN (by omega) (by omega) (by rw [show z16.toInt.toNat = v2.toInt.toNat + 1 by omega]; exact g78_0) (by omega) (hO) (by omega)
        refine z_le (tgt := 78) hx hb dX5_reachThrough_23 (by decide) (fun c23 => ?_) (fun c23 => ?_)
        · exact J78 ls H locs kd3 ig4 rg5 lg6 (lv_sub hl [1, 2, 3] rfl) hw hI hN (Thr.eqS (Thr.skip g2_2 (r := z9.toInt.toNat) (by omega) (by omega) (fun w9 => w9.elim fun i q9 => by have q8 := hF.inj (i := i) (j := v2.toInt.toNat) (by have := q9.1; unfold fN; omega) (by unfold fN; omega) (q9.2.trans hfk.symm); have := q9.1; omega) (Or.inl (by rw [hw9]; omega))) (fun a => by constructor; (rintro ⟨i, h1, h2⟩; by_cases c : i = v2.toInt.toNat; (subst c; exact Or.inr (h2.symm.trans hfk)); exact Or.inl ⟨i, by omega, h2⟩); (rintro (⟨i, h1, h2⟩ | h2); exact ⟨i, by omega, h2⟩; exact ⟨v2.toInt.toNat, by omega, hfk.trans h2.symm⟩))) (hO)
        · refine lv_aload_n hx hb dX5_reachThrough_26 rfl (lv_at hl 2 rfl) ?_
          refine r_get C hw (hsh 15 _ rfl) fl_X5_26 (oV_r rfl (hrs (15, 5, 19) (by decide))) dX5_reachThrough_27 ?_
          refine lv_iload_n hx hb dX5_reachThrough_30 rfl (lv_at hl 0 rfl) ?_
          refine lv_iload_n hx hb dX5_reachThrough_31 rfl (lv_at hl 3 rfl) ?_
          refine r_callN (As := [.ref (B + 19), .int z9, .int x]) (rest := []) C hw (t_X11_hasBitE l B D cA kd3 ig4 rg5 lg6 _ 19 (Or.inr (Or.inl rfl)) z9 x  hI) sn_X5_85 rfl hl.1 rfl (Nat.le_of_ble_eq_true rfl) ⟨Nat.le_of_ble_eq_true rfl, Nat.le_of_ble_eq_true rfl⟩ ⟨Nat.le_of_ble_eq_true rfl, Nat.le_of_ble_eq_true rfl⟩ dX5_reachThrough_32 (fun r21 kd17 ig18 rg19 lg20 H locs hw hH hp22 => ?_)
          obtain ⟨rfl, rfl, rfl, rfl, hzhp22, hrhp22⟩ := hp22
          obtain ⟨z23, rfl, hz23⟩ := hrhp22
          refine z_eq (tgt := 78) hx hb dX5_reachThrough_35 (by decide) (fun c35 => ?_) (fun c35 => ?_)
          · exact J78 ls H locs kd3 ig4 rg5 lg6 (lv_sub hl [1, 2, 3] rfl) hw hI hN (Thr.eqS (Thr.skip g2_2 (r := z9.toInt.toNat) (by omega) (by omega) (fun w9 => w9.elim fun i q9 => by have q8 := hF.inj (i := i) (j := v2.toInt.toNat) (by have := q9.1; unfold fN; omega) (by unfold fN; omega) (q9.2.trans hfk.symm); have := q9.1; omega) (Or.inr (fun w9 => by0 hz23 (by omega) ⟨by omega, by omega, w9⟩))) (fun a => by constructor; (rintro ⟨i, h1, h2⟩; by_cases c : i = v2.toInt.toNat; (subst c; exact Or.inr (h2.symm.trans hfk)); exact Or.inl ⟨i, by omega, h2⟩); (rintro (⟨i, h1, h2⟩ | h2); exact ⟨i, by omega, h2⟩; exact ⟨v2.toInt.toNat, by omega, hfk.trans h2.symm⟩))) (hO)
          · obtain ⟨lgs, elgs⟩ : ∃ f, f = lg6 := ⟨_, rfl⟩
            have g2_2 : Thr B σ x.toInt.toNat (fun a => ∃ i, i < v2.toInt.toNat ∧ fL B ig i = a) ig lg lgs := by rw [elgs]; exact g2_2
            rw [← elgs] at hz23
            refine lv_iconst (v := 0) hx hb dX5_reachThrough_38 (by decide) (ti_c 0 (by decide) fun z24 hz24 => ?_)
            refine lv_istore (lv' := [(4, .int z24), (3, .int z9), (2, .int v2), (0, .ref (B + 15)), (1, .int x)]) hx hb dX5_reachThrough_39 hl (by decide) rfl (fun ls hl => ?_)
            have L41 : ∀ (n : Nat) (ls : Array Slot) (H : Heap) (locs : List Loc) (kd26 : sK) (ig27 : sI) (rg28 : sR) (lg29 : sG) (v25 : Int32), lv_has ls 5 [(4, .int v25), (3, .int z9), (2, .int v2), (0, .ref (B + 15)), (1, .int x)] → WD B D cA s.heap kd26 ig27 rg28 lg29 H locs → IC τ B kd26 ig27 rg28 → Nx 1014 B none kd ig rg lg kd26 ig27 rg28 lg29 → (0 ≤ v25.toInt) → (v25.toInt ≤ 5) → (RwO B z9.toInt.toNat x.toInt.toNat v25.toInt.toNat lgs lg29) → (Fo B [19] ig lg ig27 lg29) → 5 - v25.toInt < (n : Int) → W p l e (rL 2 0 0) s m args below meth c H locs 0 0 (MQ below (QcW B D cA (PI 1014 τ B none kd ig rg lg (fun r kd' ig' rg' lg' => (r = none ∧ (Thr B σ x.toInt.toNat (fo σ) ig lg lg' ∧ Fo B [19] ig lg ig' lg'))))) args s 0 0 (fun q => B ≤ q)) (F0 m 41 ls []) := by
              intro n41
              induction n41 with
              | zero => intro ls H locs kd26 ig27 rg28 lg29 v25 hl hw hI hN g41_0 g41_1 g41_2 g41_3 hmu; exact absurd hmu (by omega)
              | succ n41 ih41 =>
                intro ls H locs kd26 ig27 rg28 lg29 v25 hl hw hI hN g41_0 g41_1 g41_2 g41_3 hmu
                have hsh := hI.sh
                have hrs := hI.rs
                have hO := g41_3
                refine lv_iload hx hb dX5_reachThrough_41 (lv_at hl 0 rfl) ?_
                refine lv_iconst (v := 5) hx hb dX5_reachThrough_43 (by decide) (ti_c 5 (by decide) fun z30 hz30 => ?_)
                refine b_ge (tgt := 78) hx hb dX5_reachThrough_44 (by decide) (fun c44 => ?_) (fun c44 => ?_)
                · exact J78 ls H locs kd26 ig27 rg28 lg29 (lv_sub hl [2, 3, 4] rfl) hw hI hN (Thr.eqS (Thr.put g2_2 (r := z9.toInt.toNat) (by omega) (by omega) (fun w9 => w9.elim fun i q9 => by have q8 := hF.inj (i := i) (j := v2.toInt.toNat) (by have := q9.1; unfold fN; omega) (by unfold fN; omega) (q9.2.trans hfk.symm); have := q9.1; omega) (by rw [hw9]; omega) (by1 hz23 (by omega)).2.2 (by have q9 := g41_2; rw [show v25.toInt.toNat = 5 by omega] at q9; exact q9)) (fun a => by constructor; (rintro ⟨i, h1, h2⟩; by_cases c : i = v2.toInt.toNat; (subst c; exact Or.inr (h2.symm.trans hfk)); exact Or.inl ⟨i, by omega, h2⟩); (rintro (⟨i, h1, h2⟩ | h2); exact ⟨i, by omega, h2⟩; exact ⟨v2.toInt.toNat, by omega, hfk.trans h2.symm⟩))) (hO)
                · refine lv_aload_n hx hb dX5_reachThrough_47 rfl (lv_at hl 3 rfl) ?_
                  refine r_get C hw (hsh 15 _ rfl) fl_X5_26 (oV_r rfl (hrs (15, 5, 19) (by decide))) dX5_reachThrough_48 ?_
                  refine lv_iload_n hx hb dX5_reachThrough_51 rfl (lv_at hl 1 rfl) ?_
                  refine lv_iconst (v := 5) hx hb dX5_reachThrough_52 (by decide) (ti_c 5 (by decide) fun z31 hz31 => ?_)
                  refine lv_imul hx hb dX5_reachThrough_53 (tc_mulR 5 hz31 fun z32 hz32 => ?_)
                  first | replace hz32 := hz32 (by omega) | clear hz32
                  refine lv_iload hx hb dX5_reachThrough_54 (lv_at hl 0 rfl) ?_
                  refine lv_iadd hx hb dX5_reachThrough_56 (tc_add fun z33 hz33 => ?_)
                  first | replace hz33 := hz33 (by omega) | clear hz33
                  refine lv_dup2_11 hx hb dX5_reachThrough_57 rfl rfl ?_
                  refine r_lald C hw (hsh 19 _ rfl) (by omega) (by omega) dX5_reachThrough_58 (lv_topl fun x34 hx34 => ?_)
                  refine lv_aload_n hx hb dX5_reachThrough_59 rfl (lv_at hl 3 rfl) ?_
                  refine r_get C hw (hsh 15 _ rfl) fl_X5_26 (oV_r rfl (hrs (15, 5, 19) (by decide))) dX5_reachThrough_60 ?_
                  refine lv_iload_n hx hb dX5_reachThrough_63 rfl (lv_at hl 4 rfl) ?_
                  refine lv_iconst (v := 5) hx hb dX5_reachThrough_64 (by decide) (ti_c 5 (by decide) fun z35 hz35 => ?_)
                  refine lv_imul hx hb dX5_reachThrough_65 (tc_mulR 5 hz35 fun z36 hz36 => ?_)
                  first | replace hz36 := hz36 (by omega) | clear hz36
                  refine lv_iload hx hb dX5_reachThrough_66 (lv_at hl 0 rfl) ?_
                  refine lv_iadd hx hb dX5_reachThrough_68 (tc_add fun z37 hz37 => ?_)
                  first | replace hz37 := hz37 (by omega) | clear hz37
                  refine r_lald C hw (hsh 19 _ rfl) (by omega) (by omega) dX5_reachThrough_69 (lv_topl fun x38 hx38 => ?_)
                  refine lv_lor hx hb dX5_reachThrough_70 (lv_topl fun x39 hx39 => ?_)
                  refine r_last C hw (hsh 19 _ rfl) (by omega) (by omega) dX5_reachThrough_71 (fun H locs hH hw => ?_)
                  have hO0 := hO
                  obtain ⟨lg40, elg40⟩ : ∃ f, f = up2 lg29 (B + 19) z33.toInt.toNat x39 := ⟨_, rfl⟩
                  rw [← elg40] at hw
                  have hN : Nx 1014 B none kd ig rg lg kd26 ig27 rg28 lg40 := by rw [elg40]; exact hN.pl (by omega)
                  have hO : Fo B [19] ig lg ig27 lg40 := by rw [elg40]; exact hO0.pl (by decide)
                  clear hO0
                  have ro2 : RwO B z9.toInt.toNat x.toInt.toNat (v25.toInt.toNat + 1) lgs lg40 := by rw [elg40]; exact g41_2.step (by omega) (i2 := z37.toInt.toNat) (by omega) (by omega) (by rw [hx39, hx34, hx38])
                  refine tc_inc hx hb dX5_reachThrough_72 hl (k := 0) rfl (by decide) (by decide) (fun z41 hz41 ls hl => ?_)
                  first | replace hz41 := hz41 (by omega) | clear hz41
                  have hl : lv_has ls 5 [(4, .int z41), (3, .int z9), (2, .int v2), (0, .ref (B + 15)), (1, .int x)] := hl
                  refine lv_goto (tgt := 41) hx hb dX5_reachThrough_75 (by decide) ?_
                  exact ih41 ls H locs kd26 ig27 rg28 lg40 z41 (lv_sub hl [0, 1, 2, 3, 4] rfl) hw hI hN (by omega) (by omega) (by rw [show z41.toInt.toNat = v25.toInt.toNat + 1 by omega]; exact ro2) (hO) (by omega)
            exact L41 ((5 - z24.toInt) + 1).toNat ls H locs kd3 ig4 rg5 lg6 z24 (lv_sub hl [0, 1, 2, 3, 4] rfl) hw hI hN (by omega) (by omega) (by rw [show z24.toInt.toNat = 0 by omega, elgs]; exact RwO.zero) (hO) (by omega)
  exact L2 ((288 - z1.toInt) + 1).toNat ls s.heap [] kd ig rg lg z1 (lv_sub hl [0, 1, 2] rfl) hw hI hN (by omega) (by omega) (Thr.zero (fun a w9 => w9.elim fun i q9 => by have := q9.1; omega)) (by have q9 : 0 ≤ (ig (B + 15) 2).toInt ∧ (ig (B + 15) 2).toInt ≤ 288 := hI.i 15 2 (by decide); omega) (hO) (by omega)

set_option maxHeartbeats 4000000 in
set_option maxRecDepth 100000 in
theorem t_X5_findRingsE {τ : Tp} (l : Launch) (B : Nat) (D : va_G) (cA : Nat → ClassId) (kd : sK) (ig : sI) (rg : sR) (lg : sG) (sz : Nat) (σ : Sg) (hF : LkF B σ ig lg) (hR : LkS B σ (fun _ => False) (fun _ q => inO (oD B ig) (oN B ig) q) ig) (hz : ∀ p, p < 288 → (ig (B + 20) p).toInt = 0) (hI : IC τ B kd ig rg) : MC l B D cA yX5_findRings cX5_findRings 3 none (rL 3 0 0) [.ref (B + 15)] kd ig rg lg sz (PI 1014 τ B none kd ig rg lg (fun r kd' ig' rg' lg' => (r = none ∧ ((LkS B σ (Rg σ) (fun _ q => inO (oD B ig') (oN B ig) q) ig' ∧ RgA B (Rg σ) ig' ∧ (ig (B + 15) 9).toInt ≤ (ig' (B + 15) 9).toInt) ∧ Fo B [15, 19, 20, 21, 22] ig lg ig' lg' ∧ (ig' (B + 15) 2).toInt = (ig (B + 15) 2).toInt ∧ (ig' (B + 15) 11).toInt = (ig (B + 15) 11).toInt)))) := by
  refine MC.of (own := RX5) (by decide +kernel) rfl (Nat.le_of_ble_eq_true rfl) ?_
  intro p e s m args below meth c ls C hr hlk hnm hw hsz hl
  have hx := C.1.1
  have hb := C.1.2.1
  have hown := C.1.2.2.2.1
  have hts := C.1.2.2.2.2
  have hl : lv_has ls 3 [(0, .ref (B + 15))] := hl
  have hN : Nx 1014 B none kd ig rg lg kd ig rg lg := Nx.rf
  have hsh := hI.sh
  have hrs := hI.rs
  have hO : Fo B [15, 19, 20, 21, 22] ig lg ig lg := Fo.rf
  refine lv_aload_n hx hb dX5_findRings_0 rfl (lv_at hl 0 rfl) ?_
  refine r_get C hw (hsh 15 _ rfl) fl_X5_23 (oV_r rfl (hrs (15, 4, 18) (by decide))) dX5_findRings_1 ?_
  refine lv_iconst (v := 0) hx hb dX5_findRings_4 (by decide) (ti_c 0 (by decide) fun z1 hz1 => ?_)
  refine lv_aload_n hx hb dX5_findRings_5 rfl (lv_at hl 0 rfl) ?_
  refine r_get C hw (hsh 15 _ rfl) fl_X5_26 (oV_r rfl (hrs (15, 5, 19) (by decide))) dX5_findRings_6 ?_
  refine lv_iconst (v := 0) hx hb dX5_findRings_9 (by decide) (ti_c 0 (by decide) fun z2 hz2 => ?_)
  refine lv_aload_n hx hb dX5_findRings_10 rfl (lv_at hl 0 rfl) ?_
  refine r_get C hw (hsh 15 _ rfl) fl_X5_23 (oV_r rfl (hrs (15, 4, 18) (by decide))) dX5_findRings_11 ?_
  refine r_alen C hw (hsh 18 _ rfl) (by omega) (by omega) dX5_findRings_14 (fun z3 hz3 => ?_)
  refine r_acopy (k := 23) (Or.inr rfl) C hw ay_X5 ay_n ay_s ay_i (hsh 18 _ rfl) (hsh 19 _ rfl) (by omega) (by omega) (by omega) (by omega) (by omega) hl.1 (Nat.le_of_ble_eq_true rfl) (Nat.le_of_ble_eq_true rfl) dX5_findRings_15 (fun H locs ig5 lg4 q1 q2 q3 q4 hH hw => ?_)
  obtain ⟨eq4, ecp⟩ := q4 rfl
  rw [eq4] at hw
  have hN := Nx.ol hN (fun b i h1 h2 => q2 b i (by show b ≠ B + 19; omega)) (fun c j hc => q2 (B + c) j (by show B + c ≠ B + 19; intro e; obtain rfl : c = 19 := (by omega); exact absurd hc (by decide)))
  have hO : Fo B [15, 19, 20, 21, 22] ig lg ig lg4 := Fo.rf.ol (a := 19) (by decide) (fun b i hb => q2 b i hb)
  have hc9 : ∀ j, j < 1440 → lg4 (B + 19) j = lg (B + 18) j := fun j hj => by rw [ecp j, va_cpy, show z1.toInt.toNat = 0 by omega, show z2.toInt.toNat = 0 by omega, if_pos (by omega), Nat.sub_zero, Nat.zero_add]
  refine lv_iconst (v := 0) hx hb dX5_findRings_18 (by decide) (ti_c 0 (by decide) fun z6 hz6 => ?_)
  refine lv_istore_n (lv' := [(1, .int z6), (0, .ref (B + 15))]) hx hb dX5_findRings_19 rfl hl (by decide) rfl (fun ls hl => ?_)
  have L20 : ∀ (n : Nat) (ls : Array Slot) (H : Heap) (locs : List Loc) (kd8 : sK) (ig9 : sI) (rg10 : sR) (lg11 : sG) (v7 : Int32), lv_has ls 3 [(1, .int v7), (0, .ref (B + 15))] → WD B D cA s.heap kd8 ig9 rg10 lg11 H locs → IC τ B kd8 ig9 rg10 → Nx 1014 B none kd ig rg lg kd8 ig9 rg10 lg11 → (0 ≤ v7.toInt) → (v7.toInt ≤ 288) → (RcH B σ ig ig lg11 v7.toInt.toNat) → (Fo B [19] ig lg ig9 lg11) → (Fo B [15, 19, 20, 21, 22] ig lg ig9 lg11) → ((ig9 (B + 15) 2).toInt = (ig (B + 15) 2).toInt) → ((ig9 (B + 15) 11).toInt = (ig (B + 15) 11).toInt) → 288 - v7.toInt < (n : Int) → W p l e (rL 3 0 0) s m args below meth c H locs 0 0 (MQ below (QcW B D cA (PI 1014 τ B none kd ig rg lg (fun r kd' ig' rg' lg' => (r = none ∧ ((LkS B σ (Rg σ) (fun _ q => inO (oD B ig') (oN B ig) q) ig' ∧ RgA B (Rg σ) ig' ∧ (ig (B + 15) 9).toInt ≤ (ig' (B + 15) 9).toInt) ∧ Fo B [15, 19, 20, 21, 22] ig lg ig' lg' ∧ (ig' (B + 15) 2).toInt = (ig (B + 15) 2).toInt ∧ (ig' (B + 15) 11).toInt = (ig (B + 15) 11).toInt))))) args s 0 0 (fun q => B ≤ q)) (F0 m 20 ls []) := by
    intro n20
    induction n20 with
    | zero => intro ls H locs kd8 ig9 rg10 lg11 v7 hl hw hI hN g20_0 g20_1 g20_2 g20_3 g20_4 g20_5 g20_6 hmu; exact absurd hmu (by omega)
    | succ n20 ih20 =>
      intro ls H locs kd8 ig9 rg10 lg11 v7 hl hw hI hN g20_0 g20_1 g20_2 g20_3 g20_4 g20_5 g20_6 hmu
      have hsh := hI.sh
      have hrs := hI.rs
      have hO := g20_4
      have hO1 := g20_3
      refine lv_iload_n hx hb dX5_findRings_20 rfl (lv_at hl 0 rfl) ?_
      refine lv_aload_n hx hb dX5_findRings_21 rfl (lv_at hl 1 rfl) ?_
      refine r_get C hw (hsh 15 _ rfl) fl_X5_58 (oV_i rfl) dX5_findRings_22 (ti_c (ig9 (B + 15) 2).toInt rfl fun z12 hz12 => ?_)
      have k13 : 0 ≤ (ig9 (B + 15) 2).toInt ∧ (ig9 (B + 15) 2).toInt ≤ 288 := hI.i 15 2 (by decide)
      refine b_ge (tgt := 58) hx hb dX5_findRings_25 (by decide) (fun c25 => ?_) (fun c25 => ?_)
      · refine lv_iconst (v := 0) hx hb dX5_findRings_58 (by decide) (ti_c 0 (by decide) fun z14 hz14 => ?_)
        refine lv_istore_n (lv' := [(1, .int z14), (0, .ref (B + 15))]) hx hb dX5_findRings_59 rfl hl (by decide) rfl (fun ls hl => ?_)
        have L60 : ∀ (n : Nat) (ls : Array Slot) (H : Heap) (locs : List Loc) (kd16 : sK) (ig17 : sI) (rg18 : sR) (lg19 : sG) (v15 : Int32), lv_has ls 3 [(1, .int v15), (0, .ref (B + 15))] → WD B D cA s.heap kd16 ig17 rg18 lg19 H locs → IC τ B kd16 ig17 rg18 → Nx 1014 B none kd ig rg lg kd16 ig17 rg18 lg19 → (0 ≤ v15.toInt) → (v15.toInt ≤ 288) → (LkS B σ (RnG B σ ig v15.toInt.toNat) (fun _ q => inO (oD B ig17) (oN B ig) q) ig17) → (RgA B (RnG B σ ig v15.toInt.toNat) ig17) → (∀ k, v15.toInt.toNat ≤ k → k < fN B ig → ig17 (B + 21) (fL B ig k) = ig (B + 21) (fL B ig k)) → (RgF B σ ig lg19) → ((ig (B + 15) 9).toInt ≤ (ig17 (B + 15) 9).toInt) → (Fo B [15, 19, 20, 21, 22] ig lg ig17 lg19) → ((ig17 (B + 15) 2).toInt = (ig (B + 15) 2).toInt) → ((ig17 (B + 15) 11).toInt = (ig (B + 15) 11).toInt) → 288 - v15.toInt < (n : Int) → W p l e (rL 3 0 0) s m args below meth c H locs 0 0 (MQ below (QcW B D cA (PI 1014 τ B none kd ig rg lg (fun r kd' ig' rg' lg' => (r = none ∧ ((LkS B σ (Rg σ) (fun _ q => inO (oD B ig') (oN B ig) q) ig' ∧ RgA B (Rg σ) ig' ∧ (ig (B + 15) 9).toInt ≤ (ig' (B + 15) 9).toInt) ∧ Fo B [15, 19, 20, 21, 22] ig lg ig' lg' ∧ (ig' (B + 15) 2).toInt = (ig (B + 15) 2).toInt ∧ (ig' (B + 15) 11).toInt = (ig (B + 15) 11).toInt))))) args s 0 0 (fun q => B ≤ q)) (F0 m 60 ls []) := by
          intro n60
          induction n60 with
          | zero => intro ls H locs kd16 ig17 rg18 lg19 v15 hl hw hI hN g60_0 g60_1 g60_2 g60_3 g60_4 g60_5 g60_6 g60_7 g60_8 g60_9 hmu; exact absurd hmu (by omega)
          | succ n60 ih60 =>
            intro ls H locs kd16 ig17 rg18 lg19 v15 hl hw hI hN g60_0 g60_1 g60_2 g60_3 g60_4 g60_5 g60_6 g60_7 g60_8 g60_9 hmu
            have hsh := hI.sh
            have hrs := hI.rs
            have hO := g60_7
            have k159 : 0 ≤ (ig17 (B + 15) 9).toInt ∧ (ig17 (B + 15) 9).toInt ≤ 288 := hI.i 15 9 (by decide)
            refine lv_iload_n hx hb dX5_findRings_60 rfl (lv_at hl 0 rfl) ?_
            refine lv_aload_n hx hb dX5_findRings_61 rfl (lv_at hl 1 rfl) ?_
            refine r_get C hw (hsh 15 _ rfl) fl_X5_58 (oV_i rfl) dX5_findRings_62 (ti_c (ig17 (B + 15) 2).toInt rfl fun z20 hz20 => ?_)
            have k21 : 0 ≤ (ig17 (B + 15) 2).toInt ∧ (ig17 (B + 15) 2).toInt ≤ 288 := hI.i 15 2 (by decide)
            refine b_ge (tgt := 121) hx hb dX5_findRings_65 (by decide) (fun c65 => ?_) (fun c65 => ?_)
            · exact r_vret C hw hr hlk (Nat.le_of_ble_eq_true rfl) (Nat.le_of_ble_eq_true rfl) dX5_findRings_121 ⟨hI, hN, ⟨rfl, ⟨⟨g60_2.eqX (fun p => (RnG.all hF (by unfold fN; omega)).symm), g60_3.eq (fun p => (RnG.all hF (by unfold fN; omega)).symm), g60_6⟩, hO, by omega, by omega⟩⟩⟩
            · refine lv_aload_n hx hb dX5_findRings_68 rfl (lv_at hl 1 rfl) ?_
              refine r_get C hw (hsh 15 _ rfl) fl_X5_15 (oV_r rfl (hrs (15, 1, 16) (by decide))) dX5_findRings_69 ?_
              refine lv_iload_n hx hb dX5_findRings_72 rfl (lv_at hl 0 rfl) ?_
              refine r_iald C hw (hsh 16 _ rfl) (by omega) (by omega) dX5_findRings_73 (ti_c (ig17 (B + 16) v15.toInt.toNat).toInt rfl fun z22 hz22 => ?_)
              have k23 : 0 ≤ (ig17 (B + 16) (v15.toInt.toNat)).toInt ∧ (ig17 (B + 16) (v15.toInt.toNat)).toInt ≤ 287 := hI.i 16 (v15.toInt.toNat) (by decide)
              have hfk : fL B ig v15.toInt.toNat = z22.toInt.toNat := by unfold fL; rw [← hO.i 16 _, ← hz22]
              have hfo9 : fo σ z22.toInt.toNat := hfk ▸ hF.1 _ (by unfold fN; omega)
              refine lv_istore_n (lv' := [(2, .int z22), (1, .int v15), (0, .ref (B + 15))]) hx hb dX5_findRings_74 rfl hl (by decide) rfl (fun ls hl => ?_)
              refine lv_aload_n hx hb dX5_findRings_75 rfl (lv_at hl 2 rfl) ?_
              refine r_get C hw (hsh 15 _ rfl) fl_X5_33 (oV_r rfl (hrs (15, 7, 21) (by decide))) dX5_findRings_76 ?_
              refine lv_iload_n hx hb dX5_findRings_79 rfl (lv_at hl 0 rfl) ?_
              refine r_iald C hw (hsh 21 _ rfl) (by omega) (by omega) dX5_findRings_80 (ti_c (ig17 (B + 21) z22.toInt.toNat).toInt rfl fun z24 hz24 => ?_)
              have hw0 : wT B ig z22.toInt.toNat = z24.toInt := by unfold wT; rw [hz24, ← hfk, g60_4 _ (Nat.le_refl _) (by unfold fN; omega)]
              have hw9 : wT B ig17 z22.toInt.toNat = z24.toInt := by unfold wT; rw [hz24]
              have nn9 := RLk.nn g60_2 hfo9
              rw [hw9] at nn9
              have ho9 := hfo9.1
              have J115 : ∀ (ls : Array Slot) (H : Heap) (locs : List Loc) (kd25 : sK) (ig26 : sI) (rg27 : sR) (lg28 : sG) , lv_has ls 3 [(1, .int v15), (0, .ref (B + 15))] → WD B D cA s.heap kd25 ig26 rg27 lg28 H locs → IC τ B kd25 ig26 rg27 → Nx 1014 B none kd ig rg lg kd25 ig26 rg27 lg28 → (LkS B σ (RnG B σ ig (v15.toInt.toNat + 1)) (fun _ q => inO (oD B ig26) (oN B ig) q) ig26) → (RgA B (RnG B σ ig (v15.toInt.toNat + 1)) ig26) → (∀ k, v15.toInt.toNat + 1 ≤ k → k < fN B ig → ig26 (B + 21) (fL B ig k) = ig (B + 21) (fL B ig k)) → (RgF B σ ig lg28) → ((ig (B + 15) 9).toInt ≤ (ig26 (B + 15) 9).toInt) → (Fo B [15, 19, 20, 21, 22] ig lg ig26 lg28) → ((ig26 (B + 15) 2).toInt = (ig (B + 15) 2).toInt) → ((ig26 (B + 15) 11).toInt = (ig (B + 15) 11).toInt) → W p l e (rL 3 0 0) s m args below meth c H locs 0 0 (MQ below (QcW B D cA (PI 1014 τ B none kd ig rg lg (fun r kd' ig' rg' lg' => (r = none ∧ ((LkS B σ (Rg σ) (fun _ q => inO (oD B ig') (oN B ig) q) ig' ∧ RgA B (Rg σ) ig' ∧ (ig (B + 15) 9).toInt ≤ (ig' (B + 15) 9).toInt) ∧ Fo B [15, 19, 20, 21, 22] ig lg ig' lg' ∧ (ig' (B + 15) 2).toInt = (ig (B + 15) 2).toInt ∧ (ig' (B + 15) 11).toInt = (ig (B + 15) 11).toInt))))) args s 0 0 (fun q => B ≤ q)) (F0 m 115 ls []) := by
                intro ls H locs kd25 ig26 rg27 lg28 hl hw hI hN g115_0 g115_1 g115_2 g115_3 g115_4 g115_5 g115_6 g115_7
                have hsh := hI.sh
                have hrs := hI.rs
                have hO := g115_5
                refine tc_inc hx hb dX5_findRings_115 hl (k := 0) rfl (by decide) (by decide) (fun z29 hz29 ls hl => ?_)
                first | replace hz29 := hz29 (by omega) | clear hz29
                have hl : lv_has ls 3 [(1, .int z29), (0, .ref (B + 15))] := hl
                refine lv_goto (tgt := 60) hx hb dX5_findRings_118 (by decide) ?_
                exact ih60 ls H locs kd25 ig26 rg27 lg28 z29 (lv_sub hl [0, 1] rfl) hw hI hN (by omega) (by omega) (by rw [show z29.toInt.toNat = v15.toInt.toNat + 1 by omega]; exact g115_0) (by rw [show z29.toInt.toNat = v15.toInt.toNat + 1 by omega]; exact g115_1) (by rw [show z29.toInt.toNat = v15.toInt.toNat + 1 by omega]; exact g115_2) (g115_3) (g115_4) (hO) (by omega) (by omega) (by omega)
              refine z_le (tgt := 115) hx hb dX5_findRings_81 (by decide) (fun c81 => ?_) (fun c81 => ?_)
              · exact J115 ls H locs kd16 ig17 rg18 lg19 (lv_sub hl [1, 2] rfl) hw hI hN (g60_2.eqX (fun p => RnG.n (fun w9 => by rw [hfk] at w9; exact RLk.noringW hR hfo9 (by rw [hw0]; omega) w9))) (g60_3.eq (fun p => RnG.n (fun w9 => by rw [hfk] at w9; exact RLk.noringW hR hfo9 (by rw [hw0]; omega) w9))) (fun k h1 h2 => g60_4 k (by omega) h2) (g60_5) (by omega) (hO) (by omega) (by omega)
              · refine lv_aload_n hx hb dX5_findRings_84 rfl (lv_at hl 2 rfl) ?_
                refine r_get C hw (hsh 15 _ rfl) fl_X5_26 (oV_r rfl (hrs (15, 5, 19) (by decide))) dX5_findRings_85 ?_
                refine lv_iload_n hx hb dX5_findRings_88 rfl (lv_at hl 0 rfl) ?_
                refine lv_iload_n hx hb dX5_findRings_89 rfl (lv_at hl 0 rfl) ?_
                refine r_callN (As := [.ref (B + 19), .int z22, .int z22]) (rest := []) C hw (t_X11_hasBitE l B D cA kd16 ig17 rg18 lg19 _ 19 (Or.inr (Or.inl rfl)) z22 z22  hI) sn_X5_85 rfl hl.1 rfl (Nat.le_of_ble_eq_true rfl) ⟨Nat.le_of_ble_eq_true rfl, Nat.le_of_ble_eq_true rfl⟩ ⟨Nat.le_of_ble_eq_true rfl, Nat.le_of_ble_eq_true rfl⟩ dX5_findRings_90 (fun r34 kd30 ig31 rg32 lg33 H locs hw hH hp35 => ?_)
                obtain ⟨rfl, rfl, rfl, rfl, hzhp35, hrhp35⟩ := hp35
                obtain ⟨z36, rfl, hz36⟩ := hrhp35
                refine z_eq (tgt := 115) hx hb dX5_findRings_93 (by decide) (fun c93 => ?_) (fun c93 => ?_)
                · exact J115 ls H locs kd16 ig17 rg18 lg19 (lv_sub hl [1, 2] rfl) hw hI hN (g60_2.eqX (fun p => RnG.n (fun w9 => by rw [hfk] at w9; exact by0 hz36 (by omega) ⟨by omega, by omega, (g60_5 _ hfo9 (by rw [hw0]; omega)).mpr w9⟩))) (g60_3.eq (fun p => RnG.n (fun w9 => by rw [hfk] at w9; exact by0 hz36 (by omega) ⟨by omega, by omega, (g60_5 _ hfo9 (by rw [hw0]; omega)).mpr w9⟩))) (fun k h1 h2 => g60_4 k (by omega) h2) (g60_5) (by omega) (hO) (by omega) (by omega)
                · have hrg : Rg σ z22.toInt.toNat := (g60_5 _ hfo9 (by rw [hw0]; omega)).mp (by1 hz36 (by omega)).2.2
                  refine lv_aload_n hx hb dX5_findRings_96 rfl (lv_at hl 2 rfl) ?_
                  refine r_get C hw (hsh 15 _ rfl) fl_X5_29 (oV_r rfl (hrs (15, 6, 20) (by decide))) dX5_findRings_97 ?_
                  refine lv_iload_n hx hb dX5_findRings_100 rfl (lv_at hl 0 rfl) ?_
                  refine lv_iconst (v := 1) hx hb dX5_findRings_101 (by decide) (ti_c 1 (by decide) fun z37 hz37 => ?_)
                  refine r_zast C hw (hsh 20 _ rfl) (by omega) (by omega) (nar_b (by omega)) dX5_findRings_102 (fun H locs hH hw => ?_)
                  have hO0 := hO
                  obtain ⟨ig38, eig38⟩ : ∃ f, f = up2 ig17 (B + 20) z22.toInt.toNat z37 := ⟨_, rfl⟩
                  rw [← eig38] at hw
                  have hN : Nx 1014 B none kd ig rg lg kd16 ig38 rg18 lg19 := by rw [eig38]; exact hN.pi (by omega)
                  have hI : IC τ B kd16 ig38 rg18 := by rw [eig38]; exact hI.pi (show okR none _ from trivial)
                  have wig38_15_9 : (ig38 (B + 15) 9).toInt = (ig17 (B + 15) 9).toInt := by rw [eig38, up2_a (by omega)]
                  have wig38_15_2 : (ig38 (B + 15) 2).toInt = (ig17 (B + 15) 2).toInt := by rw [eig38, up2_a (by omega)]
                  have wig38_15_11 : (ig38 (B + 15) 11).toInt = (ig17 (B + 15) 11).toInt := by rw [eig38, up2_a (by omega)]
                  have hO : Fo B [15, 19, 20, 21, 22] ig lg ig38 lg19 := by rw [eig38]; exact hO0.pi (by decide)
                  clear hO0
                  refine lv_aload_n hx hb dX5_findRings_103 rfl (lv_at hl 2 rfl) ?_
                  refine r_get C hw (hsh 15 _ rfl) fl_X5_33 (oV_r rfl (hrs (15, 7, 21) (by decide))) dX5_findRings_104 ?_
                  refine lv_iload_n hx hb dX5_findRings_107 rfl (lv_at hl 0 rfl) ?_
                  refine lv_iconst (v := 0) hx hb dX5_findRings_108 (by decide) (ti_c 0 (by decide) fun z39 hz39 => ?_)
                  refine r_iast C hw (hsh 21 _ rfl) (by omega) (by omega) dX5_findRings_109 (fun H locs hH hw => ?_)
                  have hO0 := hO
                  obtain ⟨ig40, eig40⟩ : ∃ f, f = up2 ig38 (B + 21) z22.toInt.toNat z39 := ⟨_, rfl⟩
                  rw [← eig40] at hw
                  have hN : Nx 1014 B none kd ig rg lg kd16 ig40 rg18 lg19 := by rw [eig40]; exact hN.pi (by omega)
                  have hI : IC τ B kd16 ig40 rg18 := by rw [eig40]; exact hI.pi (show okR none _ from trivial)
                  have wig40_15_9 : (ig40 (B + 15) 9).toInt = (ig38 (B + 15) 9).toInt := by rw [eig40, up2_a (by omega)]
                  have wig40_15_2 : (ig40 (B + 15) 2).toInt = (ig38 (B + 15) 2).toInt := by rw [eig40, up2_a (by omega)]
                  have wig40_15_11 : (ig40 (B + 15) 11).toInt = (ig38 (B + 15) 11).toInt := by rw [eig40, up2_a (by omega)]
                  have hO : Fo B [15, 19, 20, 21, 22] ig lg ig40 lg19 := by rw [eig40]; exact hO0.pi (by decide)
                  clear hO0
                  refine lv_aload_n hx hb dX5_findRings_110 rfl (lv_at hl 2 rfl) ?_
                  refine lv_iload_n hx hb dX5_findRings_111 rfl (lv_at hl 0 rfl) ?_
                  refine r_callV (As := [.int z22]) (rest := []) C hw (t_X5_appendToOrderE l B D cA kd16 ig40 rg18 lg19 _ z22 (by have q9 := g60_2.rlt hfo9 (by rw [hw9]; omega); unfold oN at q9; omega) hI) sv_X5_65 (hsh 15 _ rfl) rfl hl.1 rfl (Nat.le_of_ble_eq_true rfl) ⟨Nat.le_of_ble_eq_true rfl, Nat.le_of_ble_eq_true rfl⟩ ⟨Nat.le_of_ble_eq_true rfl, Nat.le_of_ble_eq_true rfl⟩ dX5_findRings_112 (fun r45 kd41 ig42 rg43 lg44 H locs hw hH hp46 => ?_)
                  obtain ⟨hI, hchp46, hrhp46⟩ := hp46
                  have hN := hN.tr hchp46
                  have hsh := hI.sh
                  have hrs := hI.rs
                  obtain ⟨rfl, hvhp46⟩ := hrhp46
                  obtain ⟨phvhp46, ohvhp46, khvhp46_0, khvhp46_1⟩ := hvhp46
                  have hO := hO.tr ohvhp46
                  exact J115 ls H locs kd41 ig42 rg43 lg44 (lv_sub hl [1, 2] rfl) hw hI hN (((LkS.rput (r := z22.toInt.toNat) (v := z39) (ig := ig38) (LkS.ag g60_2 (by rw [eig38, up2_a (by omega)]) (fun p => by rw [eig38, up2_a (by omega)]) (fun p => by rw [eig38, up2_a (by omega)])) hfo9 (by unfold wT; rw [eig38, up2_a (by omega)]; unfold wT at hw9; rw [hw9]; omega) (by omega) (by have q9 := phvhp46; rw [eig40] at q9; rw [show ((z22.toInt.toNat : Nat) : Int) = z22.toInt by omega]; exact q9) (fun p => by rw [ohvhp46.i 21 _, eig40]) (by rw [eig38, up2_a (by omega)]; omega) (by unfold oN; rw [eig38, up2_a (by omega)]; omega)).eqX (fun p => (RnG.y (by rw [hfk]; exact hrg)).trans (by rw [hfk])))) (((RgA.ag (RgA.put g60_3 (r := z22.toInt.toNat) (v := z37) (by omega)) (fun p => by rw [ohvhp46.i 20 _, eig40, up2_a (by omega), eig38])).eq (fun p => (RnG.y (by rw [hfk]; exact hrg)).trans (by rw [hfk])))) (fun k h1 h2 => by rw [ohvhp46.i 21 _, eig40, up2_j (fun q9 => by have q8 := hF.inj (i := k) (j := v15.toInt.toNat) h2 (by unfold fN; omega) (q9.trans hfk.symm); omega), eig38, up2_a (by omega)]; exact g60_4 k (by omega) h2) (fun a h1 h2 => by rw [show lg44 (B + 19) = lg19 (B + 19) from funext fun j => ohvhp46.l 19 j]; exact g60_5 a h1 h2) (by have q9 := phvhp46.1; rw [eig40, up2_a (by omega), eig38, up2_a (by omega)] at q9; omega) (hO) (by omega) (by omega)
        exact L60 ((288 - z14.toInt) + 1).toNat ls H locs kd8 ig9 rg10 lg11 z14 (lv_sub hl [0, 1] rfl) hw hI hN (by omega) (by omega) ((LkS.ag hR (by rw [hO1.i 15 _]) (fun p => hO1.i 21 p) (fun p => hO1.i 22 p)).eqX (fun p => ⟨fun w9 => w9.1.elim fun i q9 => by have := q9.1; omega, False.elim⟩)) ((fun p hp => Or.inr ⟨by rw [hO1.i 20 _]; exact hz p hp, fun w9 => w9.1.elim fun i q9 => by have := q9.1; omega⟩)) (fun k h1 h2 => hO1.i 21 _) (g20_2.all hF (by unfold fN; omega) hR) (by rw [hO1.i 15 _]; exact Int.le_refl _) (hO) (by omega) (by omega) (by omega)
      · refine lv_aload_n hx hb dX5_findRings_28 rfl (lv_at hl 1 rfl) ?_
        refine r_get C hw (hsh 15 _ rfl) fl_X5_33 (oV_r rfl (hrs (15, 7, 21) (by decide))) dX5_findRings_29 ?_
        refine lv_aload_n hx hb dX5_findRings_32 rfl (lv_at hl 1 rfl) ?_
        refine r_get C hw (hsh 15 _ rfl) fl_X5_15 (oV_r rfl (hrs (15, 1, 16) (by decide))) dX5_findRings_33 ?_
        refine lv_iload_n hx hb dX5_findRings_36 rfl (lv_at hl 0 rfl) ?_
        refine r_iald C hw (hsh 16 _ rfl) (by omega) (by omega) dX5_findRings_37 (ti_c (ig9 (B + 16) v7.toInt.toNat).toInt rfl fun z47 hz47 => ?_)
        have k48 : 0 ≤ (ig9 (B + 16) (v7.toInt.toNat)).toInt ∧ (ig9 (B + 16) (v7.toInt.toNat)).toInt ≤ 287 := hI.i 16 (v7.toInt.toNat) (by decide)
        have hfk : fL B ig v7.toInt.toNat = z47.toInt.toNat := by unfold fL; rw [← hO1.i 16 _, ← hz47]
        refine r_iald C hw (hsh 21 _ rfl) (by omega) (by omega) dX5_findRings_38 (ti_c (ig9 (B + 21) z47.toInt.toNat).toInt rfl fun z49 hz49 => ?_)
        have hw9 : wT B ig (fL B ig v7.toInt.toNat) = z49.toInt := by unfold wT; rw [hfk, hz49, hO1.i 21 _]
        have J52 : ∀ (ls : Array Slot) (H : Heap) (locs : List Loc) (kd50 : sK) (ig51 : sI) (rg52 : sR) (lg53 : sG) , lv_has ls 3 [(1, .int v7), (0, .ref (B + 15))] → WD B D cA s.heap kd50 ig51 rg52 lg53 H locs → IC τ B kd50 ig51 rg52 → Nx 1014 B none kd ig rg lg kd50 ig51 rg52 lg53 → (RcH B σ ig ig lg53 (v7.toInt.toNat + 1)) → (Fo B [19] ig lg ig51 lg53) → (Fo B [15, 19, 20, 21, 22] ig lg ig51 lg53) → ((ig51 (B + 15) 2).toInt = (ig (B + 15) 2).toInt) → ((ig51 (B + 15) 11).toInt = (ig (B + 15) 11).toInt) → W p l e (rL 3 0 0) s m args below meth c H locs 0 0 (MQ below (QcW B D cA (PI 1014 τ B none kd ig rg lg (fun r kd' ig' rg' lg' => (r = none ∧ ((LkS B σ (Rg σ) (fun _ q => inO (oD B ig') (oN B ig) q) ig' ∧ RgA B (Rg σ) ig' ∧ (ig (B + 15) 9).toInt ≤ (ig' (B + 15) 9).toInt) ∧ Fo B [15, 19, 20, 21, 22] ig lg ig' lg' ∧ (ig' (B + 15) 2).toInt = (ig (B + 15) 2).toInt ∧ (ig' (B + 15) 11).toInt = (ig (B + 15) 11).toInt))))) args s 0 0 (fun q => B ≤ q)) (F0 m 52 ls []) := by
          intro ls H locs kd50 ig51 rg52 lg53 hl hw hI hN g52_0 g52_1 g52_2 g52_3 g52_4
          have hsh := hI.sh
          have hrs := hI.rs
          have hO := g52_2
          refine tc_inc hx hb dX5_findRings_52 hl (k := 0) rfl (by decide) (by decide) (fun z54 hz54 ls hl => ?_)
          first | replace hz54 := hz54 (by omega) | clear hz54
          have hl : lv_has ls 3 [(1, .int z54), (0, .ref (B + 15))] := hl
          refine lv_goto (tgt := 20) hx hb dX5_findRings_55 (by decide) ?_
          exact ih20 ls H locs kd50 ig51 rg52 lg53 z54 (lv_sub hl [0, 1] rfl) hw hI hN (by omega) (by omega) (by rw [show z54.toInt.toNat = v7.toInt.toNat + 1 by omega]; exact g52_0) (g52_1) (hO) (by omega) (by omega) (by omega)
        refine z_le (tgt := 52) hx hb dX5_findRings_39 (by decide) (fun c39 => ?_) (fun c39 => ?_)
        · exact J52 ls H locs kd8 ig9 rg10 lg11 (lv_sub hl [0, 1] rfl) hw hI hN (g20_2.free (by rw [hw9]; omega)) (hO1) (hO) (by omega) (by omega)
        · refine lv_aload_n hx hb dX5_findRings_42 rfl (lv_at hl 1 rfl) ?_
          refine lv_aload_n hx hb dX5_findRings_43 rfl (lv_at hl 1 rfl) ?_
          refine r_get C hw (hsh 15 _ rfl) fl_X5_15 (oV_r rfl (hrs (15, 1, 16) (by decide))) dX5_findRings_44 ?_
          refine lv_iload_n hx hb dX5_findRings_47 rfl (lv_at hl 0 rfl) ?_
          refine r_iald C hw (hsh 16 _ rfl) (by omega) (by omega) dX5_findRings_48 (ti_c (ig9 (B + 16) v7.toInt.toNat).toInt rfl fun z55 hz55 => ?_)
          have k56 : 0 ≤ (ig9 (B + 16) (v7.toInt.toNat)).toInt ∧ (ig9 (B + 16) (v7.toInt.toNat)).toInt ≤ 287 := hI.i 16 (v7.toInt.toNat) (by decide)
          have hfk2 : fL B ig v7.toInt.toNat = z55.toInt.toNat := by unfold fL; rw [← hO1.i 16 _, ← hz55]
          refine r_callV (As := [.int z55]) (rest := []) C hw (t_X5_reachThroughE l B D cA kd8 ig9 rg10 lg11 _ z55 σ (hF.ag (by omega) (fun i => hO.i 16 i) (fun j => hO.l 18 j)) (by omega) hI) sv_X5_120 (hsh 15 _ rfl) rfl hl.1 rfl (Nat.le_of_ble_eq_true rfl) ⟨Nat.le_of_ble_eq_true rfl, Nat.le_of_ble_eq_true rfl⟩ ⟨Nat.le_of_ble_eq_true rfl, Nat.le_of_ble_eq_true rfl⟩ dX5_findRings_49 (fun r61 kd57 ig58 rg59 lg60 H locs hw hH hp62 => ?_)
          obtain ⟨hI, hchp62, hrhp62⟩ := hp62
          have hN := hN.tr hchp62
          have hsh := hI.sh
          have hrs := hI.rs
          obtain ⟨rfl, hvhp62⟩ := hrhp62
          obtain ⟨phvhp62, ohvhp62⟩ := hvhp62
          have hO := hO.tr ohvhp62
          have kwhvhp62_15_9 : (ig58 (B + 15) 9).toInt = (ig9 (B + 15) 9).toInt := by rw [ohvhp62.i 15 9]
          have kwhvhp62_15_2 : (ig58 (B + 15) 2).toInt = (ig9 (B + 15) 2).toInt := by rw [ohvhp62.i 15 2]
          have kwhvhp62_15_11 : (ig58 (B + 15) 11).toInt = (ig9 (B + 15) 11).toInt := by rw [ohvhp62.i 15 11]
          have th9 : Thr B σ (fL B ig v7.toInt.toNat) (fo σ) ig lg11 lg60 := by rw [hfk2]; exact Thr.igw phvhp62 (fun p => hO1.i 21 p)
          have hO1 := hO1.tr ohvhp62
          exact J52 ls H locs kd57 ig58 rg59 lg60 (lv_sub hl [0, 1] rfl) hw hI hN (g20_2.turn (hF.1 _ (by unfold fN; omega)) (by rw [hw9]; omega) th9) (hO1) (hO) (by omega) (by omega)
  exact L20 ((288 - z6.toInt) + 1).toNat ls H locs kd ig rg lg4 z6 (lv_sub hl [0, 1] rfl) hw hI hN (by omega) (by omega) (by rw [show z6.toInt.toNat = 0 by omega]; exact RcH.zero2 hF hc9) (Fo.rf.ol (a := 19) (by decide) (fun b i hb => q2 b i hb)) (hO) (by omega) (by omega) (by omega)
