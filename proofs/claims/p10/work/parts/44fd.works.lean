/-! the reference's totals and ways -/
def TRm (B : Nat) (σ : Sg) (ig : sI) : Prop := (∀ p, p < 288 → ((ig (B + 70) p).toInt = 1 ∧ isTot σ p) ∨ ((ig (B + 70) p).toInt = 0 ∧ ¬ isTot σ p)) ∧ WR σ (wyV B ig)
section TRM
variable {B p q : Nat} {σ : Sg} {ig ig' : sI} {lg lg' : sG} {T : List Nat}
theorem TRm.ft (h : TRm B σ ig) (hF : Ft B T ig lg ig' lg') (hT : ∀ q ∈ T, 70 ≠ q ∧ 72 ≠ q := by decide) : TRm B σ ig' := by
  have e0 : ∀ j, ig' (B + 70) j = ig (B + 70) j := fun j => hF.i 70 j (fun q hq => (hT q hq).1)
  have e2 : ∀ j, ig' (B + 72) j = ig (B + 72) j := fun j => hF.i 72 j (fun q hq => (hT q hq).2)
  have w : wyV B ig' = wyV B ig := funext fun p => funext fun r => by unfold wyV; rw [e2]
  exact ⟨fun p hp => by rw [e0]; exact h.1 p hp, by rw [w]; exact h.2⟩
theorem rd_L (hp : p < 288) (hk : kdO (σ p) = 2) (hq : (q : Int) ∈ rdL (fmO (σ p)) (p : Int)) : Rd σ p q := ⟨hp, hk, rdL_mem.mp hq⟩
theorem VDM.all (h : VDM B σ ig lg) (hs : SwN B σ ig 288) : ∀ a, a < 288 → (ig (B + 73) a).toInt ≠ 0 := fun a ha h0 => by
  obtain ⟨_, h1, h2⟩ := h
  obtain ⟨p, hp, t⟩ := ring_ex (R := Rd σ) (S := fun x => x < 288 ∧ (ig (B + 73) x).toInt = 0) (n := 288) (fun a ha => by
    refine ⟨ha.1, ?_⟩
    rcases hs a ha.1 with w | ⟨q, q1, q2, q3⟩
    · exact absurd ha.2 w
    · exact ⟨q, ⟨q1, q3⟩, q2⟩) ⟨ha, h0⟩
  exact (h1 p hp.1 hp.2).2 t
theorem InM.vt (h : InM B σ 288 ig lg) (z : ∀ p, p < 288 → (ig (B + 70) p).toInt = 0) : VTM B σ ig := by
  refine fun p hp hd => ?_
  have nt : ¬ isTot σ p := fun q => hd ((h.2 p hp).1.mpr ⟨q.2.1, q.2.2.2⟩)
  exact ⟨Or.inr ⟨z p hp, nt⟩, fun q => absurd q nt⟩
end TRM
/-! all that the reference has worked out -/
def URm (B : Nat) (σ : Sg) (ig : sI) : Prop := UOk σ (uM B ig) (clM B ig)
section FXM
variable {B : Nat} {σ : Sg} {ig ig' : sI} {lg lg' : sG} {T : List Nat} {v : Int32} {cc j : Nat}
theorem URm.ft (h : URm B σ ig) (hF : Ft B T ig lg ig' lg') (hT : ∀ q ∈ T, 68 ≠ q ∧ 69 ≠ q := by decide) : URm B σ ig' := by
  obtain ⟨e1, e2⟩ := rows_m (B := B) (ig := ig) (ig' := ig') (fun k => hF.i 68 k (fun q hq => (hT q hq).1)) (fun k => hF.i 69 k (fun q hq => (hT q hq).2))
  unfold URm
  rw [e1, e2]
  exact h
theorem URm.wr (h : URm B σ ig) (hc : cc ≠ 68 ∧ cc ≠ 69) : URm B σ (up2 ig (B + cc) j v) := by
  obtain ⟨e1, e2⟩ := rows_m (B := B) (ig := ig) (ig' := up2 ig (B + cc) j v) (fun k => up2_a (by omega)) (fun k => up2_a (by omega))
  unfold URm
  rw [e1, e2]
  exact h
theorem TRm.wr (h : TRm B σ ig) (hc : cc ≠ 70 ∧ cc ≠ 72) : TRm B σ (up2 ig (B + cc) j v) := by
  have w : wyV B (up2 ig (B + cc) j v) = wyV B ig := funext fun p => funext fun r => by unfold wyV; rw [up2_a (by omega)]
  exact ⟨fun p hp => by rw [up2_a (by omega)]; exact h.1 p hp, by rw [w]; exact h.2⟩
def FXm (B : Nat) (σ : Sg) (ig : sI) (lg : sG) : Prop := FVm B σ ig ∧ TRm B σ ig ∧ URm B σ ig ∧ RdP B σ 288 lg
theorem FXm.ft (h : FXm B σ ig lg) (hF : Ft B T ig lg ig' lg') (hT : ∀ q ∈ T, (71 ≠ q ∧ 66 ≠ q ∧ 67 ≠ q) ∧ (70 ≠ q ∧ 72 ≠ q) ∧ (68 ≠ q ∧ 69 ≠ q) ∧ 64 ≠ q) : FXm B σ ig' lg' := ⟨h.1.ft hF (fun q hq => (hT q hq).1), h.2.1.ft hF (fun q hq => (hT q hq).2.1), h.2.2.1.ft hF (fun q hq => (hT q hq).2.2.1), h.2.2.2.ag (fun k => hF.l 64 k (fun q hq => (hT q hq).2.2.2))⟩
theorem FXm.wr (h : FXm B σ ig lg) (hc : (cc ≠ 71 ∧ cc ≠ 66 ∧ cc ≠ 67) ∧ (cc ≠ 70 ∧ cc ≠ 72) ∧ cc ≠ 68 ∧ cc ≠ 69) : FXm B σ (up2 ig (B + cc) j v) lg := ⟨h.1.wr hc.1, h.2.1.wr hc.2.1, h.2.2.1.wr hc.2.2, h.2.2.2⟩
theorem FXm.far (h : FXm B σ ig lg) : FaR σ (famZ B ig) := h.1.far
theorem FXm.ge (h : FXm B σ ig lg) {x : Int} (hx : 0 ≤ x ∧ x < 288) : -1 ≤ famZ B ig x.toNat ∧ (kdO (atC σ x) = 2 → 0 ≤ famZ B ig x.toNat) ∧ (kdO (atC σ x) ≠ 2 → famZ B ig x.toNat = -1) := h.1.ge hx
end FXM
set_option maxHeartbeats 4000000 in
set_option maxRecDepth 100000 in
theorem t_X12_worksX {υ : Option Int} {τ : Tp} {φ : Option Int} (l : Launch) (B : Nat) (D : va_G) (cA : Nat → ClassId) (kd : sK) (ig : sI) (rg : sR) (lg : sG) (sz : Nat) (σ : Sg) (hM : ∀ p, p < 288 → RowM B ig p (p : Int) (σ p)) (hf : ∀ p, p < 288 → kdO (σ p) = 2 → fitL (p : Int) (fmO (σ p))) (hw0 : ∀ p, p < 288 → kdO (σ p) ≠ 1 → (σ p).1.2 = 0) (π : Ps) (hW : WS σ π) (hI : IM τ φ υ B kd ig rg) : MC l B D cA yX12_works cX12_works 3 none (rL 31 0 0) [.ref (B + 49)] kd ig rg lg sz (PM τ φ υ B [49, 64, 65, 66, 67, 68, 69, 70, 71, 72, 73, 74] kd ig rg lg (fun r ig' lg' => (r = none ∧ (FVm B σ ig' ∧ TRm B σ ig' ∧ URm B σ ig' ∧ RdP B σ 288 lg')))) := by
  refine MC.of (own := RX12) (by decide +kernel) rfl (Nat.le_of_ble_eq_true rfl) ?_
  intro p e s m args below meth c ls C hr hlk hnm hw hsz hl
  have hx := C.1.1
  have hb := C.1.2.1
  have hown := C.1.2.2.2.1
  have hts := C.1.2.2.2.2
  have hl : lv_has ls 3 [(0, .ref (B + 49))] := hl
  have hF : Ft B [49, 64, 65, 66, 67, 68, 69, 70, 71, 72, 73, 74] ig lg ig lg := Ft.rf
  have hsh := hI.sh
  have hrm := hI.rm
  refine lv_aload_n hx hb dX12_works_0 rfl (lv_at hl 0 rfl) ?_
  refine r_callV (As := []) (rest := []) C hw (t_X12_findReadsE l B D cA kd ig rg lg _  σ hM hf hI) sv_X12_226 (hsh 49 _ rfl) rfl hl.1 rfl (Nat.le_of_ble_eq_true rfl) ⟨Nat.le_of_ble_eq_true rfl, Nat.le_of_ble_eq_true rfl⟩ ⟨Nat.le_of_ble_eq_true rfl, Nat.le_of_ble_eq_true rfl⟩ dX12_works_1 (fun r5 kd1 ig2 rg3 lg4 H locs hw hH hp6 => ?_)
  obtain ⟨rfl, rfl, hI, hchp6, hrhp6⟩ := hp6
  have hF : Ft B [49, 64, 65, 66, 67, 68, 69, 70, 71, 72, 73, 74] ig lg ig2 lg4 := Ft.tr hF hchp6 (by decide) (by decide)
  obtain ⟨rfl, hvhp6⟩ := hrhp6
  have rr9 := hvhp6
  have fr9 := hchp6
  refine lv_iconst (v := 0) hx hb dX12_works_4 (by decide) (ti_c 0 (by decide) fun z7 hz7 => ?_)
  refine lv_istore_n (lv' := [(1, .int z7), (0, .ref (B + 49))]) hx hb dX12_works_5 rfl hl (by decide) rfl (fun ls hl => ?_)
  have L6 : ∀ (n : Nat) (ls : Array Slot) (H : Heap) (locs : List Loc) (ig9 : sI) (lg10 : sG) (v8 : Int32), lv_has ls 3 [(1, .int v8), (0, .ref (B + 49))] → WD B D cA s.heap kd ig9 rg lg10 H locs → IM τ φ υ B kd ig9 rg → Ft B [49, 64, 65, 66, 67, 68, 69, 70, 71, 72, 73, 74] ig lg ig9 lg10 → (0 ≤ v8.toInt) → (v8.toInt ≤ 288) → (InM B σ v8.toInt.toNat ig9 lg10) → ((∀ p, p < v8.toInt.toNat → (ig9 (B + 70) p).toInt = 0)) → (InN B σ v8.toInt.toNat ig9) → 288 - v8.toInt < (n : Int) → W p l e (rL 31 0 0) s m args below meth c H locs 0 0 (MQ below (QcW B D cA (PM τ φ υ B [49, 64, 65, 66, 67, 68, 69, 70, 71, 72, 73, 74] kd ig rg lg (fun r ig' lg' => (r = none ∧ (FVm B σ ig' ∧ TRm B σ ig' ∧ URm B σ ig' ∧ RdP B σ 288 lg'))))) args s 0 0 (fun q => B ≤ q)) (F0 m 6 ls []) := by
    intro n6
    induction n6 with
    | zero => intro ls H locs ig9 lg10 v8 hl hw hI hF g6_0 g6_1 g6_2 g6_3 g6_4 hmu; exact absurd hmu (by omega)
    | succ n6 ih6 =>
      intro ls H locs ig9 lg10 v8 hl hw hI hF g6_0 g6_1 g6_2 g6_3 g6_4 hmu
      have inm := g6_2
      have z9 := g6_3
      have in9 := g6_4
      refine lv_iload_n hx hb dX12_works_6 rfl (lv_at hl 0 rfl) ?_
      refine lv_sipush (v := 288) hx hb dX12_works_7 (by decide) (ti_c 288 (by decide) fun z11 hz11 => ?_)
      refine b_ge (tgt := 164) hx hb dX12_works_10 (by decide) (fun c10 => ?_) (fun c10 => ?_)
      · refine lv_iconst (v := 1) hx hb dX12_works_164 (by decide) (ti_c 1 (by decide) fun z12 hz12 => ?_)
        refine lv_istore_n (lv' := [(1, .int z12), (0, .ref (B + 49))]) hx hb dX12_works_165 rfl hl (by decide) rfl (fun ls hl => ?_)
        have L166 : ∀ (n : Nat) (ls : Array Slot) (H : Heap) (locs : List Loc) (ig14 : sI) (lg15 : sG) (v13 : Int32), lv_has ls 3 [(1, .int v13), (0, .ref (B + 49))] → WD B D cA s.heap kd ig14 rg lg15 H locs → IM τ φ υ B kd ig14 rg → Ft B [49, 64, 65, 66, 67, 68, 69, 70, 71, 72, 73, 74] ig lg ig14 lg15 → (v13.toInt = 0 ∨ v13.toInt = 1) → (VDM B σ ig14 lg15) → (v13.toInt = 0 → SwN B σ ig14 288) → (VTM B σ ig14) → (VUM B σ ig14) → 2 * (ucnt (ig14 (B + 73)) 288 : Int) + v13.toInt < (n : Int) → W p l e (rL 31 0 0) s m args below meth c H locs 0 0 (MQ below (QcW B D cA (PM τ φ υ B [49, 64, 65, 66, 67, 68, 69, 70, 71, 72, 73, 74] kd ig rg lg (fun r ig' lg' => (r = none ∧ (FVm B σ ig' ∧ TRm B σ ig' ∧ URm B σ ig' ∧ RdP B σ 288 lg'))))) args s 0 0 (fun q => B ≤ q)) (F0 m 166 ls []) := by
          intro n166
          induction n166 with
          | zero => intro ls H locs ig14 lg15 v13 hl hw hI hF g166_0 g166_1 g166_2 g166_3 g166_4 hmu; exact absurd hmu (by omega)
          | succ n166 ih166 =>
            intro ls H locs ig14 lg15 v13 hl hw hI hF g166_0 g166_1 g166_2 g166_3 g166_4 hmu
            have vda := g166_1
            obtain ⟨igo, eigo⟩ : ∃ f, f = ig14 := ⟨_, rfl⟩
            have ecn : ucnt (igo (B + 73)) 288 = ucnt (ig14 (B + 73)) 288 := by rw [eigo]
            have vta := g166_3
            have vua := g166_4
            refine lv_iload_n hx hb dX12_works_166 rfl (lv_at hl 0 rfl) ?_
            refine z_eq (tgt := 221) hx hb dX12_works_167 (by decide) (fun c167 => ?_) (fun c167 => ?_)
            · have vok := VDM.ok g166_1 (g166_2 (by omega))
              have vtf : TRm B σ ig14 := VTM.fin g166_3 (VDM.all g166_1 (g166_2 (by omega)))
              have uok : URm B σ ig14 := VUM.fin g166_4 (VDM.all g166_1 (g166_2 (by omega)))
              have rdp := g166_1.1.1
              refine lv_aload_n hx hb dX12_works_221 rfl (lv_at hl 1 rfl) ?_
              refine r_callV (As := []) (rest := []) C hw (t_X12_findFamiliesE l B D cA kd ig14 rg lg15 _  σ (fun p hp => (hM p hp).ft hF (by decide)) hI) sv_X12_238 (hsh 49 _ rfl) rfl hl.1 rfl (Nat.le_of_ble_eq_true rfl) ⟨Nat.le_of_ble_eq_true rfl, Nat.le_of_ble_eq_true rfl⟩ ⟨Nat.le_of_ble_eq_true rfl, Nat.le_of_ble_eq_true rfl⟩ dX12_works_222 (fun r20 kd16 ig17 rg18 lg19 H locs hw hH hp21 => ?_)
              obtain ⟨rfl, rfl, hI, hchp21, hrhp21⟩ := hp21
              have hF : Ft B [49, 64, 65, 66, 67, 68, 69, 70, 71, 72, 73, 74] ig lg ig17 lg19 := Ft.tr hF hchp21 (by decide) (by decide)
              obtain ⟨rfl, hvhp21⟩ := hrhp21
              have vok := vok.ft hchp21
              have fam9 := hvhp21
              have vtf := vtf.ft hchp21
              have uok := uok.ft hchp21
              have rdp := rdp.ag (fun k9 => hchp21.l 64 k9 (by decide))
              exact r_vret C hw hr hlk (Nat.le_of_ble_eq_true rfl) (Nat.le_of_ble_eq_true rfl) dX12_works_225 ⟨rfl, rfl, hI, hF, ⟨rfl, ⟨⟨fam9, vok⟩, vtf, uok, rdp⟩⟩⟩
            · refine lv_iconst (v := 0) hx hb dX12_works_170 (by decide) (ti_c 0 (by decide) fun z22 hz22 => ?_)
              refine lv_istore_n (lv' := [(1, .int z22), (0, .ref (B + 49))]) hx hb dX12_works_171 rfl hl (by decide) rfl (fun ls hl => ?_)
              refine lv_iconst (v := 0) hx hb dX12_works_172 (by decide) (ti_c 0 (by decide) fun z23 hz23 => ?_)
              refine lv_istore_n (lv' := [(2, .int z23), (1, .int z22), (0, .ref (B + 49))]) hx hb dX12_works_173 rfl hl (by decide) rfl (fun ls hl => ?_)
              have L174 : ∀ (n : Nat) (ls : Array Slot) (H : Heap) (locs : List Loc) (ig26 : sI) (lg27 : sG) (v24 : Int32) (v25 : Int32), lv_has ls 3 [(2, .int v24), (1, .int v25), (0, .ref (B + 49))] → WD B D cA s.heap kd ig26 rg lg27 H locs → IM τ φ υ B kd ig26 rg → Ft B [49, 64, 65, 66, 67, 68, 69, 70, 71, 72, 73, 74] ig lg ig26 lg27 → (0 ≤ v24.toInt) → (v24.toInt ≤ 288) → (v25.toInt = 0 ∨ v25.toInt = 1) → (VDM B σ ig26 lg27) → ((ucnt (ig26 (B + 73)) 288 : Int) + v25.toInt ≤ (ucnt (igo (B + 73)) 288 : Int)) → (v25.toInt = 0 → SwN B σ ig26 v24.toInt.toNat) → (VTM B σ ig26) → (VUM B σ ig26) → 288 - v24.toInt < (n : Int) → W p l e (rL 31 0 0) s m args below meth c H locs 0 0 (MQ below (QcW B D cA (PM τ φ υ B [49, 64, 65, 66, 67, 68, 69, 70, 71, 72, 73, 74] kd ig rg lg (fun r ig' lg' => (r = none ∧ (FVm B σ ig' ∧ TRm B σ ig' ∧ URm B σ ig' ∧ RdP B σ 288 lg'))))) args s 0 0 (fun q => B ≤ q)) (F0 m 174 ls []) := by
                intro n174
                induction n174 with
                | zero => intro ls H locs ig26 lg27 v24 v25 hl hw hI hF g174_0 g174_1 g174_2 g174_3 g174_4 g174_5 g174_6 g174_7 hmu; exact absurd hmu (by omega)
                | succ n174 ih174 =>
                  intro ls H locs ig26 lg27 v24 v25 hl hw hI hF g174_0 g174_1 g174_2 g174_3 g174_4 g174_5 g174_6 g174_7 hmu
                  have vda := g174_3
                  have vta := g174_6
                  have vua := g174_7
                  refine lv_iload_n hx hb dX12_works_174 rfl (lv_at hl 0 rfl) ?_
                  refine lv_sipush (v := 288) hx hb dX12_works_175 (by decide) (ti_c 288 (by decide) fun z28 hz28 => ?_)
                  refine b_ge (tgt := 218) hx hb dX12_works_178 (by decide) (fun c178 => ?_) (fun c178 => ?_)
                  · refine lv_goto (tgt := 166) hx hb dX12_works_218 (by decide) ?_
                    exact ih166 ls H locs ig26 lg27 v25 (lv_sub hl [1, 2] rfl) hw hI hF (by omega) (g174_3) (fun q9 => by have q8 := g174_5 q9; rw [show v24.toInt.toNat = 288 by omega] at q8; exact q8) (g174_6) (g174_7) (by omega)
                  · refine lv_aload_n hx hb dX12_works_181 rfl (lv_at hl 2 rfl) ?_
                    refine r_get C hw (hsh 49 _ rfl) fl_X12_124 (oV_r rfl (hrm (49, 30, 73) (by decide))) dX12_works_182 ?_
                    refine lv_iload_n hx hb dX12_works_185 rfl (lv_at hl 0 rfl) ?_
                    refine r_zald C hw (hsh 73 _ rfl) (by omega) (by omega) dX12_works_186 (ti_c (ig26 (B + 73) v24.toInt.toNat).toInt rfl fun z29 hz29 => ?_)
                    refine z_ne (tgt := 212) hx hb dX12_works_187 (by decide) (fun c187 => ?_) (fun c187 => ?_)
                    · refine tc_inc hx hb dX12_works_212 hl (k := 0) rfl (by decide) (by decide) (fun z31 hz31 ls hl => ?_)
                      first | replace hz31 := hz31 (by omega) | clear hz31
                      have hl : lv_has ls 3 [(2, .int z31), (1, .int v25), (0, .ref (B + 49))] := hl
                      refine lv_goto (tgt := 174) hx hb dX12_works_215 (by decide) ?_
                      exact ih174 ls H locs ig26 lg27 z31 v25 (lv_sub hl [0, 1, 2] rfl) hw hI hF (by omega) (by omega) (by omega) (vda) (by omega) (fun q9 => by rw [show z31.toInt.toNat = v24.toInt.toNat + 1 by omega]; exact (g174_5 q9).s (Or.inl (by omega))) (vta) (vua) (by omega)
                    · refine lv_aload_n hx hb dX12_works_190 rfl (lv_at hl 2 rfl) ?_
                      refine lv_iload_n hx hb dX12_works_191 rfl (lv_at hl 0 rfl) ?_
                      refine r_callV (As := [.int v24]) (rest := []) C hw (t_X12_isReadyE l B D cA kd ig26 rg lg27 _ v24 (by omega) σ vda.1.1 hI) sv_X12_232 (hsh 49 _ rfl) rfl hl.1 rfl (Nat.le_of_ble_eq_true rfl) ⟨Nat.le_of_ble_eq_true rfl, Nat.le_of_ble_eq_true rfl⟩ ⟨Nat.le_of_ble_eq_true rfl, Nat.le_of_ble_eq_true rfl⟩ dX12_works_192 (fun r36 kd32 ig33 rg34 lg35 H locs hw hH hp37 => ?_)
                      obtain ⟨rfl, rfl, rfl, rfl, hzhp37, hrhp37⟩ := hp37
                      obtain ⟨z38, rfl, hz38⟩ := hrhp37
                      have ry9 := hz38
                      refine z_eq (tgt := 212) hx hb dX12_works_195 (by decide) (fun c195 => ?_) (fun c195 => ?_)
                      · refine tc_inc hx hb dX12_works_212 hl (k := 0) rfl (by decide) (by decide) (fun z39 hz39 ls hl => ?_)
                        first | replace hz39 := hz39 (by omega) | clear hz39
                        have hl : lv_has ls 3 [(2, .int z39), (1, .int v25), (0, .ref (B + 49))] := hl
                        refine lv_goto (tgt := 174) hx hb dX12_works_215 (by decide) ?_
                        exact ih174 ls H locs ig26 lg27 z39 v25 (lv_sub hl [0, 1, 2] rfl) hw hI hF (by omega) (by omega) (by omega) (vda) (by omega) (fun q9 => by rw [show z39.toInt.toNat = v24.toInt.toNat + 1 by omega]; exact (g174_5 q9).s (Or.inr (by rcases ry9 with ⟨q8, -⟩ | ⟨-, q8⟩; (exact absurd q8 (by omega)); exact q8))) (vta) (vua) (by omega)
                      · have ra9 : RyA B σ ig26 v24.toInt.toNat 288 := (by rcases ry9 with ⟨-, q8⟩ | ⟨q8, -⟩; exact q8; exact absurd q8 (by omega))
                        have hkw := vda.2.1 v24.toInt.toNat (by omega) (by omega)
                        refine lv_aload_n hx hb dX12_works_198 rfl (lv_at hl 2 rfl) ?_
                        refine lv_iload_n hx hb dX12_works_199 rfl (lv_at hl 0 rfl) ?_
                        refine r_callV (As := [.int v24]) (rest := []) C hw (t_X12_workX l B D cA kd ig26 rg lg27 _ v24 (by omega) (by rw [Ft.i hF 59 _ (by decide)]; exact (hM _ (by omega)).1.1.trans hkw.1) σ ((hM _ (by omega)).ft hF (by decide)) hkw.1 (hf _ (by omega) hkw.1) vda.1.2 (fun q9 hq9 e9 => hkw.2 (by have r9 := rd_L (by omega) hkw.1 hq9; rw [e9] at r9; exact .single r9)) (fun q9 hq9 => (vta q9 ((rd_L (by omega) hkw.1 hq9).ltf hf) (ra9 q9 ((rd_L (by omega) hkw.1 hq9).ltf hf) (rd_L (by omega) hkw.1 hq9))).1) (fun q9 hq9 => by rw [Ft.i hF 59 _ (by decide)]; exact (hM q9 hq9).1.1) (fun q9 hq9 t9 r hr => ((vta q9 ((rd_L (by omega) hkw.1 hq9).ltf hf) (ra9 q9 ((rd_L (by omega) hkw.1 hq9).ltf hf) (rd_L (by omega) hkw.1 hq9))).2 t9 r hr).2) (fun q9 hq9 k9 => VUM.z vua vda hW hq9 k9) hI) sv_X12_235 (hsh 49 _ rfl) rfl hl.1 rfl (Nat.le_of_ble_eq_true rfl) ⟨Nat.le_of_ble_eq_true rfl, Nat.le_of_ble_eq_true rfl⟩ ⟨Nat.le_of_ble_eq_true rfl, Nat.le_of_ble_eq_true rfl⟩ dX12_works_200 (fun r44 kd40 ig41 rg42 lg43 H locs hw hH hp45 => ?_)
                        obtain ⟨rfl, rfl, hI, hchp45, hrhp45⟩ := hp45
                        have hF : Ft B [49, 64, 65, 66, 67, 68, 69, 70, 71, 72, 73, 74] ig lg ig41 lg43 := Ft.tr hF hchp45 (by decide) (by decide)
                        obtain ⟨rfl, hvhp45⟩ := hrhp45
                        have e73 : ∀ k, ig41 (B + 73) k = ig26 (B + 73) k := fun k => hchp45.i 73 k (by decide)
                        have u73 := ucnt_same 288 (fun k _ => e73 k)
                        have z73 := e73 v24.toInt.toNat
                        have zz73 : (ig41 (B + 73) v24.toInt.toNat).toInt = 0 := by rw [z73]; omega
                        have vda : VDM B σ ig26 lg43 := vda.l (ig' := ig26) (lg' := lg43) (T := []) (Or.inr (fun k => hchp45.l 64 k (by decide))) (by decide)
                        have wkw := hvhp45.1
                        have wk9 := wkw.1
                        have wkn := hvhp45.2
                        refine lv_aload_n hx hb dX12_works_203 rfl (lv_at hl 2 rfl) ?_
                        refine r_get C hw (hsh 49 _ rfl) fl_X12_124 (oV_r rfl (hrm (49, 30, 73) (by decide))) dX12_works_204 ?_
                        refine lv_iload_n hx hb dX12_works_207 rfl (lv_at hl 0 rfl) ?_
                        refine lv_iconst (v := 1) hx hb dX12_works_208 (by decide) (ti_c 1 (by decide) fun z46 hz46 => ?_)
                        refine r_zast C hw (hsh 73 _ rfl) (by omega) (by omega) (nar_b (by omega)) dX12_works_209 (fun H locs hH hw => ?_)
                        obtain ⟨ig47, eig47⟩ : ∃ f, f = up2 ig41 (B + 73) v24.toInt.toNat z46 := ⟨_, rfl⟩
                        rw [← eig47] at hw
                        have hF : Ft B [49, 64, 65, 66, 67, 68, 69, 70, 71, 72, 73, 74] ig lg ig47 lg43 := by rw [eig47]; exact hF.pi (by decide)
                        have hI : IM τ φ υ B kd ig47 rg := by rw [eig47]; exact hI.pi (by decide) (show okR none _ from trivial)
                        have vun : VUM B σ ig47 := by rw [eig47]; exact VUM.step vua vda hW (by omega) (by rw [← z73]; exact zz73) ra9 wkn e73
                        have vtn : VTM B σ ig47 := by rw [eig47]; exact VTM.step vta vda hW (by omega) (by rw [← z73]; exact zz73) ra9 wkw e73
                        have ucn := ucnt_set (f := ig41 (B + 73)) (g := ig47 (B + 73)) (p := v24.toInt.toNat) (by omega) (by rw [eig47, up2_eq]; omega) (fun k hk => by rw [eig47, up2_j hk]) 288 (by omega)
                        have vda : VDM B σ ig47 lg43 := by rw [eig47]; exact VDM.step vda hf (by omega) (by rw [← z73]; exact zz73) ra9 wk9 e73 (by omega)
                        have vta := vtn
                        have vua := vun
                        refine lv_iconst (v := 1) hx hb dX12_works_210 (by decide) (ti_c 1 (by decide) fun z48 hz48 => ?_)
                        refine lv_istore_n (lv' := [(1, .int z48), (2, .int v24), (0, .ref (B + 49))]) hx hb dX12_works_211 rfl hl (by decide) rfl (fun ls hl => ?_)
                        refine tc_inc hx hb dX12_works_212 hl (k := 1) rfl (by decide) (by decide) (fun z49 hz49 ls hl => ?_)
                        first | replace hz49 := hz49 (by omega) | clear hz49
                        have hl : lv_has ls 3 [(2, .int z49), (1, .int z48), (0, .ref (B + 49))] := hl
                        refine lv_goto (tgt := 174) hx hb dX12_works_215 (by decide) ?_
                        exact ih174 ls H locs ig47 lg43 z49 z48 (lv_sub hl [0, 1, 2] rfl) hw hI hF (by omega) (by omega) (by omega) (vda) (by omega) (fun q9 => absurd q9 (by omega)) (vta) (vua) (by omega)
              exact L174 ((288 - z23.toInt) + 1).toNat ls H locs ig14 lg15 z23 z22 (lv_sub hl [0, 1, 2] rfl) hw hI hF (by omega) (by omega) (by omega) (vda) (by rw [eigo]; omega) (fun _ => by rw [show z23.toInt.toNat = 0 by omega]; exact fun p hp => absurd hp (Nat.not_lt_zero p)) (vta) (vua) (by omega)
        exact L166 ((2 * (ucnt (ig9 (B + 73)) 288 : Int) + z12.toInt) + 1).toNat ls H locs ig9 lg10 z12 (lv_sub hl [0, 1] rfl) hw hI hF (by omega) (InM.vd (by have q9 := g6_2; rw [show v8.toInt.toNat = 288 by omega] at q9; exact q9) hw0) (fun q9 => absurd q9 (by omega)) (InM.vt (by have q9 := g6_2; rw [show v8.toInt.toNat = 288 by omega] at q9; exact q9) (by have q9 := g6_3; rw [show v8.toInt.toNat = 288 by omega] at q9; exact q9)) (InN.vu (by have q9 := g6_4; rw [show v8.toInt.toNat = 288 by omega] at q9; exact q9) (by have q9 := g6_2; rw [show v8.toInt.toNat = 288 by omega] at q9; exact q9) hW) (by omega)
      · refine lv_aload_n hx hb dX12_works_13 rfl (lv_at hl 1 rfl) ?_
        refine r_get C hw (hsh 49 _ rfl) fl_X12_124 (oV_r rfl (hrm (49, 30, 73) (by decide))) dX12_works_14 ?_
        refine lv_iload_n hx hb dX12_works_17 rfl (lv_at hl 0 rfl) ?_
        refine lv_aload_n hx hb dX12_works_18 rfl (lv_at hl 1 rfl) ?_
        refine r_get C hw (hsh 49 _ rfl) fl_X12_80 (oV_r rfl (hrm (49, 15, 59) (by decide))) dX12_works_19 ?_
        refine lv_iload_n hx hb dX12_works_22 rfl (lv_at hl 0 rfl) ?_
        refine r_iald C hw (hsh 59 _ rfl) (by omega) (by omega) dX12_works_23 (ti_c (ig9 (B + 59) v8.toInt.toNat).toInt rfl fun z50 hz50 => ?_)
        rw [Ft.i hF 59 _ (by decide)] at hz50
        have kd9 : z50.toInt = kdO (σ v8.toInt.toNat) := by rw [hz50]; exact (hM _ (by omega)).1.1
        refine lv_iconst (v := 2) hx hb dX12_works_24 (by decide) (ti_c 2 (by decide) fun z52 hz52 => ?_)
        refine b_ne (tgt := 36) hx hb dX12_works_25 (by decide) (fun c25 => ?_) (fun c25 => ?_)
        · refine lv_iconst (v := 1) hx hb dX12_works_36 (by decide) (ti_c 1 (by decide) fun z53 hz53 => ?_)
          refine lv_goto (tgt := 41) hx hb dX12_works_37 (by decide) ?_
          refine r_zast C hw (hsh 73 _ rfl) (by omega) (by omega) (nar_b (by omega)) dX12_works_41 (fun H locs hH hw => ?_)
          obtain ⟨ig54, eig54⟩ : ∃ f, f = up2 ig9 (B + 73) v8.toInt.toNat z53 := ⟨_, rfl⟩
          rw [← eig54] at hw
          have hF : Ft B [49, 64, 65, 66, 67, 68, 69, 70, 71, 72, 73, 74] ig lg ig54 lg10 := by rw [eig54]; exact hF.pi (by decide)
          have hI : IM τ φ υ B kd ig54 rg := by rw [eig54]; exact hI.pi (by decide) (show okR none _ from trivial)
          have dn9 : dnM B σ v8.toInt.toNat ig54 := by rw [eig54]; exact dnM.m1 (by omega) (fun q => absurd q.1 (by omega))
          have inm : InM B σ v8.toInt.toNat ig54 lg10 := by rw [eig54]; exact inm.w (Or.inr (Nat.le_refl _))
          have z9 : (∀ p, p < v8.toInt.toNat → (ig54 (B + 70) p).toInt = 0) := by rw [eig54]; exact fun p hp => by rw [up2_a (by omega)]; exact z9 p hp
          have in9 : InN B σ v8.toInt.toNat ig54 := by rw [eig54]; exact in9.w (Or.inl (by decide))
          refine lv_aload_n hx hb dX12_works_42 rfl (lv_at hl 1 rfl) ?_
          refine r_get C hw (hsh 49 _ rfl) fl_X12_102 (oV_r rfl (hrm (49, 23, 66) (by decide))) dX12_works_43 ?_
          refine lv_iload_n hx hb dX12_works_46 rfl (lv_at hl 0 rfl) ?_
          refine lv_aload_n hx hb dX12_works_47 rfl (lv_at hl 1 rfl) ?_
          refine r_get C hw (hsh 49 _ rfl) fl_X12_80 (oV_r rfl (hrm (49, 15, 59) (by decide))) dX12_works_48 ?_
          refine lv_iload_n hx hb dX12_works_51 rfl (lv_at hl 0 rfl) ?_
          refine r_iald C hw (hsh 59 _ rfl) (by omega) (by omega) dX12_works_52 (ti_c (ig54 (B + 59) v8.toInt.toNat).toInt rfl fun z55 hz55 => ?_)
          rw [Ft.i hF 59 _ (by decide)] at hz55
          have kd8 : z55.toInt = kdO (σ v8.toInt.toNat) := by rw [hz55]; exact (hM _ (by omega)).1.1
          refine lv_iconst (v := 1) hx hb dX12_works_53 (by decide) (ti_c 1 (by decide) fun z57 hz57 => ?_)
          have J67 : ∀ (ls : Array Slot) (H : Heap) (locs : List Loc) (ig59 : sI) (lg60 : sG) (u58 : Int32), lv_has ls 3 [(1, .int v8), (0, .ref (B + 49))] → WD B D cA s.heap kd ig59 rg lg60 H locs → IM τ φ υ B kd ig59 rg → Ft B [49, 64, 65, 66, 67, 68, 69, 70, 71, 72, 73, 74] ig lg ig59 lg60 → (u58 = if kdO (σ v8.toInt.toNat) = 1 then Int32.ofInt (σ v8.toInt.toNat).1.2 else 0) → (dnM B σ v8.toInt.toNat ig59) → (InM B σ v8.toInt.toNat ig59 lg60) → ((∀ p, p < v8.toInt.toNat → (ig59 (B + 70) p).toInt = 0)) → (InN B σ v8.toInt.toNat ig59) → W p l e (rL 31 0 0) s m args below meth c H locs 0 0 (MQ below (QcW B D cA (PM τ φ υ B [49, 64, 65, 66, 67, 68, 69, 70, 71, 72, 73, 74] kd ig rg lg (fun r ig' lg' => (r = none ∧ (FVm B σ ig' ∧ TRm B σ ig' ∧ URm B σ ig' ∧ RdP B σ 288 lg'))))) args s 0 0 (fun q => B ≤ q)) (F0 m 67 ls [.int u58, .int v8, .ref (B + 66)]) := by
            intro ls H locs ig59 lg60 u58 hl hw hI hF g67_0 g67_1 g67_2 g67_3 g67_4
            have dn9 := g67_1
            have inm := g67_2
            have z9 := g67_3
            have in9 := g67_4
            refine r_iast C hw (hsh 66 _ rfl) (by omega) (by omega) dX12_works_67 (fun H locs hH hw => ?_)
            obtain ⟨ig61, eig61⟩ : ∃ f, f = up2 ig59 (B + 66) v8.toInt.toNat u58 := ⟨_, rfl⟩
            rw [← eig61] at hw
            have hF : Ft B [49, 64, 65, 66, 67, 68, 69, 70, 71, 72, 73, 74] ig lg ig61 lg60 := by rw [eig61]; exact hF.pi (by decide)
            have hI : IM τ φ υ B kd ig61 rg := by rw [eig61]; exact hI.pi (by decide) (show okR none _ from trivial)
            have dn9 : dnM B σ v8.toInt.toNat ig61 := by rw [eig61]; exact dn9.w (Or.inl (by decide))
            have wo9 : woM B σ v8.toInt.toNat ig61 := by rw [eig61]; exact woM.m g67_0
            have inm : InM B σ v8.toInt.toNat ig61 lg60 := by rw [eig61]; exact inm.w (Or.inr (Nat.le_refl _))
            have z9 : (∀ p, p < v8.toInt.toNat → (ig61 (B + 70) p).toInt = 0) := by rw [eig61]; exact fun p hp => by rw [up2_a (by omega)]; exact z9 p hp
            have in9 : InN B σ v8.toInt.toNat ig61 := by rw [eig61]; exact in9.w (Or.inl (by decide))
            refine lv_aload_n hx hb dX12_works_68 rfl (lv_at hl 1 rfl) ?_
            refine r_get C hw (hsh 49 _ rfl) fl_X12_105 (oV_r rfl (hrm (49, 24, 67) (by decide))) dX12_works_69 ?_
            refine lv_iload_n hx hb dX12_works_72 rfl (lv_at hl 0 rfl) ?_
            refine lv_aload_n hx hb dX12_works_73 rfl (lv_at hl 1 rfl) ?_
            refine r_get C hw (hsh 49 _ rfl) fl_X12_80 (oV_r rfl (hrm (49, 15, 59) (by decide))) dX12_works_74 ?_
            refine lv_iload_n hx hb dX12_works_77 rfl (lv_at hl 0 rfl) ?_
            refine r_iald C hw (hsh 59 _ rfl) (by omega) (by omega) dX12_works_78 (ti_c (ig61 (B + 59) v8.toInt.toNat).toInt rfl fun z62 hz62 => ?_)
            rw [Ft.i hF 59 _ (by decide)] at hz62
            have kd7 : z62.toInt = kdO (σ v8.toInt.toNat) := by rw [hz62]; exact (hM _ (by omega)).1.1
            refine lv_iconst (v := 2) hx hb dX12_works_79 (by decide) (ti_c 2 (by decide) fun z64 hz64 => ?_)
            have J96 : ∀ (ls : Array Slot) (H : Heap) (locs : List Loc) (ig66 : sI) (lg67 : sG) (u65 : Int32), lv_has ls 3 [(1, .int v8), (0, .ref (B + 49))] → WD B D cA s.heap kd ig66 rg lg67 H locs → IM τ φ υ B kd ig66 rg → Ft B [49, 64, 65, 66, 67, 68, 69, 70, 71, 72, 73, 74] ig lg ig66 lg67 → ((kdO (σ v8.toInt.toNat) = 2 ∧ Rg σ v8.toInt.toNat → u65 = 2) ∧ (¬ (kdO (σ v8.toInt.toNat) = 2 ∧ Rg σ v8.toInt.toNat) → u65 = 0)) → (dnM B σ v8.toInt.toNat ig66) → (woM B σ v8.toInt.toNat ig66) → (InM B σ v8.toInt.toNat ig66 lg67) → ((∀ p, p < v8.toInt.toNat → (ig66 (B + 70) p).toInt = 0)) → (InN B σ v8.toInt.toNat ig66) → W p l e (rL 31 0 0) s m args below meth c H locs 0 0 (MQ below (QcW B D cA (PM τ φ υ B [49, 64, 65, 66, 67, 68, 69, 70, 71, 72, 73, 74] kd ig rg lg (fun r ig' lg' => (r = none ∧ (FVm B σ ig' ∧ TRm B σ ig' ∧ URm B σ ig' ∧ RdP B σ 288 lg'))))) args s 0 0 (fun q => B ≤ q)) (F0 m 96 ls [.int u65, .int v8, .ref (B + 67)]) := by
              intro ls H locs ig66 lg67 u65 hl hw hI hF g96_0 g96_1 g96_2 g96_3 g96_4 g96_5
              have dn9 := g96_1
              have wo9 := g96_2
              have inm := g96_3
              have z9 := g96_4
              have in9 := g96_5
              refine r_iast C hw (hsh 67 _ rfl) (by omega) (by omega) dX12_works_96 (fun H locs hH hw => ?_)
              obtain ⟨ig68, eig68⟩ : ∃ f, f = up2 ig66 (B + 67) v8.toInt.toNat u65 := ⟨_, rfl⟩
              rw [← eig68] at hw
              have hF : Ft B [49, 64, 65, 66, 67, 68, 69, 70, 71, 72, 73, 74] ig lg ig68 lg67 := by rw [eig68]; exact hF.pi (by decide)
              have hI : IM τ φ υ B kd ig68 rg := by rw [eig68]; exact hI.pi (by decide) (show okR none _ from trivial)
              have dn9 : dnM B σ v8.toInt.toNat ig68 := by rw [eig68]; exact dn9.w (Or.inl (by decide))
              have wo9 : woM B σ v8.toInt.toNat ig68 := by rw [eig68]; exact wo9.w (Or.inl (by decide))
              have er9 : erM B σ v8.toInt.toNat ig68 := by rw [eig68]; exact erM.m g96_0
              have inm : InM B σ v8.toInt.toNat ig68 lg67 := by rw [eig68]; exact inm.w (Or.inr (Nat.le_refl _))
              have z9 : (∀ p, p < v8.toInt.toNat → (ig68 (B + 70) p).toInt = 0) := by rw [eig68]; exact fun p hp => by rw [up2_a (by omega)]; exact z9 p hp
              have in9 : InN B σ v8.toInt.toNat ig68 := by rw [eig68]; exact in9.w (Or.inl (by decide))
              refine lv_aload_n hx hb dX12_works_97 rfl (lv_at hl 1 rfl) ?_
              refine r_get C hw (hsh 49 _ rfl) fl_X12_111 (oV_r rfl (hrm (49, 26, 69) (by decide))) dX12_works_98 ?_
              refine lv_iload_n hx hb dX12_works_101 rfl (lv_at hl 0 rfl) ?_
              refine lv_iconst (v := 0) hx hb dX12_works_102 (by decide) (ti_c 0 (by decide) fun z69 hz69 => ?_)
              refine r_zast C hw (hsh 69 _ rfl) (by omega) (by omega) (nar_b (by omega)) dX12_works_103 (fun H locs hH hw => ?_)
              obtain ⟨ig70, eig70⟩ : ∃ f, f = up2 ig68 (B + 69) v8.toInt.toNat z69 := ⟨_, rfl⟩
              rw [← eig70] at hw
              have hF : Ft B [49, 64, 65, 66, 67, 68, 69, 70, 71, 72, 73, 74] ig lg ig70 lg67 := by rw [eig70]; exact hF.pi (by decide)
              have hI : IM τ φ υ B kd ig70 rg := by rw [eig70]; exact hI.pi (by decide) (show okR none _ from trivial)
              have dn9 : dnM B σ v8.toInt.toNat ig70 := by rw [eig70]; exact dn9.w (Or.inl (by decide))
              have wo9 : woM B σ v8.toInt.toNat ig70 := by rw [eig70]; exact wo9.w (Or.inl (by decide))
              have er9 : erM B σ v8.toInt.toNat ig70 := by rw [eig70]; exact er9.w (Or.inl (by decide))
              have inm : InM B σ v8.toInt.toNat ig70 lg67 := by rw [eig70]; exact inm.w (Or.inl (by decide))
              have z9 : (∀ p, p < v8.toInt.toNat → (ig70 (B + 70) p).toInt = 0) := by rw [eig70]; exact fun p hp => by rw [up2_a (by omega)]; exact z9 p hp
              have in9 : InN B σ v8.toInt.toNat ig70 := by rw [eig70]; exact in9.w (Or.inr (Or.inr ⟨rfl, Nat.le_refl _⟩))
              have cm9 : clM B ig70 v8.toInt.toNat = false := by show czB (ig70 (B + 69) v8.toInt.toNat) = false; rw [eig70, up2_eq]; exact czB_0 (by omega)
              refine lv_aload_n hx hb dX12_works_104 rfl (lv_at hl 1 rfl) ?_
              refine r_get C hw (hsh 49 _ rfl) fl_X12_114 (oV_r rfl (hrm (49, 27, 70) (by decide))) dX12_works_105 ?_
              refine lv_iload_n hx hb dX12_works_108 rfl (lv_at hl 0 rfl) ?_
              refine lv_iconst (v := 0) hx hb dX12_works_109 (by decide) (ti_c 0 (by decide) fun z71 hz71 => ?_)
              refine r_zast C hw (hsh 70 _ rfl) (by omega) (by omega) (nar_b (by omega)) dX12_works_110 (fun H locs hH hw => ?_)
              obtain ⟨ig72, eig72⟩ : ∃ f, f = up2 ig70 (B + 70) v8.toInt.toNat z71 := ⟨_, rfl⟩
              rw [← eig72] at hw
              have hF : Ft B [49, 64, 65, 66, 67, 68, 69, 70, 71, 72, 73, 74] ig lg ig72 lg67 := by rw [eig72]; exact hF.pi (by decide)
              have hI : IM τ φ υ B kd ig72 rg := by rw [eig72]; exact hI.pi (by decide) (show okR none _ from trivial)
              have dn9 : dnM B σ v8.toInt.toNat ig72 := by rw [eig72]; exact dn9.w (Or.inl (by decide))
              have wo9 : woM B σ v8.toInt.toNat ig72 := by rw [eig72]; exact wo9.w (Or.inl (by decide))
              have er9 : erM B σ v8.toInt.toNat ig72 := by rw [eig72]; exact er9.w (Or.inl (by decide))
              have inm : InM B σ v8.toInt.toNat ig72 lg67 := by rw [eig72]; exact inm.w (Or.inl (by decide))
              have z9 : (∀ p, p < v8.toInt.toNat + 1 → (ig72 (B + 70) p).toInt = 0) := by rw [eig72]; exact fun p hp => by by_cases c : p = v8.toInt.toNat; (rw [c, up2_eq]; omega); (rw [up2_j c]; exact z9 p (by omega))
              have in9 : InN B σ v8.toInt.toNat ig72 := by rw [eig72]; exact in9.w (Or.inl (by decide))
              have cm9 : clM B ig72 v8.toInt.toNat = false := by show czB (ig72 (B + 69) v8.toInt.toNat) = false; rw [eig72, up2_a (by omega)]; exact cm9
              refine lv_iconst (v := 0) hx hb dX12_works_111 (by decide) (ti_c 0 (by decide) fun z73 hz73 => ?_)
              refine lv_istore_n (lv' := [(2, .int z73), (1, .int v8), (0, .ref (B + 49))]) hx hb dX12_works_112 rfl hl (by decide) rfl (fun ls hl => ?_)
              have L113 : ∀ (n : Nat) (ls : Array Slot) (H : Heap) (locs : List Loc) (ig75 : sI) (lg76 : sG) (v74 : Int32), lv_has ls 3 [(2, .int v74), (1, .int v8), (0, .ref (B + 49))] → WD B D cA s.heap kd ig75 rg lg76 H locs → IM τ φ υ B kd ig75 rg → Ft B [49, 64, 65, 66, 67, 68, 69, 70, 71, 72, 73, 74] ig lg ig75 lg76 → (0 ≤ v74.toInt) → (v74.toInt ≤ 3) → (dnM B σ v8.toInt.toNat ig75) → (woM B σ v8.toInt.toNat ig75) → (erM B σ v8.toInt.toNat ig75) → (InM B σ v8.toInt.toNat ig75 lg76) → ((∀ p, p < v8.toInt.toNat + 1 → (ig75 (B + 70) p).toInt = 0)) → (InN B σ v8.toInt.toNat ig75) → (clM B ig75 v8.toInt.toNat = false) → (InP B σ v8.toInt.toNat v74.toInt ig75) → 3 - v74.toInt < (n : Int) → W p l e (rL 31 0 0) s m args below meth c H locs 0 0 (MQ below (QcW B D cA (PM τ φ υ B [49, 64, 65, 66, 67, 68, 69, 70, 71, 72, 73, 74] kd ig rg lg (fun r ig' lg' => (r = none ∧ (FVm B σ ig' ∧ TRm B σ ig' ∧ URm B σ ig' ∧ RdP B σ 288 lg'))))) args s 0 0 (fun q => B ≤ q)) (F0 m 113 ls []) := by
                intro n113
                induction n113 with
                | zero => intro ls H locs ig75 lg76 v74 hl hw hI hF g113_0 g113_1 g113_2 g113_3 g113_4 g113_5 g113_6 g113_7 g113_8 g113_9 hmu; exact absurd hmu (by omega)
                | succ n113 ih113 =>
                  intro ls H locs ig75 lg76 v74 hl hw hI hF g113_0 g113_1 g113_2 g113_3 g113_4 g113_5 g113_6 g113_7 g113_8 g113_9 hmu
                  have dn9 := g113_2
                  have wo9 := g113_3
                  have er9 := g113_4
                  have inm := g113_5
                  have z9 := g113_6
                  have in9 := g113_7
                  have cm9 := g113_8
                  refine lv_iload_n hx hb dX12_works_113 rfl (lv_at hl 0 rfl) ?_
                  refine lv_iconst (v := 3) hx hb dX12_works_114 (by decide) (ti_c 3 (by decide) fun z77 hz77 => ?_)
                  refine b_ge (tgt := 158) hx hb dX12_works_115 (by decide) (fun c115 => ?_) (fun c115 => ?_)
                  · refine tc_inc hx hb dX12_works_158 hl (k := 1) rfl (by decide) (by decide) (fun z78 hz78 ls hl => ?_)
                    first | replace hz78 := hz78 (by omega) | clear hz78
                    have hl : lv_has ls 3 [(1, .int z78), (2, .int v74), (0, .ref (B + 49))] := hl
                    refine lv_goto (tgt := 6) hx hb dX12_works_161 (by decide) ?_
                    exact ih6 ls H locs ig75 lg76 z78 (lv_sub hl [0, 2] rfl) hw hI hF (by omega) (by omega) (by rw [show z78.toInt.toNat = v8.toInt.toNat + 1 by omega]; exact inm.s dn9 wo9 er9) (by rw [show z78.toInt.toNat = v8.toInt.toNat + 1 by omega]; exact z9) (by rw [show z78.toInt.toNat = v8.toInt.toNat + 1 by omega]; exact in9.s (by have q9 := g113_9; rw [show v74.toInt = 3 by omega] at q9; exact q9) cm9) (by omega)
                  · refine lv_aload_n hx hb dX12_works_118 rfl (lv_at hl 2 rfl) ?_
                    refine r_get C hw (hsh 49 _ rfl) fl_X12_108 (oV_r rfl (hrm (49, 25, 68) (by decide))) dX12_works_119 ?_
                    refine lv_iconst (v := 3) hx hb dX12_works_122 (by decide) (ti_c 3 (by decide) fun z79 hz79 => ?_)
                    refine lv_iload_n hx hb dX12_works_123 rfl (lv_at hl 1 rfl) ?_
                    refine lv_imul hx hb dX12_works_124 (tc_mulL 3 hz79 fun z80 hz80 => ?_)
                    first | replace hz80 := hz80 (by omega) | clear hz80
                    refine lv_iload_n hx hb dX12_works_125 rfl (lv_at hl 0 rfl) ?_
                    refine lv_iadd hx hb dX12_works_126 (tc_add fun z81 hz81 => ?_)
                    first | replace hz81 := hz81 (by omega) | clear hz81
                    refine lv_aload_n hx hb dX12_works_127 rfl (lv_at hl 2 rfl) ?_
                    refine r_get C hw (hsh 49 _ rfl) fl_X12_80 (oV_r rfl (hrm (49, 15, 59) (by decide))) dX12_works_128 ?_
                    refine lv_iload_n hx hb dX12_works_131 rfl (lv_at hl 1 rfl) ?_
                    refine r_iald C hw (hsh 59 _ rfl) (by omega) (by omega) dX12_works_132 (ti_c (ig75 (B + 59) v8.toInt.toNat).toInt rfl fun z82 hz82 => ?_)
                    rw [Ft.i hF 59 _ (by decide)] at hz82
                    have kd6 : z82.toInt = kdO (σ v8.toInt.toNat) := by rw [hz82]; exact (hM _ (by omega)).1.1
                    refine lv_iconst (v := 1) hx hb dX12_works_133 (by decide) (ti_c 1 (by decide) fun z84 hz84 => ?_)
                    refine b_ne (tgt := 150) hx hb dX12_works_134 (by decide) (fun c134 => ?_) (fun c134 => ?_)
                    · refine lv_iconst (v := 0) hx hb dX12_works_150 (by decide) (ti_c 0 (by decide) fun z85 hz85 => ?_)
                      refine r_iast C hw (hsh 68 _ rfl) (by omega) (by omega) dX12_works_151 (fun H locs hH hw => ?_)
                      obtain ⟨ig86, eig86⟩ : ∃ f, f = up2 ig75 (B + 68) z81.toInt.toNat z85 := ⟨_, rfl⟩
                      rw [← eig86] at hw
                      have hF : Ft B [49, 64, 65, 66, 67, 68, 69, 70, 71, 72, 73, 74] ig lg ig86 lg76 := by rw [eig86]; exact hF.pi (by decide)
                      have hI : IM τ φ υ B kd ig86 rg := by rw [eig86]; exact hI.pi (by decide) (show okR none _ from trivial)
                      have dn9 : dnM B σ v8.toInt.toNat ig86 := by rw [eig86]; exact dn9.w (Or.inl (by decide))
                      have wo9 : woM B σ v8.toInt.toNat ig86 := by rw [eig86]; exact wo9.w (Or.inl (by decide))
                      have er9 : erM B σ v8.toInt.toNat ig86 := by rw [eig86]; exact er9.w (Or.inl (by decide))
                      have inm : InM B σ v8.toInt.toNat ig86 lg76 := by rw [eig86]; exact inm.w (Or.inl (by decide))
                      have z9 : (∀ p, p < v8.toInt.toNat + 1 → (ig86 (B + 70) p).toInt = 0) := by rw [eig86]; exact fun p hp => by rw [up2_a (by omega)]; exact z9 p hp
                      have ip9 : InP B σ v8.toInt.toNat (v74.toInt + 1) ig86 := by rw [eig86]; exact InP.step g113_9 (by omega) (by omega) ((by rw [unC_f hW (by omega) (by omega), ucp_0]; exact i32_z (by omega)))
                      have in9 : InN B σ v8.toInt.toNat ig86 := by rw [eig86]; exact in9.w (Or.inr (Or.inl ⟨rfl, by omega⟩))
                      have cm9 : clM B ig86 v8.toInt.toNat = false := by show czB (ig86 (B + 69) v8.toInt.toNat) = false; rw [eig86, up2_a (by omega)]; exact cm9
                      refine tc_inc hx hb dX12_works_152 hl (k := 0) rfl (by decide) (by decide) (fun z87 hz87 ls hl => ?_)
                      first | replace hz87 := hz87 (by omega) | clear hz87
                      have hl : lv_has ls 3 [(2, .int z87), (1, .int v8), (0, .ref (B + 49))] := hl
                      refine lv_goto (tgt := 113) hx hb dX12_works_155 (by decide) ?_
                      exact ih113 ls H locs ig86 lg76 z87 (lv_sub hl [0, 1, 2] rfl) hw hI hF (by omega) (by omega) (dn9) (wo9) (er9) (inm) (z9) (in9) (cm9) (by rw [show z87.toInt = v74.toInt + 1 by omega]; exact ip9) (by omega)
                    · refine lv_aload_n hx hb dX12_works_137 rfl (lv_at hl 2 rfl) ?_
                      refine r_get C hw (hsh 49 _ rfl) fl_X12_86 (oV_r rfl (hrm (49, 17, 61) (by decide))) dX12_works_138 ?_
                      refine lv_iconst (v := 3) hx hb dX12_works_141 (by decide) (ti_c 3 (by decide) fun z88 hz88 => ?_)
                      refine lv_iload_n hx hb dX12_works_142 rfl (lv_at hl 1 rfl) ?_
                      refine lv_imul hx hb dX12_works_143 (tc_mulL 3 hz88 fun z89 hz89 => ?_)
                      first | replace hz89 := hz89 (by omega) | clear hz89
                      refine lv_iload_n hx hb dX12_works_144 rfl (lv_at hl 0 rfl) ?_
                      refine lv_iadd hx hb dX12_works_145 (tc_add fun z90 hz90 => ?_)
                      first | replace hz90 := hz90 (by omega) | clear hz90
                      refine r_iald C hw (hsh 61 _ rfl) (by omega) (by omega) dX12_works_146 (ti_c (ig75 (B + 61) z90.toInt.toNat).toInt rfl fun z91 hz91 => ?_)
                      rw [Ft.i hF 61 _ (by decide)] at hz91
                      refine lv_goto (tgt := 151) hx hb dX12_works_147 (by decide) ?_
                      refine r_iast C hw (hsh 68 _ rfl) (by omega) (by omega) dX12_works_151 (fun H locs hH hw => ?_)
                      obtain ⟨ig93, eig93⟩ : ∃ f, f = up2 ig75 (B + 68) z81.toInt.toNat z91 := ⟨_, rfl⟩
                      rw [← eig93] at hw
                      have hF : Ft B [49, 64, 65, 66, 67, 68, 69, 70, 71, 72, 73, 74] ig lg ig93 lg76 := by rw [eig93]; exact hF.pi (by decide)
                      have hI : IM τ φ υ B kd ig93 rg := by rw [eig93]; exact hI.pi (by decide) (show okR none _ from trivial)
                      have dn9 : dnM B σ v8.toInt.toNat ig93 := by rw [eig93]; exact dn9.w (Or.inl (by decide))
                      have wo9 : woM B σ v8.toInt.toNat ig93 := by rw [eig93]; exact wo9.w (Or.inl (by decide))
                      have er9 : erM B σ v8.toInt.toNat ig93 := by rw [eig93]; exact er9.w (Or.inl (by decide))
                      have inm : InM B σ v8.toInt.toNat ig93 lg76 := by rw [eig93]; exact inm.w (Or.inl (by decide))
                      have z9 : (∀ p, p < v8.toInt.toNat + 1 → (ig93 (B + 70) p).toInt = 0) := by rw [eig93]; exact fun p hp => by rw [up2_a (by omega)]; exact z9 p hp
                      have ip9 : InP B σ v8.toInt.toNat (v74.toInt + 1) ig93 := by rw [eig93]; exact InP.step g113_9 (by omega) (by omega) (unC_cp (by omega) (by rw [hz91]; exact RowU.at (hM _ (by omega)).2.1 (by omega) (by omega)))
                      have in9 : InN B σ v8.toInt.toNat ig93 := by rw [eig93]; exact in9.w (Or.inr (Or.inl ⟨rfl, by omega⟩))
                      have cm9 : clM B ig93 v8.toInt.toNat = false := by show czB (ig93 (B + 69) v8.toInt.toNat) = false; rw [eig93, up2_a (by omega)]; exact cm9
                      refine tc_inc hx hb dX12_works_152 hl (k := 0) rfl (by decide) (by decide) (fun z94 hz94 ls hl => ?_)
                      first | replace hz94 := hz94 (by omega) | clear hz94
                      have hl : lv_has ls 3 [(2, .int z94), (1, .int v8), (0, .ref (B + 49))] := hl
                      refine lv_goto (tgt := 113) hx hb dX12_works_155 (by decide) ?_
                      exact ih113 ls H locs ig93 lg76 z94 (lv_sub hl [0, 1, 2] rfl) hw hI hF (by omega) (by omega) (dn9) (wo9) (er9) (inm) (z9) (in9) (cm9) (by rw [show z94.toInt = v74.toInt + 1 by omega]; exact ip9) (by omega)
              exact L113 ((3 - z73.toInt) + 1).toNat ls H locs ig72 lg67 z73 (lv_sub hl [0, 1, 2] rfl) hw hI hF (by omega) (by omega) (dn9) (wo9) (er9) (inm) (z9) (in9) (cm9) (fun k hk => absurd hk (by omega)) (by omega)
            refine b_ne (tgt := 95) hx hb dX12_works_80 (by decide) (fun c80 => ?_) (fun c80 => ?_)
            · refine lv_iconst (v := 0) hx hb dX12_works_95 (by decide) (ti_c 0 (by decide) fun z95 hz95 => ?_)
              exact J96 ls H locs ig61 lg60 z95 (lv_sub hl [0, 1] rfl) hw hI hF (⟨fun q => absurd q.1 (by omega), fun _ => i32_z (by omega)⟩) (dn9) (wo9) (inm) (z9) (in9)
            · refine lv_aload_n hx hb dX12_works_83 rfl (lv_at hl 1 rfl) ?_
              refine lv_iload_n hx hb dX12_works_84 rfl (lv_at hl 0 rfl) ?_
              refine r_callV (As := [.int v8]) (rest := [.int v8, .ref (B + 67)]) C hw (t_X12_isRingE l B D cA kd ig61 rg lg60 _ v8 (by omega) σ inm.1.2 hI) sv_X12_229 (hsh 49 _ rfl) rfl hl.1 rfl (Nat.le_of_ble_eq_true rfl) ⟨Nat.le_of_ble_eq_true rfl, Nat.le_of_ble_eq_true rfl⟩ ⟨Nat.le_of_ble_eq_true rfl, Nat.le_of_ble_eq_true rfl⟩ dX12_works_85 (fun r100 kd96 ig97 rg98 lg99 H locs hw hH hp101 => ?_)
              obtain ⟨rfl, rfl, rfl, rfl, hzhp101, hrhp101⟩ := hp101
              obtain ⟨z102, rfl, hz102⟩ := hrhp101
              have rg8 := hz102
              refine z_eq (tgt := 95) hx hb dX12_works_88 (by decide) (fun c88 => ?_) (fun c88 => ?_)
              · refine lv_iconst (v := 0) hx hb dX12_works_95 (by decide) (ti_c 0 (by decide) fun z103 hz103 => ?_)
                exact J96 ls H locs ig61 lg60 z103 (lv_sub hl [0, 1] rfl) hw hI hF (⟨fun q => absurd q.2 (by0 rg8 (by omega)), fun _ => i32_z (by omega)⟩) (dn9) (wo9) (inm) (z9) (in9)
              · refine lv_iconst (v := 2) hx hb dX12_works_91 (by decide) (ti_c 2 (by decide) fun z104 hz104 => ?_)
                refine lv_goto (tgt := 96) hx hb dX12_works_92 (by decide) ?_
                exact J96 ls H locs ig61 lg60 z104 (lv_sub hl [0, 1] rfl) hw hI hF (⟨fun _ => i32_2 (by omega), fun q => absurd ⟨by omega, by1 rg8 (by omega)⟩ q⟩) (dn9) (wo9) (inm) (z9) (in9)
          refine b_ne (tgt := 66) hx hb dX12_works_54 (by decide) (fun c54 => ?_) (fun c54 => ?_)
          · refine lv_iconst (v := 0) hx hb dX12_works_66 (by decide) (ti_c 0 (by decide) fun z105 hz105 => ?_)
            exact J67 ls H locs ig54 lg10 z105 (lv_sub hl [0, 1] rfl) hw hI hF ((by rw [if_neg (by omega)]; exact i32_z (by omega))) (dn9) (inm) (z9) (in9)
          · refine lv_aload_n hx hb dX12_works_57 rfl (lv_at hl 1 rfl) ?_
            refine r_get C hw (hsh 49 _ rfl) fl_X12_83 (oV_r rfl (hrm (49, 16, 60) (by decide))) dX12_works_58 ?_
            refine lv_iload_n hx hb dX12_works_61 rfl (lv_at hl 0 rfl) ?_
            refine r_iald C hw (hsh 60 _ rfl) (by omega) (by omega) dX12_works_62 (ti_c (ig54 (B + 60) v8.toInt.toNat).toInt rfl fun z106 hz106 => ?_)
            rw [Ft.i hF 60 _ (by decide)] at hz106
            refine lv_goto (tgt := 67) hx hb dX12_works_63 (by decide) ?_
            exact J67 ls H locs ig54 lg10 z106 (lv_sub hl [0, 1] rfl) hw hI hF ((by rw [if_pos (by omega)]; exact i32_of (by rw [hz106]; exact (hM _ (by omega)).1.2))) (dn9) (inm) (z9) (in9)
        · refine lv_aload_n hx hb dX12_works_28 rfl (lv_at hl 1 rfl) ?_
          refine lv_iload_n hx hb dX12_works_29 rfl (lv_at hl 0 rfl) ?_
          refine r_callV (As := [.int v8]) (rest := [.int v8, .ref (B + 73)]) C hw (t_X12_isRingE l B D cA kd ig9 rg lg10 _ v8 (by omega) σ inm.1.2 hI) sv_X12_229 (hsh 49 _ rfl) rfl hl.1 rfl (Nat.le_of_ble_eq_true rfl) ⟨Nat.le_of_ble_eq_true rfl, Nat.le_of_ble_eq_true rfl⟩ ⟨Nat.le_of_ble_eq_true rfl, Nat.le_of_ble_eq_true rfl⟩ dX12_works_30 (fun r112 kd108 ig109 rg110 lg111 H locs hw hH hp113 => ?_)
          obtain ⟨rfl, rfl, rfl, rfl, hzhp113, hrhp113⟩ := hp113
          obtain ⟨z114, rfl, hz114⟩ := hrhp113
          have rg9 := hz114
          refine z_eq (tgt := 40) hx hb dX12_works_33 (by decide) (fun c33 => ?_) (fun c33 => ?_)
          · refine lv_iconst (v := 0) hx hb dX12_works_40 (by decide) (ti_c 0 (by decide) fun z115 hz115 => ?_)
            refine r_zast C hw (hsh 73 _ rfl) (by omega) (by omega) (nar_b (by omega)) dX12_works_41 (fun H locs hH hw => ?_)
            obtain ⟨ig116, eig116⟩ : ∃ f, f = up2 ig9 (B + 73) v8.toInt.toNat z115 := ⟨_, rfl⟩
            rw [← eig116] at hw
            have hF : Ft B [49, 64, 65, 66, 67, 68, 69, 70, 71, 72, 73, 74] ig lg ig116 lg10 := by rw [eig116]; exact hF.pi (by decide)
            have hI : IM τ φ υ B kd ig116 rg := by rw [eig116]; exact hI.pi (by decide) (show okR none _ from trivial)
            have dn9 : dnM B σ v8.toInt.toNat ig116 := by rw [eig116]; exact dnM.m0 (by omega) ⟨by omega, by0 rg9 (by omega)⟩
            have inm : InM B σ v8.toInt.toNat ig116 lg10 := by rw [eig116]; exact inm.w (Or.inr (Nat.le_refl _))
            have z9 : (∀ p, p < v8.toInt.toNat → (ig116 (B + 70) p).toInt = 0) := by rw [eig116]; exact fun p hp => by rw [up2_a (by omega)]; exact z9 p hp
            have in9 : InN B σ v8.toInt.toNat ig116 := by rw [eig116]; exact in9.w (Or.inl (by decide))
            refine lv_aload_n hx hb dX12_works_42 rfl (lv_at hl 1 rfl) ?_
            refine r_get C hw (hsh 49 _ rfl) fl_X12_102 (oV_r rfl (hrm (49, 23, 66) (by decide))) dX12_works_43 ?_
            refine lv_iload_n hx hb dX12_works_46 rfl (lv_at hl 0 rfl) ?_
            refine lv_aload_n hx hb dX12_works_47 rfl (lv_at hl 1 rfl) ?_
            refine r_get C hw (hsh 49 _ rfl) fl_X12_80 (oV_r rfl (hrm (49, 15, 59) (by decide))) dX12_works_48 ?_
            refine lv_iload_n hx hb dX12_works_51 rfl (lv_at hl 0 rfl) ?_
            refine r_iald C hw (hsh 59 _ rfl) (by omega) (by omega) dX12_works_52 (ti_c (ig116 (B + 59) v8.toInt.toNat).toInt rfl fun z117 hz117 => ?_)
            rw [Ft.i hF 59 _ (by decide)] at hz117
            have kd8 : z117.toInt = kdO (σ v8.toInt.toNat) := by rw [hz117]; exact (hM _ (by omega)).1.1
            refine lv_iconst (v := 1) hx hb dX12_works_53 (by decide) (ti_c 1 (by decide) fun z119 hz119 => ?_)
            have J67 : ∀ (ls : Array Slot) (H : Heap) (locs : List Loc) (ig121 : sI) (lg122 : sG) (u120 : Int32), lv_has ls 3 [(1, .int v8), (0, .ref (B + 49))] → WD B D cA s.heap kd ig121 rg lg122 H locs → IM τ φ υ B kd ig121 rg → Ft B [49, 64, 65, 66, 67, 68, 69, 70, 71, 72, 73, 74] ig lg ig121 lg122 → (u120 = if kdO (σ v8.toInt.toNat) = 1 then Int32.ofInt (σ v8.toInt.toNat).1.2 else 0) → (dnM B σ v8.toInt.toNat ig121) → (InM B σ v8.toInt.toNat ig121 lg122) → ((∀ p, p < v8.toInt.toNat → (ig121 (B + 70) p).toInt = 0)) → (InN B σ v8.toInt.toNat ig121) → W p l e (rL 31 0 0) s m args below meth c H locs 0 0 (MQ below (QcW B D cA (PM τ φ υ B [49, 64, 65, 66, 67, 68, 69, 70, 71, 72, 73, 74] kd ig rg lg (fun r ig' lg' => (r = none ∧ (FVm B σ ig' ∧ TRm B σ ig' ∧ URm B σ ig' ∧ RdP B σ 288 lg'))))) args s 0 0 (fun q => B ≤ q)) (F0 m 67 ls [.int u120, .int v8, .ref (B + 66)]) := by
              intro ls H locs ig121 lg122 u120 hl hw hI hF g67_0 g67_1 g67_2 g67_3 g67_4
              have dn9 := g67_1
              have inm := g67_2
              have z9 := g67_3
              have in9 := g67_4
              refine r_iast C hw (hsh 66 _ rfl) (by omega) (by omega) dX12_works_67 (fun H locs hH hw => ?_)
              obtain ⟨ig123, eig123⟩ : ∃ f, f = up2 ig121 (B + 66) v8.toInt.toNat u120 := ⟨_, rfl⟩
              rw [← eig123] at hw
              have hF : Ft B [49, 64, 65, 66, 67, 68, 69, 70, 71, 72, 73, 74] ig lg ig123 lg122 := by rw [eig123]; exact hF.pi (by decide)
              have hI : IM τ φ υ B kd ig123 rg := by rw [eig123]; exact hI.pi (by decide) (show okR none _ from trivial)
              have dn9 : dnM B σ v8.toInt.toNat ig123 := by rw [eig123]; exact dn9.w (Or.inl (by decide))
              have wo9 : woM B σ v8.toInt.toNat ig123 := by rw [eig123]; exact woM.m g67_0
              have inm : InM B σ v8.toInt.toNat ig123 lg122 := by rw [eig123]; exact inm.w (Or.inr (Nat.le_refl _))
              have z9 : (∀ p, p < v8.toInt.toNat → (ig123 (B + 70) p).toInt = 0) := by rw [eig123]; exact fun p hp => by rw [up2_a (by omega)]; exact z9 p hp
              have in9 : InN B σ v8.toInt.toNat ig123 := by rw [eig123]; exact in9.w (Or.inl (by decide))
              refine lv_aload_n hx hb dX12_works_68 rfl (lv_at hl 1 rfl) ?_
              refine r_get C hw (hsh 49 _ rfl) fl_X12_105 (oV_r rfl (hrm (49, 24, 67) (by decide))) dX12_works_69 ?_
              refine lv_iload_n hx hb dX12_works_72 rfl (lv_at hl 0 rfl) ?_
              refine lv_aload_n hx hb dX12_works_73 rfl (lv_at hl 1 rfl) ?_
              refine r_get C hw (hsh 49 _ rfl) fl_X12_80 (oV_r rfl (hrm (49, 15, 59) (by decide))) dX12_works_74 ?_
              refine lv_iload_n hx hb dX12_works_77 rfl (lv_at hl 0 rfl) ?_
              refine r_iald C hw (hsh 59 _ rfl) (by omega) (by omega) dX12_works_78 (ti_c (ig123 (B + 59) v8.toInt.toNat).toInt rfl fun z124 hz124 => ?_)
              rw [Ft.i hF 59 _ (by decide)] at hz124
              have kd7 : z124.toInt = kdO (σ v8.toInt.toNat) := by rw [hz124]; exact (hM _ (by omega)).1.1
              refine lv_iconst (v := 2) hx hb dX12_works_79 (by decide) (ti_c 2 (by decide) fun z126 hz126 => ?_)
              have J96 : ∀ (ls : Array Slot) (H : Heap) (locs : List Loc) (ig128 : sI) (lg129 : sG) (u127 : Int32), lv_has ls 3 [(1, .int v8), (0, .ref (B + 49))] → WD B D cA s.heap kd ig128 rg lg129 H locs → IM τ φ υ B kd ig128 rg → Ft B [49, 64, 65, 66, 67, 68, 69, 70, 71, 72, 73, 74] ig lg ig128 lg129 → ((kdO (σ v8.toInt.toNat) = 2 ∧ Rg σ v8.toInt.toNat → u127 = 2) ∧ (¬ (kdO (σ v8.toInt.toNat) = 2 ∧ Rg σ v8.toInt.toNat) → u127 = 0)) → (dnM B σ v8.toInt.toNat ig128) → (woM B σ v8.toInt.toNat ig128) → (InM B σ v8.toInt.toNat ig128 lg129) → ((∀ p, p < v8.toInt.toNat → (ig128 (B + 70) p).toInt = 0)) → (InN B σ v8.toInt.toNat ig128) → W p l e (rL 31 0 0) s m args below meth c H locs 0 0 (MQ below (QcW B D cA (PM τ φ υ B [49, 64, 65, 66, 67, 68, 69, 70, 71, 72, 73, 74] kd ig rg lg (fun r ig' lg' => (r = none ∧ (FVm B σ ig' ∧ TRm B σ ig' ∧ URm B σ ig' ∧ RdP B σ 288 lg'))))) args s 0 0 (fun q => B ≤ q)) (F0 m 96 ls [.int u127, .int v8, .ref (B + 67)]) := by
                intro ls H locs ig128 lg129 u127 hl hw hI hF g96_0 g96_1 g96_2 g96_3 g96_4 g96_5
                have dn9 := g96_1
                have wo9 := g96_2
                have inm := g96_3
                have z9 := g96_4
                have in9 := g96_5
                refine r_iast C hw (hsh 67 _ rfl) (by omega) (by omega) dX12_works_96 (fun H locs hH hw => ?_)
                obtain ⟨ig130, eig130⟩ : ∃ f, f = up2 ig128 (B + 67) v8.toInt.toNat u127 := ⟨_, rfl⟩
                rw [← eig130] at hw
                have hF : Ft B [49, 64, 65, 66, 67, 68, 69, 70, 71, 72, 73, 74] ig lg ig130 lg129 := by rw [eig130]; exact hF.pi (by decide)
                have hI : IM τ φ υ B kd ig130 rg := by rw [eig130]; exact hI.pi (by decide) (show okR none _ from trivial)
                have dn9 : dnM B σ v8.toInt.toNat ig130 := by rw [eig130]; exact dn9.w (Or.inl (by decide))
                have wo9 : woM B σ v8.toInt.toNat ig130 := by rw [eig130]; exact wo9.w (Or.inl (by decide))
                have er9 : erM B σ v8.toInt.toNat ig130 := by rw [eig130]; exact erM.m g96_0
                have inm : InM B σ v8.toInt.toNat ig130 lg129 := by rw [eig130]; exact inm.w (Or.inr (Nat.le_refl _))
                have z9 : (∀ p, p < v8.toInt.toNat → (ig130 (B + 70) p).toInt = 0) := by rw [eig130]; exact fun p hp => by rw [up2_a (by omega)]; exact z9 p hp
                have in9 : InN B σ v8.toInt.toNat ig130 := by rw [eig130]; exact in9.w (Or.inl (by decide))
                refine lv_aload_n hx hb dX12_works_97 rfl (lv_at hl 1 rfl) ?_
                refine r_get C hw (hsh 49 _ rfl) fl_X12_111 (oV_r rfl (hrm (49, 26, 69) (by decide))) dX12_works_98 ?_
                refine lv_iload_n hx hb dX12_works_101 rfl (lv_at hl 0 rfl) ?_
                refine lv_iconst (v := 0) hx hb dX12_works_102 (by decide) (ti_c 0 (by decide) fun z131 hz131 => ?_)
                refine r_zast C hw (hsh 69 _ rfl) (by omega) (by omega) (nar_b (by omega)) dX12_works_103 (fun H locs hH hw => ?_)
                obtain ⟨ig132, eig132⟩ : ∃ f, f = up2 ig130 (B + 69) v8.toInt.toNat z131 := ⟨_, rfl⟩
                rw [← eig132] at hw
                have hF : Ft B [49, 64, 65, 66, 67, 68, 69, 70, 71, 72, 73, 74] ig lg ig132 lg129 := by rw [eig132]; exact hF.pi (by decide)
                have hI : IM τ φ υ B kd ig132 rg := by rw [eig132]; exact hI.pi (by decide) (show okR none _ from trivial)
                have dn9 : dnM B σ v8.toInt.toNat ig132 := by rw [eig132]; exact dn9.w (Or.inl (by decide))
                have wo9 : woM B σ v8.toInt.toNat ig132 := by rw [eig132]; exact wo9.w (Or.inl (by decide))
                have er9 : erM B σ v8.toInt.toNat ig132 := by rw [eig132]; exact er9.w (Or.inl (by decide))
                have inm : InM B σ v8.toInt.toNat ig132 lg129 := by rw [eig132]; exact inm.w (Or.inl (by decide))
                have z9 : (∀ p, p < v8.toInt.toNat → (ig132 (B + 70) p).toInt = 0) := by rw [eig132]; exact fun p hp => by rw [up2_a (by omega)]; exact z9 p hp
                have in9 : InN B σ v8.toInt.toNat ig132 := by rw [eig132]; exact in9.w (Or.inr (Or.inr ⟨rfl, Nat.le_refl _⟩))
                have cm9 : clM B ig132 v8.toInt.toNat = false := by show czB (ig132 (B + 69) v8.toInt.toNat) = false; rw [eig132, up2_eq]; exact czB_0 (by omega)
                refine lv_aload_n hx hb dX12_works_104 rfl (lv_at hl 1 rfl) ?_
                refine r_get C hw (hsh 49 _ rfl) fl_X12_114 (oV_r rfl (hrm (49, 27, 70) (by decide))) dX12_works_105 ?_
                refine lv_iload_n hx hb dX12_works_108 rfl (lv_at hl 0 rfl) ?_
                refine lv_iconst (v := 0) hx hb dX12_works_109 (by decide) (ti_c 0 (by decide) fun z133 hz133 => ?_)
                refine r_zast C hw (hsh 70 _ rfl) (by omega) (by omega) (nar_b (by omega)) dX12_works_110 (fun H locs hH hw => ?_)
                obtain ⟨ig134, eig134⟩ : ∃ f, f = up2 ig132 (B + 70) v8.toInt.toNat z133 := ⟨_, rfl⟩
                rw [← eig134] at hw
                have hF : Ft B [49, 64, 65, 66, 67, 68, 69, 70, 71, 72, 73, 74] ig lg ig134 lg129 := by rw [eig134]; exact hF.pi (by decide)
                have hI : IM τ φ υ B kd ig134 rg := by rw [eig134]; exact hI.pi (by decide) (show okR none _ from trivial)
                have dn9 : dnM B σ v8.toInt.toNat ig134 := by rw [eig134]; exact dn9.w (Or.inl (by decide))
                have wo9 : woM B σ v8.toInt.toNat ig134 := by rw [eig134]; exact wo9.w (Or.inl (by decide))
                have er9 : erM B σ v8.toInt.toNat ig134 := by rw [eig134]; exact er9.w (Or.inl (by decide))
                have inm : InM B σ v8.toInt.toNat ig134 lg129 := by rw [eig134]; exact inm.w (Or.inl (by decide))
                have z9 : (∀ p, p < v8.toInt.toNat + 1 → (ig134 (B + 70) p).toInt = 0) := by rw [eig134]; exact fun p hp => by by_cases c : p = v8.toInt.toNat; (rw [c, up2_eq]; omega); (rw [up2_j c]; exact z9 p (by omega))
                have in9 : InN B σ v8.toInt.toNat ig134 := by rw [eig134]; exact in9.w (Or.inl (by decide))
                have cm9 : clM B ig134 v8.toInt.toNat = false := by show czB (ig134 (B + 69) v8.toInt.toNat) = false; rw [eig134, up2_a (by omega)]; exact cm9
                refine lv_iconst (v := 0) hx hb dX12_works_111 (by decide) (ti_c 0 (by decide) fun z135 hz135 => ?_)
                refine lv_istore_n (lv' := [(2, .int z135), (1, .int v8), (0, .ref (B + 49))]) hx hb dX12_works_112 rfl hl (by decide) rfl (fun ls hl => ?_)
                have L113 : ∀ (n : Nat) (ls : Array Slot) (H : Heap) (locs : List Loc) (ig137 : sI) (lg138 : sG) (v136 : Int32), lv_has ls 3 [(2, .int v136), (1, .int v8), (0, .ref (B + 49))] → WD B D cA s.heap kd ig137 rg lg138 H locs → IM τ φ υ B kd ig137 rg → Ft B [49, 64, 65, 66, 67, 68, 69, 70, 71, 72, 73, 74] ig lg ig137 lg138 → (0 ≤ v136.toInt) → (v136.toInt ≤ 3) → (dnM B σ v8.toInt.toNat ig137) → (woM B σ v8.toInt.toNat ig137) → (erM B σ v8.toInt.toNat ig137) → (InM B σ v8.toInt.toNat ig137 lg138) → ((∀ p, p < v8.toInt.toNat + 1 → (ig137 (B + 70) p).toInt = 0)) → (InN B σ v8.toInt.toNat ig137) → (clM B ig137 v8.toInt.toNat = false) → (InP B σ v8.toInt.toNat v136.toInt ig137) → 3 - v136.toInt < (n : Int) → W p l e (rL 31 0 0) s m args below meth c H locs 0 0 (MQ below (QcW B D cA (PM τ φ υ B [49, 64, 65, 66, 67, 68, 69, 70, 71, 72, 73, 74] kd ig rg lg (fun r ig' lg' => (r = none ∧ (FVm B σ ig' ∧ TRm B σ ig' ∧ URm B σ ig' ∧ RdP B σ 288 lg'))))) args s 0 0 (fun q => B ≤ q)) (F0 m 113 ls []) := by
                  intro n113
                  induction n113 with
                  | zero => intro ls H locs ig137 lg138 v136 hl hw hI hF g113_0 g113_1 g113_2 g113_3 g113_4 g113_5 g113_6 g113_7 g113_8 g113_9 hmu; exact absurd hmu (by omega)
                  | succ n113 ih113 =>
                    intro ls H locs ig137 lg138 v136 hl hw hI hF g113_0 g113_1 g113_2 g113_3 g113_4 g113_5 g113_6 g113_7 g113_8 g113_9 hmu
                    have dn9 := g113_2
                    have wo9 := g113_3
                    have er9 := g113_4
                    have inm := g113_5
                    have z9 := g113_6
                    have in9 := g113_7
                    have cm9 := g113_8
                    refine lv_iload_n hx hb dX12_works_113 rfl (lv_at hl 0 rfl) ?_
                    refine lv_iconst (v := 3) hx hb dX12_works_114 (by decide) (ti_c 3 (by decide) fun z139 hz139 => ?_)
                    refine b_ge (tgt := 158) hx hb dX12_works_115 (by decide) (fun c115 => ?_) (fun c115 => ?_)
                    · refine tc_inc hx hb dX12_works_158 hl (k := 1) rfl (by decide) (by decide) (fun z140 hz140 ls hl => ?_)
                      first | replace hz140 := hz140 (by omega) | clear hz140
                      have hl : lv_has ls 3 [(1, .int z140), (2, .int v136), (0, .ref (B + 49))] := hl
                      refine lv_goto (tgt := 6) hx hb dX12_works_161 (by decide) ?_
                      exact ih6 ls H locs ig137 lg138 z140 (lv_sub hl [0, 2] rfl) hw hI hF (by omega) (by omega) (by rw [show z140.toInt.toNat = v8.toInt.toNat + 1 by omega]; exact inm.s dn9 wo9 er9) (by rw [show z140.toInt.toNat = v8.toInt.toNat + 1 by omega]; exact z9) (by rw [show z140.toInt.toNat = v8.toInt.toNat + 1 by omega]; exact in9.s (by have q9 := g113_9; rw [show v136.toInt = 3 by omega] at q9; exact q9) cm9) (by omega)
                    · refine lv_aload_n hx hb dX12_works_118 rfl (lv_at hl 2 rfl) ?_
                      refine r_get C hw (hsh 49 _ rfl) fl_X12_108 (oV_r rfl (hrm (49, 25, 68) (by decide))) dX12_works_119 ?_
                      refine lv_iconst (v := 3) hx hb dX12_works_122 (by decide) (ti_c 3 (by decide) fun z141 hz141 => ?_)
                      refine lv_iload_n hx hb dX12_works_123 rfl (lv_at hl 1 rfl) ?_
                      refine lv_imul hx hb dX12_works_124 (tc_mulL 3 hz141 fun z142 hz142 => ?_)
                      first | replace hz142 := hz142 (by omega) | clear hz142
                      refine lv_iload_n hx hb dX12_works_125 rfl (lv_at hl 0 rfl) ?_
                      refine lv_iadd hx hb dX12_works_126 (tc_add fun z143 hz143 => ?_)
                      first | replace hz143 := hz143 (by omega) | clear hz143
                      refine lv_aload_n hx hb dX12_works_127 rfl (lv_at hl 2 rfl) ?_
                      refine r_get C hw (hsh 49 _ rfl) fl_X12_80 (oV_r rfl (hrm (49, 15, 59) (by decide))) dX12_works_128 ?_
                      refine lv_iload_n hx hb dX12_works_131 rfl (lv_at hl 1 rfl) ?_
                      refine r_iald C hw (hsh 59 _ rfl) (by omega) (by omega) dX12_works_132 (ti_c (ig137 (B + 59) v8.toInt.toNat).toInt rfl fun z144 hz144 => ?_)
                      rw [Ft.i hF 59 _ (by decide)] at hz144
                      have kd6 : z144.toInt = kdO (σ v8.toInt.toNat) := by rw [hz144]; exact (hM _ (by omega)).1.1
                      refine lv_iconst (v := 1) hx hb dX12_works_133 (by decide) (ti_c 1 (by decide) fun z146 hz146 => ?_)
                      refine b_ne (tgt := 150) hx hb dX12_works_134 (by decide) (fun c134 => ?_) (fun c134 => ?_)
                      · refine lv_iconst (v := 0) hx hb dX12_works_150 (by decide) (ti_c 0 (by decide) fun z147 hz147 => ?_)
                        refine r_iast C hw (hsh 68 _ rfl) (by omega) (by omega) dX12_works_151 (fun H locs hH hw => ?_)
                        obtain ⟨ig148, eig148⟩ : ∃ f, f = up2 ig137 (B + 68) z143.toInt.toNat z147 := ⟨_, rfl⟩
                        rw [← eig148] at hw
                        have hF : Ft B [49, 64, 65, 66, 67, 68, 69, 70, 71, 72, 73, 74] ig lg ig148 lg138 := by rw [eig148]; exact hF.pi (by decide)
                        have hI : IM τ φ υ B kd ig148 rg := by rw [eig148]; exact hI.pi (by decide) (show okR none _ from trivial)
                        have dn9 : dnM B σ v8.toInt.toNat ig148 := by rw [eig148]; exact dn9.w (Or.inl (by decide))
                        have wo9 : woM B σ v8.toInt.toNat ig148 := by rw [eig148]; exact wo9.w (Or.inl (by decide))
                        have er9 : erM B σ v8.toInt.toNat ig148 := by rw [eig148]; exact er9.w (Or.inl (by decide))
                        have inm : InM B σ v8.toInt.toNat ig148 lg138 := by rw [eig148]; exact inm.w (Or.inl (by decide))
                        have z9 : (∀ p, p < v8.toInt.toNat + 1 → (ig148 (B + 70) p).toInt = 0) := by rw [eig148]; exact fun p hp => by rw [up2_a (by omega)]; exact z9 p hp
                        have ip9 : InP B σ v8.toInt.toNat (v136.toInt + 1) ig148 := by rw [eig148]; exact InP.step g113_9 (by omega) (by omega) ((by rw [unC_f hW (by omega) (by omega), ucp_0]; exact i32_z (by omega)))
                        have in9 : InN B σ v8.toInt.toNat ig148 := by rw [eig148]; exact in9.w (Or.inr (Or.inl ⟨rfl, by omega⟩))
                        have cm9 : clM B ig148 v8.toInt.toNat = false := by show czB (ig148 (B + 69) v8.toInt.toNat) = false; rw [eig148, up2_a (by omega)]; exact cm9
                        refine tc_inc hx hb dX12_works_152 hl (k := 0) rfl (by decide) (by decide) (fun z149 hz149 ls hl => ?_)
                        first | replace hz149 := hz149 (by omega) | clear hz149
                        have hl : lv_has ls 3 [(2, .int z149), (1, .int v8), (0, .ref (B + 49))] := hl
                        refine lv_goto (tgt := 113) hx hb dX12_works_155 (by decide) ?_
                        exact ih113 ls H locs ig148 lg138 z149 (lv_sub hl [0, 1, 2] rfl) hw hI hF (by omega) (by omega) (dn9) (wo9) (er9) (inm) (z9) (in9) (cm9) (by rw [show z149.toInt = v136.toInt + 1 by omega]; exact ip9) (by omega)
                      · refine lv_aload_n hx hb dX12_works_137 rfl (lv_at hl 2 rfl) ?_
                        refine r_get C hw (hsh 49 _ rfl) fl_X12_86 (oV_r rfl (hrm (49, 17, 61) (by decide))) dX12_works_138 ?_
                        refine lv_iconst (v := 3) hx hb dX12_works_141 (by decide) (ti_c 3 (by decide) fun z150 hz150 => ?_)
                        refine lv_iload_n hx hb dX12_works_142 rfl (lv_at hl 1 rfl) ?_
                        refine lv_imul hx hb dX12_works_143 (tc_mulL 3 hz150 fun z151 hz151 => ?_)
                        first | replace hz151 := hz151 (by omega) | clear hz151
                        refine lv_iload_n hx hb dX12_works_144 rfl (lv_at hl 0 rfl) ?_
                        refine lv_iadd hx hb dX12_works_145 (tc_add fun z152 hz152 => ?_)
                        first | replace hz152 := hz152 (by omega) | clear hz152
                        refine r_iald C hw (hsh 61 _ rfl) (by omega) (by omega) dX12_works_146 (ti_c (ig137 (B + 61) z152.toInt.toNat).toInt rfl fun z153 hz153 => ?_)
                        rw [Ft.i hF 61 _ (by decide)] at hz153
                        refine lv_goto (tgt := 151) hx hb dX12_works_147 (by decide) ?_
                        refine r_iast C hw (hsh 68 _ rfl) (by omega) (by omega) dX12_works_151 (fun H locs hH hw => ?_)
                        obtain ⟨ig155, eig155⟩ : ∃ f, f = up2 ig137 (B + 68) z143.toInt.toNat z153 := ⟨_, rfl⟩
                        rw [← eig155] at hw
                        have hF : Ft B [49, 64, 65, 66, 67, 68, 69, 70, 71, 72, 73, 74] ig lg ig155 lg138 := by rw [eig155]; exact hF.pi (by decide)
                        have hI : IM τ φ υ B kd ig155 rg := by rw [eig155]; exact hI.pi (by decide) (show okR none _ from trivial)
                        have dn9 : dnM B σ v8.toInt.toNat ig155 := by rw [eig155]; exact dn9.w (Or.inl (by decide))
                        have wo9 : woM B σ v8.toInt.toNat ig155 := by rw [eig155]; exact wo9.w (Or.inl (by decide))
                        have er9 : erM B σ v8.toInt.toNat ig155 := by rw [eig155]; exact er9.w (Or.inl (by decide))
                        have inm : InM B σ v8.toInt.toNat ig155 lg138 := by rw [eig155]; exact inm.w (Or.inl (by decide))
                        have z9 : (∀ p, p < v8.toInt.toNat + 1 → (ig155 (B + 70) p).toInt = 0) := by rw [eig155]; exact fun p hp => by rw [up2_a (by omega)]; exact z9 p hp
                        have ip9 : InP B σ v8.toInt.toNat (v136.toInt + 1) ig155 := by rw [eig155]; exact InP.step g113_9 (by omega) (by omega) (unC_cp (by omega) (by rw [hz153]; exact RowU.at (hM _ (by omega)).2.1 (by omega) (by omega)))
                        have in9 : InN B σ v8.toInt.toNat ig155 := by rw [eig155]; exact in9.w (Or.inr (Or.inl ⟨rfl, by omega⟩))
                        have cm9 : clM B ig155 v8.toInt.toNat = false := by show czB (ig155 (B + 69) v8.toInt.toNat) = false; rw [eig155, up2_a (by omega)]; exact cm9
                        refine tc_inc hx hb dX12_works_152 hl (k := 0) rfl (by decide) (by decide) (fun z156 hz156 ls hl => ?_)
                        first | replace hz156 := hz156 (by omega) | clear hz156
                        have hl : lv_has ls 3 [(2, .int z156), (1, .int v8), (0, .ref (B + 49))] := hl
                        refine lv_goto (tgt := 113) hx hb dX12_works_155 (by decide) ?_
                        exact ih113 ls H locs ig155 lg138 z156 (lv_sub hl [0, 1, 2] rfl) hw hI hF (by omega) (by omega) (dn9) (wo9) (er9) (inm) (z9) (in9) (cm9) (by rw [show z156.toInt = v136.toInt + 1 by omega]; exact ip9) (by omega)
                exact L113 ((3 - z135.toInt) + 1).toNat ls H locs ig134 lg129 z135 (lv_sub hl [0, 1, 2] rfl) hw hI hF (by omega) (by omega) (dn9) (wo9) (er9) (inm) (z9) (in9) (cm9) (fun k hk => absurd hk (by omega)) (by omega)
              refine b_ne (tgt := 95) hx hb dX12_works_80 (by decide) (fun c80 => ?_) (fun c80 => ?_)
              · refine lv_iconst (v := 0) hx hb dX12_works_95 (by decide) (ti_c 0 (by decide) fun z157 hz157 => ?_)
                exact J96 ls H locs ig123 lg122 z157 (lv_sub hl [0, 1] rfl) hw hI hF (⟨fun q => absurd q.1 (by omega), fun _ => i32_z (by omega)⟩) (dn9) (wo9) (inm) (z9) (in9)
              · refine lv_aload_n hx hb dX12_works_83 rfl (lv_at hl 1 rfl) ?_
                refine lv_iload_n hx hb dX12_works_84 rfl (lv_at hl 0 rfl) ?_
                refine r_callV (As := [.int v8]) (rest := [.int v8, .ref (B + 67)]) C hw (t_X12_isRingE l B D cA kd ig123 rg lg122 _ v8 (by omega) σ inm.1.2 hI) sv_X12_229 (hsh 49 _ rfl) rfl hl.1 rfl (Nat.le_of_ble_eq_true rfl) ⟨Nat.le_of_ble_eq_true rfl, Nat.le_of_ble_eq_true rfl⟩ ⟨Nat.le_of_ble_eq_true rfl, Nat.le_of_ble_eq_true rfl⟩ dX12_works_85 (fun r162 kd158 ig159 rg160 lg161 H locs hw hH hp163 => ?_)
                obtain ⟨rfl, rfl, rfl, rfl, hzhp163, hrhp163⟩ := hp163
                obtain ⟨z164, rfl, hz164⟩ := hrhp163
                have rg8 := hz164
                refine z_eq (tgt := 95) hx hb dX12_works_88 (by decide) (fun c88 => ?_) (fun c88 => ?_)
                · refine lv_iconst (v := 0) hx hb dX12_works_95 (by decide) (ti_c 0 (by decide) fun z165 hz165 => ?_)
                  exact J96 ls H locs ig123 lg122 z165 (lv_sub hl [0, 1] rfl) hw hI hF (⟨fun q => absurd q.2 (by0 rg8 (by omega)), fun _ => i32_z (by omega)⟩) (dn9) (wo9) (inm) (z9) (in9)
                · refine lv_iconst (v := 2) hx hb dX12_works_91 (by decide) (ti_c 2 (by decide) fun z166 hz166 => ?_)
                  refine lv_goto (tgt := 96) hx hb dX12_works_92 (by decide) ?_
                  exact J96 ls H locs ig123 lg122 z166 (lv_sub hl [0, 1] rfl) hw hI hF (⟨fun _ => i32_2 (by omega), fun q => absurd ⟨by omega, by1 rg8 (by omega)⟩ q⟩) (dn9) (wo9) (inm) (z9) (in9)
            refine b_ne (tgt := 66) hx hb dX12_works_54 (by decide) (fun c54 => ?_) (fun c54 => ?_)
            · refine lv_iconst (v := 0) hx hb dX12_works_66 (by decide) (ti_c 0 (by decide) fun z167 hz167 => ?_)
              exact J67 ls H locs ig116 lg10 z167 (lv_sub hl [0, 1] rfl) hw hI hF ((by rw [if_neg (by omega)]; exact i32_z (by omega))) (dn9) (inm) (z9) (in9)
            · refine lv_aload_n hx hb dX12_works_57 rfl (lv_at hl 1 rfl) ?_
              refine r_get C hw (hsh 49 _ rfl) fl_X12_83 (oV_r rfl (hrm (49, 16, 60) (by decide))) dX12_works_58 ?_
              refine lv_iload_n hx hb dX12_works_61 rfl (lv_at hl 0 rfl) ?_
              refine r_iald C hw (hsh 60 _ rfl) (by omega) (by omega) dX12_works_62 (ti_c (ig116 (B + 60) v8.toInt.toNat).toInt rfl fun z168 hz168 => ?_)
              rw [Ft.i hF 60 _ (by decide)] at hz168
              refine lv_goto (tgt := 67) hx hb dX12_works_63 (by decide) ?_
              exact J67 ls H locs ig116 lg10 z168 (lv_sub hl [0, 1] rfl) hw hI hF ((by rw [if_pos (by omega)]; exact i32_of (by rw [hz168]; exact (hM _ (by omega)).1.2))) (dn9) (inm) (z9) (in9)
          · refine lv_iconst (v := 1) hx hb dX12_works_36 (by decide) (ti_c 1 (by decide) fun z170 hz170 => ?_)
            refine lv_goto (tgt := 41) hx hb dX12_works_37 (by decide) ?_
            refine r_zast C hw (hsh 73 _ rfl) (by omega) (by omega) (nar_b (by omega)) dX12_works_41 (fun H locs hH hw => ?_)
            obtain ⟨ig171, eig171⟩ : ∃ f, f = up2 ig9 (B + 73) v8.toInt.toNat z170 := ⟨_, rfl⟩
            rw [← eig171] at hw
            have hF : Ft B [49, 64, 65, 66, 67, 68, 69, 70, 71, 72, 73, 74] ig lg ig171 lg10 := by rw [eig171]; exact hF.pi (by decide)
            have hI : IM τ φ υ B kd ig171 rg := by rw [eig171]; exact hI.pi (by decide) (show okR none _ from trivial)
            have dn9 : dnM B σ v8.toInt.toNat ig171 := by rw [eig171]; exact dnM.m1 (by omega) (fun q => q.2 (by1 rg9 (by omega)))
            have inm : InM B σ v8.toInt.toNat ig171 lg10 := by rw [eig171]; exact inm.w (Or.inr (Nat.le_refl _))
            have z9 : (∀ p, p < v8.toInt.toNat → (ig171 (B + 70) p).toInt = 0) := by rw [eig171]; exact fun p hp => by rw [up2_a (by omega)]; exact z9 p hp
            have in9 : InN B σ v8.toInt.toNat ig171 := by rw [eig171]; exact in9.w (Or.inl (by decide))
            refine lv_aload_n hx hb dX12_works_42 rfl (lv_at hl 1 rfl) ?_
            refine r_get C hw (hsh 49 _ rfl) fl_X12_102 (oV_r rfl (hrm (49, 23, 66) (by decide))) dX12_works_43 ?_
            refine lv_iload_n hx hb dX12_works_46 rfl (lv_at hl 0 rfl) ?_
            refine lv_aload_n hx hb dX12_works_47 rfl (lv_at hl 1 rfl) ?_
            refine r_get C hw (hsh 49 _ rfl) fl_X12_80 (oV_r rfl (hrm (49, 15, 59) (by decide))) dX12_works_48 ?_
            refine lv_iload_n hx hb dX12_works_51 rfl (lv_at hl 0 rfl) ?_
            refine r_iald C hw (hsh 59 _ rfl) (by omega) (by omega) dX12_works_52 (ti_c (ig171 (B + 59) v8.toInt.toNat).toInt rfl fun z172 hz172 => ?_)
            rw [Ft.i hF 59 _ (by decide)] at hz172
            have kd8 : z172.toInt = kdO (σ v8.toInt.toNat) := by rw [hz172]; exact (hM _ (by omega)).1.1
            refine lv_iconst (v := 1) hx hb dX12_works_53 (by decide) (ti_c 1 (by decide) fun z174 hz174 => ?_)
            have J67 : ∀ (ls : Array Slot) (H : Heap) (locs : List Loc) (ig176 : sI) (lg177 : sG) (u175 : Int32), lv_has ls 3 [(1, .int v8), (0, .ref (B + 49))] → WD B D cA s.heap kd ig176 rg lg177 H locs → IM τ φ υ B kd ig176 rg → Ft B [49, 64, 65, 66, 67, 68, 69, 70, 71, 72, 73, 74] ig lg ig176 lg177 → (u175 = if kdO (σ v8.toInt.toNat) = 1 then Int32.ofInt (σ v8.toInt.toNat).1.2 else 0) → (dnM B σ v8.toInt.toNat ig176) → (InM B σ v8.toInt.toNat ig176 lg177) → ((∀ p, p < v8.toInt.toNat → (ig176 (B + 70) p).toInt = 0)) → (InN B σ v8.toInt.toNat ig176) → W p l e (rL 31 0 0) s m args below meth c H locs 0 0 (MQ below (QcW B D cA (PM τ φ υ B [49, 64, 65, 66, 67, 68, 69, 70, 71, 72, 73, 74] kd ig rg lg (fun r ig' lg' => (r = none ∧ (FVm B σ ig' ∧ TRm B σ ig' ∧ URm B σ ig' ∧ RdP B σ 288 lg'))))) args s 0 0 (fun q => B ≤ q)) (F0 m 67 ls [.int u175, .int v8, .ref (B + 66)]) := by
              intro ls H locs ig176 lg177 u175 hl hw hI hF g67_0 g67_1 g67_2 g67_3 g67_4
              have dn9 := g67_1
              have inm := g67_2
              have z9 := g67_3
              have in9 := g67_4
              refine r_iast C hw (hsh 66 _ rfl) (by omega) (by omega) dX12_works_67 (fun H locs hH hw => ?_)
              obtain ⟨ig178, eig178⟩ : ∃ f, f = up2 ig176 (B + 66) v8.toInt.toNat u175 := ⟨_, rfl⟩
              rw [← eig178] at hw
              have hF : Ft B [49, 64, 65, 66, 67, 68, 69, 70, 71, 72, 73, 74] ig lg ig178 lg177 := by rw [eig178]; exact hF.pi (by decide)
              have hI : IM τ φ υ B kd ig178 rg := by rw [eig178]; exact hI.pi (by decide) (show okR none _ from trivial)
              have dn9 : dnM B σ v8.toInt.toNat ig178 := by rw [eig178]; exact dn9.w (Or.inl (by decide))
              have wo9 : woM B σ v8.toInt.toNat ig178 := by rw [eig178]; exact woM.m g67_0
              have inm : InM B σ v8.toInt.toNat ig178 lg177 := by rw [eig178]; exact inm.w (Or.inr (Nat.le_refl _))
              have z9 : (∀ p, p < v8.toInt.toNat → (ig178 (B + 70) p).toInt = 0) := by rw [eig178]; exact fun p hp => by rw [up2_a (by omega)]; exact z9 p hp
              have in9 : InN B σ v8.toInt.toNat ig178 := by rw [eig178]; exact in9.w (Or.inl (by decide))
              refine lv_aload_n hx hb dX12_works_68 rfl (lv_at hl 1 rfl) ?_
              refine r_get C hw (hsh 49 _ rfl) fl_X12_105 (oV_r rfl (hrm (49, 24, 67) (by decide))) dX12_works_69 ?_
              refine lv_iload_n hx hb dX12_works_72 rfl (lv_at hl 0 rfl) ?_
              refine lv_aload_n hx hb dX12_works_73 rfl (lv_at hl 1 rfl) ?_
              refine r_get C hw (hsh 49 _ rfl) fl_X12_80 (oV_r rfl (hrm (49, 15, 59) (by decide))) dX12_works_74 ?_
              refine lv_iload_n hx hb dX12_works_77 rfl (lv_at hl 0 rfl) ?_
              refine r_iald C hw (hsh 59 _ rfl) (by omega) (by omega) dX12_works_78 (ti_c (ig178 (B + 59) v8.toInt.toNat).toInt rfl fun z179 hz179 => ?_)
              rw [Ft.i hF 59 _ (by decide)] at hz179
              have kd7 : z179.toInt = kdO (σ v8.toInt.toNat) := by rw [hz179]; exact (hM _ (by omega)).1.1
              refine lv_iconst (v := 2) hx hb dX12_works_79 (by decide) (ti_c 2 (by decide) fun z181 hz181 => ?_)
              have J96 : ∀ (ls : Array Slot) (H : Heap) (locs : List Loc) (ig183 : sI) (lg184 : sG) (u182 : Int32), lv_has ls 3 [(1, .int v8), (0, .ref (B + 49))] → WD B D cA s.heap kd ig183 rg lg184 H locs → IM τ φ υ B kd ig183 rg → Ft B [49, 64, 65, 66, 67, 68, 69, 70, 71, 72, 73, 74] ig lg ig183 lg184 → ((kdO (σ v8.toInt.toNat) = 2 ∧ Rg σ v8.toInt.toNat → u182 = 2) ∧ (¬ (kdO (σ v8.toInt.toNat) = 2 ∧ Rg σ v8.toInt.toNat) → u182 = 0)) → (dnM B σ v8.toInt.toNat ig183) → (woM B σ v8.toInt.toNat ig183) → (InM B σ v8.toInt.toNat ig183 lg184) → ((∀ p, p < v8.toInt.toNat → (ig183 (B + 70) p).toInt = 0)) → (InN B σ v8.toInt.toNat ig183) → W p l e (rL 31 0 0) s m args below meth c H locs 0 0 (MQ below (QcW B D cA (PM τ φ υ B [49, 64, 65, 66, 67, 68, 69, 70, 71, 72, 73, 74] kd ig rg lg (fun r ig' lg' => (r = none ∧ (FVm B σ ig' ∧ TRm B σ ig' ∧ URm B σ ig' ∧ RdP B σ 288 lg'))))) args s 0 0 (fun q => B ≤ q)) (F0 m 96 ls [.int u182, .int v8, .ref (B + 67)]) := by
                intro ls H locs ig183 lg184 u182 hl hw hI hF g96_0 g96_1 g96_2 g96_3 g96_4 g96_5
                have dn9 := g96_1
                have wo9 := g96_2
                have inm := g96_3
                have z9 := g96_4
                have in9 := g96_5
                refine r_iast C hw (hsh 67 _ rfl) (by omega) (by omega) dX12_works_96 (fun H locs hH hw => ?_)
                obtain ⟨ig185, eig185⟩ : ∃ f, f = up2 ig183 (B + 67) v8.toInt.toNat u182 := ⟨_, rfl⟩
                rw [← eig185] at hw
                have hF : Ft B [49, 64, 65, 66, 67, 68, 69, 70, 71, 72, 73, 74] ig lg ig185 lg184 := by rw [eig185]; exact hF.pi (by decide)
                have hI : IM τ φ υ B kd ig185 rg := by rw [eig185]; exact hI.pi (by decide) (show okR none _ from trivial)
                have dn9 : dnM B σ v8.toInt.toNat ig185 := by rw [eig185]; exact dn9.w (Or.inl (by decide))
                have wo9 : woM B σ v8.toInt.toNat ig185 := by rw [eig185]; exact wo9.w (Or.inl (by decide))
                have er9 : erM B σ v8.toInt.toNat ig185 := by rw [eig185]; exact erM.m g96_0
                have inm : InM B σ v8.toInt.toNat ig185 lg184 := by rw [eig185]; exact inm.w (Or.inr (Nat.le_refl _))
                have z9 : (∀ p, p < v8.toInt.toNat → (ig185 (B + 70) p).toInt = 0) := by rw [eig185]; exact fun p hp => by rw [up2_a (by omega)]; exact z9 p hp
                have in9 : InN B σ v8.toInt.toNat ig185 := by rw [eig185]; exact in9.w (Or.inl (by decide))
                refine lv_aload_n hx hb dX12_works_97 rfl (lv_at hl 1 rfl) ?_
                refine r_get C hw (hsh 49 _ rfl) fl_X12_111 (oV_r rfl (hrm (49, 26, 69) (by decide))) dX12_works_98 ?_
                refine lv_iload_n hx hb dX12_works_101 rfl (lv_at hl 0 rfl) ?_
                refine lv_iconst (v := 0) hx hb dX12_works_102 (by decide) (ti_c 0 (by decide) fun z186 hz186 => ?_)
                refine r_zast C hw (hsh 69 _ rfl) (by omega) (by omega) (nar_b (by omega)) dX12_works_103 (fun H locs hH hw => ?_)
                obtain ⟨ig187, eig187⟩ : ∃ f, f = up2 ig185 (B + 69) v8.toInt.toNat z186 := ⟨_, rfl⟩
                rw [← eig187] at hw
                have hF : Ft B [49, 64, 65, 66, 67, 68, 69, 70, 71, 72, 73, 74] ig lg ig187 lg184 := by rw [eig187]; exact hF.pi (by decide)
                have hI : IM τ φ υ B kd ig187 rg := by rw [eig187]; exact hI.pi (by decide) (show okR none _ from trivial)
                have dn9 : dnM B σ v8.toInt.toNat ig187 := by rw [eig187]; exact dn9.w (Or.inl (by decide))
                have wo9 : woM B σ v8.toInt.toNat ig187 := by rw [eig187]; exact wo9.w (Or.inl (by decide))
                have er9 : erM B σ v8.toInt.toNat ig187 := by rw [eig187]; exact er9.w (Or.inl (by decide))
                have inm : InM B σ v8.toInt.toNat ig187 lg184 := by rw [eig187]; exact inm.w (Or.inl (by decide))
                have z9 : (∀ p, p < v8.toInt.toNat → (ig187 (B + 70) p).toInt = 0) := by rw [eig187]; exact fun p hp => by rw [up2_a (by omega)]; exact z9 p hp
                have in9 : InN B σ v8.toInt.toNat ig187 := by rw [eig187]; exact in9.w (Or.inr (Or.inr ⟨rfl, Nat.le_refl _⟩))
                have cm9 : clM B ig187 v8.toInt.toNat = false := by show czB (ig187 (B + 69) v8.toInt.toNat) = false; rw [eig187, up2_eq]; exact czB_0 (by omega)
                refine lv_aload_n hx hb dX12_works_104 rfl (lv_at hl 1 rfl) ?_
                refine r_get C hw (hsh 49 _ rfl) fl_X12_114 (oV_r rfl (hrm (49, 27, 70) (by decide))) dX12_works_105 ?_
                refine lv_iload_n hx hb dX12_works_108 rfl (lv_at hl 0 rfl) ?_
                refine lv_iconst (v := 0) hx hb dX12_works_109 (by decide) (ti_c 0 (by decide) fun z188 hz188 => ?_)
                refine r_zast C hw (hsh 70 _ rfl) (by omega) (by omega) (nar_b (by omega)) dX12_works_110 (fun H locs hH hw => ?_)
                obtain ⟨ig189, eig189⟩ : ∃ f, f = up2 ig187 (B + 70) v8.toInt.toNat z188 := ⟨_, rfl⟩
                rw [← eig189] at hw
                have hF : Ft B [49, 64, 65, 66, 67, 68, 69, 70, 71, 72, 73, 74] ig lg ig189 lg184 := by rw [eig189]; exact hF.pi (by decide)
                have hI : IM τ φ υ B kd ig189 rg := by rw [eig189]; exact hI.pi (by decide) (show okR none _ from trivial)
                have dn9 : dnM B σ v8.toInt.toNat ig189 := by rw [eig189]; exact dn9.w (Or.inl (by decide))
                have wo9 : woM B σ v8.toInt.toNat ig189 := by rw [eig189]; exact wo9.w (Or.inl (by decide))
                have er9 : erM B σ v8.toInt.toNat ig189 := by rw [eig189]; exact er9.w (Or.inl (by decide))
                have inm : InM B σ v8.toInt.toNat ig189 lg184 := by rw [eig189]; exact inm.w (Or.inl (by decide))
                have z9 : (∀ p, p < v8.toInt.toNat + 1 → (ig189 (B + 70) p).toInt = 0) := by rw [eig189]; exact fun p hp => by by_cases c : p = v8.toInt.toNat; (rw [c, up2_eq]; omega); (rw [up2_j c]; exact z9 p (by omega))
                have in9 : InN B σ v8.toInt.toNat ig189 := by rw [eig189]; exact in9.w (Or.inl (by decide))
                have cm9 : clM B ig189 v8.toInt.toNat = false := by show czB (ig189 (B + 69) v8.toInt.toNat) = false; rw [eig189, up2_a (by omega)]; exact cm9
                refine lv_iconst (v := 0) hx hb dX12_works_111 (by decide) (ti_c 0 (by decide) fun z190 hz190 => ?_)
                refine lv_istore_n (lv' := [(2, .int z190), (1, .int v8), (0, .ref (B + 49))]) hx hb dX12_works_112 rfl hl (by decide) rfl (fun ls hl => ?_)
                have L113 : ∀ (n : Nat) (ls : Array Slot) (H : Heap) (locs : List Loc) (ig192 : sI) (lg193 : sG) (v191 : Int32), lv_has ls 3 [(2, .int v191), (1, .int v8), (0, .ref (B + 49))] → WD B D cA s.heap kd ig192 rg lg193 H locs → IM τ φ υ B kd ig192 rg → Ft B [49, 64, 65, 66, 67, 68, 69, 70, 71, 72, 73, 74] ig lg ig192 lg193 → (0 ≤ v191.toInt) → (v191.toInt ≤ 3) → (dnM B σ v8.toInt.toNat ig192) → (woM B σ v8.toInt.toNat ig192) → (erM B σ v8.toInt.toNat ig192) → (InM B σ v8.toInt.toNat ig192 lg193) → ((∀ p, p < v8.toInt.toNat + 1 → (ig192 (B + 70) p).toInt = 0)) → (InN B σ v8.toInt.toNat ig192) → (clM B ig192 v8.toInt.toNat = false) → (InP B σ v8.toInt.toNat v191.toInt ig192) → 3 - v191.toInt < (n : Int) → W p l e (rL 31 0 0) s m args below meth c H locs 0 0 (MQ below (QcW B D cA (PM τ φ υ B [49, 64, 65, 66, 67, 68, 69, 70, 71, 72, 73, 74] kd ig rg lg (fun r ig' lg' => (r = none ∧ (FVm B σ ig' ∧ TRm B σ ig' ∧ URm B σ ig' ∧ RdP B σ 288 lg'))))) args s 0 0 (fun q => B ≤ q)) (F0 m 113 ls []) := by
                  intro n113
                  induction n113 with
                  | zero => intro ls H locs ig192 lg193 v191 hl hw hI hF g113_0 g113_1 g113_2 g113_3 g113_4 g113_5 g113_6 g113_7 g113_8 g113_9 hmu; exact absurd hmu (by omega)
                  | succ n113 ih113 =>
                    intro ls H locs ig192 lg193 v191 hl hw hI hF g113_0 g113_1 g113_2 g113_3 g113_4 g113_5 g113_6 g113_7 g113_8 g113_9 hmu
                    have dn9 := g113_2
                    have wo9 := g113_3
                    have er9 := g113_4
                    have inm := g113_5
                    have z9 := g113_6
                    have in9 := g113_7
                    have cm9 := g113_8
                    refine lv_iload_n hx hb dX12_works_113 rfl (lv_at hl 0 rfl) ?_
                    refine lv_iconst (v := 3) hx hb dX12_works_114 (by decide) (ti_c 3 (by decide) fun z194 hz194 => ?_)
                    refine b_ge (tgt := 158) hx hb dX12_works_115 (by decide) (fun c115 => ?_) (fun c115 => ?_)
                    · refine tc_inc hx hb dX12_works_158 hl (k := 1) rfl (by decide) (by decide) (fun z195 hz195 ls hl => ?_)
                      first | replace hz195 := hz195 (by omega) | clear hz195
                      have hl : lv_has ls 3 [(1, .int z195), (2, .int v191), (0, .ref (B + 49))] := hl
                      refine lv_goto (tgt := 6) hx hb dX12_works_161 (by decide) ?_
                      exact ih6 ls H locs ig192 lg193 z195 (lv_sub hl [0, 2] rfl) hw hI hF (by omega) (by omega) (by rw [show z195.toInt.toNat = v8.toInt.toNat + 1 by omega]; exact inm.s dn9 wo9 er9) (by rw [show z195.toInt.toNat = v8.toInt.toNat + 1 by omega]; exact z9) (by rw [show z195.toInt.toNat = v8.toInt.toNat + 1 by omega]; exact in9.s (by have q9 := g113_9; rw [show v191.toInt = 3 by omega] at q9; exact q9) cm9) (by omega)
                    · refine lv_aload_n hx hb dX12_works_118 rfl (lv_at hl 2 rfl) ?_
                      refine r_get C hw (hsh 49 _ rfl) fl_X12_108 (oV_r rfl (hrm (49, 25, 68) (by decide))) dX12_works_119 ?_
                      refine lv_iconst (v := 3) hx hb dX12_works_122 (by decide) (ti_c 3 (by decide) fun z196 hz196 => ?_)
                      refine lv_iload_n hx hb dX12_works_123 rfl (lv_at hl 1 rfl) ?_
                      refine lv_imul hx hb dX12_works_124 (tc_mulL 3 hz196 fun z197 hz197 => ?_)
                      first | replace hz197 := hz197 (by omega) | clear hz197
                      refine lv_iload_n hx hb dX12_works_125 rfl (lv_at hl 0 rfl) ?_
                      refine lv_iadd hx hb dX12_works_126 (tc_add fun z198 hz198 => ?_)
                      first | replace hz198 := hz198 (by omega) | clear hz198
                      refine lv_aload_n hx hb dX12_works_127 rfl (lv_at hl 2 rfl) ?_
                      refine r_get C hw (hsh 49 _ rfl) fl_X12_80 (oV_r rfl (hrm (49, 15, 59) (by decide))) dX12_works_128 ?_
                      refine lv_iload_n hx hb dX12_works_131 rfl (lv_at hl 1 rfl) ?_
                      refine r_iald C hw (hsh 59 _ rfl) (by omega) (by omega) dX12_works_132 (ti_c (ig192 (B + 59) v8.toInt.toNat).toInt rfl fun z199 hz199 => ?_)
                      rw [Ft.i hF 59 _ (by decide)] at hz199
                      have kd6 : z199.toInt = kdO (σ v8.toInt.toNat) := by rw [hz199]; exact (hM _ (by omega)).1.1
                      refine lv_iconst (v := 1) hx hb dX12_works_133 (by decide) (ti_c 1 (by decide) fun z201 hz201 => ?_)
                      refine b_ne (tgt := 150) hx hb dX12_works_134 (by decide) (fun c134 => ?_) (fun c134 => ?_)
                      · refine lv_iconst (v := 0) hx hb dX12_works_150 (by decide) (ti_c 0 (by decide) fun z202 hz202 => ?_)
                        refine r_iast C hw (hsh 68 _ rfl) (by omega) (by omega) dX12_works_151 (fun H locs hH hw => ?_)
                        obtain ⟨ig203, eig203⟩ : ∃ f, f = up2 ig192 (B + 68) z198.toInt.toNat z202 := ⟨_, rfl⟩
                        rw [← eig203] at hw
                        have hF : Ft B [49, 64, 65, 66, 67, 68, 69, 70, 71, 72, 73, 74] ig lg ig203 lg193 := by rw [eig203]; exact hF.pi (by decide)
                        have hI : IM τ φ υ B kd ig203 rg := by rw [eig203]; exact hI.pi (by decide) (show okR none _ from trivial)
                        have dn9 : dnM B σ v8.toInt.toNat ig203 := by rw [eig203]; exact dn9.w (Or.inl (by decide))
                        have wo9 : woM B σ v8.toInt.toNat ig203 := by rw [eig203]; exact wo9.w (Or.inl (by decide))
                        have er9 : erM B σ v8.toInt.toNat ig203 := by rw [eig203]; exact er9.w (Or.inl (by decide))
                        have inm : InM B σ v8.toInt.toNat ig203 lg193 := by rw [eig203]; exact inm.w (Or.inl (by decide))
                        have z9 : (∀ p, p < v8.toInt.toNat + 1 → (ig203 (B + 70) p).toInt = 0) := by rw [eig203]; exact fun p hp => by rw [up2_a (by omega)]; exact z9 p hp
                        have ip9 : InP B σ v8.toInt.toNat (v191.toInt + 1) ig203 := by rw [eig203]; exact InP.step g113_9 (by omega) (by omega) ((by rw [unC_f hW (by omega) (by omega), ucp_0]; exact i32_z (by omega)))
                        have in9 : InN B σ v8.toInt.toNat ig203 := by rw [eig203]; exact in9.w (Or.inr (Or.inl ⟨rfl, by omega⟩))
                        have cm9 : clM B ig203 v8.toInt.toNat = false := by show czB (ig203 (B + 69) v8.toInt.toNat) = false; rw [eig203, up2_a (by omega)]; exact cm9
                        refine tc_inc hx hb dX12_works_152 hl (k := 0) rfl (by decide) (by decide) (fun z204 hz204 ls hl => ?_)
                        first | replace hz204 := hz204 (by omega) | clear hz204
                        have hl : lv_has ls 3 [(2, .int z204), (1, .int v8), (0, .ref (B + 49))] := hl
                        refine lv_goto (tgt := 113) hx hb dX12_works_155 (by decide) ?_
                        exact ih113 ls H locs ig203 lg193 z204 (lv_sub hl [0, 1, 2] rfl) hw hI hF (by omega) (by omega) (dn9) (wo9) (er9) (inm) (z9) (in9) (cm9) (by rw [show z204.toInt = v191.toInt + 1 by omega]; exact ip9) (by omega)
                      · refine lv_aload_n hx hb dX12_works_137 rfl (lv_at hl 2 rfl) ?_
                        refine r_get C hw (hsh 49 _ rfl) fl_X12_86 (oV_r rfl (hrm (49, 17, 61) (by decide))) dX12_works_138 ?_
                        refine lv_iconst (v := 3) hx hb dX12_works_141 (by decide) (ti_c 3 (by decide) fun z205 hz205 => ?_)
                        refine lv_iload_n hx hb dX12_works_142 rfl (lv_at hl 1 rfl) ?_
                        refine lv_imul hx hb dX12_works_143 (tc_mulL 3 hz205 fun z206 hz206 => ?_)
                        first | replace hz206 := hz206 (by omega) | clear hz206
                        refine lv_iload_n hx hb dX12_works_144 rfl (lv_at hl 0 rfl) ?_
                        refine lv_iadd hx hb dX12_works_145 (tc_add fun z207 hz207 => ?_)
                        first | replace hz207 := hz207 (by omega) | clear hz207
                        refine r_iald C hw (hsh 61 _ rfl) (by omega) (by omega) dX12_works_146 (ti_c (ig192 (B + 61) z207.toInt.toNat).toInt rfl fun z208 hz208 => ?_)
                        rw [Ft.i hF 61 _ (by decide)] at hz208
                        refine lv_goto (tgt := 151) hx hb dX12_works_147 (by decide) ?_
                        refine r_iast C hw (hsh 68 _ rfl) (by omega) (by omega) dX12_works_151 (fun H locs hH hw => ?_)
                        obtain ⟨ig210, eig210⟩ : ∃ f, f = up2 ig192 (B + 68) z198.toInt.toNat z208 := ⟨_, rfl⟩
                        rw [← eig210] at hw
                        have hF : Ft B [49, 64, 65, 66, 67, 68, 69, 70, 71, 72, 73, 74] ig lg ig210 lg193 := by rw [eig210]; exact hF.pi (by decide)
                        have hI : IM τ φ υ B kd ig210 rg := by rw [eig210]; exact hI.pi (by decide) (show okR none _ from trivial)
                        have dn9 : dnM B σ v8.toInt.toNat ig210 := by rw [eig210]; exact dn9.w (Or.inl (by decide))
                        have wo9 : woM B σ v8.toInt.toNat ig210 := by rw [eig210]; exact wo9.w (Or.inl (by decide))
                        have er9 : erM B σ v8.toInt.toNat ig210 := by rw [eig210]; exact er9.w (Or.inl (by decide))
                        have inm : InM B σ v8.toInt.toNat ig210 lg193 := by rw [eig210]; exact inm.w (Or.inl (by decide))
                        have z9 : (∀ p, p < v8.toInt.toNat + 1 → (ig210 (B + 70) p).toInt = 0) := by rw [eig210]; exact fun p hp => by rw [up2_a (by omega)]; exact z9 p hp
                        have ip9 : InP B σ v8.toInt.toNat (v191.toInt + 1) ig210 := by rw [eig210]; exact InP.step g113_9 (by omega) (by omega) (unC_cp (by omega) (by rw [hz208]; exact RowU.at (hM _ (by omega)).2.1 (by omega) (by omega)))
                        have in9 : InN B σ v8.toInt.toNat ig210 := by rw [eig210]; exact in9.w (Or.inr (Or.inl ⟨rfl, by omega⟩))
                        have cm9 : clM B ig210 v8.toInt.toNat = false := by show czB (ig210 (B + 69) v8.toInt.toNat) = false; rw [eig210, up2_a (by omega)]; exact cm9
                        refine tc_inc hx hb dX12_works_152 hl (k := 0) rfl (by decide) (by decide) (fun z211 hz211 ls hl => ?_)
                        first | replace hz211 := hz211 (by omega) | clear hz211
                        have hl : lv_has ls 3 [(2, .int z211), (1, .int v8), (0, .ref (B + 49))] := hl
                        refine lv_goto (tgt := 113) hx hb dX12_works_155 (by decide) ?_
                        exact ih113 ls H locs ig210 lg193 z211 (lv_sub hl [0, 1, 2] rfl) hw hI hF (by omega) (by omega) (dn9) (wo9) (er9) (inm) (z9) (in9) (cm9) (by rw [show z211.toInt = v191.toInt + 1 by omega]; exact ip9) (by omega)
                exact L113 ((3 - z190.toInt) + 1).toNat ls H locs ig189 lg184 z190 (lv_sub hl [0, 1, 2] rfl) hw hI hF (by omega) (by omega) (dn9) (wo9) (er9) (inm) (z9) (in9) (cm9) (fun k hk => absurd hk (by omega)) (by omega)
              refine b_ne (tgt := 95) hx hb dX12_works_80 (by decide) (fun c80 => ?_) (fun c80 => ?_)
              · refine lv_iconst (v := 0) hx hb dX12_works_95 (by decide) (ti_c 0 (by decide) fun z212 hz212 => ?_)
                exact J96 ls H locs ig178 lg177 z212 (lv_sub hl [0, 1] rfl) hw hI hF (⟨fun q => absurd q.1 (by omega), fun _ => i32_z (by omega)⟩) (dn9) (wo9) (inm) (z9) (in9)
              · refine lv_aload_n hx hb dX12_works_83 rfl (lv_at hl 1 rfl) ?_
                refine lv_iload_n hx hb dX12_works_84 rfl (lv_at hl 0 rfl) ?_
                refine r_callV (As := [.int v8]) (rest := [.int v8, .ref (B + 67)]) C hw (t_X12_isRingE l B D cA kd ig178 rg lg177 _ v8 (by omega) σ inm.1.2 hI) sv_X12_229 (hsh 49 _ rfl) rfl hl.1 rfl (Nat.le_of_ble_eq_true rfl) ⟨Nat.le_of_ble_eq_true rfl, Nat.le_of_ble_eq_true rfl⟩ ⟨Nat.le_of_ble_eq_true rfl, Nat.le_of_ble_eq_true rfl⟩ dX12_works_85 (fun r217 kd213 ig214 rg215 lg216 H locs hw hH hp218 => ?_)
                obtain ⟨rfl, rfl, rfl, rfl, hzhp218, hrhp218⟩ := hp218
                obtain ⟨z219, rfl, hz219⟩ := hrhp218
                have rg8 := hz219
                refine z_eq (tgt := 95) hx hb dX12_works_88 (by decide) (fun c88 => ?_) (fun c88 => ?_)
                · refine lv_iconst (v := 0) hx hb dX12_works_95 (by decide) (ti_c 0 (by decide) fun z220 hz220 => ?_)
                  exact J96 ls H locs ig178 lg177 z220 (lv_sub hl [0, 1] rfl) hw hI hF (⟨fun q => absurd q.2 (by0 rg8 (by omega)), fun _ => i32_z (by omega)⟩) (dn9) (wo9) (inm) (z9) (in9)
                · refine lv_iconst (v := 2) hx hb dX12_works_91 (by decide) (ti_c 2 (by decide) fun z221 hz221 => ?_)
                  refine lv_goto (tgt := 96) hx hb dX12_works_92 (by decide) ?_
                  exact J96 ls H locs ig178 lg177 z221 (lv_sub hl [0, 1] rfl) hw hI hF (⟨fun _ => i32_2 (by omega), fun q => absurd ⟨by omega, by1 rg8 (by omega)⟩ q⟩) (dn9) (wo9) (inm) (z9) (in9)
            refine b_ne (tgt := 66) hx hb dX12_works_54 (by decide) (fun c54 => ?_) (fun c54 => ?_)
            · refine lv_iconst (v := 0) hx hb dX12_works_66 (by decide) (ti_c 0 (by decide) fun z222 hz222 => ?_)
              exact J67 ls H locs ig171 lg10 z222 (lv_sub hl [0, 1] rfl) hw hI hF ((by rw [if_neg (by omega)]; exact i32_z (by omega))) (dn9) (inm) (z9) (in9)
            · refine lv_aload_n hx hb dX12_works_57 rfl (lv_at hl 1 rfl) ?_
              refine r_get C hw (hsh 49 _ rfl) fl_X12_83 (oV_r rfl (hrm (49, 16, 60) (by decide))) dX12_works_58 ?_
              refine lv_iload_n hx hb dX12_works_61 rfl (lv_at hl 0 rfl) ?_
              refine r_iald C hw (hsh 60 _ rfl) (by omega) (by omega) dX12_works_62 (ti_c (ig171 (B + 60) v8.toInt.toNat).toInt rfl fun z223 hz223 => ?_)
              rw [Ft.i hF 60 _ (by decide)] at hz223
              refine lv_goto (tgt := 67) hx hb dX12_works_63 (by decide) ?_
              exact J67 ls H locs ig171 lg10 z223 (lv_sub hl [0, 1] rfl) hw hI hF ((by rw [if_pos (by omega)]; exact i32_of (by rw [hz223]; exact (hM _ (by omega)).1.2))) (dn9) (inm) (z9) (in9)
  exact L6 ((288 - z7.toInt) + 1).toNat ls H locs ig2 lg4 z7 (lv_sub hl [0, 1] rfl) hw hI hF (by omega) (by omega) (by rw [show z7.toInt.toNat = 0 by omega]; exact InM.zero rr9.1 rr9.2) (fun p hp => by omega) (fun p hp => by omega) (by omega)
