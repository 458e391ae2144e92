/-! the working-out of a row, with totals and ways -/
theorem GoS.any {B q n : Nat} {R : Rw} {v e : Vl} {ig ig' : sI} {lg lg' : sG} {T : List Nat} (h : GoS B q n R v e ig) (hF : Ft B T ig lg ig' lg') (hT : ∀ t ∈ T, ¬ (54 ≤ t ∧ t ≤ 58) := by decide) : GoS B q n R (ig' (B + 66)) (ig' (B + 67)) ig' := by
  have e1 : ∀ c j, (54 ≤ c ∧ c ≤ 58) → ig' (B + c) j = ig (B + c) j := fun c j hc => hF.i c j (fun t ht w => by have := hT t ht; omega)
  obtain ⟨h1, _, h4, h5, h6⟩ := h
  refine ⟨by rw [mR.ag (e1 58 q (by omega)) (fun c k a b _ => e1 c _ (by omega))]; exact h1, ⟨rfl, rfl⟩, by rw [e1 58 q (by omega)]; exact h4, h5, fun k hk => ⟨(h6 k hk).1.ag (fun c a b => e1 c _ (by omega)), ?_⟩⟩
  have := (h6 k hk).2
  unfold rOk mK mA mB at this ⊢
  rw [e1 54 _ (by omega), e1 55 _ (by omega), e1 56 _ (by omega)]
  exact this
/-- before the total is told: rows 70, 72 are as they were -/
def Wk0 (B : Nat) (σ : Sg) (x : Nat) (ig ig' : sI) : Prop := WkM B σ x ig ig' ∧ (∀ j, ig' (B + 70) j = ig (B + 70) j) ∧ ∀ j, ig' (B + 72) j = ig (B + 72) j
def TTo (B : Nat) (L : Fm) (x : Nat) (ig ig' : sI) : Prop := (∀ j, j ≠ x → ig' (B + 70) j = ig (B + 70) j) ∧ (((ig' (B + 70) x).toInt = 1 ∧ TL L) ∨ ((ig' (B + 70) x).toInt = 0 ∧ ¬ TL L))
/-- one formula is worked out -/
def WkW (B : Nat) (σ : Sg) (x : Nat) (ig ig' : sI) : Prop := WkM B σ x ig ig' ∧ TTo B (fmO (σ x)) x ig ig' ∧ (TL (fmO (σ x)) → WsR B σ x ig (rdL (fmO (σ x)) (x : Int)) ig' ∧ ∀ r, r < 288 → 0 ≤ wyV B ig' x r ∧ wyV B ig' x r ≤ 10) ∧ (¬ TL (fmO (σ x)) → ∀ j, ig' (B + 72) j = ig (B + 72) j)
section WKW
variable {B x c j : Nat} {σ : Sg} {ig ig' ig2 : sI} {lg' lg2 : sG} {v : Int32} {T : List Nat}
theorem Wk0.w (h : Wk0 B σ x ig ig') (hc : (c ≠ 66 ∧ c ≠ 67) ∧ c ≠ 70 ∧ c ≠ 72) : Wk0 B σ x ig (up2 ig' (B + c) j v) := ⟨h.1.w hc.1, fun k => (up2_a (by omega)).trans (h.2.1 k), fun k => (up2_a (by omega)).trans (h.2.2 k)⟩
theorem Wk0.ft (h : Wk0 B σ x ig ig') (hF : Ft B T ig' lg' ig2 lg2) (hT : ∀ q ∈ T, (q ≠ 66 ∧ q ≠ 67) ∧ q ≠ 70 ∧ q ≠ 72 := by decide) : Wk0 B σ x ig ig2 := ⟨h.1.ft hF (fun q hq => (hT q hq).1), fun k => (hF.i 70 k (fun q hq w => (hT q hq).2.1 w.symm)).trans (h.2.1 k), fun k => (hF.i 72 k (fun q hq w => (hT q hq).2.2 w.symm)).trans (h.2.2 k)⟩
theorem Wk0.to (h : Wk0 B σ x ig ig') {L : Fm} (hv : (v.toInt = 1 ∧ TL L) ∨ (v.toInt = 0 ∧ ¬ TL L)) : WkM B σ x ig (up2 ig' (B + 70) x v) ∧ TTo B L x ig (up2 ig' (B + 70) x v) ∧ ∀ j, up2 ig' (B + 70) x v (B + 72) j = ig (B + 72) j :=
  ⟨h.1.w (by decide), ⟨fun k hk => (up2_j hk).trans (h.2.1 k), by rw [up2_eq]; exact hv⟩, fun k => (up2_a (by omega)).trans (h.2.2 k)⟩
theorem TTo.ft {L : Fm} (h : TTo B L x ig ig') (hF : Ft B T ig' lg' ig2 lg2) (hT : ∀ q ∈ T, 70 ≠ q := by decide) : TTo B L x ig ig2 := by
  have e : ∀ k, ig2 (B + 70) k = ig' (B + 70) k := fun k => hF.i 70 k hT
  exact ⟨fun k hk => (e k).trans (h.1 k hk), by rw [e x]; exact h.2⟩
theorem WsR.from {X : Nat} {l : List Int} (h : WsR B σ X ig' l ig2) (e : ∀ j, ig' (B + 72) j = ig (B + 72) j) : WsR B σ X ig l ig2 := by
  have w : wyV B ig' = wyV B ig := funext fun p => funext fun r => by unfold wyV; rw [e]
  refine ⟨fun j hj => (h.1 j hj).trans (e j), fun r hr => ?_⟩
  rw [h.2 r hr, w]
end WKW
/-! the sweeps, with totals and ways: what is done is right -/
def VTM (B : Nat) (σ : Sg) (ig : sI) : Prop := ∀ p, p < 288 → (ig (B + 73) p).toInt ≠ 0 → (((ig (B + 70) p).toInt = 1 ∧ isTot σ p) ∨ ((ig (B + 70) p).toInt = 0 ∧ ¬ isTot σ p)) ∧ (isTot σ p → ∀ r, r < 288 → wyV B ig p r = wyF 10 (ctr σ (wyV B ig) r) (rdL (fmO (σ p)) (p : Int)) ∧ 0 ≤ wyV B ig p r ∧ wyV B ig p r ≤ 10)
section VTMS
variable {B p : Nat} {σ : Sg} {π : Ps} {ig ig' : sI} {lg : sG} {v : Int32}
theorem VTM.step (h : VTM B σ ig) (hd : VDM B σ ig lg) (hW : WS σ π) (hp : p < 288) (h0 : (ig (B + 73) p).toInt = 0) (hr : RyA B σ ig p 288) (hw : WkW B σ p ig ig') (e73 : ∀ j, ig' (B + 73) j = ig (B + 73) j) : VTM B σ (up2 ig' (B + 73) p v) := by
  have h2 := h
  obtain ⟨_, d1, d2⟩ := hd
  obtain ⟨k0, r0⟩ := d1 p hp h0
  obtain ⟨_, ⟨t1, t2⟩, w1, w2⟩ := hw
  have hf : ∀ p, p < 288 → kdO (σ p) = 2 → fitL (p : Int) (fmO (σ p)) := hW.s.1
  have f70 : ∀ j, up2 ig' (B + 73) p v (B + 70) j = ig' (B + 70) j := fun j => up2_a (by omega)
  have f72 : ∀ j, up2 ig' (B + 73) p v (B + 72) j = ig' (B + 72) j := fun j => up2_a (by omega)
  have fw : wyV B (up2 ig' (B + 73) p v) = wyV B ig' := funext fun a => funext fun r => by unfold wyV; rw [f72]
  have hrow : ∀ a r, a ≠ p → r < 288 → wyV B ig' a r = wyV B ig a r := fun a r ha hr2 => by
    by_cases c : TL (fmO (σ p))
    · exact (w1 c).1.row ha hr2
    · unfold wyV; rw [w2 c]
  have cg : ∀ a, a < 288 → kdO (σ a) = 2 → (∀ q, Rd σ a q → (ig (B + 73) q).toInt ≠ 0) → ∀ r, r < 288 → wyF 10 (ctr σ (wyV B ig) r) (rdL (fmO (σ a)) (a : Int)) = wyF 10 (ctr σ (wyV B ig') r) (rdL (fmO (σ a)) (a : Int)) := fun a ha ka hda r hr2 => by
    refine wyF_cg _ _ (fun y hy => ?_)
    obtain ⟨s, hs, rs, m⟩ := rdL_mem.mp hy
    have ho := plS_on (hf a ha ka s hs rs) m
    have hq := hda y.toNat ⟨ha, ka, s, hs, rs, by rw [show ((y.toNat : Nat) : Int) = y by omega]; exact m⟩
    have ne : y.toNat ≠ p := fun e => hq (by rw [e]; exact h0)
    by_cases c : isTot σ y.toNat
    · rw [ctr_t c, ctr_t c, hrow _ _ ne hr2]
    · by_cases e : y = (r : Int) ∧ kdO (σ r) ≠ 0
      · rw [ctr_1 c e, ctr_1 c e]
      · rw [ctr_0 c e, ctr_0 c e]
  have hrp : ∀ q, Rd σ p q → (ig (B + 73) q).toInt ≠ 0 := fun q w => hr q (w.ltf hf) w
  refine fun a ha ha0 => ?_
  rw [fw, f70]
  by_cases c : a = p
  · subst c
    have it : isTot σ a ↔ TL (fmO (σ a)) := ⟨fun q => q.2.2.1, fun q => ⟨hp, k0, q, r0⟩⟩
    refine ⟨?_, fun q r hr2 => ?_⟩
    · rw [it]; exact t2
    · refine ⟨?_, (w1 (it.mp q)).2 r hr2⟩
      rw [(w1 (it.mp q)).1.2 r hr2]
      exact cg a ha k0 hrp r hr2
  · have e7 : up2 ig' (B + 73) p v (B + 73) a = ig (B + 73) a := (up2_j c).trans (e73 a)
    rw [e7] at ha0
    obtain ⟨g1, g2⟩ := h2 a ha ha0
    rw [t1 a c]
    refine ⟨g1, fun q r hr2 => ?_⟩
    obtain ⟨g3, g4⟩ := g2 q r hr2
    rw [hrow a r c hr2]
    refine ⟨?_, g4⟩
    rw [g3]
    exact cg a ha q.2.1 ((d2 a ha ha0).2.2 q.2.1 q.2.2.2).2 r hr2
/-- all is done -/
theorem VTM.fin (h : VTM B σ ig) (hd : ∀ a, a < 288 → (ig (B + 73) a).toInt ≠ 0) : (∀ p, p < 288 → ((ig (B + 70) p).toInt = 1 ∧ isTot σ p) ∨ ((ig (B + 70) p).toInt = 0 ∧ ¬ isTot σ p)) ∧ WR σ (wyV B ig) :=
  ⟨fun p hp => (h p hp (hd p hp)).1, fun p hp r hr => ⟨((h p hp.1 (hd p hp.1)).2 hp r hr).1, ((h p hp.1 (hd p hp.1)).2 hp r hr).2.1⟩⟩
end VTMS
/-- one formula's unit is worked out -/
def WkN (B : Nat) (σ : Sg) (x : Nat) (ig ig' : sI) : Prop := (∀ j, j ≠ x → uM B ig' j = uM B ig j ∧ clM B ig' j = clM B ig j) ∧ (uM B ig' x, clM B ig' x) = rsU σ (uM B ig) (x : Int) (fmO (σ x))
section WKN
variable {B x c j : Nat} {σ : Sg} {ig ig' ig2 : sI} {lg' lg2 : sG} {v : Int32} {T : List Nat}
theorem rows_m (e3 : ∀ j, ig' (B + 68) j = ig (B + 68) j) (e4 : ∀ j, ig' (B + 69) j = ig (B + 69) j) : uM B ig' = uM B ig ∧ clM B ig' = clM B ig := by
  unfold uM clM
  rw [show ig' (B + 68) = ig (B + 68) from funext e3, show ig' (B + 69) = ig (B + 69) from funext e4]
  exact ⟨rfl, rfl⟩
theorem WkN.w (h : WkN B σ x ig ig') (hc : c ≠ 68 ∧ c ≠ 69) : WkN B σ x ig (up2 ig' (B + c) j v) := by
  obtain ⟨e1, e2⟩ := rows_m (B := B) (ig := ig') (ig' := up2 ig' (B + c) j v) (fun k => up2_a (by omega)) (fun k => up2_a (by omega))
  unfold WkN
  rw [e1, e2]
  exact h
theorem WkN.ft (h : WkN B σ x ig ig') (hF : Ft B T ig' lg' ig2 lg2) (hT : ∀ q ∈ T, 68 ≠ q ∧ 69 ≠ q := by decide) : WkN B σ x ig ig2 := by
  obtain ⟨e1, e2⟩ := rows_m (B := B) (ig := ig') (ig' := ig2) (fun k => hF.i 68 k (fun q hq => (hT q hq).1)) (fun k => hF.i 69 k (fun q hq => (hT q hq).2))
  unfold WkN
  rw [e1, e2]
  exact h
end WKN
theorem WkN.mk {B x : Nat} {σ : Sg} {ig g : sI} {x0 : Un} {cz : Bool} {v : Int32} {h : Int} {M : Fm} (e1 : ∀ j, ¬ (3 * x ≤ j ∧ j < 3 * x + 3) → g (B + 68) j = ig (B + 68) j) (e2 : ∀ k : Nat, k < 3 → g (B + 68) (3 * x + k) = ucp x0 (k : Int)) (e3 : ∀ j, g (B + 69) j = ig (B + 69) j) (hv : czB v = cz) (hM : M = fmO (σ x)) (hh : h = (x : Int)) (hu : (uvA σ (uM B ig) h M M.length).1 = [x0]) (hc : (uvA σ (uM B ig) h M M.length).2 = cz) : WkN B σ x ig (up2 g (B + 69) x v) := by
  subst hM hh
  have e33 : up2 g (B + 69) x v (B + 68) = g (B + 68) := funext fun j => up2_a (by omega)
  have hw : uM B (up2 g (B + 69) x v) = un3 (g (B + 68)) := by unfold uM; rw [e33]
  refine ⟨fun j hj => ⟨?_, ?_⟩, ?_⟩
  · rw [hw]
    exact un3_cg (fun k hk => e1 _ (by omega))
  · show czB (up2 g (B + 69) x v (B + 69) j) = czB (ig (B + 69) j)
    rw [up2_j hj, e3]
  · rw [hw]
    rw [uvA_end] at hu hc
    unfold rsU
    rw [hu, hc]
    refine Prod.ext (un3_of e2) ?_
    show czB (up2 g (B + 69) x v (B + 69) x) = cz
    rw [up2_eq]; exact hv
/-- units as they were -/
def K4 (B : Nat) (ig ig' : sI) : Prop := (∀ j, ig' (B + 68) j = ig (B + 68) j) ∧ ∀ j, ig' (B + 69) j = ig (B + 69) j
section K4S
variable {B c j : Nat} {ig ig' ig2 : sI} {lg' lg2 : sG} {v : Int32} {T : List Nat}
theorem K4.rf : K4 B ig ig := ⟨fun _ => rfl, fun _ => rfl⟩
theorem K4.w (h : K4 B ig ig') (hc : c ≠ 68 ∧ c ≠ 69) : K4 B ig (up2 ig' (B + c) j v) := ⟨fun k => (up2_a (by omega)).trans (h.1 k), fun k => (up2_a (by omega)).trans (h.2 k)⟩
theorem K4.ft (h : K4 B ig ig') (hF : Ft B T ig' lg' ig2 lg2) (hT : ∀ q ∈ T, 68 ≠ q ∧ 69 ≠ q := by decide) : K4 B ig ig2 := ⟨fun k => (hF.i 68 k (fun q hq => (hT q hq).1)).trans (h.1 k), fun k => (hF.i 69 k (fun q hq => (hT q hq).2)).trans (h.2 k)⟩
end K4S
/-! the sweeps, with units: what is done is right -/
def UOp (σ : Sg) (u : Us) (c : Cs) (p : Nat) : Prop := (kdO (σ p) ≠ 2 → u p = unC (σ p) ∧ c p = false) ∧ (kdO (σ p) = 2 → Rg σ p → u p = u0 ∧ c p = false) ∧ (kdO (σ p) = 2 → ¬ Rg σ p → (u p, c p) = rsU σ u (p : Int) (fmO (σ p)))
def VUM (B : Nat) (σ : Sg) (ig : sI) : Prop := ∀ p, p < 288 → (ig (B + 73) p).toInt ≠ 0 → UOp σ (uM B ig) (clM B ig) p
def InN (B : Nat) (σ : Sg) (n : Nat) (ig : sI) : Prop := ∀ p, p < n → uM B ig p = unC (σ p) ∧ clM B ig p = false
section VUMS
variable {B p n c j : Nat} {σ : Sg} {π : Ps} {ig ig' : sI} {lg : sG} {v : Int32}
theorem VUM.step (h : VUM B σ ig) (hd : VDM B σ ig lg) (hW : WS σ π) (hp : p < 288) (h0 : (ig (B + 73) p).toInt = 0) (hr : RyA B σ ig p 288) (hw : WkN B σ p ig ig') (e73 : ∀ j, ig' (B + 73) j = ig (B + 73) j) : VUM B σ (up2 ig' (B + 73) p v) := by
  obtain ⟨_, d1, d2⟩ := hd
  obtain ⟨k0, r0⟩ := d1 p hp h0
  obtain ⟨w1, w2⟩ := hw
  have hf : ∀ p, p < 288 → kdO (σ p) = 2 → fitL (p : Int) (fmO (σ p)) := hW.s.1
  obtain ⟨f1, f2⟩ := rows_m (B := B) (ig := ig') (ig' := up2 ig' (B + 73) p v) (fun k => up2_a (by omega)) (fun k => up2_a (by omega))
  have cg : ∀ a, a < 288 → kdO (σ a) = 2 → (∀ q, Rd σ a q → (ig (B + 73) q).toInt ≠ 0) → rsU σ (uM B ig) (a : Int) (fmO (σ a)) = rsU σ (uM B ig') (a : Int) (fmO (σ a)) := fun a ha ka hda => by
    refine rsU_cg (hf a ha ka) (fun q hq => ?_)
    have hq2 := hda q ⟨ha, ka, hq⟩
    have ne : q ≠ p := by rintro rfl; exact hq2 h0
    exact (w1 q ne).1.symm
  have hrp : ∀ q, Rd σ p q → (ig (B + 73) q).toInt ≠ 0 := fun q w => hr q (w.ltf hf) w
  refine fun a ha ha0 => ?_
  rw [f1, f2]
  by_cases e : a = p
  · subst e
    exact ⟨fun k => absurd k0 k, fun _ r => absurd r r0, fun _ _ => w2.trans (cg a ha k0 hrp)⟩
  · have e7 : up2 ig' (B + 73) p v (B + 73) a = ig (B + 73) a := (up2_j e).trans (e73 a)
    rw [e7] at ha0
    obtain ⟨g1, g2, g3⟩ := h a ha ha0
    unfold UOp
    rw [(w1 a e).1, (w1 a e).2]
    exact ⟨g1, g2, fun k r => (g3 k r).trans (cg a ha k ((d2 a ha ha0).2.2 k r).2)⟩
theorem VUM.fin (h : VUM B σ ig) (hd : ∀ a, a < 288 → (ig (B + 73) a).toInt ≠ 0) : UOk σ (uM B ig) (clM B ig) := fun p hp => h p hp (hd p hp)
theorem VUM.z (h : VUM B σ ig) (hd : VDM B σ ig lg) (hW : WS σ π) (hp : p < 288) (hk : kdO (σ p) = 0) : uM B ig p = u0 := by
  have hn : (ig (B + 73) p).toInt ≠ 0 := fun w => by have := (hd.2.1 p hp w).1; omega
  rw [((h p hp hn).1 (by omega)).1]
  exact unC_f hW hp (by omega)
theorem InN.vu (h : InN B σ 288 ig) (hm : InM B σ 288 ig lg) (hW : WS σ π) : VUM B σ ig := fun p hp hd => by
  obtain ⟨h1, h2⟩ := h p hp
  refine ⟨fun _ => ⟨h1, h2⟩, fun k _ => ⟨by rw [h1]; exact unC_f hW hp (by omega), h2⟩, fun k r => absurd ((hm.2 p hp).1.mpr ⟨k, r⟩) hd⟩
theorem InN.w (h : InN B σ n ig) (hc : (c ≠ 68 ∧ c ≠ 69) ∨ (c = 68 ∧ 3 * n ≤ j) ∨ (c = 69 ∧ n ≤ j)) : InN B σ n (up2 ig (B + c) j v) := fun p hp => by
  obtain ⟨h1, h2⟩ := h p hp
  rw [← h1, ← h2]
  refine ⟨un3_cg (fun k hk => ?_), congrArg czB ?_⟩
  · simp only [up2]; rw [if_neg (by omega)]
  · simp only [up2]; rw [if_neg (by omega)]
/-- the parts of one more -/
def InP (B : Nat) (σ : Sg) (n : Nat) (i : Int) (ig : sI) : Prop := ∀ k : Nat, (k : Int) < i → ig (B + 68) (3 * n + k) = ucp (unC (σ n)) (k : Int)
theorem InP.step {i : Int} (h : InP B σ n i ig) (hj : (j : Int) = 3 * (n : Int) + i) (h0 : 0 ≤ i) (hv : v = ucp (unC (σ n)) i) : InP B σ n (i + 1) (up2 ig (B + 68) j v) := fun k hk => by
  by_cases e : 3 * n + k = j
  · rw [e, up2_eq, hv, show i = (k : Int) by omega]
  · rw [up2_j e]; exact h k (by omega)
theorem InN.s (h : InN B σ n ig) (h1 : InP B σ n 3 ig) (h2 : clM B ig n = false) : InN B σ (n + 1) ig := fun p hp => by
  by_cases e : p = n
  · subst e; exact ⟨un3_of (fun k hk => h1 k (by omega)), h2⟩
  · exact h p (by omega)
theorem unC_cp {c : Cl} {u : Int} {z : Int32} (h0 : 0 ≤ u ∧ u < 3) (hz : z.toInt = (if u = 0 then c.2.1.1 else if u = 1 then c.2.1.2.1 else c.2.1.2.2)) : z = ucp (unC c) u := by
  rw [i32_of hz]
  rcases (show u = 0 ∨ u = 1 ∨ u = 2 by omega) with rfl | rfl | rfl <;> rfl
theorem RowU.at {q : Nat} {u : Int} {w : Int × Int × Int} (h : RowU B ig q w) (h0 : 0 ≤ u ∧ u < 3) (hj : (j : Int) = 3 * (q : Int) + u) : (ig (B + 61) j).toInt = (if u = 0 then w.1 else if u = 1 then w.2.1 else w.2.2) := by
  rcases (show u = 0 ∨ u = 1 ∨ u = 2 by omega) with rfl | rfl | rfl
  · rw [show j = 3 * q by omega]; exact h.1
  · rw [show j = 3 * q + 1 by omega]; exact h.2.1
  · rw [show j = 3 * q + 2 by omega]; exact h.2.2
end VUMS
set_option maxHeartbeats 4000000 in
set_option maxRecDepth 100000 in
theorem t_X12_workX {υ : Option Int} {τ : Tp} {φ : Option Int} (l : Launch) (B : Nat) (D : va_G) (cA : Nat → ClassId) (kd : sK) (ig : sI) (rg : sR) (lg : sG) (sz : Nat) (x : Int32) (hx0 : 0 ≤ x.toInt ∧ x.toInt < 288) (hkd : (ig (B + 59) x.toInt.toNat).toInt = 2) (σ : Sg) (hR : RowM B ig x.toInt.toNat (x.toInt.toNat : Int) (σ x.toInt.toNat)) (hk2 : kdO (σ x.toInt.toNat) = 2) (hf : fitL (x.toInt.toNat : Int) (fmO (σ x.toInt.toNat))) (hn : ENn B ig) (hrg : ∀ q : Nat, (q : Int) ∈ rdL (fmO (σ x.toInt.toNat)) (x.toInt.toNat : Int) → q ≠ x.toInt.toNat) (hT : ∀ q : Nat, (q : Int) ∈ rdL (fmO (σ x.toInt.toNat)) (x.toInt.toNat : Int) → ((ig (B + 70) q).toInt = 1 ∧ isTot σ q) ∨ ((ig (B + 70) q).toInt = 0 ∧ ¬ isTot σ q)) (hkd0 : ∀ q, q < 288 → (ig (B + 59) q).toInt = kdO (σ q)) (hwb : ∀ q : Nat, (q : Int) ∈ rdL (fmO (σ x.toInt.toNat)) (x.toInt.toNat : Int) → isTot σ q → ∀ r, r < 288 → 0 ≤ wyV B ig q r ∧ wyV B ig q r ≤ 10) (hz0 : ∀ p, p < 288 → kdO (σ p) = 0 → uM B ig p = u0) (hI : IM τ φ υ B kd ig rg) : MC l B D cA yX12_work cX12_work 4 none (rL 30 0 0) [.ref (B + 49), .int x] kd ig rg lg sz (PM τ φ υ B [49, 66, 67, 68, 69, 70, 72, 74] kd ig rg lg (fun r ig' lg' => (r = none ∧ (WkW B σ x.toInt.toNat ig ig' ∧ WkN B σ x.toInt.toNat ig ig')))) := by
  refine MC.of (own := RX12) (by decide +kernel) rfl (Nat.le_of_ble_eq_true rfl) ?_
  intro p e s m args below meth c ls C hr hlk hnm hw hsz hl
  have hx := C.1.1
  have hb := C.1.2.1
  have hown := C.1.2.2.2.1
  have hts := C.1.2.2.2.2
  have hl : lv_has ls 4 [(0, .ref (B + 49)), (1, .int x)] := hl
  have hF : Ft B [49, 66, 67, 68, 69, 70, 72, 74] ig lg ig lg := Ft.rf
  have hsh := hI.sh
  have hrm := hI.rm
  obtain ⟨n, e1, e2, e3, e4⟩ := hI.row (p := x.toInt.toNat) (by omega) (by omega) hkd
  have hlt := e3.lt
  obtain ⟨⟨n9, q1, q2, hie⟩, hit⟩ := hR.2.2.1 hk2
  obtain rfl : n9 = n := by omega
  have kit9 := hI.its (j := x.toInt.toNat) (by omega)
  have hG : GoS B x.toInt.toNat n9 (mR B ig (x.toInt.toNat : Int) x.toInt.toNat) (ig (B + 66)) (ig (B + 67)) ig := ⟨rfl, ⟨rfl, rfl⟩, q1, ⟨by omega, by omega⟩, fun k hk => ⟨hit k (by omega), (hI.at (p := x.toInt.toNat) (k := k) (by omega) (by omega) hkd (by omega)).2⟩⟩
  have hG0 := hG
  have k4 : K4 B ig ig := K4.rf
  refine lv_aload_n hx hb dX12_work_0 rfl (lv_at hl 0 rfl) ?_
  refine lv_bipush (v := 120) hx hb dX12_work_1 (by decide) (ti_c 120 (by decide) fun z1 hz1 => ?_)
  refine lv_iload_n hx hb dX12_work_3 rfl (lv_at hl 1 rfl) ?_
  refine lv_imul hx hb dX12_work_4 (tc_mulL 120 hz1 fun z2 hz2 => ?_)
  first | replace hz2 := hz2 (by omega) | clear hz2
  refine r_puti C hw (hsh 49 _ rfl) fl_X12_241 rfl rfl rfl dX12_work_5 (fun H locs hH hw => ?_)
  obtain ⟨ig3, eig3⟩ : ∃ f, f = up2 ig (B + 49) 31 z2 := ⟨_, rfl⟩
  rw [← eig3] at hw
  have hF : Ft B [49, 66, 67, 68, 69, 70, 72, 74] ig lg ig3 lg := by rw [eig3]; exact hF.pi (by decide)
  have hI : IM τ φ υ B kd ig3 rg := by rw [eig3]; exact hI.pi (by decide) (show okR none _ from trivial)
  have wig3 : (ig3 (B + 49) 31).toInt = z2.toInt := by rw [eig3, up2_eq]
  have wig3_49_32 : (ig3 (B + 49) 32).toInt = (ig (B + 49) 32).toInt := by rw [eig3, up2_j (by decide)]
  have wig3_49_33 : (ig3 (B + 49) 33).toInt = (ig (B + 49) 33).toInt := by rw [eig3, up2_j (by decide)]
  have wig3_49_34 : (ig3 (B + 49) 34).toInt = (ig (B + 49) 34).toInt := by rw [eig3, up2_j (by decide)]
  have wig3_49_35 : (ig3 (B + 49) 35).toInt = (ig (B + 49) 35).toInt := by rw [eig3, up2_j (by decide)]
  have hG : GoS B x.toInt.toNat n9 (mR B ig (x.toInt.toNat : Int) x.toInt.toNat) (ig (B + 66)) (ig (B + 67)) ig3 := by rw [eig3]; exact hG.wr
  have k4 : K4 B ig ig3 := by rw [eig3]; exact k4.w (by decide)
  refine lv_aload_n hx hb dX12_work_8 rfl (lv_at hl 0 rfl) ?_
  refine lv_aload_n hx hb dX12_work_9 rfl (lv_at hl 0 rfl) ?_
  refine r_get C hw (hsh 49 _ rfl) fl_X12_241 (oV_i rfl) dX12_work_10 (ti_c (ig3 (B + 49) 31).toInt rfl fun z4 hz4 => ?_)
  refine lv_aload_n hx hb dX12_work_13 rfl (lv_at hl 0 rfl) ?_
  refine r_get C hw (hsh 49 _ rfl) fl_X12_77 (oV_r rfl (hrm (49, 13, 58) (by decide))) dX12_work_14 ?_
  refine lv_iload_n hx hb dX12_work_17 rfl (lv_at hl 1 rfl) ?_
  refine r_iald C hw (hsh 58 _ rfl) (by omega) (by omega) dX12_work_18 (ti_c (ig3 (B + 58) x.toInt.toNat).toInt rfl fun z5 hz5 => ?_)
  have k6 := hI.its (j := (x.toInt.toNat)) (by omega)
  rw [Ft.i hF 58 _ (by decide)] at hz5 k6
  refine lv_iadd hx hb dX12_work_19 (tc_add fun z7 hz7 => ?_)
  first | replace hz7 := hz7 (by omega) | clear hz7
  refine r_puti C hw (hsh 49 _ rfl) fl_X12_244 rfl rfl rfl dX12_work_20 (fun H locs hH hw => ?_)
  obtain ⟨ig8, eig8⟩ : ∃ f, f = up2 ig3 (B + 49) 32 z7 := ⟨_, rfl⟩
  rw [← eig8] at hw
  have hF : Ft B [49, 66, 67, 68, 69, 70, 72, 74] ig lg ig8 lg := by rw [eig8]; exact hF.pi (by decide)
  have hI : IM τ φ υ B kd ig8 rg := by rw [eig8]; exact hI.pi (by decide) (show okR none _ from trivial)
  have wig8_49_31 : (ig8 (B + 49) 31).toInt = (ig3 (B + 49) 31).toInt := by rw [eig8, up2_j (by decide)]
  have wig8 : (ig8 (B + 49) 32).toInt = z7.toInt := by rw [eig8, up2_eq]
  have wig8_49_33 : (ig8 (B + 49) 33).toInt = (ig3 (B + 49) 33).toInt := by rw [eig8, up2_j (by decide)]
  have wig8_49_34 : (ig8 (B + 49) 34).toInt = (ig3 (B + 49) 34).toInt := by rw [eig8, up2_j (by decide)]
  have wig8_49_35 : (ig8 (B + 49) 35).toInt = (ig3 (B + 49) 35).toInt := by rw [eig8, up2_j (by decide)]
  have hG : GoS B x.toInt.toNat n9 (mR B ig (x.toInt.toNat : Int) x.toInt.toNat) (ig (B + 66)) (ig (B + 67)) ig8 := by rw [eig8]; exact hG.wr
  have k4 : K4 B ig ig8 := by rw [eig8]; exact k4.w (by decide)
  refine lv_aload_n hx hb dX12_work_23 rfl (lv_at hl 0 rfl) ?_
  refine lv_iconst (v := 0) hx hb dX12_work_24 (by decide) (ti_c 0 (by decide) fun z9 hz9 => ?_)
  refine r_puti C hw (hsh 49 _ rfl) fl_X12_247 rfl rfl rfl dX12_work_25 (fun H locs hH hw => ?_)
  obtain ⟨ig10, eig10⟩ : ∃ f, f = up2 ig8 (B + 49) 33 z9 := ⟨_, rfl⟩
  rw [← eig10] at hw
  have hF : Ft B [49, 66, 67, 68, 69, 70, 72, 74] ig lg ig10 lg := by rw [eig10]; exact hF.pi (by decide)
  have hI : IM τ φ υ B kd ig10 rg := by rw [eig10]; exact hI.pi (by decide) (show okR none _ from trivial)
  have wig10_49_31 : (ig10 (B + 49) 31).toInt = (ig8 (B + 49) 31).toInt := by rw [eig10, up2_j (by decide)]
  have wig10_49_32 : (ig10 (B + 49) 32).toInt = (ig8 (B + 49) 32).toInt := by rw [eig10, up2_j (by decide)]
  have wig10 : (ig10 (B + 49) 33).toInt = z9.toInt := by rw [eig10, up2_eq]
  have wig10_49_34 : (ig10 (B + 49) 34).toInt = (ig8 (B + 49) 34).toInt := by rw [eig10, up2_j (by decide)]
  have wig10_49_35 : (ig10 (B + 49) 35).toInt = (ig8 (B + 49) 35).toInt := by rw [eig10, up2_j (by decide)]
  have hG : GoS B x.toInt.toNat n9 (mR B ig (x.toInt.toNat : Int) x.toInt.toNat) (ig (B + 66)) (ig (B + 67)) ig10 := by rw [eig10]; exact hG.wr
  have k4 : K4 B ig ig10 := by rw [eig10]; exact k4.w (by decide)
  refine lv_aload_n hx hb dX12_work_28 rfl (lv_at hl 0 rfl) ?_
  refine r_callV (As := []) (rest := []) C hw ((t_X12_goV_all l B D cA 8).2.2 kd ig10 rg lg _  x.toInt.toNat n9 0 n9 _ _ _ _ hG hie (Nat.le_refl _) (by omega) (by omega) hI) sv_X12_250 (hsh 49 _ rfl) rfl hl.1 rfl (Nat.le_of_ble_eq_true rfl) ⟨Nat.le_of_ble_eq_true rfl, Nat.le_of_ble_eq_true rfl⟩ ⟨Nat.le_of_ble_eq_true rfl, Nat.le_of_ble_eq_true rfl⟩ dX12_work_29 (fun r15 kd11 ig12 rg13 lg14 H locs hw hH hp16 => ?_)
  obtain ⟨rfl, rfl, hI, hchp16, hrhp16⟩ := hp16
  have hF : Ft B [49, 66, 67, 68, 69, 70, 72, 74] ig lg ig12 lg14 := Ft.tr hF hchp16 (by decide) (by decide)
  obtain ⟨z17, rfl, hz17⟩ := hrhp16
  have hG : GoS B x.toInt.toNat n9 (mR B ig (x.toInt.toNat : Int) x.toInt.toNat) (ig (B + 66)) (ig (B + 67)) ig12 := hG.ft hchp16
  have gv9 := hG.2.1
  have ev9 := hz17.2
  have e70 : ∀ j, ig12 (B + 70) j = ig (B + 70) j := fun j => by rw [hchp16.i 70 j (by decide), eig10, up2_a (by omega), eig8, up2_a (by omega), eig3, up2_a (by omega)]
  have e72 : ∀ j, ig12 (B + 72) j = ig (B + 72) j := fun j => by rw [hchp16.i 72 j (by decide), eig10, up2_a (by omega), eig8, up2_a (by omega), eig3, up2_a (by omega)]
  have k4 : K4 B ig ig12 := k4.ft hchp16
  refine lv_istore_n (lv' := [(2, .int z17), (0, .ref (B + 49)), (1, .int x)]) hx hb dX12_work_32 rfl hl (by decide) rfl (fun ls hl => ?_)
  refine lv_aload_n hx hb dX12_work_33 rfl (lv_at hl 1 rfl) ?_
  refine r_get C hw (hsh 49 _ rfl) fl_X12_102 (oV_r rfl (hrm (49, 23, 66) (by decide))) dX12_work_34 ?_
  refine lv_iload_n hx hb dX12_work_37 rfl (lv_at hl 2 rfl) ?_
  refine lv_aload_n hx hb dX12_work_38 rfl (lv_at hl 1 rfl) ?_
  refine r_get C hw (hsh 49 _ rfl) fl_X12_247 (oV_i rfl) dX12_work_39 (ti_c (ig12 (B + 49) 33).toInt rfl fun z18 hz18 => ?_)
  refine z_le (tgt := 49) hx hb dX12_work_42 (by decide) (fun c42 => ?_) (fun c42 => ?_)
  · refine lv_iload_n hx hb dX12_work_49 rfl (lv_at hl 0 rfl) ?_
    refine r_iast C hw (hsh 66 _ rfl) (by omega) (by omega) dX12_work_50 (fun H locs hH hw => ?_)
    obtain ⟨ig19, eig19⟩ : ∃ f, f = up2 ig12 (B + 66) x.toInt.toNat z17 := ⟨_, rfl⟩
    rw [← eig19] at hw
    have hF : Ft B [49, 66, 67, 68, 69, 70, 72, 74] ig lg ig19 lg14 := by rw [eig19]; exact hF.pi (by decide)
    have hI : IM τ φ υ B kd ig19 rg := by rw [eig19]; exact hI.pi (by decide) (show okR none _ from trivial)
    have wig19_49_31 : (ig19 (B + 49) 31).toInt = (ig12 (B + 49) 31).toInt := by rw [eig19, up2_a (by omega)]
    have wig19_49_32 : (ig19 (B + 49) 32).toInt = (ig12 (B + 49) 32).toInt := by rw [eig19, up2_a (by omega)]
    have wig19_49_33 : (ig19 (B + 49) 33).toInt = (ig12 (B + 49) 33).toInt := by rw [eig19, up2_a (by omega)]
    have wig19_49_34 : (ig19 (B + 49) 34).toInt = (ig12 (B + 49) 34).toInt := by rw [eig19, up2_a (by omega)]
    have wig19_49_35 : (ig19 (B + 49) 35).toInt = (ig12 (B + 49) 35).toInt := by rw [eig19, up2_a (by omega)]
    have k4 : K4 B ig ig19 := by rw [eig19]; exact k4.w (by decide)
    refine lv_aload_n hx hb dX12_work_51 rfl (lv_at hl 1 rfl) ?_
    refine r_get C hw (hsh 49 _ rfl) fl_X12_105 (oV_r rfl (hrm (49, 24, 67) (by decide))) dX12_work_52 ?_
    refine lv_iload_n hx hb dX12_work_55 rfl (lv_at hl 2 rfl) ?_
    refine lv_aload_n hx hb dX12_work_56 rfl (lv_at hl 1 rfl) ?_
    refine r_get C hw (hsh 49 _ rfl) fl_X12_247 (oV_i rfl) dX12_work_57 (ti_c (ig19 (B + 49) 33).toInt rfl fun z20 hz20 => ?_)
    refine r_iast C hw (hsh 67 _ rfl) (by omega) (by omega) dX12_work_60 (fun H locs hH hw => ?_)
    obtain ⟨ig21, eig21⟩ : ∃ f, f = up2 ig19 (B + 67) x.toInt.toNat z20 := ⟨_, rfl⟩
    rw [← eig21] at hw
    have hF : Ft B [49, 66, 67, 68, 69, 70, 72, 74] ig lg ig21 lg14 := by rw [eig21]; exact hF.pi (by decide)
    have hI : IM τ φ υ B kd ig21 rg := by rw [eig21]; exact hI.pi (by decide) (show okR none _ from trivial)
    have wig21_49_31 : (ig21 (B + 49) 31).toInt = (ig19 (B + 49) 31).toInt := by rw [eig21, up2_a (by omega)]
    have wig21_49_32 : (ig21 (B + 49) 32).toInt = (ig19 (B + 49) 32).toInt := by rw [eig21, up2_a (by omega)]
    have wig21_49_33 : (ig21 (B + 49) 33).toInt = (ig19 (B + 49) 33).toInt := by rw [eig21, up2_a (by omega)]
    have wig21_49_34 : (ig21 (B + 49) 34).toInt = (ig19 (B + 49) 34).toInt := by rw [eig21, up2_a (by omega)]
    have wig21_49_35 : (ig21 (B + 49) 35).toInt = (ig19 (B + 49) 35).toInt := by rw [eig21, up2_a (by omega)]
    have em9 : z20 = ig12 (B + 49) 33 := i32_inj (by rw [hz20, eig19, up2_a (by omega)])
    have wk9 : WkM B σ x.toInt.toNat ig ig21 := WkM.mk (w := z17) (m := z20) (z := z17) (a := ig10 (B + 49) 33) (fun j hj => ⟨by rw [eig21, up2_a (by omega), eig19, up2_j hj, gv9.1], by rw [eig21, up2_j hj, eig19, up2_a (by omega), gv9.2]⟩) (by rw [eig21, up2_a (by omega), eig19, up2_eq]) (by rw [eig21, up2_eq]) rfl (by rw [em9]; exact ev9) (by rw [eig10, up2_eq]; exact i32_z (by omega)) rfl rfl hn hf ⟨fun q => absurd q (by omega), fun _ => (by first | rfl | exact i32_inj (by omega))⟩
    have wk9 : Wk0 B σ x.toInt.toNat ig ig21 := ⟨wk9, fun j => by rw [eig21, up2_a (by omega), eig19, up2_a (by omega)]; exact e70 j, fun j => by rw [eig21, up2_a (by omega), eig19, up2_a (by omega)]; exact e72 j⟩
    have k4 : K4 B ig ig21 := by rw [eig21]; exact k4.w (by decide)
    refine lv_aload_n hx hb dX12_work_61 rfl (lv_at hl 1 rfl) ?_
    refine lv_bipush (v := 120) hx hb dX12_work_62 (by decide) (ti_c 120 (by decide) fun z22 hz22 => ?_)
    refine lv_iload_n hx hb dX12_work_64 rfl (lv_at hl 2 rfl) ?_
    refine lv_imul hx hb dX12_work_65 (tc_mulL 120 hz22 fun z23 hz23 => ?_)
    first | replace hz23 := hz23 (by omega) | clear hz23
    refine r_puti C hw (hsh 49 _ rfl) fl_X12_241 rfl rfl rfl dX12_work_66 (fun H locs hH hw => ?_)
    obtain ⟨ig24, eig24⟩ : ∃ f, f = up2 ig21 (B + 49) 31 z23 := ⟨_, rfl⟩
    rw [← eig24] at hw
    have hF : Ft B [49, 66, 67, 68, 69, 70, 72, 74] ig lg ig24 lg14 := by rw [eig24]; exact hF.pi (by decide)
    have hI : IM τ φ υ B kd ig24 rg := by rw [eig24]; exact hI.pi (by decide) (show okR none _ from trivial)
    have wig24 : (ig24 (B + 49) 31).toInt = z23.toInt := by rw [eig24, up2_eq]
    have wig24_49_32 : (ig24 (B + 49) 32).toInt = (ig21 (B + 49) 32).toInt := by rw [eig24, up2_j (by decide)]
    have wig24_49_33 : (ig24 (B + 49) 33).toInt = (ig21 (B + 49) 33).toInt := by rw [eig24, up2_j (by decide)]
    have wig24_49_34 : (ig24 (B + 49) 34).toInt = (ig21 (B + 49) 34).toInt := by rw [eig24, up2_j (by decide)]
    have wig24_49_35 : (ig24 (B + 49) 35).toInt = (ig21 (B + 49) 35).toInt := by rw [eig24, up2_j (by decide)]
    have wk9 : Wk0 B σ x.toInt.toNat ig ig24 := by rw [eig24]; exact wk9.w (by decide)
    have k4 : K4 B ig ig24 := by rw [eig24]; exact k4.w (by decide)
    refine lv_aload_n hx hb dX12_work_69 rfl (lv_at hl 1 rfl) ?_
    refine lv_iconst (v := 0) hx hb dX12_work_70 (by decide) (ti_c 0 (by decide) fun z25 hz25 => ?_)
    refine r_puti C hw (hsh 49 _ rfl) fl_X12_254 rfl (nar_b (by omega)) (fit_b (by omega)) dX12_work_71 (fun H locs hH hw => ?_)
    obtain ⟨ig26, eig26⟩ : ∃ f, f = up2 ig24 (B + 49) 34 z25 := ⟨_, rfl⟩
    rw [← eig26] at hw
    have hF : Ft B [49, 66, 67, 68, 69, 70, 72, 74] ig lg ig26 lg14 := by rw [eig26]; exact hF.pi (by decide)
    have hI : IM τ φ υ B kd ig26 rg := by rw [eig26]; exact hI.pi (by decide) (show okR (some (0, 1)) _ from ⟨by show (0 : Int) ≤ _; omega, by show _ ≤ (1 : Int); omega⟩)
    have wig26_49_31 : (ig26 (B + 49) 31).toInt = (ig24 (B + 49) 31).toInt := by rw [eig26, up2_j (by decide)]
    have wig26_49_32 : (ig26 (B + 49) 32).toInt = (ig24 (B + 49) 32).toInt := by rw [eig26, up2_j (by decide)]
    have wig26_49_33 : (ig26 (B + 49) 33).toInt = (ig24 (B + 49) 33).toInt := by rw [eig26, up2_j (by decide)]
    have wig26 : (ig26 (B + 49) 34).toInt = z25.toInt := by rw [eig26, up2_eq]
    have wig26_49_35 : (ig26 (B + 49) 35).toInt = (ig24 (B + 49) 35).toInt := by rw [eig26, up2_j (by decide)]
    have wk9 : Wk0 B σ x.toInt.toNat ig ig26 := by rw [eig26]; exact wk9.w (by decide)
    have k4 : K4 B ig ig26 := by rw [eig26]; exact k4.w (by decide)
    refine lv_aload_n hx hb dX12_work_74 rfl (lv_at hl 1 rfl) ?_
    refine lv_iconst (v := 0) hx hb dX12_work_75 (by decide) (ti_c 0 (by decide) fun z27 hz27 => ?_)
    refine r_puti C hw (hsh 49 _ rfl) fl_X12_258 rfl rfl rfl dX12_work_76 (fun H locs hH hw => ?_)
    obtain ⟨ig28, eig28⟩ : ∃ f, f = up2 ig26 (B + 49) 35 z27 := ⟨_, rfl⟩
    rw [← eig28] at hw
    have hF : Ft B [49, 66, 67, 68, 69, 70, 72, 74] ig lg ig28 lg14 := by rw [eig28]; exact hF.pi (by decide)
    have hI : IM τ φ υ B kd ig28 rg := by rw [eig28]; exact hI.pi (by decide) (show okR none _ from trivial)
    have wig28_49_31 : (ig28 (B + 49) 31).toInt = (ig26 (B + 49) 31).toInt := by rw [eig28, up2_j (by decide)]
    have wig28_49_32 : (ig28 (B + 49) 32).toInt = (ig26 (B + 49) 32).toInt := by rw [eig28, up2_j (by decide)]
    have wig28_49_33 : (ig28 (B + 49) 33).toInt = (ig26 (B + 49) 33).toInt := by rw [eig28, up2_j (by decide)]
    have wig28_49_34 : (ig28 (B + 49) 34).toInt = (ig26 (B + 49) 34).toInt := by rw [eig28, up2_j (by decide)]
    have wig28 : (ig28 (B + 49) 35).toInt = z27.toInt := by rw [eig28, up2_eq]
    have wk9 : Wk0 B σ x.toInt.toNat ig ig28 := by rw [eig28]; exact wk9.w (by decide)
    have k4 : K4 B ig ig28 := by rw [eig28]; exact k4.w (by decide)
    refine lv_aload_n hx hb dX12_work_79 rfl (lv_at hl 1 rfl) ?_
    refine r_callV (As := []) (rest := []) C hw ((t_X12_unitU_all l B D cA 8).2.2 kd ig28 rg lg14 _  σ x.toInt.toNat n9 0 n9 _ _ _ (uM B ig) (fmO (σ x.toInt.toNat)) [] (hG0.any hF) ⟨⟨(rows_m k4.1 k4.2).1, hz0⟩, fun q9 hq9 => by rw [Ft.i hF 59 _ (by decide)]; exact hkd0 q9 hq9⟩ hie (Nat.le_refl _) (by omega) (by omega) (PlU.nil (by omega)) (by show 0 + 2 * 8 + 3 ≤ 30; decide) hI) sv_X12_261 (hsh 49 _ rfl) rfl hl.1 rfl (Nat.le_of_ble_eq_true rfl) ⟨Nat.le_of_ble_eq_true rfl, Nat.le_of_ble_eq_true rfl⟩ ⟨Nat.le_of_ble_eq_true rfl, Nat.le_of_ble_eq_true rfl⟩ dX12_work_80 (fun r33 kd29 ig30 rg31 lg32 H locs hw hH hp34 => ?_)
    obtain ⟨rfl, rfl, hI, hchp34, hrhp34⟩ := hp34
    have hF : Ft B [49, 66, 67, 68, 69, 70, 72, 74] ig lg ig30 lg32 := Ft.tr hF hchp34 (by decide) (by decide)
    obtain ⟨rfl, hvhp34⟩ := hrhp34
    have wk9 : Wk0 B σ x.toInt.toNat ig ig30 := wk9.ft hchp34
    obtain ⟨w8, c8, uv8, pl8, cl8⟩ := hvhp34.2
    have uv9 := uv8
    rw [czB_0 (by omega)] at uv9
    have k4 : K4 B ig ig30 := k4.ft hchp34
    refine lv_iconst (v := 0) hx hb dX12_work_83 (by decide) (ti_c 0 (by decide) fun z35 hz35 => ?_)
    refine lv_istore_n (lv' := [(3, .int z35), (2, .int z17), (0, .ref (B + 49)), (1, .int x)]) hx hb dX12_work_84 rfl hl (by decide) rfl (fun ls hl => ?_)
    have L85 : ∀ (n : Nat) (ls : Array Slot) (H : Heap) (locs : List Loc) (ig37 : sI) (lg38 : sG) (v36 : Int32), lv_has ls 4 [(3, .int v36), (0, .ref (B + 49)), (1, .int x)] → WD B D cA s.heap kd ig37 rg lg38 H locs → IM τ φ υ B kd ig37 rg → Ft B [49, 66, 67, 68, 69, 70, 72, 74] ig lg ig37 lg38 → (0 ≤ v36.toInt) → (v36.toInt ≤ 3) → (Wk0 B σ x.toInt.toNat ig ig37) → ((∀ j : Nat, ¬ (3 * x.toInt ≤ (j : Int) ∧ (j : Int) < 3 * x.toInt + v36.toInt) → ig37 (B + 68) j = ig (B + 68) j) ∧ ∀ k : Nat, (k : Int) < v36.toInt → ig37 (B + 68) (3 * x.toInt.toNat + k) = ucp w8 (k : Int)) → (PlU B [w8] ig37) → (czB (ig37 (B + 49) 34) = c8) → (∀ j, ig37 (B + 69) j = ig (B + 69) j) → 3 - v36.toInt < (n : Int) → W p l e (rL 30 0 0) s m args below meth c H locs 0 0 (MQ below (QcW B D cA (PM τ φ υ B [49, 66, 67, 68, 69, 70, 72, 74] kd ig rg lg (fun r ig' lg' => (r = none ∧ (WkW B σ x.toInt.toNat ig ig' ∧ WkN B σ x.toInt.toNat ig ig'))))) args s 0 0 (fun q => B ≤ q)) (F0 m 85 ls []) := by
      intro n85
      induction n85 with
      | zero => intro ls H locs ig37 lg38 v36 hl hw hI hF g85_0 g85_1 g85_2 g85_3 g85_4 g85_5 g85_6 hmu; exact absurd hmu (by omega)
      | succ n85 ih85 =>
        intro ls H locs ig37 lg38 v36 hl hw hI hF g85_0 g85_1 g85_2 g85_3 g85_4 g85_5 g85_6 hmu
        have wk9 := g85_2
        refine lv_iload_n hx hb dX12_work_85 rfl (lv_at hl 0 rfl) ?_
        refine lv_iconst (v := 3) hx hb dX12_work_86 (by decide) (ti_c 3 (by decide) fun z39 hz39 => ?_)
        refine b_ge (tgt := 112) hx hb dX12_work_87 (by decide) (fun c87 => ?_) (fun c87 => ?_)
        · refine lv_aload_n hx hb dX12_work_112 rfl (lv_at hl 1 rfl) ?_
          refine r_get C hw (hsh 49 _ rfl) fl_X12_111 (oV_r rfl (hrm (49, 26, 69) (by decide))) dX12_work_113 ?_
          refine lv_iload_n hx hb dX12_work_116 rfl (lv_at hl 2 rfl) ?_
          refine lv_aload_n hx hb dX12_work_117 rfl (lv_at hl 1 rfl) ?_
          refine r_get C hw (hsh 49 _ rfl) fl_X12_254 (oV_i rfl) dX12_work_118 (ti_c (ig37 (B + 49) 34).toInt rfl fun z40 hz40 => ?_)
          have k41 : 0 ≤ (ig37 (B + 49) 34).toInt ∧ (ig37 (B + 49) 34).toInt ≤ 1 := hI.i 49 34 (by decide) (by decide)
          refine r_zast C hw (hsh 69 _ rfl) (by omega) (by omega) (nar_b (by omega)) dX12_work_121 (fun H locs hH hw => ?_)
          obtain ⟨ig42, eig42⟩ : ∃ f, f = up2 ig37 (B + 69) x.toInt.toNat z40 := ⟨_, rfl⟩
          rw [← eig42] at hw
          have hF : Ft B [49, 66, 67, 68, 69, 70, 72, 74] ig lg ig42 lg38 := by rw [eig42]; exact hF.pi (by decide)
          have hI : IM τ φ υ B kd ig42 rg := by rw [eig42]; exact hI.pi (by decide) (show okR none _ from trivial)
          have wig42_49_31 : (ig42 (B + 49) 31).toInt = (ig37 (B + 49) 31).toInt := by rw [eig42, up2_a (by omega)]
          have wig42_49_32 : (ig42 (B + 49) 32).toInt = (ig37 (B + 49) 32).toInt := by rw [eig42, up2_a (by omega)]
          have wig42_49_33 : (ig42 (B + 49) 33).toInt = (ig37 (B + 49) 33).toInt := by rw [eig42, up2_a (by omega)]
          have wig42_49_34 : (ig42 (B + 49) 34).toInt = (ig37 (B + 49) 34).toInt := by rw [eig42, up2_a (by omega)]
          have wig42_49_35 : (ig42 (B + 49) 35).toInt = (ig37 (B + 49) 35).toInt := by rw [eig42, up2_a (by omega)]
          have wk9 : Wk0 B σ x.toInt.toNat ig ig42 := by rw [eig42]; exact wk9.w (by decide)
          have wn9 : WkN B σ x.toInt.toNat ig ig42 := by rw [eig42]; exact WkN.mk (cz := c8) (M := fmO (σ x.toInt.toNat)) (h := (x.toInt.toNat : Int)) (fun j hj => g85_3.1 j (by omega)) (fun k hk => g85_3.2 k (by omega)) g85_6 (by rw [show czB z40 = czB (ig37 (B + 49) 34) from congrArg czB (i32_inj (by omega))]; exact g85_5) rfl rfl (by rw [uvA_end, uv9 []]) (by rw [uvA_end, uv9 []])
          refine lv_aload_n hx hb dX12_work_122 rfl (lv_at hl 1 rfl) ?_
          refine r_get C hw (hsh 49 _ rfl) fl_X12_114 (oV_r rfl (hrm (49, 27, 70) (by decide))) dX12_work_123 ?_
          refine lv_iload_n hx hb dX12_work_126 rfl (lv_at hl 2 rfl) ?_
          refine lv_aload_n hx hb dX12_work_127 rfl (lv_at hl 1 rfl) ?_
          have hG9 := hG0.any hF
          refine lv_iload_n hx hb dX12_work_128 rfl (lv_at hl 2 rfl) ?_
          refine r_callV (As := [.int x]) (rest := [.int x, .ref (B + 70)]) C hw (t_X12_looksTotalE l B D cA kd ig42 rg lg38 _ x (by omega) n9 _ (fmO (σ x.toInt.toNat)) hG9 hie hI) sv_X12_264 (hsh 49 _ rfl) rfl hl.1 rfl (Nat.le_of_ble_eq_true rfl) ⟨Nat.le_of_ble_eq_true rfl, Nat.le_of_ble_eq_true rfl⟩ ⟨Nat.le_of_ble_eq_true rfl, Nat.le_of_ble_eq_true rfl⟩ dX12_work_129 (fun r47 kd43 ig44 rg45 lg46 H locs hw hH hp48 => ?_)
          obtain ⟨rfl, rfl, rfl, rfl, hzhp48, hrhp48⟩ := hp48
          obtain ⟨z49, rfl, hz49⟩ := hrhp48
          have tl9 := hz49
          refine r_zast C hw (hsh 70 _ rfl) (by omega) (by omega) (nar_b (by omega)) dX12_work_132 (fun H locs hH hw => ?_)
          obtain ⟨ig50, eig50⟩ : ∃ f, f = up2 ig42 (B + 70) x.toInt.toNat z49 := ⟨_, rfl⟩
          rw [← eig50] at hw
          have hF : Ft B [49, 66, 67, 68, 69, 70, 72, 74] ig lg ig50 lg38 := by rw [eig50]; exact hF.pi (by decide)
          have hI : IM τ φ υ B kd ig50 rg := by rw [eig50]; exact hI.pi (by decide) (show okR none _ from trivial)
          have wig50_49_31 : (ig50 (B + 49) 31).toInt = (ig42 (B + 49) 31).toInt := by rw [eig50, up2_a (by omega)]
          have wig50_49_32 : (ig50 (B + 49) 32).toInt = (ig42 (B + 49) 32).toInt := by rw [eig50, up2_a (by omega)]
          have wig50_49_33 : (ig50 (B + 49) 33).toInt = (ig42 (B + 49) 33).toInt := by rw [eig50, up2_a (by omega)]
          have wig50_49_34 : (ig50 (B + 49) 34).toInt = (ig42 (B + 49) 34).toInt := by rw [eig50, up2_a (by omega)]
          have wig50_49_35 : (ig50 (B + 49) 35).toInt = (ig42 (B + 49) 35).toInt := by rw [eig50, up2_a (by omega)]
          have to9 : WkM B σ x.toInt.toNat ig ig50 ∧ TTo B (fmO (σ x.toInt.toNat)) x.toInt.toNat ig ig50 ∧ ∀ j, ig50 (B + 72) j = ig (B + 72) j := by rw [eig50]; exact wk9.to tl9
          have wn9 : WkN B σ x.toInt.toNat ig ig50 := by rw [eig50]; exact wn9.w (by decide)
          refine lv_aload_n hx hb dX12_work_133 rfl (lv_at hl 1 rfl) ?_
          refine r_get C hw (hsh 49 _ rfl) fl_X12_114 (oV_r rfl (hrm (49, 27, 70) (by decide))) dX12_work_134 ?_
          refine lv_iload_n hx hb dX12_work_137 rfl (lv_at hl 2 rfl) ?_
          refine r_zald C hw (hsh 70 _ rfl) (by omega) (by omega) dX12_work_138 (ti_c (ig50 (B + 70) x.toInt.toNat).toInt rfl fun z51 hz51 => ?_)
          have J147 : ∀ (ls : Array Slot) (H : Heap) (locs : List Loc) (ig53 : sI) (lg54 : sG) , lv_has ls 4 [] → WD B D cA s.heap kd ig53 rg lg54 H locs → IM τ φ υ B kd ig53 rg → Ft B [49, 66, 67, 68, 69, 70, 72, 74] ig lg ig53 lg54 → (WkW B σ x.toInt.toNat ig ig53) → (WkN B σ x.toInt.toNat ig ig53) → W p l e (rL 30 0 0) s m args below meth c H locs 0 0 (MQ below (QcW B D cA (PM τ φ υ B [49, 66, 67, 68, 69, 70, 72, 74] kd ig rg lg (fun r ig' lg' => (r = none ∧ (WkW B σ x.toInt.toNat ig ig' ∧ WkN B σ x.toInt.toNat ig ig'))))) args s 0 0 (fun q => B ≤ q)) (F0 m 147 ls []) := by
            intro ls H locs ig53 lg54 hl hw hI hF g147_0 g147_1
            have fin9 := g147_0
            have wn9 := g147_1
            exact r_vret C hw hr hlk (Nat.le_of_ble_eq_true rfl) (Nat.le_of_ble_eq_true rfl) dX12_work_147 ⟨rfl, rfl, hI, hF, ⟨rfl, ⟨fin9, wn9⟩⟩⟩
          refine z_eq (tgt := 147) hx hb dX12_work_139 (by decide) (fun c139 => ?_) (fun c139 => ?_)
          · exact J147 ls H locs ig50 lg38 (lv_sub hl [] rfl) hw hI hF (⟨to9.1, to9.2.1, fun q9 => absurd q9 (by rcases to9.2.1.2 with ⟨q8, _⟩ | ⟨_, q8⟩; (exfalso; omega); exact q8), fun _ => to9.2.2⟩) (wn9)
          · refine lv_aload_n hx hb dX12_work_142 rfl (lv_at hl 1 rfl) ?_
            have hG8 := hG0.any hF
            have tl8 := to9.2.1.2
            refine lv_iload_n hx hb dX12_work_143 rfl (lv_at hl 2 rfl) ?_
            refine r_callV (As := [.int x]) (rest := []) C hw (t_X12_countWaysE l B D cA kd ig50 rg lg38 _ x (by omega) (by rw [Ft.i hF 59 _ (by decide)]; omega) σ n9 _ (fmO (σ x.toInt.toNat)) hG8 hie (by rcases tl8 with ⟨_, q9⟩ | ⟨q9, _⟩; exact q9; omega) hrg (fun q9 hq9 => by rw [to9.2.1.1 q9 (hrg q9 hq9)]; exact hT q9 hq9) (fun q9 hq9 => by rw [Ft.i hF 59 _ (by decide)]; exact hkd0 q9 hq9) (fun q9 hq9 t9 r hr => by unfold wyV; rw [to9.2.2 _]; exact hwb q9 hq9 t9 r hr) hI) sv_X12_267 (hsh 49 _ rfl) rfl hl.1 rfl (Nat.le_of_ble_eq_true rfl) ⟨Nat.le_of_ble_eq_true rfl, Nat.le_of_ble_eq_true rfl⟩ ⟨Nat.le_of_ble_eq_true rfl, Nat.le_of_ble_eq_true rfl⟩ dX12_work_144 (fun r59 kd55 ig56 rg57 lg58 H locs hw hH hp60 => ?_)
            obtain ⟨rfl, rfl, hI, hchp60, hrhp60⟩ := hp60
            have hF : Ft B [49, 66, 67, 68, 69, 70, 72, 74] ig lg ig56 lg58 := Ft.tr hF hchp60 (by decide) (by decide)
            obtain ⟨rfl, hvhp60⟩ := hrhp60
            have fin9 : WkW B σ x.toInt.toNat ig ig56 := ⟨to9.1.ft hchp60, to9.2.1.ft hchp60, fun _ => ⟨(hvhp60).1.from to9.2.2, (hvhp60).2⟩, fun q9 => (by rcases tl8 with ⟨_, q8⟩ | ⟨q8, _⟩; exact absurd q8 q9; (exfalso; omega))⟩
            have wn9 := wn9.ft hchp60
            exact J147 ls H locs ig56 lg58 (lv_sub hl [] rfl) hw hI hF (fin9) (wn9)
        · refine lv_aload_n hx hb dX12_work_90 rfl (lv_at hl 1 rfl) ?_
          refine r_get C hw (hsh 49 _ rfl) fl_X12_108 (oV_r rfl (hrm (49, 25, 68) (by decide))) dX12_work_91 ?_
          refine lv_iconst (v := 3) hx hb dX12_work_94 (by decide) (ti_c 3 (by decide) fun z61 hz61 => ?_)
          refine lv_iload_n hx hb dX12_work_95 rfl (lv_at hl 2 rfl) ?_
          refine lv_imul hx hb dX12_work_96 (tc_mulL 3 hz61 fun z62 hz62 => ?_)
          first | replace hz62 := hz62 (by omega) | clear hz62
          refine lv_iload_n hx hb dX12_work_97 rfl (lv_at hl 0 rfl) ?_
          refine lv_iadd hx hb dX12_work_98 (tc_add fun z63 hz63 => ?_)
          first | replace hz63 := hz63 (by omega) | clear hz63
          refine lv_aload_n hx hb dX12_work_99 rfl (lv_at hl 1 rfl) ?_
          refine r_get C hw (hsh 49 _ rfl) fl_X12_127 (oV_r rfl (hrm (49, 36, 74) (by decide))) dX12_work_100 ?_
          refine lv_iload_n hx hb dX12_work_103 rfl (lv_at hl 0 rfl) ?_
          refine r_iald C hw (hsh 74 _ rfl) (by omega) (by omega) dX12_work_104 (ti_c (ig37 (B + 74) v36.toInt.toNat).toInt rfl fun z64 hz64 => ?_)
          have us9 : un3 (ig37 (B + 74)) 0 = w8 := PlU.top (k := []) g85_4
          have op9 : z64 = ucp w8 v36.toInt := by rw [← us9, ucp_3 (by omega)]; exact i32_inj (by rw [hz64, show 3 * 0 + v36.toInt.toNat = v36.toInt.toNat by omega])
          refine r_iast C hw (hsh 68 _ rfl) (by omega) (by omega) dX12_work_105 (fun H locs hH hw => ?_)
          obtain ⟨ig66, eig66⟩ : ∃ f, f = up2 ig37 (B + 68) z63.toInt.toNat z64 := ⟨_, rfl⟩
          rw [← eig66] at hw
          have hF : Ft B [49, 66, 67, 68, 69, 70, 72, 74] ig lg ig66 lg38 := by rw [eig66]; exact hF.pi (by decide)
          have hI : IM τ φ υ B kd ig66 rg := by rw [eig66]; exact hI.pi (by decide) (show okR none _ from trivial)
          have wig66_49_31 : (ig66 (B + 49) 31).toInt = (ig37 (B + 49) 31).toInt := by rw [eig66, up2_a (by omega)]
          have wig66_49_32 : (ig66 (B + 49) 32).toInt = (ig37 (B + 49) 32).toInt := by rw [eig66, up2_a (by omega)]
          have wig66_49_33 : (ig66 (B + 49) 33).toInt = (ig37 (B + 49) 33).toInt := by rw [eig66, up2_a (by omega)]
          have wig66_49_34 : (ig66 (B + 49) 34).toInt = (ig37 (B + 49) 34).toInt := by rw [eig66, up2_a (by omega)]
          have wig66_49_35 : (ig66 (B + 49) 35).toInt = (ig37 (B + 49) 35).toInt := by rw [eig66, up2_a (by omega)]
          have wk9 : Wk0 B σ x.toInt.toNat ig ig66 := by rw [eig66]; exact wk9.w (by decide)
          have ex9 : (∀ j : Nat, ¬ (3 * x.toInt ≤ (j : Int) ∧ (j : Int) < 3 * x.toInt + (v36.toInt + 1)) → ig66 (B + 68) j = ig (B + 68) j) ∧ ∀ k : Nat, (k : Int) < (v36.toInt + 1) → ig66 (B + 68) (3 * x.toInt.toNat + k) = ucp w8 (k : Int) := ⟨fun j hj => by rw [eig66, up2_j (by omega)]; exact g85_3.1 j (by omega), fun k hk => by rw [eig66]; by_cases e9 : (k : Int) = v36.toInt; (rw [show z63.toInt.toNat = 3 * x.toInt.toNat + k by omega, up2_eq, e9]; exact op9); (rw [up2_j (by omega)]; exact g85_3.2 k (by omega))⟩
          have pl7 : PlU B [w8] ig66 := g85_4.ag (by omega) (fun j9 => by rw [eig66, up2_a (by omega)])
          have cl7 : czB (ig66 (B + 49) 34) = c8 := by rw [show ig66 (B + 49) 34 = ig37 (B + 49) 34 by rw [eig66, up2_a (by omega)]]; exact g85_5
          have e97 : ∀ j, ig66 (B + 69) j = ig (B + 69) j := fun j => by rw [eig66, up2_a (by omega)]; exact g85_6 j
          refine tc_inc hx hb dX12_work_106 hl (k := 0) rfl (by decide) (by decide) (fun z67 hz67 ls hl => ?_)
          first | replace hz67 := hz67 (by omega) | clear hz67
          have hl : lv_has ls 4 [(3, .int z67), (0, .ref (B + 49)), (1, .int x)] := hl
          refine lv_goto (tgt := 85) hx hb dX12_work_109 (by decide) ?_
          exact ih85 ls H locs ig66 lg38 z67 (lv_sub hl [0, 1, 2] rfl) hw hI hF (by omega) (by omega) (wk9) (by rw [show z67.toInt = v36.toInt + 1 by omega]; exact ex9) (pl7) (cl7) (e97) (by omega)
    exact L85 ((3 - z35.toInt) + 1).toNat ls H locs ig30 lg32 z35 (lv_sub hl [0, 2, 3] rfl) hw hI hF (by omega) (by omega) (wk9) (⟨fun j _ => k4.1 j, fun k hk => absurd hk (by omega)⟩) (pl8) (cl8) (k4.2) (by omega)
  · refine lv_iconst (v := 0) hx hb dX12_work_45 (by decide) (ti_c 0 (by decide) fun z68 hz68 => ?_)
    refine lv_goto (tgt := 50) hx hb dX12_work_46 (by decide) ?_
    refine r_iast C hw (hsh 66 _ rfl) (by omega) (by omega) dX12_work_50 (fun H locs hH hw => ?_)
    obtain ⟨ig69, eig69⟩ : ∃ f, f = up2 ig12 (B + 66) x.toInt.toNat z68 := ⟨_, rfl⟩
    rw [← eig69] at hw
    have hF : Ft B [49, 66, 67, 68, 69, 70, 72, 74] ig lg ig69 lg14 := by rw [eig69]; exact hF.pi (by decide)
    have hI : IM τ φ υ B kd ig69 rg := by rw [eig69]; exact hI.pi (by decide) (show okR none _ from trivial)
    have wig69_49_31 : (ig69 (B + 49) 31).toInt = (ig12 (B + 49) 31).toInt := by rw [eig69, up2_a (by omega)]
    have wig69_49_32 : (ig69 (B + 49) 32).toInt = (ig12 (B + 49) 32).toInt := by rw [eig69, up2_a (by omega)]
    have wig69_49_33 : (ig69 (B + 49) 33).toInt = (ig12 (B + 49) 33).toInt := by rw [eig69, up2_a (by omega)]
    have wig69_49_34 : (ig69 (B + 49) 34).toInt = (ig12 (B + 49) 34).toInt := by rw [eig69, up2_a (by omega)]
    have wig69_49_35 : (ig69 (B + 49) 35).toInt = (ig12 (B + 49) 35).toInt := by rw [eig69, up2_a (by omega)]
    have k4 : K4 B ig ig69 := by rw [eig69]; exact k4.w (by decide)
    refine lv_aload_n hx hb dX12_work_51 rfl (lv_at hl 1 rfl) ?_
    refine r_get C hw (hsh 49 _ rfl) fl_X12_105 (oV_r rfl (hrm (49, 24, 67) (by decide))) dX12_work_52 ?_
    refine lv_iload_n hx hb dX12_work_55 rfl (lv_at hl 2 rfl) ?_
    refine lv_aload_n hx hb dX12_work_56 rfl (lv_at hl 1 rfl) ?_
    refine r_get C hw (hsh 49 _ rfl) fl_X12_247 (oV_i rfl) dX12_work_57 (ti_c (ig69 (B + 49) 33).toInt rfl fun z70 hz70 => ?_)
    refine r_iast C hw (hsh 67 _ rfl) (by omega) (by omega) dX12_work_60 (fun H locs hH hw => ?_)
    obtain ⟨ig71, eig71⟩ : ∃ f, f = up2 ig69 (B + 67) x.toInt.toNat z70 := ⟨_, rfl⟩
    rw [← eig71] at hw
    have hF : Ft B [49, 66, 67, 68, 69, 70, 72, 74] ig lg ig71 lg14 := by rw [eig71]; exact hF.pi (by decide)
    have hI : IM τ φ υ B kd ig71 rg := by rw [eig71]; exact hI.pi (by decide) (show okR none _ from trivial)
    have wig71_49_31 : (ig71 (B + 49) 31).toInt = (ig69 (B + 49) 31).toInt := by rw [eig71, up2_a (by omega)]
    have wig71_49_32 : (ig71 (B + 49) 32).toInt = (ig69 (B + 49) 32).toInt := by rw [eig71, up2_a (by omega)]
    have wig71_49_33 : (ig71 (B + 49) 33).toInt = (ig69 (B + 49) 33).toInt := by rw [eig71, up2_a (by omega)]
    have wig71_49_34 : (ig71 (B + 49) 34).toInt = (ig69 (B + 49) 34).toInt := by rw [eig71, up2_a (by omega)]
    have wig71_49_35 : (ig71 (B + 49) 35).toInt = (ig69 (B + 49) 35).toInt := by rw [eig71, up2_a (by omega)]
    have em9 : z70 = ig12 (B + 49) 33 := i32_inj (by rw [hz70, eig69, up2_a (by omega)])
    have wk9 : WkM B σ x.toInt.toNat ig ig71 := WkM.mk (w := z68) (m := z70) (z := z17) (a := ig10 (B + 49) 33) (fun j hj => ⟨by rw [eig71, up2_a (by omega), eig69, up2_j hj, gv9.1], by rw [eig71, up2_j hj, eig69, up2_a (by omega), gv9.2]⟩) (by rw [eig71, up2_a (by omega), eig69, up2_eq]) (by rw [eig71, up2_eq]) rfl (by rw [em9]; exact ev9) (by rw [eig10, up2_eq]; exact i32_z (by omega)) rfl rfl hn hf ⟨fun _ => i32_z (by omega), fun q => absurd q (by omega)⟩
    have wk9 : Wk0 B σ x.toInt.toNat ig ig71 := ⟨wk9, fun j => by rw [eig71, up2_a (by omega), eig69, up2_a (by omega)]; exact e70 j, fun j => by rw [eig71, up2_a (by omega), eig69, up2_a (by omega)]; exact e72 j⟩
    have k4 : K4 B ig ig71 := by rw [eig71]; exact k4.w (by decide)
    refine lv_aload_n hx hb dX12_work_61 rfl (lv_at hl 1 rfl) ?_
    refine lv_bipush (v := 120) hx hb dX12_work_62 (by decide) (ti_c 120 (by decide) fun z72 hz72 => ?_)
    refine lv_iload_n hx hb dX12_work_64 rfl (lv_at hl 2 rfl) ?_
    refine lv_imul hx hb dX12_work_65 (tc_mulL 120 hz72 fun z73 hz73 => ?_)
    first | replace hz73 := hz73 (by omega) | clear hz73
    refine r_puti C hw (hsh 49 _ rfl) fl_X12_241 rfl rfl rfl dX12_work_66 (fun H locs hH hw => ?_)
    obtain ⟨ig74, eig74⟩ : ∃ f, f = up2 ig71 (B + 49) 31 z73 := ⟨_, rfl⟩
    rw [← eig74] at hw
    have hF : Ft B [49, 66, 67, 68, 69, 70, 72, 74] ig lg ig74 lg14 := by rw [eig74]; exact hF.pi (by decide)
    have hI : IM τ φ υ B kd ig74 rg := by rw [eig74]; exact hI.pi (by decide) (show okR none _ from trivial)
    have wig74 : (ig74 (B + 49) 31).toInt = z73.toInt := by rw [eig74, up2_eq]
    have wig74_49_32 : (ig74 (B + 49) 32).toInt = (ig71 (B + 49) 32).toInt := by rw [eig74, up2_j (by decide)]
    have wig74_49_33 : (ig74 (B + 49) 33).toInt = (ig71 (B + 49) 33).toInt := by rw [eig74, up2_j (by decide)]
    have wig74_49_34 : (ig74 (B + 49) 34).toInt = (ig71 (B + 49) 34).toInt := by rw [eig74, up2_j (by decide)]
    have wig74_49_35 : (ig74 (B + 49) 35).toInt = (ig71 (B + 49) 35).toInt := by rw [eig74, up2_j (by decide)]
    have wk9 : Wk0 B σ x.toInt.toNat ig ig74 := by rw [eig74]; exact wk9.w (by decide)
    have k4 : K4 B ig ig74 := by rw [eig74]; exact k4.w (by decide)
    refine lv_aload_n hx hb dX12_work_69 rfl (lv_at hl 1 rfl) ?_
    refine lv_iconst (v := 0) hx hb dX12_work_70 (by decide) (ti_c 0 (by decide) fun z75 hz75 => ?_)
    refine r_puti C hw (hsh 49 _ rfl) fl_X12_254 rfl (nar_b (by omega)) (fit_b (by omega)) dX12_work_71 (fun H locs hH hw => ?_)
    obtain ⟨ig76, eig76⟩ : ∃ f, f = up2 ig74 (B + 49) 34 z75 := ⟨_, rfl⟩
    rw [← eig76] at hw
    have hF : Ft B [49, 66, 67, 68, 69, 70, 72, 74] ig lg ig76 lg14 := by rw [eig76]; exact hF.pi (by decide)
    have hI : IM τ φ υ B kd ig76 rg := by rw [eig76]; exact hI.pi (by decide) (show okR (some (0, 1)) _ from ⟨by show (0 : Int) ≤ _; omega, by show _ ≤ (1 : Int); omega⟩)
    have wig76_49_31 : (ig76 (B + 49) 31).toInt = (ig74 (B + 49) 31).toInt := by rw [eig76, up2_j (by decide)]
    have wig76_49_32 : (ig76 (B + 49) 32).toInt = (ig74 (B + 49) 32).toInt := by rw [eig76, up2_j (by decide)]
    have wig76_49_33 : (ig76 (B + 49) 33).toInt = (ig74 (B + 49) 33).toInt := by rw [eig76, up2_j (by decide)]
    have wig76 : (ig76 (B + 49) 34).toInt = z75.toInt := by rw [eig76, up2_eq]
    have wig76_49_35 : (ig76 (B + 49) 35).toInt = (ig74 (B + 49) 35).toInt := by rw [eig76, up2_j (by decide)]
    have wk9 : Wk0 B σ x.toInt.toNat ig ig76 := by rw [eig76]; exact wk9.w (by decide)
    have k4 : K4 B ig ig76 := by rw [eig76]; exact k4.w (by decide)
    refine lv_aload_n hx hb dX12_work_74 rfl (lv_at hl 1 rfl) ?_
    refine lv_iconst (v := 0) hx hb dX12_work_75 (by decide) (ti_c 0 (by decide) fun z77 hz77 => ?_)
    refine r_puti C hw (hsh 49 _ rfl) fl_X12_258 rfl rfl rfl dX12_work_76 (fun H locs hH hw => ?_)
    obtain ⟨ig78, eig78⟩ : ∃ f, f = up2 ig76 (B + 49) 35 z77 := ⟨_, rfl⟩
    rw [← eig78] at hw
    have hF : Ft B [49, 66, 67, 68, 69, 70, 72, 74] ig lg ig78 lg14 := by rw [eig78]; exact hF.pi (by decide)
    have hI : IM τ φ υ B kd ig78 rg := by rw [eig78]; exact hI.pi (by decide) (show okR none _ from trivial)
    have wig78_49_31 : (ig78 (B + 49) 31).toInt = (ig76 (B + 49) 31).toInt := by rw [eig78, up2_j (by decide)]
    have wig78_49_32 : (ig78 (B + 49) 32).toInt = (ig76 (B + 49) 32).toInt := by rw [eig78, up2_j (by decide)]
    have wig78_49_33 : (ig78 (B + 49) 33).toInt = (ig76 (B + 49) 33).toInt := by rw [eig78, up2_j (by decide)]
    have wig78_49_34 : (ig78 (B + 49) 34).toInt = (ig76 (B + 49) 34).toInt := by rw [eig78, up2_j (by decide)]
    have wig78 : (ig78 (B + 49) 35).toInt = z77.toInt := by rw [eig78, up2_eq]
    have wk9 : Wk0 B σ x.toInt.toNat ig ig78 := by rw [eig78]; exact wk9.w (by decide)
    have k4 : K4 B ig ig78 := by rw [eig78]; exact k4.w (by decide)
    refine lv_aload_n hx hb dX12_work_79 rfl (lv_at hl 1 rfl) ?_
    refine r_callV (As := []) (rest := []) C hw ((t_X12_unitU_all l B D cA 8).2.2 kd ig78 rg lg14 _  σ x.toInt.toNat n9 0 n9 _ _ _ (uM B ig) (fmO (σ x.toInt.toNat)) [] (hG0.any hF) ⟨⟨(rows_m k4.1 k4.2).1, hz0⟩, fun q9 hq9 => by rw [Ft.i hF 59 _ (by decide)]; exact hkd0 q9 hq9⟩ hie (Nat.le_refl _) (by omega) (by omega) (PlU.nil (by omega)) (by show 0 + 2 * 8 + 3 ≤ 30; decide) hI) sv_X12_261 (hsh 49 _ rfl) rfl hl.1 rfl (Nat.le_of_ble_eq_true rfl) ⟨Nat.le_of_ble_eq_true rfl, Nat.le_of_ble_eq_true rfl⟩ ⟨Nat.le_of_ble_eq_true rfl, Nat.le_of_ble_eq_true rfl⟩ dX12_work_80 (fun r83 kd79 ig80 rg81 lg82 H locs hw hH hp84 => ?_)
    obtain ⟨rfl, rfl, hI, hchp84, hrhp84⟩ := hp84
    have hF : Ft B [49, 66, 67, 68, 69, 70, 72, 74] ig lg ig80 lg82 := Ft.tr hF hchp84 (by decide) (by decide)
    obtain ⟨rfl, hvhp84⟩ := hrhp84
    have wk9 : Wk0 B σ x.toInt.toNat ig ig80 := wk9.ft hchp84
    obtain ⟨w8, c8, uv8, pl8, cl8⟩ := hvhp84.2
    have uv9 := uv8
    rw [czB_0 (by omega)] at uv9
    have k4 : K4 B ig ig80 := k4.ft hchp84
    refine lv_iconst (v := 0) hx hb dX12_work_83 (by decide) (ti_c 0 (by decide) fun z85 hz85 => ?_)
    refine lv_istore_n (lv' := [(3, .int z85), (2, .int z17), (0, .ref (B + 49)), (1, .int x)]) hx hb dX12_work_84 rfl hl (by decide) rfl (fun ls hl => ?_)
    have L85 : ∀ (n : Nat) (ls : Array Slot) (H : Heap) (locs : List Loc) (ig87 : sI) (lg88 : sG) (v86 : Int32), lv_has ls 4 [(3, .int v86), (0, .ref (B + 49)), (1, .int x)] → WD B D cA s.heap kd ig87 rg lg88 H locs → IM τ φ υ B kd ig87 rg → Ft B [49, 66, 67, 68, 69, 70, 72, 74] ig lg ig87 lg88 → (0 ≤ v86.toInt) → (v86.toInt ≤ 3) → (Wk0 B σ x.toInt.toNat ig ig87) → ((∀ j : Nat, ¬ (3 * x.toInt ≤ (j : Int) ∧ (j : Int) < 3 * x.toInt + v86.toInt) → ig87 (B + 68) j = ig (B + 68) j) ∧ ∀ k : Nat, (k : Int) < v86.toInt → ig87 (B + 68) (3 * x.toInt.toNat + k) = ucp w8 (k : Int)) → (PlU B [w8] ig87) → (czB (ig87 (B + 49) 34) = c8) → (∀ j, ig87 (B + 69) j = ig (B + 69) j) → 3 - v86.toInt < (n : Int) → W p l e (rL 30 0 0) s m args below meth c H locs 0 0 (MQ below (QcW B D cA (PM τ φ υ B [49, 66, 67, 68, 69, 70, 72, 74] kd ig rg lg (fun r ig' lg' => (r = none ∧ (WkW B σ x.toInt.toNat ig ig' ∧ WkN B σ x.toInt.toNat ig ig'))))) args s 0 0 (fun q => B ≤ q)) (F0 m 85 ls []) := by
      intro n85
      induction n85 with
      | zero => intro ls H locs ig87 lg88 v86 hl hw hI hF g85_0 g85_1 g85_2 g85_3 g85_4 g85_5 g85_6 hmu; exact absurd hmu (by omega)
      | succ n85 ih85 =>
        intro ls H locs ig87 lg88 v86 hl hw hI hF g85_0 g85_1 g85_2 g85_3 g85_4 g85_5 g85_6 hmu
        have wk9 := g85_2
        refine lv_iload_n hx hb dX12_work_85 rfl (lv_at hl 0 rfl) ?_
        refine lv_iconst (v := 3) hx hb dX12_work_86 (by decide) (ti_c 3 (by decide) fun z89 hz89 => ?_)
        refine b_ge (tgt := 112) hx hb dX12_work_87 (by decide) (fun c87 => ?_) (fun c87 => ?_)
        · refine lv_aload_n hx hb dX12_work_112 rfl (lv_at hl 1 rfl) ?_
          refine r_get C hw (hsh 49 _ rfl) fl_X12_111 (oV_r rfl (hrm (49, 26, 69) (by decide))) dX12_work_113 ?_
          refine lv_iload_n hx hb dX12_work_116 rfl (lv_at hl 2 rfl) ?_
          refine lv_aload_n hx hb dX12_work_117 rfl (lv_at hl 1 rfl) ?_
          refine r_get C hw (hsh 49 _ rfl) fl_X12_254 (oV_i rfl) dX12_work_118 (ti_c (ig87 (B + 49) 34).toInt rfl fun z90 hz90 => ?_)
          have k91 : 0 ≤ (ig87 (B + 49) 34).toInt ∧ (ig87 (B + 49) 34).toInt ≤ 1 := hI.i 49 34 (by decide) (by decide)
          refine r_zast C hw (hsh 69 _ rfl) (by omega) (by omega) (nar_b (by omega)) dX12_work_121 (fun H locs hH hw => ?_)
          obtain ⟨ig92, eig92⟩ : ∃ f, f = up2 ig87 (B + 69) x.toInt.toNat z90 := ⟨_, rfl⟩
          rw [← eig92] at hw
          have hF : Ft B [49, 66, 67, 68, 69, 70, 72, 74] ig lg ig92 lg88 := by rw [eig92]; exact hF.pi (by decide)
          have hI : IM τ φ υ B kd ig92 rg := by rw [eig92]; exact hI.pi (by decide) (show okR none _ from trivial)
          have wig92_49_31 : (ig92 (B + 49) 31).toInt = (ig87 (B + 49) 31).toInt := by rw [eig92, up2_a (by omega)]
          have wig92_49_32 : (ig92 (B + 49) 32).toInt = (ig87 (B + 49) 32).toInt := by rw [eig92, up2_a (by omega)]
          have wig92_49_33 : (ig92 (B + 49) 33).toInt = (ig87 (B + 49) 33).toInt := by rw [eig92, up2_a (by omega)]
          have wig92_49_34 : (ig92 (B + 49) 34).toInt = (ig87 (B + 49) 34).toInt := by rw [eig92, up2_a (by omega)]
          have wig92_49_35 : (ig92 (B + 49) 35).toInt = (ig87 (B + 49) 35).toInt := by rw [eig92, up2_a (by omega)]
          have wk9 : Wk0 B σ x.toInt.toNat ig ig92 := by rw [eig92]; exact wk9.w (by decide)
          have wn9 : WkN B σ x.toInt.toNat ig ig92 := by rw [eig92]; exact WkN.mk (cz := c8) (M := fmO (σ x.toInt.toNat)) (h := (x.toInt.toNat : Int)) (fun j hj => g85_3.1 j (by omega)) (fun k hk => g85_3.2 k (by omega)) g85_6 (by rw [show czB z90 = czB (ig87 (B + 49) 34) from congrArg czB (i32_inj (by omega))]; exact g85_5) rfl rfl (by rw [uvA_end, uv9 []]) (by rw [uvA_end, uv9 []])
          refine lv_aload_n hx hb dX12_work_122 rfl (lv_at hl 1 rfl) ?_
          refine r_get C hw (hsh 49 _ rfl) fl_X12_114 (oV_r rfl (hrm (49, 27, 70) (by decide))) dX12_work_123 ?_
          refine lv_iload_n hx hb dX12_work_126 rfl (lv_at hl 2 rfl) ?_
          refine lv_aload_n hx hb dX12_work_127 rfl (lv_at hl 1 rfl) ?_
          have hG9 := hG0.any hF
          refine lv_iload_n hx hb dX12_work_128 rfl (lv_at hl 2 rfl) ?_
          refine r_callV (As := [.int x]) (rest := [.int x, .ref (B + 70)]) C hw (t_X12_looksTotalE l B D cA kd ig92 rg lg88 _ x (by omega) n9 _ (fmO (σ x.toInt.toNat)) hG9 hie hI) sv_X12_264 (hsh 49 _ rfl) rfl hl.1 rfl (Nat.le_of_ble_eq_true rfl) ⟨Nat.le_of_ble_eq_true rfl, Nat.le_of_ble_eq_true rfl⟩ ⟨Nat.le_of_ble_eq_true rfl, Nat.le_of_ble_eq_true rfl⟩ dX12_work_129 (fun r97 kd93 ig94 rg95 lg96 H locs hw hH hp98 => ?_)
          obtain ⟨rfl, rfl, rfl, rfl, hzhp98, hrhp98⟩ := hp98
          obtain ⟨z99, rfl, hz99⟩ := hrhp98
          have tl9 := hz99
          refine r_zast C hw (hsh 70 _ rfl) (by omega) (by omega) (nar_b (by omega)) dX12_work_132 (fun H locs hH hw => ?_)
          obtain ⟨ig100, eig100⟩ : ∃ f, f = up2 ig92 (B + 70) x.toInt.toNat z99 := ⟨_, rfl⟩
          rw [← eig100] at hw
          have hF : Ft B [49, 66, 67, 68, 69, 70, 72, 74] ig lg ig100 lg88 := by rw [eig100]; exact hF.pi (by decide)
          have hI : IM τ φ υ B kd ig100 rg := by rw [eig100]; exact hI.pi (by decide) (show okR none _ from trivial)
          have wig100_49_31 : (ig100 (B + 49) 31).toInt = (ig92 (B + 49) 31).toInt := by rw [eig100, up2_a (by omega)]
          have wig100_49_32 : (ig100 (B + 49) 32).toInt = (ig92 (B + 49) 32).toInt := by rw [eig100, up2_a (by omega)]
          have wig100_49_33 : (ig100 (B + 49) 33).toInt = (ig92 (B + 49) 33).toInt := by rw [eig100, up2_a (by omega)]
          have wig100_49_34 : (ig100 (B + 49) 34).toInt = (ig92 (B + 49) 34).toInt := by rw [eig100, up2_a (by omega)]
          have wig100_49_35 : (ig100 (B + 49) 35).toInt = (ig92 (B + 49) 35).toInt := by rw [eig100, up2_a (by omega)]
          have to9 : WkM B σ x.toInt.toNat ig ig100 ∧ TTo B (fmO (σ x.toInt.toNat)) x.toInt.toNat ig ig100 ∧ ∀ j, ig100 (B + 72) j = ig (B + 72) j := by rw [eig100]; exact wk9.to tl9
          have wn9 : WkN B σ x.toInt.toNat ig ig100 := by rw [eig100]; exact wn9.w (by decide)
          refine lv_aload_n hx hb dX12_work_133 rfl (lv_at hl 1 rfl) ?_
          refine r_get C hw (hsh 49 _ rfl) fl_X12_114 (oV_r rfl (hrm (49, 27, 70) (by decide))) dX12_work_134 ?_
          refine lv_iload_n hx hb dX12_work_137 rfl (lv_at hl 2 rfl) ?_
          refine r_zald C hw (hsh 70 _ rfl) (by omega) (by omega) dX12_work_138 (ti_c (ig100 (B + 70) x.toInt.toNat).toInt rfl fun z101 hz101 => ?_)
          have J147 : ∀ (ls : Array Slot) (H : Heap) (locs : List Loc) (ig103 : sI) (lg104 : sG) , lv_has ls 4 [] → WD B D cA s.heap kd ig103 rg lg104 H locs → IM τ φ υ B kd ig103 rg → Ft B [49, 66, 67, 68, 69, 70, 72, 74] ig lg ig103 lg104 → (WkW B σ x.toInt.toNat ig ig103) → (WkN B σ x.toInt.toNat ig ig103) → W p l e (rL 30 0 0) s m args below meth c H locs 0 0 (MQ below (QcW B D cA (PM τ φ υ B [49, 66, 67, 68, 69, 70, 72, 74] kd ig rg lg (fun r ig' lg' => (r = none ∧ (WkW B σ x.toInt.toNat ig ig' ∧ WkN B σ x.toInt.toNat ig ig'))))) args s 0 0 (fun q => B ≤ q)) (F0 m 147 ls []) := by
            intro ls H locs ig103 lg104 hl hw hI hF g147_0 g147_1
            have fin9 := g147_0
            have wn9 := g147_1
            exact r_vret C hw hr hlk (Nat.le_of_ble_eq_true rfl) (Nat.le_of_ble_eq_true rfl) dX12_work_147 ⟨rfl, rfl, hI, hF, ⟨rfl, ⟨fin9, wn9⟩⟩⟩
          refine z_eq (tgt := 147) hx hb dX12_work_139 (by decide) (fun c139 => ?_) (fun c139 => ?_)
          · exact J147 ls H locs ig100 lg88 (lv_sub hl [] rfl) hw hI hF (⟨to9.1, to9.2.1, fun q9 => absurd q9 (by rcases to9.2.1.2 with ⟨q8, _⟩ | ⟨_, q8⟩; (exfalso; omega); exact q8), fun _ => to9.2.2⟩) (wn9)
          · refine lv_aload_n hx hb dX12_work_142 rfl (lv_at hl 1 rfl) ?_
            have hG8 := hG0.any hF
            have tl8 := to9.2.1.2
            refine lv_iload_n hx hb dX12_work_143 rfl (lv_at hl 2 rfl) ?_
            refine r_callV (As := [.int x]) (rest := []) C hw (t_X12_countWaysE l B D cA kd ig100 rg lg88 _ x (by omega) (by rw [Ft.i hF 59 _ (by decide)]; omega) σ n9 _ (fmO (σ x.toInt.toNat)) hG8 hie (by rcases tl8 with ⟨_, q9⟩ | ⟨q9, _⟩; exact q9; omega) hrg (fun q9 hq9 => by rw [to9.2.1.1 q9 (hrg q9 hq9)]; exact hT q9 hq9) (fun q9 hq9 => by rw [Ft.i hF 59 _ (by decide)]; exact hkd0 q9 hq9) (fun q9 hq9 t9 r hr => by unfold wyV; rw [to9.2.2 _]; exact hwb q9 hq9 t9 r hr) hI) sv_X12_267 (hsh 49 _ rfl) rfl hl.1 rfl (Nat.le_of_ble_eq_true rfl) ⟨Nat.le_of_ble_eq_true rfl, Nat.le_of_ble_eq_true rfl⟩ ⟨Nat.le_of_ble_eq_true rfl, Nat.le_of_ble_eq_true rfl⟩ dX12_work_144 (fun r109 kd105 ig106 rg107 lg108 H locs hw hH hp110 => ?_)
            obtain ⟨rfl, rfl, hI, hchp110, hrhp110⟩ := hp110
            have hF : Ft B [49, 66, 67, 68, 69, 70, 72, 74] ig lg ig106 lg108 := Ft.tr hF hchp110 (by decide) (by decide)
            obtain ⟨rfl, hvhp110⟩ := hrhp110
            have fin9 : WkW B σ x.toInt.toNat ig ig106 := ⟨to9.1.ft hchp110, to9.2.1.ft hchp110, fun _ => ⟨(hvhp110).1.from to9.2.2, (hvhp110).2⟩, fun q9 => (by rcases tl8 with ⟨_, q8⟩ | ⟨q8, _⟩; exact absurd q8 q9; (exfalso; omega))⟩
            have wn9 := wn9.ft hchp110
            exact J147 ls H locs ig106 lg108 (lv_sub hl [] rfl) hw hI hF (fin9) (wn9)
        · refine lv_aload_n hx hb dX12_work_90 rfl (lv_at hl 1 rfl) ?_
          refine r_get C hw (hsh 49 _ rfl) fl_X12_108 (oV_r rfl (hrm (49, 25, 68) (by decide))) dX12_work_91 ?_
          refine lv_iconst (v := 3) hx hb dX12_work_94 (by decide) (ti_c 3 (by decide) fun z111 hz111 => ?_)
          refine lv_iload_n hx hb dX12_work_95 rfl (lv_at hl 2 rfl) ?_
          refine lv_imul hx hb dX12_work_96 (tc_mulL 3 hz111 fun z112 hz112 => ?_)
          first | replace hz112 := hz112 (by omega) | clear hz112
          refine lv_iload_n hx hb dX12_work_97 rfl (lv_at hl 0 rfl) ?_
          refine lv_iadd hx hb dX12_work_98 (tc_add fun z113 hz113 => ?_)
          first | replace hz113 := hz113 (by omega) | clear hz113
          refine lv_aload_n hx hb dX12_work_99 rfl (lv_at hl 1 rfl) ?_
          refine r_get C hw (hsh 49 _ rfl) fl_X12_127 (oV_r rfl (hrm (49, 36, 74) (by decide))) dX12_work_100 ?_
          refine lv_iload_n hx hb dX12_work_103 rfl (lv_at hl 0 rfl) ?_
          refine r_iald C hw (hsh 74 _ rfl) (by omega) (by omega) dX12_work_104 (ti_c (ig87 (B + 74) v86.toInt.toNat).toInt rfl fun z114 hz114 => ?_)
          have us9 : un3 (ig87 (B + 74)) 0 = w8 := PlU.top (k := []) g85_4
          have op9 : z114 = ucp w8 v86.toInt := by rw [← us9, ucp_3 (by omega)]; exact i32_inj (by rw [hz114, show 3 * 0 + v86.toInt.toNat = v86.toInt.toNat by omega])
          refine r_iast C hw (hsh 68 _ rfl) (by omega) (by omega) dX12_work_105 (fun H locs hH hw => ?_)
          obtain ⟨ig116, eig116⟩ : ∃ f, f = up2 ig87 (B + 68) z113.toInt.toNat z114 := ⟨_, rfl⟩
          rw [← eig116] at hw
          have hF : Ft B [49, 66, 67, 68, 69, 70, 72, 74] ig lg ig116 lg88 := by rw [eig116]; exact hF.pi (by decide)
          have hI : IM τ φ υ B kd ig116 rg := by rw [eig116]; exact hI.pi (by decide) (show okR none _ from trivial)
          have wig116_49_31 : (ig116 (B + 49) 31).toInt = (ig87 (B + 49) 31).toInt := by rw [eig116, up2_a (by omega)]
          have wig116_49_32 : (ig116 (B + 49) 32).toInt = (ig87 (B + 49) 32).toInt := by rw [eig116, up2_a (by omega)]
          have wig116_49_33 : (ig116 (B + 49) 33).toInt = (ig87 (B + 49) 33).toInt := by rw [eig116, up2_a (by omega)]
          have wig116_49_34 : (ig116 (B + 49) 34).toInt = (ig87 (B + 49) 34).toInt := by rw [eig116, up2_a (by omega)]
          have wig116_49_35 : (ig116 (B + 49) 35).toInt = (ig87 (B + 49) 35).toInt := by rw [eig116, up2_a (by omega)]
          have wk9 : Wk0 B σ x.toInt.toNat ig ig116 := by rw [eig116]; exact wk9.w (by decide)
          have ex9 : (∀ j : Nat, ¬ (3 * x.toInt ≤ (j : Int) ∧ (j : Int) < 3 * x.toInt + (v86.toInt + 1)) → ig116 (B + 68) j = ig (B + 68) j) ∧ ∀ k : Nat, (k : Int) < (v86.toInt + 1) → ig116 (B + 68) (3 * x.toInt.toNat + k) = ucp w8 (k : Int) := ⟨fun j hj => by rw [eig116, up2_j (by omega)]; exact g85_3.1 j (by omega), fun k hk => by rw [eig116]; by_cases e9 : (k : Int) = v86.toInt; (rw [show z113.toInt.toNat = 3 * x.toInt.toNat + k by omega, up2_eq, e9]; exact op9); (rw [up2_j (by omega)]; exact g85_3.2 k (by omega))⟩
          have pl7 : PlU B [w8] ig116 := g85_4.ag (by omega) (fun j9 => by rw [eig116, up2_a (by omega)])
          have cl7 : czB (ig116 (B + 49) 34) = c8 := by rw [show ig116 (B + 49) 34 = ig87 (B + 49) 34 by rw [eig116, up2_a (by omega)]]; exact g85_5
          have e97 : ∀ j, ig116 (B + 69) j = ig (B + 69) j := fun j => by rw [eig116, up2_a (by omega)]; exact g85_6 j
          refine tc_inc hx hb dX12_work_106 hl (k := 0) rfl (by decide) (by decide) (fun z117 hz117 ls hl => ?_)
          first | replace hz117 := hz117 (by omega) | clear hz117
          have hl : lv_has ls 4 [(3, .int z117), (0, .ref (B + 49)), (1, .int x)] := hl
          refine lv_goto (tgt := 85) hx hb dX12_work_109 (by decide) ?_
          exact ih85 ls H locs ig116 lg88 z117 (lv_sub hl [0, 1, 2] rfl) hw hI hF (by omega) (by omega) (wk9) (by rw [show z117.toInt = v86.toInt + 1 by omega]; exact ex9) (pl7) (cl7) (e97) (by omega)
    exact L85 ((3 - z85.toInt) + 1).toNat ls H locs ig80 lg82 z85 (lv_sub hl [0, 2, 3] rfl) hw hI hF (by omega) (by omega) (wk9) (⟨fun j _ => k4.1 j, fun k hk => absurd hk (by omega)⟩) (pl8) (cl8) (k4.2) (by omega)
