/-! errors are never below 0 -/
def ENn (B : Nat) (ig : sI) : Prop := ∀ p, p < 288 → 0 ≤ (ig (B + 67) p).toInt
theorem mtS_nn {v e : Vl} (he : ∀ q, q < 288 → 0 ≤ (e q).toInt) : ∀ (l : List Int) (a : Int32 × Int32), (∀ q ∈ l, 0 ≤ q ∧ q < 288) → 0 ≤ a.2.toInt → 0 ≤ (l.foldl (mtS v e) a).2.toInt
  | [], _, _, ha => ha
  | q :: l, a, hl, ha => mtS_nn he l _ (fun q hq => hl q (List.mem_cons_of_mem _ hq)) (by
    unfold mtS
    have := hl q (List.mem_cons_self ..)
    show 0 ≤ (if a.2 = 0 then e q.toNat else a.2).toInt
    split
    · exact he _ (by omega)
    · exact ha)
theorem evS_nn {v e : Vl} {h : Int} {a : Ev} {s : St} (he : ∀ q, q < 288 → 0 ≤ (e q).toInt) (hf : rdS s → fitS h s) (ha : 0 ≤ a.2.toInt) : 0 ≤ (evS v e h a s).2.toInt := by
  unfold evS
  split
  · exact ha
  · split
    · rename_i r
      exact mtS_nn he _ _ (fun q hq => plS_on (hf r) hq) ha
    · split
      · exact ha
      · split
        · split
          · exact ha
          · exact ha
        · split
          · unfold opM
            show 0 ≤ (if _ then (1 : Int32) else a.2).toInt
            split
            · decide
            · exact ha
          · exact ha
theorem ev_nn {v e : Vl} {h : Int} (he : ∀ q, q < 288 → 0 ≤ (e q).toInt) : ∀ (L : Fm) (a : Ev), (∀ s ∈ L, rdS s → fitS h s) → 0 ≤ a.2.toInt → 0 ≤ (ev v e h a L).2.toInt
  | [], _, _, ha => ha
  | s :: L, a, hf, ha => ev_nn he L _ (fun s hs => hf s (List.mem_cons_of_mem _ hs)) (evS_nn he (hf s (List.mem_cons_self ..)) ha)
/-- one formula is worked out -/
def WkM (B : Nat) (σ : Sg) (x : Nat) (ig ig' : sI) : Prop := (∀ j, j ≠ x → ig' (B + 66) j = ig (B + 66) j ∧ ig' (B + 67) j = ig (B + 67) j) ∧ (ig' (B + 66) x, ig' (B + 67) x) = rsV (ig (B + 66)) (ig (B + 67)) (x : Int) (fmO (σ x)) ∧ 0 ≤ (ig' (B + 67) x).toInt
section WKM
variable {B x c j : Nat} {σ : Sg} {ig ig' ig2 : sI} {lg' lg2 : sG} {v : Int32} {T : List Nat}
theorem WkM.w (h : WkM B σ x ig ig') (hc : c ≠ 66 ∧ c ≠ 67) : WkM B σ x ig (up2 ig' (B + c) j v) := by
  have e : ∀ d k, d = 66 ∨ d = 67 → up2 ig' (B + c) j v (B + d) k = ig' (B + d) k := fun d k hd => up2_a (by omega)
  unfold WkM
  rw [e 66 x (Or.inl rfl), e 67 x (Or.inr rfl)]
  exact ⟨fun k hk => by rw [e 66 k (Or.inl rfl), e 67 k (Or.inr rfl)]; exact h.1 k hk, h.2⟩
theorem WkM.ft (h : WkM B σ x ig ig') (hF : Ft B T ig' lg' ig2 lg2) (hT : ∀ q ∈ T, q ≠ 66 ∧ q ≠ 67 := by decide) : WkM B σ x ig ig2 := by
  have e6 : ∀ k, ig2 (B + 66) k = ig' (B + 66) k := fun k => hF.i 66 k (fun q hq w => (hT q hq).1 w.symm)
  have e7 : ∀ k, ig2 (B + 67) k = ig' (B + 67) k := fun k => hF.i 67 k (fun q hq w => (hT q hq).2 w.symm)
  unfold WkM
  rw [e6 x, e7 x]
  exact ⟨fun k hk => by rw [e6 k, e7 k]; exact h.1 k hk, h.2⟩
theorem WkM.mk {v0 e0 : Vl} {w z m a : Int32} {X9 : Fm} (hv : ∀ j, j ≠ x → ig' (B + 66) j = ig (B + 66) j ∧ ig' (B + 67) j = ig (B + 67) j) (h1 : ig' (B + 66) x = w) (h2 : ig' (B + 67) x = m) (hM : fmO (σ x) = X9) (hE : EvP v0 e0 (x : Int) X9 a z m) (ha : a = 0) (e1 : ig (B + 66) = v0) (e2 : ig (B + 67) = e0) (hn : ENn B ig) (hf : fitL (x : Int) X9) (hw : (0 < m.toInt → w = 0) ∧ (m.toInt ≤ 0 → w = z)) : WkM B σ x ig ig' := by
  subst e1 e2 hM ha
  have q := hE.rs
  have nn : 0 ≤ m.toInt := by
    have := ev_nn (v := ig (B + 66)) (h := (x : Int)) hn (fmO (σ x)) ([], 0) hf (by decide)
    rw [hE []] at this
    exact this
  refine ⟨hv, ?_, by rw [h2]; exact nn⟩
  rw [h1, h2, q]
  by_cases c : m.toInt = 0
  · rw [hw.2 (by omega), if_pos (i32_z c), i32_z c]
  · rw [hw.1 (by omega), if_neg (fun q => c (by rw [q]; rfl))]
end WKM
/-! the start: what needs no working out -/
def dnM (B : Nat) (σ : Sg) (p : Nat) (ig : sI) : Prop := (ig (B + 73) p).toInt = 0 ↔ (kdO (σ p) = 2 ∧ ¬ Rg σ p)
def woM (B : Nat) (σ : Sg) (p : Nat) (ig : sI) : Prop := ig (B + 66) p = if kdO (σ p) = 1 then Int32.ofInt (σ p).1.2 else 0
def erM (B : Nat) (σ : Sg) (p : Nat) (ig : sI) : Prop := (kdO (σ p) = 2 ∧ Rg σ p → ig (B + 67) p = 2) ∧ (¬ (kdO (σ p) = 2 ∧ Rg σ p) → ig (B + 67) p = 0)
def InM (B : Nat) (σ : Sg) (n : Nat) (ig : sI) (lg : sG) : Prop := (RdP B σ 288 lg ∧ RcA B σ lg) ∧ ∀ p, p < n → dnM B σ p ig ∧ woM B σ p ig ∧ erM B σ p ig
section INM
variable {B p n c j : Nat} {σ : Sg} {ig ig' : sI} {lg : sG} {v : Int32}
theorem dnM.w (h : dnM B σ p ig) (hc : c ≠ 73 ∨ j ≠ p) : dnM B σ p (up2 ig (B + c) j v) := by
  have e : up2 ig (B + c) j v (B + 73) p = ig (B + 73) p := by simp only [up2]; rw [if_neg (by omega)]
  unfold dnM; rw [e]; exact h
theorem woM.w (h : woM B σ p ig) (hc : c ≠ 66 ∨ j ≠ p) : woM B σ p (up2 ig (B + c) j v) := by
  have e : up2 ig (B + c) j v (B + 66) p = ig (B + 66) p := by simp only [up2]; rw [if_neg (by omega)]
  unfold woM; rw [e]; exact h
theorem erM.w (h : erM B σ p ig) (hc : c ≠ 67 ∨ j ≠ p) : erM B σ p (up2 ig (B + c) j v) := by
  have e : up2 ig (B + c) j v (B + 67) p = ig (B + 67) p := by simp only [up2]; rw [if_neg (by omega)]
  unfold erM; rw [e]; exact h
theorem InM.w (h : InM B σ n ig lg) (hc : (c ≠ 66 ∧ c ≠ 67 ∧ c ≠ 73) ∨ n ≤ j) : InM B σ n (up2 ig (B + c) j v) lg := ⟨h.1, fun p hp => ⟨(h.2 p hp).1.w (by omega), (h.2 p hp).2.1.w (by omega), (h.2 p hp).2.2.w (by omega)⟩⟩
theorem InM.s (h : InM B σ n ig lg) (h1 : dnM B σ n ig) (h2 : woM B σ n ig) (h3 : erM B σ n ig) : InM B σ (n + 1) ig lg := ⟨h.1, fun p hp => by
  by_cases c : p = n
  · subst c; exact ⟨h1, h2, h3⟩
  · exact h.2 p (by omega)⟩
theorem InM.zero (h1 : RdP B σ 288 lg) (h2 : RcA B σ lg) : InM B σ 0 ig lg := ⟨⟨h1, h2⟩, fun p hp => absurd hp (Nat.not_lt_zero p)⟩
end INM
/-! the sweeps: what is done is right, and reads only what is done -/
def VDM (B : Nat) (σ : Sg) (ig : sI) (lg : sG) : Prop := (RdP B σ 288 lg ∧ ENn B ig) ∧ (∀ p, p < 288 → (ig (B + 73) p).toInt = 0 → kdO (σ p) = 2 ∧ ¬ Rg σ p) ∧ ∀ p, p < 288 → (ig (B + 73) p).toInt ≠ 0 → (kdO (σ p) ≠ 2 → ig (B + 66) p = Int32.ofInt (σ p).1.2 ∧ ig (B + 67) p = 0) ∧ (kdO (σ p) = 2 → Rg σ p → ig (B + 66) p = 0 ∧ ig (B + 67) p = 2) ∧ (kdO (σ p) = 2 → ¬ Rg σ p → (ig (B + 66) p, ig (B + 67) p) = rsV (ig (B + 66)) (ig (B + 67)) (p : Int) (fmO (σ p)) ∧ ∀ q, Rd σ p q → (ig (B + 73) q).toInt ≠ 0)
def SwN (B : Nat) (σ : Sg) (ig : sI) (n : Nat) : Prop := ∀ p, p < n → (ig (B + 73) p).toInt ≠ 0 ∨ RyN B σ ig p
section VDM
variable {B p n : Nat} {σ : Sg} {π : Ps} {ig ig' ig2 : sI} {lg : sG} {v : Int32}
theorem InM.vd (h : InM B σ 288 ig lg) (hW : ∀ p, p < 288 → kdO (σ p) ≠ 1 → (σ p).1.2 = 0) : VDM B σ ig lg := by
  refine ⟨⟨h.1.1, fun p hp => ?_⟩, fun p hp h0 => (h.2 p hp).1.mp h0, fun p hp h0 => ⟨fun k => ?_, fun k r => ?_, fun k r => absurd ((h.2 p hp).1.mpr ⟨k, r⟩) h0⟩⟩
  · obtain ⟨_, _, h3, h4⟩ := h.2 p hp
    by_cases c : kdO (σ p) = 2 ∧ Rg σ p
    · rw [h3 c]; decide
    · rw [h4 c]; decide
  · obtain ⟨_, h2, h3, h4⟩ := h.2 p hp
    refine ⟨?_, h4 (fun w => k w.1)⟩
    rw [h2]
    split
    · rfl
    · rename_i c
      rw [hW p hp c]; rfl
  · obtain ⟨_, h2, h3, h4⟩ := h.2 p hp
    refine ⟨?_, h3 ⟨k, r⟩⟩
    rw [h2, if_neg (by omega)]
/-- one more is done -/
theorem VDM.step (h : VDM B σ ig lg) (hf : ∀ p, p < 288 → kdO (σ p) = 2 → fitL (p : Int) (fmO (σ p))) (hp : p < 288) (h0 : (ig (B + 73) p).toInt = 0) (hr : RyA B σ ig p 288) (hw : WkM B σ p ig ig') (e73 : ∀ j, ig' (B + 73) j = ig (B + 73) j) (hv : v.toInt ≠ 0) : VDM B σ (up2 ig' (B + 73) p v) lg := by
  obtain ⟨⟨hP, hN⟩, h1, h2⟩ := h
  obtain ⟨w1, w2, w3⟩ := hw
  obtain ⟨k0, r0⟩ := h1 p hp h0
  have d : ∀ j, j ≠ p → up2 ig' (B + 73) p v (B + 73) j = ig (B + 73) j := fun j hj => (up2_j hj).trans (e73 j)
  have dp : up2 ig' (B + 73) p v (B + 73) p = v := up2_eq
  have e6 : ∀ j, up2 ig' (B + 73) p v (B + 66) j = ig' (B + 66) j := fun j => up2_a (by omega)
  have e7 : ∀ j, up2 ig' (B + 73) p v (B + 67) j = ig' (B + 67) j := fun j => up2_a (by omega)
  have f6 : up2 ig' (B + 73) p v (B + 66) = ig' (B + 66) := funext e6
  have f7 : up2 ig' (B + 73) p v (B + 67) = ig' (B + 67) := funext e7
  have cg : ∀ a, a < 288 → kdO (σ a) = 2 → (∀ q, Rd σ a q → (ig (B + 73) q).toInt ≠ 0) → rsV (ig (B + 66)) (ig (B + 67)) (a : Int) (fmO (σ a)) = rsV (ig' (B + 66)) (ig' (B + 67)) (a : Int) (fmO (σ a)) := fun a ha ka hd => by
    refine rsV_cg (hf a ha ka) (fun q hq => ?_)
    have hq2 := hd q ⟨ha, ka, hq⟩
    have ne : q ≠ p := by rintro rfl; exact hq2 h0
    exact ⟨((w1 q ne).1).symm, ((w1 q ne).2).symm⟩
  have hrp : ∀ q, Rd σ p q → (ig (B + 73) q).toInt ≠ 0 := fun q w => hr q (w.ltf hf) w
  refine ⟨⟨hP, fun a ha => ?_⟩, fun a ha ha0 => ?_, fun a ha ha0 => ?_⟩
  · rw [e7]
    by_cases c : a = p
    · rw [c]; exact w3
    · rw [(w1 a c).2]; exact hN a ha
  · by_cases c : a = p
    · subst c; exact ⟨k0, r0⟩
    · rw [d a c] at ha0; exact h1 a ha ha0
  · rw [f6, f7]
    by_cases c : a = p
    · subst c
      refine ⟨fun k => absurd k0 k, fun _ r => absurd r r0, fun _ _ => ⟨w2.trans (cg a ha k0 hrp), fun q w => ?_⟩⟩
      by_cases c2 : q = a
      · rw [c2, dp]; exact hv
      · rw [d q c2]; exact hrp q w
    · rw [d a c] at ha0
      obtain ⟨g1, g2, g3⟩ := h2 a ha ha0
      rw [(w1 a c).1, (w1 a c).2]
      refine ⟨g1, g2, fun k r => ⟨(g3 k r).1.trans (cg a ha k (g3 k r).2), fun q w => ?_⟩⟩
      by_cases c2 : q = p
      · rw [c2, dp]; exact hv
      · rw [d q c2]; exact (g3 k r).2 q w
/-- a sweep that found nothing: all is done -/
theorem VDM.ok (h : VDM B σ ig lg) (hs : SwN B σ ig 288) : VOk σ (ig (B + 66)) (ig (B + 67)) := by
  obtain ⟨_, h1, h2⟩ := h
  have all : ∀ a, a < 288 → (ig (B + 73) a).toInt ≠ 0 := fun a ha h0 => by
    obtain ⟨p, hp, t⟩ := ring_ex (R := Rd σ) (S := fun x => x < 288 ∧ (ig (B + 73) x).toInt = 0) (n := 288) (fun a ha => by
      refine ⟨ha.1, ?_⟩
      rcases hs a ha.1 with w | ⟨q, q1, q2, q3⟩
      · exact absurd ha.2 w
      · exact ⟨q, ⟨q1, q3⟩, q2⟩) ⟨ha, h0⟩
    exact (h1 p hp.1 hp.2).2 t
  intro p hp
  obtain ⟨g1, g2, g3⟩ := h2 p hp (all p hp)
  exact ⟨g1, g2, fun k r => (g3 k r).1⟩
theorem SwN.s (h : SwN B σ ig n) (hn : (ig (B + 73) n).toInt ≠ 0 ∨ RyN B σ ig n) : SwN B σ ig (n + 1) := fun p hp => by
  by_cases c : p = n
  · subst c; exact hn
  · exact h p (by omega)
end VDM

theorem GoS.wr {B q n : Nat} {R : Rw} {v e : Vl} {ig : sI} {w : Int32} {j : Nat} (h : GoS B q n R v e ig) : GoS B q n R v e (up2 ig (B + 49) j w) := h.ft (T := [49, 79]) (lg := fun _ _ => 0) (lg' := fun _ _ => 0) (Ft.pi Ft.rf (by decide))
theorem i32_2 {v : Int32} (h : v.toInt = 2) : v = 2 := i32_inj (by rw [h]; rfl)
section MKM
variable {B p : Nat} {σ : Sg} {ig ig' : sI} {lg lg' : sG} {v : Int32} {T : List Nat}
theorem dnM.m1 (hv : v.toInt ≠ 0) (h : ¬ (kdO (σ p) = 2 ∧ ¬ Rg σ p)) : dnM B σ p (up2 ig (B + 73) p v) := by
  unfold dnM; rw [up2_eq]; exact ⟨fun q => absurd q hv, fun q => absurd q h⟩
theorem dnM.m0 (hv : v.toInt = 0) (h : kdO (σ p) = 2 ∧ ¬ Rg σ p) : dnM B σ p (up2 ig (B + 73) p v) := by
  unfold dnM; rw [up2_eq]; exact ⟨fun _ => h, fun _ => hv⟩
theorem woM.m (hv : v = if kdO (σ p) = 1 then Int32.ofInt (σ p).1.2 else 0) : woM B σ p (up2 ig (B + 66) p v) := by
  unfold woM; rw [up2_eq]; exact hv
theorem erM.m (hv : (kdO (σ p) = 2 ∧ Rg σ p → v = 2) ∧ (¬ (kdO (σ p) = 2 ∧ Rg σ p) → v = 0)) : erM B σ p (up2 ig (B + 67) p v) := by
  unfold erM; rw [up2_eq]; exact hv
theorem VDM.l (h : VDM B σ ig lg) (hF : Ft B T ig' lg ig' lg' ∨ ∀ k, lg' (B + 64) k = lg (B + 64) k) (hT : ∀ q ∈ T, 64 ≠ q) : VDM B σ ig lg' :=
  ⟨⟨h.1.1.ag (fun k => by rcases hF with q | q; exact q.l 64 k hT; exact q k), h.1.2⟩, h.2⟩
/-- families and values of the sheet -/
def FVm (B : Nat) (σ : Sg) (ig : sI) : Prop := FMm B σ ig ∧ VOk σ (ig (B + 66)) (ig (B + 67))
theorem VOk.ag {v e v' e' : Vl} (h : VOk σ v e) (h1 : v' = v) (h2 : e' = e) : VOk σ v' e' := by subst h1 h2; exact h
theorem VOk.ft (h : VOk σ (ig (B + 66)) (ig (B + 67))) (hF : Ft B T ig lg ig' lg') (hT : ∀ q ∈ T, 66 ≠ q ∧ 67 ≠ q := by decide) : VOk σ (ig' (B + 66)) (ig' (B + 67)) := h.ag (funext fun k => hF.i 66 k (fun q hq => (hT q hq).1)) (funext fun k => hF.i 67 k (fun q hq => (hT q hq).2))
theorem FVm.ft (h : FVm B σ ig) (hF : Ft B T ig lg ig' lg') (hT : ∀ q ∈ T, 71 ≠ q ∧ 66 ≠ q ∧ 67 ≠ q) : FVm B σ ig' := ⟨h.1.ft hF (fun q hq => (hT q hq).1), h.2.ft hF (fun q hq => (hT q hq).2)⟩
theorem FVm.wr {cc j : Nat} (h : FVm B σ ig) (hc : cc ≠ 71 ∧ cc ≠ 66 ∧ cc ≠ 67) : FVm B σ (up2 ig (B + cc) j v) := ⟨h.1.wr hc.1, h.2.ag (funext fun k => up2_a (by omega)) (funext fun k => up2_a (by omega))⟩
theorem FVm.far (h : FVm B σ ig) : FaR σ (famZ B ig) := h.1.far
theorem FVm.ge (h : FVm B σ ig) {x : Int} (hx : 0 ≤ x ∧ x < 288) : -1 ≤ famZ B ig x.toNat ∧ (kdO (atC σ x) = 2 → 0 ≤ famZ B ig x.toNat) ∧ (kdO (atC σ x) ≠ 2 → famZ B ig x.toNat = -1) := h.1.ge hx
/-- what the working-out needs of the sheet -/
def WSs (σ : Sg) : Prop := (∀ p, p < 288 → kdO (σ p) = 2 → fitL (p : Int) (fmO (σ p))) ∧ ∀ p, p < 288 → kdO (σ p) ≠ 1 → (σ p).1.2 = 0
theorem WS.s {π : Ps} (h : WS σ π) : WSs σ := ⟨fun p hp k => ((h.1 p hp).1 k).1, fun p hp k => ((h.1 p hp).2 k).2⟩
/-- what the reference remembers, and how many it tells -/
def RmR (B : Nat) (v e : Vl) (ig : sI) : Prop := ∀ p, p < 288 → ig (B + 76) p = v p ∧ ig (B + 77) p = e p
theorem RmR.ft {v e : Vl} (h : RmR B v e ig) (hF : Ft B T ig lg ig' lg') (hT : ∀ q ∈ T, 76 ≠ q ∧ 77 ≠ q := by decide) : RmR B v e ig' := fun p hp => by
  rw [hF.i 76 p (fun q hq => (hT q hq).1), hF.i 77 p (fun q hq => (hT q hq).2)]; exact h p hp
theorem RmR.ch {σ' : Sg} {v e : Vl} {z : Int} (h0 : VOk σ v e) (hR : RmR B v e ig) (h1 : VOk σ' (ig (B + 66)) (ig (B + 67))) (hz : z = (nCh (ig (B + 76)) (ig (B + 77)) (ig (B + 66)) (ig (B + 67)) : Int)) : chR σ σ' z :=
  ⟨v, e, _, _, h0, h1, by rw [hz, nCh_cg (w' := ig (B + 66)) (d' := ig (B + 67)) hR (fun p hp => ⟨rfl, rfl⟩)]⟩
/-- told so far -/
def nTo (B : Nat) (ig : sI) (n : Nat) : Nat := cnt (fun p => decide (¬ (ig (B + 66) p = ig (B + 76) p ∧ ig (B + 67) p = ig (B + 77) p))) n
theorem nTo.s {n : Nat} : nTo B ig (n + 1) = nTo B ig n + if ig (B + 66) n = ig (B + 76) n ∧ ig (B + 67) n = ig (B + 77) n then 0 else 1 := by
  unfold nTo
  rw [cnt_s]
  congr 1
  by_cases c : ig (B + 66) n = ig (B + 76) n ∧ ig (B + 67) n = ig (B + 77) n
  · rw [if_pos c]; exact if_neg (fun q => (of_decide_eq_true q) c)
  · rw [if_neg c]; exact if_pos (decide_eq_true c)
theorem nTo.le {n : Nat} : nTo B ig n ≤ n := cnt.le _ n
end MKM
set_option maxHeartbeats 4000000 in
set_option maxRecDepth 100000 in
theorem t_X12_workV {υ : Option Int} {τ : Tp} {φ : Option Int} (l : Launch) (B : Nat) (D : va_G) (cA : Nat → ClassId) (kd : sK) (ig : sI) (rg : sR) (lg : sG) (sz : Nat) (x : Int32) (hx0 : 0 ≤ x.toInt ∧ x.toInt < 288) (hkd : (ig (B + 59) x.toInt.toNat).toInt = 2) (σ : Sg) (hR : RowM B ig x.toInt.toNat (x.toInt.toNat : Int) (σ x.toInt.toNat)) (hk2 : kdO (σ x.toInt.toNat) = 2) (hf : fitL (x.toInt.toNat : Int) (fmO (σ x.toInt.toNat))) (hn : ENn B ig) (hI : IM τ φ υ B kd ig rg) : MC l B D cA yX12_work cX12_work 4 none (rL 30 0 0) [.ref (B + 49), .int x] kd ig rg lg sz (PM τ φ υ B [49, 66, 67, 68, 69, 70, 72, 74] kd ig rg lg (fun r ig' lg' => (r = none ∧ WkM B σ x.toInt.toNat ig ig'))) := by
  refine MC.of (own := RX12) (by decide +kernel) rfl (Nat.le_of_ble_eq_true rfl) ?_
  intro p e s m args below meth c ls C hr hlk hnm hw hsz hl
  have hx := C.1.1
  have hb := C.1.2.1
  have hown := C.1.2.2.2.1
  have hts := C.1.2.2.2.2
  have hl : lv_has ls 4 [(0, .ref (B + 49)), (1, .int x)] := hl
  have hF : Ft B [49, 66, 67, 68, 69, 70, 72, 74] ig lg ig lg := Ft.rf
  have hsh := hI.sh
  have hrm := hI.rm
  obtain ⟨n, e1, e2, e3, e4⟩ := hI.row (p := x.toInt.toNat) (by omega) (by omega) hkd
  have hlt := e3.lt
  obtain ⟨⟨n9, q1, q2, hie⟩, hit⟩ := hR.2.2.1 hk2
  obtain rfl : n9 = n := by omega
  have kit9 := hI.its (j := x.toInt.toNat) (by omega)
  have hG : GoS B x.toInt.toNat n9 (mR B ig (x.toInt.toNat : Int) x.toInt.toNat) (ig (B + 66)) (ig (B + 67)) ig := ⟨rfl, ⟨rfl, rfl⟩, q1, ⟨by omega, by omega⟩, fun k hk => ⟨hit k (by omega), (hI.at (p := x.toInt.toNat) (k := k) (by omega) (by omega) hkd (by omega)).2⟩⟩
  refine lv_aload_n hx hb dX12_work_0 rfl (lv_at hl 0 rfl) ?_
  refine lv_bipush (v := 120) hx hb dX12_work_1 (by decide) (ti_c 120 (by decide) fun z1 hz1 => ?_)
  refine lv_iload_n hx hb dX12_work_3 rfl (lv_at hl 1 rfl) ?_
  refine lv_imul hx hb dX12_work_4 (tc_mulL 120 hz1 fun z2 hz2 => ?_)
  first | replace hz2 := hz2 (by omega) | clear hz2
  refine r_puti C hw (hsh 49 _ rfl) fl_X12_241 rfl rfl rfl dX12_work_5 (fun H locs hH hw => ?_)
  obtain ⟨ig3, eig3⟩ : ∃ f, f = up2 ig (B + 49) 31 z2 := ⟨_, rfl⟩
  rw [← eig3] at hw
  have hF : Ft B [49, 66, 67, 68, 69, 70, 72, 74] ig lg ig3 lg := by rw [eig3]; exact hF.pi (by decide)
  have hI : IM τ φ υ B kd ig3 rg := by rw [eig3]; exact hI.pi (by decide) (show okR none _ from trivial)
  have wig3 : (ig3 (B + 49) 31).toInt = z2.toInt := by rw [eig3, up2_eq]
  have wig3_49_32 : (ig3 (B + 49) 32).toInt = (ig (B + 49) 32).toInt := by rw [eig3, up2_j (by decide)]
  have wig3_49_33 : (ig3 (B + 49) 33).toInt = (ig (B + 49) 33).toInt := by rw [eig3, up2_j (by decide)]
  have wig3_49_34 : (ig3 (B + 49) 34).toInt = (ig (B + 49) 34).toInt := by rw [eig3, up2_j (by decide)]
  have wig3_49_35 : (ig3 (B + 49) 35).toInt = (ig (B + 49) 35).toInt := by rw [eig3, up2_j (by decide)]
  have hG : GoS B x.toInt.toNat n9 (mR B ig (x.toInt.toNat : Int) x.toInt.toNat) (ig (B + 66)) (ig (B + 67)) ig3 := by rw [eig3]; exact hG.wr
  refine lv_aload_n hx hb dX12_work_8 rfl (lv_at hl 0 rfl) ?_
  refine lv_aload_n hx hb dX12_work_9 rfl (lv_at hl 0 rfl) ?_
  refine r_get C hw (hsh 49 _ rfl) fl_X12_241 (oV_i rfl) dX12_work_10 (ti_c (ig3 (B + 49) 31).toInt rfl fun z4 hz4 => ?_)
  refine lv_aload_n hx hb dX12_work_13 rfl (lv_at hl 0 rfl) ?_
  refine r_get C hw (hsh 49 _ rfl) fl_X12_77 (oV_r rfl (hrm (49, 13, 58) (by decide))) dX12_work_14 ?_
  refine lv_iload_n hx hb dX12_work_17 rfl (lv_at hl 1 rfl) ?_
  refine r_iald C hw (hsh 58 _ rfl) (by omega) (by omega) dX12_work_18 (ti_c (ig3 (B + 58) x.toInt.toNat).toInt rfl fun z5 hz5 => ?_)
  have k6 := hI.its (j := (x.toInt.toNat)) (by omega)
  rw [Ft.i hF 58 _ (by decide)] at hz5 k6
  refine lv_iadd hx hb dX12_work_19 (tc_add fun z7 hz7 => ?_)
  first | replace hz7 := hz7 (by omega) | clear hz7
  refine r_puti C hw (hsh 49 _ rfl) fl_X12_244 rfl rfl rfl dX12_work_20 (fun H locs hH hw => ?_)
  obtain ⟨ig8, eig8⟩ : ∃ f, f = up2 ig3 (B + 49) 32 z7 := ⟨_, rfl⟩
  rw [← eig8] at hw
  have hF : Ft B [49, 66, 67, 68, 69, 70, 72, 74] ig lg ig8 lg := by rw [eig8]; exact hF.pi (by decide)
  have hI : IM τ φ υ B kd ig8 rg := by rw [eig8]; exact hI.pi (by decide) (show okR none _ from trivial)
  have wig8_49_31 : (ig8 (B + 49) 31).toInt = (ig3 (B + 49) 31).toInt := by rw [eig8, up2_j (by decide)]
  have wig8 : (ig8 (B + 49) 32).toInt = z7.toInt := by rw [eig8, up2_eq]
  have wig8_49_33 : (ig8 (B + 49) 33).toInt = (ig3 (B + 49) 33).toInt := by rw [eig8, up2_j (by decide)]
  have wig8_49_34 : (ig8 (B + 49) 34).toInt = (ig3 (B + 49) 34).toInt := by rw [eig8, up2_j (by decide)]
  have wig8_49_35 : (ig8 (B + 49) 35).toInt = (ig3 (B + 49) 35).toInt := by rw [eig8, up2_j (by decide)]
  have hG : GoS B x.toInt.toNat n9 (mR B ig (x.toInt.toNat : Int) x.toInt.toNat) (ig (B + 66)) (ig (B + 67)) ig8 := by rw [eig8]; exact hG.wr
  refine lv_aload_n hx hb dX12_work_23 rfl (lv_at hl 0 rfl) ?_
  refine lv_iconst (v := 0) hx hb dX12_work_24 (by decide) (ti_c 0 (by decide) fun z9 hz9 => ?_)
  refine r_puti C hw (hsh 49 _ rfl) fl_X12_247 rfl rfl rfl dX12_work_25 (fun H locs hH hw => ?_)
  obtain ⟨ig10, eig10⟩ : ∃ f, f = up2 ig8 (B + 49) 33 z9 := ⟨_, rfl⟩
  rw [← eig10] at hw
  have hF : Ft B [49, 66, 67, 68, 69, 70, 72, 74] ig lg ig10 lg := by rw [eig10]; exact hF.pi (by decide)
  have hI : IM τ φ υ B kd ig10 rg := by rw [eig10]; exact hI.pi (by decide) (show okR none _ from trivial)
  have wig10_49_31 : (ig10 (B + 49) 31).toInt = (ig8 (B + 49) 31).toInt := by rw [eig10, up2_j (by decide)]
  have wig10_49_32 : (ig10 (B + 49) 32).toInt = (ig8 (B + 49) 32).toInt := by rw [eig10, up2_j (by decide)]
  have wig10 : (ig10 (B + 49) 33).toInt = z9.toInt := by rw [eig10, up2_eq]
  have wig10_49_34 : (ig10 (B + 49) 34).toInt = (ig8 (B + 49) 34).toInt := by rw [eig10, up2_j (by decide)]
  have wig10_49_35 : (ig10 (B + 49) 35).toInt = (ig8 (B + 49) 35).toInt := by rw [eig10, up2_j (by decide)]
  have hG : GoS B x.toInt.toNat n9 (mR B ig (x.toInt.toNat : Int) x.toInt.toNat) (ig (B + 66)) (ig (B + 67)) ig10 := by rw [eig10]; exact hG.wr
  refine lv_aload_n hx hb dX12_work_28 rfl (lv_at hl 0 rfl) ?_
  refine r_callV (As := []) (rest := []) C hw ((t_X12_goV_all l B D cA 8).2.2 kd ig10 rg lg _  x.toInt.toNat n9 0 n9 _ _ _ _ hG hie (Nat.le_refl _) (by omega) (by omega) hI) sv_X12_250 (hsh 49 _ rfl) rfl hl.1 rfl (Nat.le_of_ble_eq_true rfl) ⟨Nat.le_of_ble_eq_true rfl, Nat.le_of_ble_eq_true rfl⟩ ⟨Nat.le_of_ble_eq_true rfl, Nat.le_of_ble_eq_true rfl⟩ dX12_work_29 (fun r15 kd11 ig12 rg13 lg14 H locs hw hH hp16 => ?_)
  obtain ⟨rfl, rfl, hI, hchp16, hrhp16⟩ := hp16
  have hF : Ft B [49, 66, 67, 68, 69, 70, 72, 74] ig lg ig12 lg14 := Ft.tr hF hchp16 (by decide) (by decide)
  obtain ⟨z17, rfl, hz17⟩ := hrhp16
  have hG : GoS B x.toInt.toNat n9 (mR B ig (x.toInt.toNat : Int) x.toInt.toNat) (ig (B + 66)) (ig (B + 67)) ig12 := hG.ft hchp16
  have gv9 := hG.2.1
  have ev9 := hz17.2
  refine lv_istore_n (lv' := [(2, .int z17), (0, .ref (B + 49)), (1, .int x)]) hx hb dX12_work_32 rfl hl (by decide) rfl (fun ls hl => ?_)
  refine lv_aload_n hx hb dX12_work_33 rfl (lv_at hl 1 rfl) ?_
  refine r_get C hw (hsh 49 _ rfl) fl_X12_102 (oV_r rfl (hrm (49, 23, 66) (by decide))) dX12_work_34 ?_
  refine lv_iload_n hx hb dX12_work_37 rfl (lv_at hl 2 rfl) ?_
  refine lv_aload_n hx hb dX12_work_38 rfl (lv_at hl 1 rfl) ?_
  refine r_get C hw (hsh 49 _ rfl) fl_X12_247 (oV_i rfl) dX12_work_39 (ti_c (ig12 (B + 49) 33).toInt rfl fun z18 hz18 => ?_)
  refine z_le (tgt := 49) hx hb dX12_work_42 (by decide) (fun c42 => ?_) (fun c42 => ?_)
  · refine lv_iload_n hx hb dX12_work_49 rfl (lv_at hl 0 rfl) ?_
    refine r_iast C hw (hsh 66 _ rfl) (by omega) (by omega) dX12_work_50 (fun H locs hH hw => ?_)
    obtain ⟨ig19, eig19⟩ : ∃ f, f = up2 ig12 (B + 66) x.toInt.toNat z17 := ⟨_, rfl⟩
    rw [← eig19] at hw
    have hF : Ft B [49, 66, 67, 68, 69, 70, 72, 74] ig lg ig19 lg14 := by rw [eig19]; exact hF.pi (by decide)
    have hI : IM τ φ υ B kd ig19 rg := by rw [eig19]; exact hI.pi (by decide) (show okR none _ from trivial)
    have wig19_49_31 : (ig19 (B + 49) 31).toInt = (ig12 (B + 49) 31).toInt := by rw [eig19, up2_a (by omega)]
    have wig19_49_32 : (ig19 (B + 49) 32).toInt = (ig12 (B + 49) 32).toInt := by rw [eig19, up2_a (by omega)]
    have wig19_49_33 : (ig19 (B + 49) 33).toInt = (ig12 (B + 49) 33).toInt := by rw [eig19, up2_a (by omega)]
    have wig19_49_34 : (ig19 (B + 49) 34).toInt = (ig12 (B + 49) 34).toInt := by rw [eig19, up2_a (by omega)]
    have wig19_49_35 : (ig19 (B + 49) 35).toInt = (ig12 (B + 49) 35).toInt := by rw [eig19, up2_a (by omega)]
    refine lv_aload_n hx hb dX12_work_51 rfl (lv_at hl 1 rfl) ?_
    refine r_get C hw (hsh 49 _ rfl) fl_X12_105 (oV_r rfl (hrm (49, 24, 67) (by decide))) dX12_work_52 ?_
    refine lv_iload_n hx hb dX12_work_55 rfl (lv_at hl 2 rfl) ?_
    refine lv_aload_n hx hb dX12_work_56 rfl (lv_at hl 1 rfl) ?_
    refine r_get C hw (hsh 49 _ rfl) fl_X12_247 (oV_i rfl) dX12_work_57 (ti_c (ig19 (B + 49) 33).toInt rfl fun z20 hz20 => ?_)
    refine r_iast C hw (hsh 67 _ rfl) (by omega) (by omega) dX12_work_60 (fun H locs hH hw => ?_)
    obtain ⟨ig21, eig21⟩ : ∃ f, f = up2 ig19 (B + 67) x.toInt.toNat z20 := ⟨_, rfl⟩
    rw [← eig21] at hw
    have hF : Ft B [49, 66, 67, 68, 69, 70, 72, 74] ig lg ig21 lg14 := by rw [eig21]; exact hF.pi (by decide)
    have hI : IM τ φ υ B kd ig21 rg := by rw [eig21]; exact hI.pi (by decide) (show okR none _ from trivial)
    have wig21_49_31 : (ig21 (B + 49) 31).toInt = (ig19 (B + 49) 31).toInt := by rw [eig21, up2_a (by omega)]
    have wig21_49_32 : (ig21 (B + 49) 32).toInt = (ig19 (B + 49) 32).toInt := by rw [eig21, up2_a (by omega)]
    have wig21_49_33 : (ig21 (B + 49) 33).toInt = (ig19 (B + 49) 33).toInt := by rw [eig21, up2_a (by omega)]
    have wig21_49_34 : (ig21 (B + 49) 34).toInt = (ig19 (B + 49) 34).toInt := by rw [eig21, up2_a (by omega)]
    have wig21_49_35 : (ig21 (B + 49) 35).toInt = (ig19 (B + 49) 35).toInt := by rw [eig21, up2_a (by omega)]
    have em9 : z20 = ig12 (B + 49) 33 := i32_inj (by rw [hz20, eig19, up2_a (by omega)])
    have wk9 : WkM B σ x.toInt.toNat ig ig21 := WkM.mk (w := z17) (m := z20) (z := z17) (a := ig10 (B + 49) 33) (fun j hj => ⟨by rw [eig21, up2_a (by omega), eig19, up2_j hj, gv9.1], by rw [eig21, up2_j hj, eig19, up2_a (by omega), gv9.2]⟩) (by rw [eig21, up2_a (by omega), eig19, up2_eq]) (by rw [eig21, up2_eq]) rfl (by rw [em9]; exact ev9) (by rw [eig10, up2_eq]; exact i32_z (by omega)) rfl rfl hn hf ⟨fun q => absurd q (by omega), fun _ => (by first | rfl | exact i32_inj (by omega))⟩
    refine lv_aload_n hx hb dX12_work_61 rfl (lv_at hl 1 rfl) ?_
    refine lv_bipush (v := 120) hx hb dX12_work_62 (by decide) (ti_c 120 (by decide) fun z22 hz22 => ?_)
    refine lv_iload_n hx hb dX12_work_64 rfl (lv_at hl 2 rfl) ?_
    refine lv_imul hx hb dX12_work_65 (tc_mulL 120 hz22 fun z23 hz23 => ?_)
    first | replace hz23 := hz23 (by omega) | clear hz23
    refine r_puti C hw (hsh 49 _ rfl) fl_X12_241 rfl rfl rfl dX12_work_66 (fun H locs hH hw => ?_)
    obtain ⟨ig24, eig24⟩ : ∃ f, f = up2 ig21 (B + 49) 31 z23 := ⟨_, rfl⟩
    rw [← eig24] at hw
    have hF : Ft B [49, 66, 67, 68, 69, 70, 72, 74] ig lg ig24 lg14 := by rw [eig24]; exact hF.pi (by decide)
    have hI : IM τ φ υ B kd ig24 rg := by rw [eig24]; exact hI.pi (by decide) (show okR none _ from trivial)
    have wig24 : (ig24 (B + 49) 31).toInt = z23.toInt := by rw [eig24, up2_eq]
    have wig24_49_32 : (ig24 (B + 49) 32).toInt = (ig21 (B + 49) 32).toInt := by rw [eig24, up2_j (by decide)]
    have wig24_49_33 : (ig24 (B + 49) 33).toInt = (ig21 (B + 49) 33).toInt := by rw [eig24, up2_j (by decide)]
    have wig24_49_34 : (ig24 (B + 49) 34).toInt = (ig21 (B + 49) 34).toInt := by rw [eig24, up2_j (by decide)]
    have wig24_49_35 : (ig24 (B + 49) 35).toInt = (ig21 (B + 49) 35).toInt := by rw [eig24, up2_j (by decide)]
    have wk9 : WkM B σ x.toInt.toNat ig ig24 := by rw [eig24]; exact wk9.w (by decide)
    refine lv_aload_n hx hb dX12_work_69 rfl (lv_at hl 1 rfl) ?_
    refine lv_iconst (v := 0) hx hb dX12_work_70 (by decide) (ti_c 0 (by decide) fun z25 hz25 => ?_)
    refine r_puti C hw (hsh 49 _ rfl) fl_X12_254 rfl (nar_b (by omega)) (fit_b (by omega)) dX12_work_71 (fun H locs hH hw => ?_)
    obtain ⟨ig26, eig26⟩ : ∃ f, f = up2 ig24 (B + 49) 34 z25 := ⟨_, rfl⟩
    rw [← eig26] at hw
    have hF : Ft B [49, 66, 67, 68, 69, 70, 72, 74] ig lg ig26 lg14 := by rw [eig26]; exact hF.pi (by decide)
    have hI : IM τ φ υ B kd ig26 rg := by rw [eig26]; exact hI.pi (by decide) (show okR (some (0, 1)) _ from ⟨by show (0 : Int) ≤ _; omega, by show _ ≤ (1 : Int); omega⟩)
    have wig26_49_31 : (ig26 (B + 49) 31).toInt = (ig24 (B + 49) 31).toInt := by rw [eig26, up2_j (by decide)]
    have wig26_49_32 : (ig26 (B + 49) 32).toInt = (ig24 (B + 49) 32).toInt := by rw [eig26, up2_j (by decide)]
    have wig26_49_33 : (ig26 (B + 49) 33).toInt = (ig24 (B + 49) 33).toInt := by rw [eig26, up2_j (by decide)]
    have wig26 : (ig26 (B + 49) 34).toInt = z25.toInt := by rw [eig26, up2_eq]
    have wig26_49_35 : (ig26 (B + 49) 35).toInt = (ig24 (B + 49) 35).toInt := by rw [eig26, up2_j (by decide)]
    have wk9 : WkM B σ x.toInt.toNat ig ig26 := by rw [eig26]; exact wk9.w (by decide)
    refine lv_aload_n hx hb dX12_work_74 rfl (lv_at hl 1 rfl) ?_
    refine lv_iconst (v := 0) hx hb dX12_work_75 (by decide) (ti_c 0 (by decide) fun z27 hz27 => ?_)
    refine r_puti C hw (hsh 49 _ rfl) fl_X12_258 rfl rfl rfl dX12_work_76 (fun H locs hH hw => ?_)
    obtain ⟨ig28, eig28⟩ : ∃ f, f = up2 ig26 (B + 49) 35 z27 := ⟨_, rfl⟩
    rw [← eig28] at hw
    have hF : Ft B [49, 66, 67, 68, 69, 70, 72, 74] ig lg ig28 lg14 := by rw [eig28]; exact hF.pi (by decide)
    have hI : IM τ φ υ B kd ig28 rg := by rw [eig28]; exact hI.pi (by decide) (show okR none _ from trivial)
    have wig28_49_31 : (ig28 (B + 49) 31).toInt = (ig26 (B + 49) 31).toInt := by rw [eig28, up2_j (by decide)]
    have wig28_49_32 : (ig28 (B + 49) 32).toInt = (ig26 (B + 49) 32).toInt := by rw [eig28, up2_j (by decide)]
    have wig28_49_33 : (ig28 (B + 49) 33).toInt = (ig26 (B + 49) 33).toInt := by rw [eig28, up2_j (by decide)]
    have wig28_49_34 : (ig28 (B + 49) 34).toInt = (ig26 (B + 49) 34).toInt := by rw [eig28, up2_j (by decide)]
    have wig28 : (ig28 (B + 49) 35).toInt = z27.toInt := by rw [eig28, up2_eq]
    have wk9 : WkM B σ x.toInt.toNat ig ig28 := by rw [eig28]; exact wk9.w (by decide)
    refine lv_aload_n hx hb dX12_work_79 rfl (lv_at hl 1 rfl) ?_
    refine r_callV (As := []) (rest := []) C hw ((t_X12_unitE_all l B D cA 8).2.2 kd ig28 rg lg14 _  (120 * x.toInt.toNat) (120 * x.toInt.toNat + n9) (by rw [Ft.K hF (by decide), Ft.A hF (by decide)]; exact e3) (by omega) (fun k q1 q2 => Ft.R hF (by decide) (by decide) (by decide) (e4 k q1 q2)) (by omega) (Or.inl (by omega)) (by omega) hI) sv_X12_261 (hsh 49 _ rfl) rfl hl.1 rfl (Nat.le_of_ble_eq_true rfl) ⟨Nat.le_of_ble_eq_true rfl, Nat.le_of_ble_eq_true rfl⟩ ⟨Nat.le_of_ble_eq_true rfl, Nat.le_of_ble_eq_true rfl⟩ dX12_work_80 (fun r33 kd29 ig30 rg31 lg32 H locs hw hH hp34 => ?_)
    obtain ⟨rfl, rfl, hI, hchp34, hrhp34⟩ := hp34
    have hF : Ft B [49, 66, 67, 68, 69, 70, 72, 74] ig lg ig30 lg32 := Ft.tr hF hchp34 (by decide) (by decide)
    obtain ⟨rfl, hvhp34⟩ := hrhp34
    have wk9 : WkM B σ x.toInt.toNat ig ig30 := wk9.ft hchp34
    refine lv_iconst (v := 0) hx hb dX12_work_83 (by decide) (ti_c 0 (by decide) fun z35 hz35 => ?_)
    refine lv_istore_n (lv' := [(3, .int z35), (2, .int z17), (0, .ref (B + 49)), (1, .int x)]) hx hb dX12_work_84 rfl hl (by decide) rfl (fun ls hl => ?_)
    have L85 : ∀ (n : Nat) (ls : Array Slot) (H : Heap) (locs : List Loc) (ig37 : sI) (lg38 : sG) (v36 : Int32), lv_has ls 4 [(3, .int v36), (0, .ref (B + 49)), (1, .int x)] → WD B D cA s.heap kd ig37 rg lg38 H locs → IM τ φ υ B kd ig37 rg → Ft B [49, 66, 67, 68, 69, 70, 72, 74] ig lg ig37 lg38 → (0 ≤ v36.toInt) → (v36.toInt ≤ 3) → (WkM B σ x.toInt.toNat ig ig37) → 3 - v36.toInt < (n : Int) → W p l e (rL 30 0 0) s m args below meth c H locs 0 0 (MQ below (QcW B D cA (PM τ φ υ B [49, 66, 67, 68, 69, 70, 72, 74] kd ig rg lg (fun r ig' lg' => (r = none ∧ WkM B σ x.toInt.toNat ig ig')))) args s 0 0 (fun q => B ≤ q)) (F0 m 85 ls []) := by
      intro n85
      induction n85 with
      | zero => intro ls H locs ig37 lg38 v36 hl hw hI hF g85_0 g85_1 g85_2 hmu; exact absurd hmu (by omega)
      | succ n85 ih85 =>
        intro ls H locs ig37 lg38 v36 hl hw hI hF g85_0 g85_1 g85_2 hmu
        have wk9 := g85_2
        refine lv_iload_n hx hb dX12_work_85 rfl (lv_at hl 0 rfl) ?_
        refine lv_iconst (v := 3) hx hb dX12_work_86 (by decide) (ti_c 3 (by decide) fun z39 hz39 => ?_)
        refine b_ge (tgt := 112) hx hb dX12_work_87 (by decide) (fun c87 => ?_) (fun c87 => ?_)
        · refine lv_aload_n hx hb dX12_work_112 rfl (lv_at hl 1 rfl) ?_
          refine r_get C hw (hsh 49 _ rfl) fl_X12_111 (oV_r rfl (hrm (49, 26, 69) (by decide))) dX12_work_113 ?_
          refine lv_iload_n hx hb dX12_work_116 rfl (lv_at hl 2 rfl) ?_
          refine lv_aload_n hx hb dX12_work_117 rfl (lv_at hl 1 rfl) ?_
          refine r_get C hw (hsh 49 _ rfl) fl_X12_254 (oV_i rfl) dX12_work_118 (ti_c (ig37 (B + 49) 34).toInt rfl fun z40 hz40 => ?_)
          have k41 : 0 ≤ (ig37 (B + 49) 34).toInt ∧ (ig37 (B + 49) 34).toInt ≤ 1 := hI.i 49 34 (by decide) (by decide)
          refine r_zast C hw (hsh 69 _ rfl) (by omega) (by omega) (nar_b (by omega)) dX12_work_121 (fun H locs hH hw => ?_)
          obtain ⟨ig42, eig42⟩ : ∃ f, f = up2 ig37 (B + 69) x.toInt.toNat z40 := ⟨_, rfl⟩
          rw [← eig42] at hw
          have hF : Ft B [49, 66, 67, 68, 69, 70, 72, 74] ig lg ig42 lg38 := by rw [eig42]; exact hF.pi (by decide)
          have hI : IM τ φ υ B kd ig42 rg := by rw [eig42]; exact hI.pi (by decide) (show okR none _ from trivial)
          have wig42_49_31 : (ig42 (B + 49) 31).toInt = (ig37 (B + 49) 31).toInt := by rw [eig42, up2_a (by omega)]
          have wig42_49_32 : (ig42 (B + 49) 32).toInt = (ig37 (B + 49) 32).toInt := by rw [eig42, up2_a (by omega)]
          have wig42_49_33 : (ig42 (B + 49) 33).toInt = (ig37 (B + 49) 33).toInt := by rw [eig42, up2_a (by omega)]
          have wig42_49_34 : (ig42 (B + 49) 34).toInt = (ig37 (B + 49) 34).toInt := by rw [eig42, up2_a (by omega)]
          have wig42_49_35 : (ig42 (B + 49) 35).toInt = (ig37 (B + 49) 35).toInt := by rw [eig42, up2_a (by omega)]
          have wk9 : WkM B σ x.toInt.toNat ig ig42 := by rw [eig42]; exact wk9.w (by decide)
          refine lv_aload_n hx hb dX12_work_122 rfl (lv_at hl 1 rfl) ?_
          refine r_get C hw (hsh 49 _ rfl) fl_X12_114 (oV_r rfl (hrm (49, 27, 70) (by decide))) dX12_work_123 ?_
          refine lv_iload_n hx hb dX12_work_126 rfl (lv_at hl 2 rfl) ?_
          refine lv_aload_n hx hb dX12_work_127 rfl (lv_at hl 1 rfl) ?_
          refine lv_iload_n hx hb dX12_work_128 rfl (lv_at hl 2 rfl) ?_
          refine r_callV (As := [.int x]) (rest := [.int x, .ref (B + 70)]) C hw (t_X12_looksTotal l B D cA kd ig42 rg lg38 _ x (by omega) (by rw [Ft.i hF 59 _ (by decide)]; omega) hI) sv_X12_264 (hsh 49 _ rfl) rfl hl.1 rfl (Nat.le_of_ble_eq_true rfl) ⟨Nat.le_of_ble_eq_true rfl, Nat.le_of_ble_eq_true rfl⟩ ⟨Nat.le_of_ble_eq_true rfl, Nat.le_of_ble_eq_true rfl⟩ dX12_work_129 (fun r47 kd43 ig44 rg45 lg46 H locs hw hH hp48 => ?_)
          obtain ⟨rfl, rfl, rfl, rfl, hzhp48, hrhp48⟩ := hp48
          obtain ⟨z49, rfl, hz49⟩ := hrhp48
          refine r_zast C hw (hsh 70 _ rfl) (by omega) (by omega) (nar_b (by omega)) dX12_work_132 (fun H locs hH hw => ?_)
          obtain ⟨ig50, eig50⟩ : ∃ f, f = up2 ig42 (B + 70) x.toInt.toNat z49 := ⟨_, rfl⟩
          rw [← eig50] at hw
          have hF : Ft B [49, 66, 67, 68, 69, 70, 72, 74] ig lg ig50 lg38 := by rw [eig50]; exact hF.pi (by decide)
          have hI : IM τ φ υ B kd ig50 rg := by rw [eig50]; exact hI.pi (by decide) (show okR none _ from trivial)
          have wig50_49_31 : (ig50 (B + 49) 31).toInt = (ig42 (B + 49) 31).toInt := by rw [eig50, up2_a (by omega)]
          have wig50_49_32 : (ig50 (B + 49) 32).toInt = (ig42 (B + 49) 32).toInt := by rw [eig50, up2_a (by omega)]
          have wig50_49_33 : (ig50 (B + 49) 33).toInt = (ig42 (B + 49) 33).toInt := by rw [eig50, up2_a (by omega)]
          have wig50_49_34 : (ig50 (B + 49) 34).toInt = (ig42 (B + 49) 34).toInt := by rw [eig50, up2_a (by omega)]
          have wig50_49_35 : (ig50 (B + 49) 35).toInt = (ig42 (B + 49) 35).toInt := by rw [eig50, up2_a (by omega)]
          have wk9 : WkM B σ x.toInt.toNat ig ig50 := by rw [eig50]; exact wk9.w (by decide)
          refine lv_aload_n hx hb dX12_work_133 rfl (lv_at hl 1 rfl) ?_
          refine r_get C hw (hsh 49 _ rfl) fl_X12_114 (oV_r rfl (hrm (49, 27, 70) (by decide))) dX12_work_134 ?_
          refine lv_iload_n hx hb dX12_work_137 rfl (lv_at hl 2 rfl) ?_
          refine r_zald C hw (hsh 70 _ rfl) (by omega) (by omega) dX12_work_138 (ti_c (ig50 (B + 70) x.toInt.toNat).toInt rfl fun z51 hz51 => ?_)
          have J147 : ∀ (ls : Array Slot) (H : Heap) (locs : List Loc) (ig53 : sI) (lg54 : sG) , lv_has ls 4 [] → WD B D cA s.heap kd ig53 rg lg54 H locs → IM τ φ υ B kd ig53 rg → Ft B [49, 66, 67, 68, 69, 70, 72, 74] ig lg ig53 lg54 → (WkM B σ x.toInt.toNat ig ig53) → W p l e (rL 30 0 0) s m args below meth c H locs 0 0 (MQ below (QcW B D cA (PM τ φ υ B [49, 66, 67, 68, 69, 70, 72, 74] kd ig rg lg (fun r ig' lg' => (r = none ∧ WkM B σ x.toInt.toNat ig ig')))) args s 0 0 (fun q => B ≤ q)) (F0 m 147 ls []) := by
            intro ls H locs ig53 lg54 hl hw hI hF g147_0
            have wk9 := g147_0
            exact r_vret C hw hr hlk (Nat.le_of_ble_eq_true rfl) (Nat.le_of_ble_eq_true rfl) dX12_work_147 ⟨rfl, rfl, hI, hF, ⟨rfl, wk9⟩⟩
          refine z_eq (tgt := 147) hx hb dX12_work_139 (by decide) (fun c139 => ?_) (fun c139 => ?_)
          · exact J147 ls H locs ig50 lg38 (lv_sub hl [] rfl) hw hI hF (wk9)
          · refine lv_aload_n hx hb dX12_work_142 rfl (lv_at hl 1 rfl) ?_
            refine lv_iload_n hx hb dX12_work_143 rfl (lv_at hl 2 rfl) ?_
            refine r_callV (As := [.int x]) (rest := []) C hw (t_X12_countWays l B D cA kd ig50 rg lg38 _ x (by omega) (by rw [Ft.i hF 59 _ (by decide)]; omega) hI) sv_X12_267 (hsh 49 _ rfl) rfl hl.1 rfl (Nat.le_of_ble_eq_true rfl) ⟨Nat.le_of_ble_eq_true rfl, Nat.le_of_ble_eq_true rfl⟩ ⟨Nat.le_of_ble_eq_true rfl, Nat.le_of_ble_eq_true rfl⟩ dX12_work_144 (fun r59 kd55 ig56 rg57 lg58 H locs hw hH hp60 => ?_)
            obtain ⟨rfl, rfl, hI, hchp60, hrhp60⟩ := hp60
            have hF : Ft B [49, 66, 67, 68, 69, 70, 72, 74] ig lg ig56 lg58 := Ft.tr hF hchp60 (by decide) (by decide)
            obtain rfl := hrhp60
            have wk9 : WkM B σ x.toInt.toNat ig ig56 := wk9.ft hchp60
            exact J147 ls H locs ig56 lg58 (lv_sub hl [] rfl) hw hI hF (wk9)
        · refine lv_aload_n hx hb dX12_work_90 rfl (lv_at hl 1 rfl) ?_
          refine r_get C hw (hsh 49 _ rfl) fl_X12_108 (oV_r rfl (hrm (49, 25, 68) (by decide))) dX12_work_91 ?_
          refine lv_iconst (v := 3) hx hb dX12_work_94 (by decide) (ti_c 3 (by decide) fun z61 hz61 => ?_)
          refine lv_iload_n hx hb dX12_work_95 rfl (lv_at hl 2 rfl) ?_
          refine lv_imul hx hb dX12_work_96 (tc_mulL 3 hz61 fun z62 hz62 => ?_)
          first | replace hz62 := hz62 (by omega) | clear hz62
          refine lv_iload_n hx hb dX12_work_97 rfl (lv_at hl 0 rfl) ?_
          refine lv_iadd hx hb dX12_work_98 (tc_add fun z63 hz63 => ?_)
          first | replace hz63 := hz63 (by omega) | clear hz63
          refine lv_aload_n hx hb dX12_work_99 rfl (lv_at hl 1 rfl) ?_
          refine r_get C hw (hsh 49 _ rfl) fl_X12_127 (oV_r rfl (hrm (49, 36, 74) (by decide))) dX12_work_100 ?_
          refine lv_iload_n hx hb dX12_work_103 rfl (lv_at hl 0 rfl) ?_
          refine r_iald C hw (hsh 74 _ rfl) (by omega) (by omega) dX12_work_104 (ti_c (ig37 (B + 74) v36.toInt.toNat).toInt rfl fun z64 hz64 => ?_)
          refine r_iast C hw (hsh 68 _ rfl) (by omega) (by omega) dX12_work_105 (fun H locs hH hw => ?_)
          obtain ⟨ig66, eig66⟩ : ∃ f, f = up2 ig37 (B + 68) z63.toInt.toNat z64 := ⟨_, rfl⟩
          rw [← eig66] at hw
          have hF : Ft B [49, 66, 67, 68, 69, 70, 72, 74] ig lg ig66 lg38 := by rw [eig66]; exact hF.pi (by decide)
          have hI : IM τ φ υ B kd ig66 rg := by rw [eig66]; exact hI.pi (by decide) (show okR none _ from trivial)
          have wig66_49_31 : (ig66 (B + 49) 31).toInt = (ig37 (B + 49) 31).toInt := by rw [eig66, up2_a (by omega)]
          have wig66_49_32 : (ig66 (B + 49) 32).toInt = (ig37 (B + 49) 32).toInt := by rw [eig66, up2_a (by omega)]
          have wig66_49_33 : (ig66 (B + 49) 33).toInt = (ig37 (B + 49) 33).toInt := by rw [eig66, up2_a (by omega)]
          have wig66_49_34 : (ig66 (B + 49) 34).toInt = (ig37 (B + 49) 34).toInt := by rw [eig66, up2_a (by omega)]
          have wig66_49_35 : (ig66 (B + 49) 35).toInt = (ig37 (B + 49) 35).toInt := by rw [eig66, up2_a (by omega)]
          have wk9 : WkM B σ x.toInt.toNat ig ig66 := by rw [eig66]; exact wk9.w (by decide)
          refine tc_inc hx hb dX12_work_106 hl (k := 0) rfl (by decide) (by decide) (fun z67 hz67 ls hl => ?_)
          first | replace hz67 := hz67 (by omega) | clear hz67
          have hl : lv_has ls 4 [(3, .int z67), (0, .ref (B + 49)), (1, .int x)] := hl
          refine lv_goto (tgt := 85) hx hb dX12_work_109 (by decide) ?_
          exact ih85 ls H locs ig66 lg38 z67 (lv_sub hl [0, 1, 2] rfl) hw hI hF (by omega) (by omega) (wk9) (by omega)
    exact L85 ((3 - z35.toInt) + 1).toNat ls H locs ig30 lg32 z35 (lv_sub hl [0, 2, 3] rfl) hw hI hF (by omega) (by omega) (wk9) (by omega)
  · refine lv_iconst (v := 0) hx hb dX12_work_45 (by decide) (ti_c 0 (by decide) fun z68 hz68 => ?_)
    refine lv_goto (tgt := 50) hx hb dX12_work_46 (by decide) ?_
    refine r_iast C hw (hsh 66 _ rfl) (by omega) (by omega) dX12_work_50 (fun H locs hH hw => ?_)
    obtain ⟨ig69, eig69⟩ : ∃ f, f = up2 ig12 (B + 66) x.toInt.toNat z68 := ⟨_, rfl⟩
    rw [← eig69] at hw
    have hF : Ft B [49, 66, 67, 68, 69, 70, 72, 74] ig lg ig69 lg14 := by rw [eig69]; exact hF.pi (by decide)
    have hI : IM τ φ υ B kd ig69 rg := by rw [eig69]; exact hI.pi (by decide) (show okR none _ from trivial)
    have wig69_49_31 : (ig69 (B + 49) 31).toInt = (ig12 (B + 49) 31).toInt := by rw [eig69, up2_a (by omega)]
    have wig69_49_32 : (ig69 (B + 49) 32).toInt = (ig12 (B + 49) 32).toInt := by rw [eig69, up2_a (by omega)]
    have wig69_49_33 : (ig69 (B + 49) 33).toInt = (ig12 (B + 49) 33).toInt := by rw [eig69, up2_a (by omega)]
    have wig69_49_34 : (ig69 (B + 49) 34).toInt = (ig12 (B + 49) 34).toInt := by rw [eig69, up2_a (by omega)]
    have wig69_49_35 : (ig69 (B + 49) 35).toInt = (ig12 (B + 49) 35).toInt := by rw [eig69, up2_a (by omega)]
    refine lv_aload_n hx hb dX12_work_51 rfl (lv_at hl 1 rfl) ?_
    refine r_get C hw (hsh 49 _ rfl) fl_X12_105 (oV_r rfl (hrm (49, 24, 67) (by decide))) dX12_work_52 ?_
    refine lv_iload_n hx hb dX12_work_55 rfl (lv_at hl 2 rfl) ?_
    refine lv_aload_n hx hb dX12_work_56 rfl (lv_at hl 1 rfl) ?_
    refine r_get C hw (hsh 49 _ rfl) fl_X12_247 (oV_i rfl) dX12_work_57 (ti_c (ig69 (B + 49) 33).toInt rfl fun z70 hz70 => ?_)
    refine r_iast C hw (hsh 67 _ rfl) (by omega) (by omega) dX12_work_60 (fun H locs hH hw => ?_)
    obtain ⟨ig71, eig71⟩ : ∃ f, f = up2 ig69 (B + 67) x.toInt.toNat z70 := ⟨_, rfl⟩
    rw [← eig71] at hw
    have hF : Ft B [49, 66, 67, 68, 69, 70, 72, 74] ig lg ig71 lg14 := by rw [eig71]; exact hF.pi (by decide)
    have hI : IM τ φ υ B kd ig71 rg := by rw [eig71]; exact hI.pi (by decide) (show okR none _ from trivial)
    have wig71_49_31 : (ig71 (B + 49) 31).toInt = (ig69 (B + 49) 31).toInt := by rw [eig71, up2_a (by omega)]
    have wig71_49_32 : (ig71 (B + 49) 32).toInt = (ig69 (B + 49) 32).toInt := by rw [eig71, up2_a (by omega)]
    have wig71_49_33 : (ig71 (B + 49) 33).toInt = (ig69 (B + 49) 33).toInt := by rw [eig71, up2_a (by omega)]
    have wig71_49_34 : (ig71 (B + 49) 34).toInt = (ig69 (B + 49) 34).toInt := by rw [eig71, up2_a (by omega)]
    have wig71_49_35 : (ig71 (B + 49) 35).toInt = (ig69 (B + 49) 35).toInt := by rw [eig71, up2_a (by omega)]
    have em9 : z70 = ig12 (B + 49) 33 := i32_inj (by rw [hz70, eig69, up2_a (by omega)])
    have wk9 : WkM B σ x.toInt.toNat ig ig71 := WkM.mk (w := z68) (m := z70) (z := z17) (a := ig10 (B + 49) 33) (fun j hj => ⟨by rw [eig71, up2_a (by omega), eig69, up2_j hj, gv9.1], by rw [eig71, up2_j hj, eig69, up2_a (by omega), gv9.2]⟩) (by rw [eig71, up2_a (by omega), eig69, up2_eq]) (by rw [eig71, up2_eq]) rfl (by rw [em9]; exact ev9) (by rw [eig10, up2_eq]; exact i32_z (by omega)) rfl rfl hn hf ⟨fun _ => i32_z (by omega), fun q => absurd q (by omega)⟩
    refine lv_aload_n hx hb dX12_work_61 rfl (lv_at hl 1 rfl) ?_
    refine lv_bipush (v := 120) hx hb dX12_work_62 (by decide) (ti_c 120 (by decide) fun z72 hz72 => ?_)
    refine lv_iload_n hx hb dX12_work_64 rfl (lv_at hl 2 rfl) ?_
    refine lv_imul hx hb dX12_work_65 (tc_mulL 120 hz72 fun z73 hz73 => ?_)
    first | replace hz73 := hz73 (by omega) | clear hz73
    refine r_puti C hw (hsh 49 _ rfl) fl_X12_241 rfl rfl rfl dX12_work_66 (fun H locs hH hw => ?_)
    obtain ⟨ig74, eig74⟩ : ∃ f, f = up2 ig71 (B + 49) 31 z73 := ⟨_, rfl⟩
    rw [← eig74] at hw
    have hF : Ft B [49, 66, 67, 68, 69, 70, 72, 74] ig lg ig74 lg14 := by rw [eig74]; exact hF.pi (by decide)
    have hI : IM τ φ υ B kd ig74 rg := by rw [eig74]; exact hI.pi (by decide) (show okR none _ from trivial)
    have wig74 : (ig74 (B + 49) 31).toInt = z73.toInt := by rw [eig74, up2_eq]
    have wig74_49_32 : (ig74 (B + 49) 32).toInt = (ig71 (B + 49) 32).toInt := by rw [eig74, up2_j (by decide)]
    have wig74_49_33 : (ig74 (B + 49) 33).toInt = (ig71 (B + 49) 33).toInt := by rw [eig74, up2_j (by decide)]
    have wig74_49_34 : (ig74 (B + 49) 34).toInt = (ig71 (B + 49) 34).toInt := by rw [eig74, up2_j (by decide)]
    have wig74_49_35 : (ig74 (B + 49) 35).toInt = (ig71 (B + 49) 35).toInt := by rw [eig74, up2_j (by decide)]
    have wk9 : WkM B σ x.toInt.toNat ig ig74 := by rw [eig74]; exact wk9.w (by decide)
    refine lv_aload_n hx hb dX12_work_69 rfl (lv_at hl 1 rfl) ?_
    refine lv_iconst (v := 0) hx hb dX12_work_70 (by decide) (ti_c 0 (by decide) fun z75 hz75 => ?_)
    refine r_puti C hw (hsh 49 _ rfl) fl_X12_254 rfl (nar_b (by omega)) (fit_b (by omega)) dX12_work_71 (fun H locs hH hw => ?_)
    obtain ⟨ig76, eig76⟩ : ∃ f, f = up2 ig74 (B + 49) 34 z75 := ⟨_, rfl⟩
    rw [← eig76] at hw
    have hF : Ft B [49, 66, 67, 68, 69, 70, 72, 74] ig lg ig76 lg14 := by rw [eig76]; exact hF.pi (by decide)
    have hI : IM τ φ υ B kd ig76 rg := by rw [eig76]; exact hI.pi (by decide) (show okR (some (0, 1)) _ from ⟨by show (0 : Int) ≤ _; omega, by show _ ≤ (1 : Int); omega⟩)
    have wig76_49_31 : (ig76 (B + 49) 31).toInt = (ig74 (B + 49) 31).toInt := by rw [eig76, up2_j (by decide)]
    have wig76_49_32 : (ig76 (B + 49) 32).toInt = (ig74 (B + 49) 32).toInt := by rw [eig76, up2_j (by decide)]
    have wig76_49_33 : (ig76 (B + 49) 33).toInt = (ig74 (B + 49) 33).toInt := by rw [eig76, up2_j (by decide)]
    have wig76 : (ig76 (B + 49) 34).toInt = z75.toInt := by rw [eig76, up2_eq]
    have wig76_49_35 : (ig76 (B + 49) 35).toInt = (ig74 (B + 49) 35).toInt := by rw [eig76, up2_j (by decide)]
    have wk9 : WkM B σ x.toInt.toNat ig ig76 := by rw [eig76]; exact wk9.w (by decide)
    refine lv_aload_n hx hb dX12_work_74 rfl (lv_at hl 1 rfl) ?_
    refine lv_iconst (v := 0) hx hb dX12_work_75 (by decide) (ti_c 0 (by decide) fun z77 hz77 => ?_)
    refine r_puti C hw (hsh 49 _ rfl) fl_X12_258 rfl rfl rfl dX12_work_76 (fun H locs hH hw => ?_)
    obtain ⟨ig78, eig78⟩ : ∃ f, f = up2 ig76 (B + 49) 35 z77 := ⟨_, rfl⟩
    rw [← eig78] at hw
    have hF : Ft B [49, 66, 67, 68, 69, 70, 72, 74] ig lg ig78 lg14 := by rw [eig78]; exact hF.pi (by decide)
    have hI : IM τ φ υ B kd ig78 rg := by rw [eig78]; exact hI.pi (by decide) (show okR none _ from trivial)
    have wig78_49_31 : (ig78 (B + 49) 31).toInt = (ig76 (B + 49) 31).toInt := by rw [eig78, up2_j (by decide)]
    have wig78_49_32 : (ig78 (B + 49) 32).toInt = (ig76 (B + 49) 32).toInt := by rw [eig78, up2_j (by decide)]
    have wig78_49_33 : (ig78 (B + 49) 33).toInt = (ig76 (B + 49) 33).toInt := by rw [eig78, up2_j (by decide)]
    have wig78_49_34 : (ig78 (B + 49) 34).toInt = (ig76 (B + 49) 34).toInt := by rw [eig78, up2_j (by decide)]
    have wig78 : (ig78 (B + 49) 35).toInt = z77.toInt := by rw [eig78, up2_eq]
    have wk9 : WkM B σ x.toInt.toNat ig ig78 := by rw [eig78]; exact wk9.w (by decide)
    refine lv_aload_n hx hb dX12_work_79 rfl (lv_at hl 1 rfl) ?_
    refine r_callV (As := []) (rest := []) C hw ((t_X12_unitE_all l B D cA 8).2.2 kd ig78 rg lg14 _  (120 * x.toInt.toNat) (120 * x.toInt.toNat + n9) (by rw [Ft.K hF (by decide), Ft.A hF (by decide)]; exact e3) (by omega) (fun k q1 q2 => Ft.R hF (by decide) (by decide) (by decide) (e4 k q1 q2)) (by omega) (Or.inl (by omega)) (by omega) hI) sv_X12_261 (hsh 49 _ rfl) rfl hl.1 rfl (Nat.le_of_ble_eq_true rfl) ⟨Nat.le_of_ble_eq_true rfl, Nat.le_of_ble_eq_true rfl⟩ ⟨Nat.le_of_ble_eq_true rfl, Nat.le_of_ble_eq_true rfl⟩ dX12_work_80 (fun r83 kd79 ig80 rg81 lg82 H locs hw hH hp84 => ?_)
    obtain ⟨rfl, rfl, hI, hchp84, hrhp84⟩ := hp84
    have hF : Ft B [49, 66, 67, 68, 69, 70, 72, 74] ig lg ig80 lg82 := Ft.tr hF hchp84 (by decide) (by decide)
    obtain ⟨rfl, hvhp84⟩ := hrhp84
    have wk9 : WkM B σ x.toInt.toNat ig ig80 := wk9.ft hchp84
    refine lv_iconst (v := 0) hx hb dX12_work_83 (by decide) (ti_c 0 (by decide) fun z85 hz85 => ?_)
    refine lv_istore_n (lv' := [(3, .int z85), (2, .int z17), (0, .ref (B + 49)), (1, .int x)]) hx hb dX12_work_84 rfl hl (by decide) rfl (fun ls hl => ?_)
    have L85 : ∀ (n : Nat) (ls : Array Slot) (H : Heap) (locs : List Loc) (ig87 : sI) (lg88 : sG) (v86 : Int32), lv_has ls 4 [(3, .int v86), (0, .ref (B + 49)), (1, .int x)] → WD B D cA s.heap kd ig87 rg lg88 H locs → IM τ φ υ B kd ig87 rg → Ft B [49, 66, 67, 68, 69, 70, 72, 74] ig lg ig87 lg88 → (0 ≤ v86.toInt) → (v86.toInt ≤ 3) → (WkM B σ x.toInt.toNat ig ig87) → 3 - v86.toInt < (n : Int) → W p l e (rL 30 0 0) s m args below meth c H locs 0 0 (MQ below (QcW B D cA (PM τ φ υ B [49, 66, 67, 68, 69, 70, 72, 74] kd ig rg lg (fun r ig' lg' => (r = none ∧ WkM B σ x.toInt.toNat ig ig')))) args s 0 0 (fun q => B ≤ q)) (F0 m 85 ls []) := by
      intro n85
      induction n85 with
      | zero => intro ls H locs ig87 lg88 v86 hl hw hI hF g85_0 g85_1 g85_2 hmu; exact absurd hmu (by omega)
      | succ n85 ih85 =>
        intro ls H locs ig87 lg88 v86 hl hw hI hF g85_0 g85_1 g85_2 hmu
        have wk9 := g85_2
        refine lv_iload_n hx hb dX12_work_85 rfl (lv_at hl 0 rfl) ?_
        refine lv_iconst (v := 3) hx hb dX12_work_86 (by decide) (ti_c 3 (by decide) fun z89 hz89 => ?_)
        refine b_ge (tgt := 112) hx hb dX12_work_87 (by decide) (fun c87 => ?_) (fun c87 => ?_)
        · refine lv_aload_n hx hb dX12_work_112 rfl (lv_at hl 1 rfl) ?_
          refine r_get C hw (hsh 49 _ rfl) fl_X12_111 (oV_r rfl (hrm (49, 26, 69) (by decide))) dX12_work_113 ?_
          refine lv_iload_n hx hb dX12_work_116 rfl (lv_at hl 2 rfl) ?_
          refine lv_aload_n hx hb dX12_work_117 rfl (lv_at hl 1 rfl) ?_
          refine r_get C hw (hsh 49 _ rfl) fl_X12_254 (oV_i rfl) dX12_work_118 (ti_c (ig87 (B + 49) 34).toInt rfl fun z90 hz90 => ?_)
          have k91 : 0 ≤ (ig87 (B + 49) 34).toInt ∧ (ig87 (B + 49) 34).toInt ≤ 1 := hI.i 49 34 (by decide) (by decide)
          refine r_zast C hw (hsh 69 _ rfl) (by omega) (by omega) (nar_b (by omega)) dX12_work_121 (fun H locs hH hw => ?_)
          obtain ⟨ig92, eig92⟩ : ∃ f, f = up2 ig87 (B + 69) x.toInt.toNat z90 := ⟨_, rfl⟩
          rw [← eig92] at hw
          have hF : Ft B [49, 66, 67, 68, 69, 70, 72, 74] ig lg ig92 lg88 := by rw [eig92]; exact hF.pi (by decide)
          have hI : IM τ φ υ B kd ig92 rg := by rw [eig92]; exact hI.pi (by decide) (show okR none _ from trivial)
          have wig92_49_31 : (ig92 (B + 49) 31).toInt = (ig87 (B + 49) 31).toInt := by rw [eig92, up2_a (by omega)]
          have wig92_49_32 : (ig92 (B + 49) 32).toInt = (ig87 (B + 49) 32).toInt := by rw [eig92, up2_a (by omega)]
          have wig92_49_33 : (ig92 (B + 49) 33).toInt = (ig87 (B + 49) 33).toInt := by rw [eig92, up2_a (by omega)]
          have wig92_49_34 : (ig92 (B + 49) 34).toInt = (ig87 (B + 49) 34).toInt := by rw [eig92, up2_a (by omega)]
          have wig92_49_35 : (ig92 (B + 49) 35).toInt = (ig87 (B + 49) 35).toInt := by rw [eig92, up2_a (by omega)]
          have wk9 : WkM B σ x.toInt.toNat ig ig92 := by rw [eig92]; exact wk9.w (by decide)
          refine lv_aload_n hx hb dX12_work_122 rfl (lv_at hl 1 rfl) ?_
          refine r_get C hw (hsh 49 _ rfl) fl_X12_114 (oV_r rfl (hrm (49, 27, 70) (by decide))) dX12_work_123 ?_
          refine lv_iload_n hx hb dX12_work_126 rfl (lv_at hl 2 rfl) ?_
          refine lv_aload_n hx hb dX12_work_127 rfl (lv_at hl 1 rfl) ?_
          refine lv_iload_n hx hb dX12_work_128 rfl (lv_at hl 2 rfl) ?_
          refine r_callV (As := [.int x]) (rest := [.int x, .ref (B + 70)]) C hw (t_X12_looksTotal l B D cA kd ig92 rg lg88 _ x (by omega) (by rw [Ft.i hF 59 _ (by decide)]; omega) hI) sv_X12_264 (hsh 49 _ rfl) rfl hl.1 rfl (Nat.le_of_ble_eq_true rfl) ⟨Nat.le_of_ble_eq_true rfl, Nat.le_of_ble_eq_true rfl⟩ ⟨Nat.le_of_ble_eq_true rfl, Nat.le_of_ble_eq_true rfl⟩ dX12_work_129 (fun r97 kd93 ig94 rg95 lg96 H locs hw hH hp98 => ?_)
          obtain ⟨rfl, rfl, rfl, rfl, hzhp98, hrhp98⟩ := hp98
          obtain ⟨z99, rfl, hz99⟩ := hrhp98
          refine r_zast C hw (hsh 70 _ rfl) (by omega) (by omega) (nar_b (by omega)) dX12_work_132 (fun H locs hH hw => ?_)
          obtain ⟨ig100, eig100⟩ : ∃ f, f = up2 ig92 (B + 70) x.toInt.toNat z99 := ⟨_, rfl⟩
          rw [← eig100] at hw
          have hF : Ft B [49, 66, 67, 68, 69, 70, 72, 74] ig lg ig100 lg88 := by rw [eig100]; exact hF.pi (by decide)
          have hI : IM τ φ υ B kd ig100 rg := by rw [eig100]; exact hI.pi (by decide) (show okR none _ from trivial)
          have wig100_49_31 : (ig100 (B + 49) 31).toInt = (ig92 (B + 49) 31).toInt := by rw [eig100, up2_a (by omega)]
          have wig100_49_32 : (ig100 (B + 49) 32).toInt = (ig92 (B + 49) 32).toInt := by rw [eig100, up2_a (by omega)]
          have wig100_49_33 : (ig100 (B + 49) 33).toInt = (ig92 (B + 49) 33).toInt := by rw [eig100, up2_a (by omega)]
          have wig100_49_34 : (ig100 (B + 49) 34).toInt = (ig92 (B + 49) 34).toInt := by rw [eig100, up2_a (by omega)]
          have wig100_49_35 : (ig100 (B + 49) 35).toInt = (ig92 (B + 49) 35).toInt := by rw [eig100, up2_a (by omega)]
          have wk9 : WkM B σ x.toInt.toNat ig ig100 := by rw [eig100]; exact wk9.w (by decide)
          refine lv_aload_n hx hb dX12_work_133 rfl (lv_at hl 1 rfl) ?_
          refine r_get C hw (hsh 49 _ rfl) fl_X12_114 (oV_r rfl (hrm (49, 27, 70) (by decide))) dX12_work_134 ?_
          refine lv_iload_n hx hb dX12_work_137 rfl (lv_at hl 2 rfl) ?_
          refine r_zald C hw (hsh 70 _ rfl) (by omega) (by omega) dX12_work_138 (ti_c (ig100 (B + 70) x.toInt.toNat).toInt rfl fun z101 hz101 => ?_)
          have J147 : ∀ (ls : Array Slot) (H : Heap) (locs : List Loc) (ig103 : sI) (lg104 : sG) , lv_has ls 4 [] → WD B D cA s.heap kd ig103 rg lg104 H locs → IM τ φ υ B kd ig103 rg → Ft B [49, 66, 67, 68, 69, 70, 72, 74] ig lg ig103 lg104 → (WkM B σ x.toInt.toNat ig ig103) → W p l e (rL 30 0 0) s m args below meth c H locs 0 0 (MQ below (QcW B D cA (PM τ φ υ B [49, 66, 67, 68, 69, 70, 72, 74] kd ig rg lg (fun r ig' lg' => (r = none ∧ WkM B σ x.toInt.toNat ig ig')))) args s 0 0 (fun q => B ≤ q)) (F0 m 147 ls []) := by
            intro ls H locs ig103 lg104 hl hw hI hF g147_0
            have wk9 := g147_0
            exact r_vret C hw hr hlk (Nat.le_of_ble_eq_true rfl) (Nat.le_of_ble_eq_true rfl) dX12_work_147 ⟨rfl, rfl, hI, hF, ⟨rfl, wk9⟩⟩
          refine z_eq (tgt := 147) hx hb dX12_work_139 (by decide) (fun c139 => ?_) (fun c139 => ?_)
          · exact J147 ls H locs ig100 lg88 (lv_sub hl [] rfl) hw hI hF (wk9)
          · refine lv_aload_n hx hb dX12_work_142 rfl (lv_at hl 1 rfl) ?_
            refine lv_iload_n hx hb dX12_work_143 rfl (lv_at hl 2 rfl) ?_
            refine r_callV (As := [.int x]) (rest := []) C hw (t_X12_countWays l B D cA kd ig100 rg lg88 _ x (by omega) (by rw [Ft.i hF 59 _ (by decide)]; omega) hI) sv_X12_267 (hsh 49 _ rfl) rfl hl.1 rfl (Nat.le_of_ble_eq_true rfl) ⟨Nat.le_of_ble_eq_true rfl, Nat.le_of_ble_eq_true rfl⟩ ⟨Nat.le_of_ble_eq_true rfl, Nat.le_of_ble_eq_true rfl⟩ dX12_work_144 (fun r109 kd105 ig106 rg107 lg108 H locs hw hH hp110 => ?_)
            obtain ⟨rfl, rfl, hI, hchp110, hrhp110⟩ := hp110
            have hF : Ft B [49, 66, 67, 68, 69, 70, 72, 74] ig lg ig106 lg108 := Ft.tr hF hchp110 (by decide) (by decide)
            obtain rfl := hrhp110
            have wk9 : WkM B σ x.toInt.toNat ig ig106 := wk9.ft hchp110
            exact J147 ls H locs ig106 lg108 (lv_sub hl [] rfl) hw hI hF (wk9)
        · refine lv_aload_n hx hb dX12_work_90 rfl (lv_at hl 1 rfl) ?_
          refine r_get C hw (hsh 49 _ rfl) fl_X12_108 (oV_r rfl (hrm (49, 25, 68) (by decide))) dX12_work_91 ?_
          refine lv_iconst (v := 3) hx hb dX12_work_94 (by decide) (ti_c 3 (by decide) fun z111 hz111 => ?_)
          refine lv_iload_n hx hb dX12_work_95 rfl (lv_at hl 2 rfl) ?_
          refine lv_imul hx hb dX12_work_96 (tc_mulL 3 hz111 fun z112 hz112 => ?_)
          first | replace hz112 := hz112 (by omega) | clear hz112
          refine lv_iload_n hx hb dX12_work_97 rfl (lv_at hl 0 rfl) ?_
          refine lv_iadd hx hb dX12_work_98 (tc_add fun z113 hz113 => ?_)
          first | replace hz113 := hz113 (by omega) | clear hz113
          refine lv_aload_n hx hb dX12_work_99 rfl (lv_at hl 1 rfl) ?_
          refine r_get C hw (hsh 49 _ rfl) fl_X12_127 (oV_r rfl (hrm (49, 36, 74) (by decide))) dX12_work_100 ?_
          refine lv_iload_n hx hb dX12_work_103 rfl (lv_at hl 0 rfl) ?_
          refine r_iald C hw (hsh 74 _ rfl) (by omega) (by omega) dX12_work_104 (ti_c (ig87 (B + 74) v86.toInt.toNat).toInt rfl fun z114 hz114 => ?_)
          refine r_iast C hw (hsh 68 _ rfl) (by omega) (by omega) dX12_work_105 (fun H locs hH hw => ?_)
          obtain ⟨ig116, eig116⟩ : ∃ f, f = up2 ig87 (B + 68) z113.toInt.toNat z114 := ⟨_, rfl⟩
          rw [← eig116] at hw
          have hF : Ft B [49, 66, 67, 68, 69, 70, 72, 74] ig lg ig116 lg88 := by rw [eig116]; exact hF.pi (by decide)
          have hI : IM τ φ υ B kd ig116 rg := by rw [eig116]; exact hI.pi (by decide) (show okR none _ from trivial)
          have wig116_49_31 : (ig116 (B + 49) 31).toInt = (ig87 (B + 49) 31).toInt := by rw [eig116, up2_a (by omega)]
          have wig116_49_32 : (ig116 (B + 49) 32).toInt = (ig87 (B + 49) 32).toInt := by rw [eig116, up2_a (by omega)]
          have wig116_49_33 : (ig116 (B + 49) 33).toInt = (ig87 (B + 49) 33).toInt := by rw [eig116, up2_a (by omega)]
          have wig116_49_34 : (ig116 (B + 49) 34).toInt = (ig87 (B + 49) 34).toInt := by rw [eig116, up2_a (by omega)]
          have wig116_49_35 : (ig116 (B + 49) 35).toInt = (ig87 (B + 49) 35).toInt := by rw [eig116, up2_a (by omega)]
          have wk9 : WkM B σ x.toInt.toNat ig ig116 := by rw [eig116]; exact wk9.w (by decide)
          refine tc_inc hx hb dX12_work_106 hl (k := 0) rfl (by decide) (by decide) (fun z117 hz117 ls hl => ?_)
          first | replace hz117 := hz117 (by omega) | clear hz117
          have hl : lv_has ls 4 [(3, .int z117), (0, .ref (B + 49)), (1, .int x)] := hl
          refine lv_goto (tgt := 85) hx hb dX12_work_109 (by decide) ?_
          exact ih85 ls H locs ig116 lg88 z117 (lv_sub hl [0, 1, 2] rfl) hw hI hF (by omega) (by omega) (wk9) (by omega)
    exact L85 ((3 - z85.toInt) + 1).toNat ls H locs ig80 lg82 z85 (lv_sub hl [0, 2, 3] rfl) hw hI hF (by omega) (by omega) (wk9) (by omega)

set_option maxHeartbeats 4000000 in
set_option maxRecDepth 100000 in
theorem t_X12_worksV {υ : Option Int} {τ : Tp} {φ : Option Int} (l : Launch) (B : Nat) (D : va_G) (cA : Nat → ClassId) (kd : sK) (ig : sI) (rg : sR) (lg : sG) (sz : Nat) (σ : Sg) (hM : ∀ p, p < 288 → RowM B ig p (p : Int) (σ p)) (hf : ∀ p, p < 288 → kdO (σ p) = 2 → fitL (p : Int) (fmO (σ p))) (hw0 : ∀ p, p < 288 → kdO (σ p) ≠ 1 → (σ p).1.2 = 0) (hI : IM τ φ υ B kd ig rg) : MC l B D cA yX12_works cX12_works 3 none (rL 31 0 0) [.ref (B + 49)] kd ig rg lg sz (PM τ φ υ B [49, 64, 65, 66, 67, 68, 69, 70, 71, 72, 73, 74] kd ig rg lg (fun r ig' lg' => (r = none ∧ FVm B σ ig'))) := by
  refine MC.of (own := RX12) (by decide +kernel) rfl (Nat.le_of_ble_eq_true rfl) ?_
  intro p e s m args below meth c ls C hr hlk hnm hw hsz hl
  have hx := C.1.1
  have hb := C.1.2.1
  have hown := C.1.2.2.2.1
  have hts := C.1.2.2.2.2
  have hl : lv_has ls 3 [(0, .ref (B + 49))] := hl
  have hF : Ft B [49, 64, 65, 66, 67, 68, 69, 70, 71, 72, 73, 74] ig lg ig lg := Ft.rf
  have hsh := hI.sh
  have hrm := hI.rm
  refine lv_aload_n hx hb dX12_works_0 rfl (lv_at hl 0 rfl) ?_
  refine r_callV (As := []) (rest := []) C hw (t_X12_findReadsE l B D cA kd ig rg lg _  σ hM hf hI) sv_X12_226 (hsh 49 _ rfl) rfl hl.1 rfl (Nat.le_of_ble_eq_true rfl) ⟨Nat.le_of_ble_eq_true rfl, Nat.le_of_ble_eq_true rfl⟩ ⟨Nat.le_of_ble_eq_true rfl, Nat.le_of_ble_eq_true rfl⟩ dX12_works_1 (fun r5 kd1 ig2 rg3 lg4 H locs hw hH hp6 => ?_)
  obtain ⟨rfl, rfl, hI, hchp6, hrhp6⟩ := hp6
  have hF : Ft B [49, 64, 65, 66, 67, 68, 69, 70, 71, 72, 73, 74] ig lg ig2 lg4 := Ft.tr hF hchp6 (by decide) (by decide)
  obtain ⟨rfl, hvhp6⟩ := hrhp6
  have rr9 := hvhp6
  refine lv_iconst (v := 0) hx hb dX12_works_4 (by decide) (ti_c 0 (by decide) fun z7 hz7 => ?_)
  refine lv_istore_n (lv' := [(1, .int z7), (0, .ref (B + 49))]) hx hb dX12_works_5 rfl hl (by decide) rfl (fun ls hl => ?_)
  have L6 : ∀ (n : Nat) (ls : Array Slot) (H : Heap) (locs : List Loc) (ig9 : sI) (lg10 : sG) (v8 : Int32), lv_has ls 3 [(1, .int v8), (0, .ref (B + 49))] → WD B D cA s.heap kd ig9 rg lg10 H locs → IM τ φ υ B kd ig9 rg → Ft B [49, 64, 65, 66, 67, 68, 69, 70, 71, 72, 73, 74] ig lg ig9 lg10 → (0 ≤ v8.toInt) → (v8.toInt ≤ 288) → (InM B σ v8.toInt.toNat ig9 lg10) → 288 - v8.toInt < (n : Int) → W p l e (rL 31 0 0) s m args below meth c H locs 0 0 (MQ below (QcW B D cA (PM τ φ υ B [49, 64, 65, 66, 67, 68, 69, 70, 71, 72, 73, 74] kd ig rg lg (fun r ig' lg' => (r = none ∧ FVm B σ ig')))) args s 0 0 (fun q => B ≤ q)) (F0 m 6 ls []) := by
    intro n6
    induction n6 with
    | zero => intro ls H locs ig9 lg10 v8 hl hw hI hF g6_0 g6_1 g6_2 hmu; exact absurd hmu (by omega)
    | succ n6 ih6 =>
      intro ls H locs ig9 lg10 v8 hl hw hI hF g6_0 g6_1 g6_2 hmu
      have inm := g6_2
      refine lv_iload_n hx hb dX12_works_6 rfl (lv_at hl 0 rfl) ?_
      refine lv_sipush (v := 288) hx hb dX12_works_7 (by decide) (ti_c 288 (by decide) fun z11 hz11 => ?_)
      refine b_ge (tgt := 164) hx hb dX12_works_10 (by decide) (fun c10 => ?_) (fun c10 => ?_)
      · refine lv_iconst (v := 1) hx hb dX12_works_164 (by decide) (ti_c 1 (by decide) fun z12 hz12 => ?_)
        refine lv_istore_n (lv' := [(1, .int z12), (0, .ref (B + 49))]) hx hb dX12_works_165 rfl hl (by decide) rfl (fun ls hl => ?_)
        have L166 : ∀ (n : Nat) (ls : Array Slot) (H : Heap) (locs : List Loc) (ig14 : sI) (lg15 : sG) (v13 : Int32), lv_has ls 3 [(1, .int v13), (0, .ref (B + 49))] → WD B D cA s.heap kd ig14 rg lg15 H locs → IM τ φ υ B kd ig14 rg → Ft B [49, 64, 65, 66, 67, 68, 69, 70, 71, 72, 73, 74] ig lg ig14 lg15 → (v13.toInt = 0 ∨ v13.toInt = 1) → (VDM B σ ig14 lg15) → (v13.toInt = 0 → SwN B σ ig14 288) → 2 * (ucnt (ig14 (B + 73)) 288 : Int) + v13.toInt < (n : Int) → W p l e (rL 31 0 0) s m args below meth c H locs 0 0 (MQ below (QcW B D cA (PM τ φ υ B [49, 64, 65, 66, 67, 68, 69, 70, 71, 72, 73, 74] kd ig rg lg (fun r ig' lg' => (r = none ∧ FVm B σ ig')))) args s 0 0 (fun q => B ≤ q)) (F0 m 166 ls []) := by
          intro n166
          induction n166 with
          | zero => intro ls H locs ig14 lg15 v13 hl hw hI hF g166_0 g166_1 g166_2 hmu; exact absurd hmu (by omega)
          | succ n166 ih166 =>
            intro ls H locs ig14 lg15 v13 hl hw hI hF g166_0 g166_1 g166_2 hmu
            have vda := g166_1
            obtain ⟨igo, eigo⟩ : ∃ f, f = ig14 := ⟨_, rfl⟩
            have ecn : ucnt (igo (B + 73)) 288 = ucnt (ig14 (B + 73)) 288 := by rw [eigo]
            refine lv_iload_n hx hb dX12_works_166 rfl (lv_at hl 0 rfl) ?_
            refine z_eq (tgt := 221) hx hb dX12_works_167 (by decide) (fun c167 => ?_) (fun c167 => ?_)
            · have vok := VDM.ok g166_1 (g166_2 (by omega))
              refine lv_aload_n hx hb dX12_works_221 rfl (lv_at hl 1 rfl) ?_
              refine r_callV (As := []) (rest := []) C hw (t_X12_findFamiliesE l B D cA kd ig14 rg lg15 _  σ (fun p hp => (hM p hp).ft hF (by decide)) hI) sv_X12_238 (hsh 49 _ rfl) rfl hl.1 rfl (Nat.le_of_ble_eq_true rfl) ⟨Nat.le_of_ble_eq_true rfl, Nat.le_of_ble_eq_true rfl⟩ ⟨Nat.le_of_ble_eq_true rfl, Nat.le_of_ble_eq_true rfl⟩ dX12_works_222 (fun r20 kd16 ig17 rg18 lg19 H locs hw hH hp21 => ?_)
              obtain ⟨rfl, rfl, hI, hchp21, hrhp21⟩ := hp21
              have hF : Ft B [49, 64, 65, 66, 67, 68, 69, 70, 71, 72, 73, 74] ig lg ig17 lg19 := Ft.tr hF hchp21 (by decide) (by decide)
              obtain ⟨rfl, hvhp21⟩ := hrhp21
              have vok := vok.ft hchp21
              have fam9 := hvhp21
              exact r_vret C hw hr hlk (Nat.le_of_ble_eq_true rfl) (Nat.le_of_ble_eq_true rfl) dX12_works_225 ⟨rfl, rfl, hI, hF, ⟨rfl, ⟨fam9, vok⟩⟩⟩
            · refine lv_iconst (v := 0) hx hb dX12_works_170 (by decide) (ti_c 0 (by decide) fun z22 hz22 => ?_)
              refine lv_istore_n (lv' := [(1, .int z22), (0, .ref (B + 49))]) hx hb dX12_works_171 rfl hl (by decide) rfl (fun ls hl => ?_)
              refine lv_iconst (v := 0) hx hb dX12_works_172 (by decide) (ti_c 0 (by decide) fun z23 hz23 => ?_)
              refine lv_istore_n (lv' := [(2, .int z23), (1, .int z22), (0, .ref (B + 49))]) hx hb dX12_works_173 rfl hl (by decide) rfl (fun ls hl => ?_)
              have L174 : ∀ (n : Nat) (ls : Array Slot) (H : Heap) (locs : List Loc) (ig26 : sI) (lg27 : sG) (v24 : Int32) (v25 : Int32), lv_has ls 3 [(2, .int v24), (1, .int v25), (0, .ref (B + 49))] → WD B D cA s.heap kd ig26 rg lg27 H locs → IM τ φ υ B kd ig26 rg → Ft B [49, 64, 65, 66, 67, 68, 69, 70, 71, 72, 73, 74] ig lg ig26 lg27 → (0 ≤ v24.toInt) → (v24.toInt ≤ 288) → (v25.toInt = 0 ∨ v25.toInt = 1) → (VDM B σ ig26 lg27) → ((ucnt (ig26 (B + 73)) 288 : Int) + v25.toInt ≤ (ucnt (igo (B + 73)) 288 : Int)) → (v25.toInt = 0 → SwN B σ ig26 v24.toInt.toNat) → 288 - v24.toInt < (n : Int) → W p l e (rL 31 0 0) s m args below meth c H locs 0 0 (MQ below (QcW B D cA (PM τ φ υ B [49, 64, 65, 66, 67, 68, 69, 70, 71, 72, 73, 74] kd ig rg lg (fun r ig' lg' => (r = none ∧ FVm B σ ig')))) args s 0 0 (fun q => B ≤ q)) (F0 m 174 ls []) := by
                intro n174
                induction n174 with
                | zero => intro ls H locs ig26 lg27 v24 v25 hl hw hI hF g174_0 g174_1 g174_2 g174_3 g174_4 g174_5 hmu; exact absurd hmu (by omega)
                | succ n174 ih174 =>
                  intro ls H locs ig26 lg27 v24 v25 hl hw hI hF g174_0 g174_1 g174_2 g174_3 g174_4 g174_5 hmu
                  have vda := g174_3
                  refine lv_iload_n hx hb dX12_works_174 rfl (lv_at hl 0 rfl) ?_
                  refine lv_sipush (v := 288) hx hb dX12_works_175 (by decide) (ti_c 288 (by decide) fun z28 hz28 => ?_)
                  refine b_ge (tgt := 218) hx hb dX12_works_178 (by decide) (fun c178 => ?_) (fun c178 => ?_)
                  · refine lv_goto (tgt := 166) hx hb dX12_works_218 (by decide) ?_
                    exact ih166 ls H locs ig26 lg27 v25 (lv_sub hl [1, 2] rfl) hw hI hF (by omega) (g174_3) (fun q9 => by have q8 := g174_5 q9; rw [show v24.toInt.toNat = 288 by omega] at q8; exact q8) (by omega)
                  · refine lv_aload_n hx hb dX12_works_181 rfl (lv_at hl 2 rfl) ?_
                    refine r_get C hw (hsh 49 _ rfl) fl_X12_124 (oV_r rfl (hrm (49, 30, 73) (by decide))) dX12_works_182 ?_
                    refine lv_iload_n hx hb dX12_works_185 rfl (lv_at hl 0 rfl) ?_
                    refine r_zald C hw (hsh 73 _ rfl) (by omega) (by omega) dX12_works_186 (ti_c (ig26 (B + 73) v24.toInt.toNat).toInt rfl fun z29 hz29 => ?_)
                    refine z_ne (tgt := 212) hx hb dX12_works_187 (by decide) (fun c187 => ?_) (fun c187 => ?_)
                    · refine tc_inc hx hb dX12_works_212 hl (k := 0) rfl (by decide) (by decide) (fun z31 hz31 ls hl => ?_)
                      first | replace hz31 := hz31 (by omega) | clear hz31
                      have hl : lv_has ls 3 [(2, .int z31), (1, .int v25), (0, .ref (B + 49))] := hl
                      refine lv_goto (tgt := 174) hx hb dX12_works_215 (by decide) ?_
                      exact ih174 ls H locs ig26 lg27 z31 v25 (lv_sub hl [0, 1, 2] rfl) hw hI hF (by omega) (by omega) (by omega) (vda) (by omega) (fun q9 => by rw [show z31.toInt.toNat = v24.toInt.toNat + 1 by omega]; exact (g174_5 q9).s (Or.inl (by omega))) (by omega)
                    · refine lv_aload_n hx hb dX12_works_190 rfl (lv_at hl 2 rfl) ?_
                      refine lv_iload_n hx hb dX12_works_191 rfl (lv_at hl 0 rfl) ?_
                      refine r_callV (As := [.int v24]) (rest := []) C hw (t_X12_isReadyE l B D cA kd ig26 rg lg27 _ v24 (by omega) σ vda.1.1 hI) sv_X12_232 (hsh 49 _ rfl) rfl hl.1 rfl (Nat.le_of_ble_eq_true rfl) ⟨Nat.le_of_ble_eq_true rfl, Nat.le_of_ble_eq_true rfl⟩ ⟨Nat.le_of_ble_eq_true rfl, Nat.le_of_ble_eq_true rfl⟩ dX12_works_192 (fun r36 kd32 ig33 rg34 lg35 H locs hw hH hp37 => ?_)
                      obtain ⟨rfl, rfl, rfl, rfl, hzhp37, hrhp37⟩ := hp37
                      obtain ⟨z38, rfl, hz38⟩ := hrhp37
                      have ry9 := hz38
                      refine z_eq (tgt := 212) hx hb dX12_works_195 (by decide) (fun c195 => ?_) (fun c195 => ?_)
                      · refine tc_inc hx hb dX12_works_212 hl (k := 0) rfl (by decide) (by decide) (fun z39 hz39 ls hl => ?_)
                        first | replace hz39 := hz39 (by omega) | clear hz39
                        have hl : lv_has ls 3 [(2, .int z39), (1, .int v25), (0, .ref (B + 49))] := hl
                        refine lv_goto (tgt := 174) hx hb dX12_works_215 (by decide) ?_
                        exact ih174 ls H locs ig26 lg27 z39 v25 (lv_sub hl [0, 1, 2] rfl) hw hI hF (by omega) (by omega) (by omega) (vda) (by omega) (fun q9 => by rw [show z39.toInt.toNat = v24.toInt.toNat + 1 by omega]; exact (g174_5 q9).s (Or.inr (by rcases ry9 with ⟨q8, -⟩ | ⟨-, q8⟩; (exact absurd q8 (by omega)); exact q8))) (by omega)
                      · have ra9 : RyA B σ ig26 v24.toInt.toNat 288 := (by rcases ry9 with ⟨-, q8⟩ | ⟨q8, -⟩; exact q8; exact absurd q8 (by omega))
                        have hkw := vda.2.1 v24.toInt.toNat (by omega) (by omega)
                        refine lv_aload_n hx hb dX12_works_198 rfl (lv_at hl 2 rfl) ?_
                        refine lv_iload_n hx hb dX12_works_199 rfl (lv_at hl 0 rfl) ?_
                        refine r_callV (As := [.int v24]) (rest := []) C hw (t_X12_workV l B D cA kd ig26 rg lg27 _ v24 (by omega) (by rw [Ft.i hF 59 _ (by decide)]; exact (hM _ (by omega)).1.1.trans hkw.1) σ ((hM _ (by omega)).ft hF (by decide)) hkw.1 (hf _ (by omega) hkw.1) vda.1.2 hI) sv_X12_235 (hsh 49 _ rfl) rfl hl.1 rfl (Nat.le_of_ble_eq_true rfl) ⟨Nat.le_of_ble_eq_true rfl, Nat.le_of_ble_eq_true rfl⟩ ⟨Nat.le_of_ble_eq_true rfl, Nat.le_of_ble_eq_true rfl⟩ dX12_works_200 (fun r44 kd40 ig41 rg42 lg43 H locs hw hH hp45 => ?_)
                        obtain ⟨rfl, rfl, hI, hchp45, hrhp45⟩ := hp45
                        have hF : Ft B [49, 64, 65, 66, 67, 68, 69, 70, 71, 72, 73, 74] ig lg ig41 lg43 := Ft.tr hF hchp45 (by decide) (by decide)
                        obtain ⟨rfl, hvhp45⟩ := hrhp45
                        have e73 : ∀ k, ig41 (B + 73) k = ig26 (B + 73) k := fun k => hchp45.i 73 k (by decide)
                        have u73 := ucnt_same 288 (fun k _ => e73 k)
                        have z73 := e73 v24.toInt.toNat
                        have zz73 : (ig41 (B + 73) v24.toInt.toNat).toInt = 0 := by rw [z73]; omega
                        have vda : VDM B σ ig26 lg43 := vda.l (ig' := ig26) (lg' := lg43) (T := []) (Or.inr (fun k => hchp45.l 64 k (by decide))) (by decide)
                        have wk9 := hvhp45
                        refine lv_aload_n hx hb dX12_works_203 rfl (lv_at hl 2 rfl) ?_
                        refine r_get C hw (hsh 49 _ rfl) fl_X12_124 (oV_r rfl (hrm (49, 30, 73) (by decide))) dX12_works_204 ?_
                        refine lv_iload_n hx hb dX12_works_207 rfl (lv_at hl 0 rfl) ?_
                        refine lv_iconst (v := 1) hx hb dX12_works_208 (by decide) (ti_c 1 (by decide) fun z46 hz46 => ?_)
                        refine r_zast C hw (hsh 73 _ rfl) (by omega) (by omega) (nar_b (by omega)) dX12_works_209 (fun H locs hH hw => ?_)
                        obtain ⟨ig47, eig47⟩ : ∃ f, f = up2 ig41 (B + 73) v24.toInt.toNat z46 := ⟨_, rfl⟩
                        rw [← eig47] at hw
                        have hF : Ft B [49, 64, 65, 66, 67, 68, 69, 70, 71, 72, 73, 74] ig lg ig47 lg43 := by rw [eig47]; exact hF.pi (by decide)
                        have hI : IM τ φ υ B kd ig47 rg := by rw [eig47]; exact hI.pi (by decide) (show okR none _ from trivial)
                        have ucn := ucnt_set (f := ig41 (B + 73)) (g := ig47 (B + 73)) (p := v24.toInt.toNat) (by omega) (by rw [eig47, up2_eq]; omega) (fun k hk => by rw [eig47, up2_j hk]) 288 (by omega)
                        have vda : VDM B σ ig47 lg43 := by rw [eig47]; exact VDM.step vda hf (by omega) (by rw [← z73]; exact zz73) ra9 wk9 e73 (by omega)
                        refine lv_iconst (v := 1) hx hb dX12_works_210 (by decide) (ti_c 1 (by decide) fun z48 hz48 => ?_)
                        refine lv_istore_n (lv' := [(1, .int z48), (2, .int v24), (0, .ref (B + 49))]) hx hb dX12_works_211 rfl hl (by decide) rfl (fun ls hl => ?_)
                        refine tc_inc hx hb dX12_works_212 hl (k := 1) rfl (by decide) (by decide) (fun z49 hz49 ls hl => ?_)
                        first | replace hz49 := hz49 (by omega) | clear hz49
                        have hl : lv_has ls 3 [(2, .int z49), (1, .int z48), (0, .ref (B + 49))] := hl
                        refine lv_goto (tgt := 174) hx hb dX12_works_215 (by decide) ?_
                        exact ih174 ls H locs ig47 lg43 z49 z48 (lv_sub hl [0, 1, 2] rfl) hw hI hF (by omega) (by omega) (by omega) (vda) (by omega) (fun q9 => absurd q9 (by omega)) (by omega)
              exact L174 ((288 - z23.toInt) + 1).toNat ls H locs ig14 lg15 z23 z22 (lv_sub hl [0, 1, 2] rfl) hw hI hF (by omega) (by omega) (by omega) (vda) (by rw [eigo]; omega) (fun _ => by rw [show z23.toInt.toNat = 0 by omega]; exact fun p hp => absurd hp (Nat.not_lt_zero p)) (by omega)
        exact L166 ((2 * (ucnt (ig9 (B + 73)) 288 : Int) + z12.toInt) + 1).toNat ls H locs ig9 lg10 z12 (lv_sub hl [0, 1] rfl) hw hI hF (by omega) (InM.vd (by have q9 := g6_2; rw [show v8.toInt.toNat = 288 by omega] at q9; exact q9) hw0) (fun q9 => absurd q9 (by omega)) (by omega)
      · refine lv_aload_n hx hb dX12_works_13 rfl (lv_at hl 1 rfl) ?_
        refine r_get C hw (hsh 49 _ rfl) fl_X12_124 (oV_r rfl (hrm (49, 30, 73) (by decide))) dX12_works_14 ?_
        refine lv_iload_n hx hb dX12_works_17 rfl (lv_at hl 0 rfl) ?_
        refine lv_aload_n hx hb dX12_works_18 rfl (lv_at hl 1 rfl) ?_
        refine r_get C hw (hsh 49 _ rfl) fl_X12_80 (oV_r rfl (hrm (49, 15, 59) (by decide))) dX12_works_19 ?_
        refine lv_iload_n hx hb dX12_works_22 rfl (lv_at hl 0 rfl) ?_
        refine r_iald C hw (hsh 59 _ rfl) (by omega) (by omega) dX12_works_23 (ti_c (ig9 (B + 59) v8.toInt.toNat).toInt rfl fun z50 hz50 => ?_)
        rw [Ft.i hF 59 _ (by decide)] at hz50
        have kd9 : z50.toInt = kdO (σ v8.toInt.toNat) := by rw [hz50]; exact (hM _ (by omega)).1.1
        refine lv_iconst (v := 2) hx hb dX12_works_24 (by decide) (ti_c 2 (by decide) fun z52 hz52 => ?_)
        refine b_ne (tgt := 36) hx hb dX12_works_25 (by decide) (fun c25 => ?_) (fun c25 => ?_)
        · refine lv_iconst (v := 1) hx hb dX12_works_36 (by decide) (ti_c 1 (by decide) fun z53 hz53 => ?_)
          refine lv_goto (tgt := 41) hx hb dX12_works_37 (by decide) ?_
          refine r_zast C hw (hsh 73 _ rfl) (by omega) (by omega) (nar_b (by omega)) dX12_works_41 (fun H locs hH hw => ?_)
          obtain ⟨ig54, eig54⟩ : ∃ f, f = up2 ig9 (B + 73) v8.toInt.toNat z53 := ⟨_, rfl⟩
          rw [← eig54] at hw
          have hF : Ft B [49, 64, 65, 66, 67, 68, 69, 70, 71, 72, 73, 74] ig lg ig54 lg10 := by rw [eig54]; exact hF.pi (by decide)
          have hI : IM τ φ υ B kd ig54 rg := by rw [eig54]; exact hI.pi (by decide) (show okR none _ from trivial)
          have dn9 : dnM B σ v8.toInt.toNat ig54 := by rw [eig54]; exact dnM.m1 (by omega) (fun q => absurd q.1 (by omega))
          have inm : InM B σ v8.toInt.toNat ig54 lg10 := by rw [eig54]; exact inm.w (Or.inr (Nat.le_refl _))
          refine lv_aload_n hx hb dX12_works_42 rfl (lv_at hl 1 rfl) ?_
          refine r_get C hw (hsh 49 _ rfl) fl_X12_102 (oV_r rfl (hrm (49, 23, 66) (by decide))) dX12_works_43 ?_
          refine lv_iload_n hx hb dX12_works_46 rfl (lv_at hl 0 rfl) ?_
          refine lv_aload_n hx hb dX12_works_47 rfl (lv_at hl 1 rfl) ?_
          refine r_get C hw (hsh 49 _ rfl) fl_X12_80 (oV_r rfl (hrm (49, 15, 59) (by decide))) dX12_works_48 ?_
          refine lv_iload_n hx hb dX12_works_51 rfl (lv_at hl 0 rfl) ?_
          refine r_iald C hw (hsh 59 _ rfl) (by omega) (by omega) dX12_works_52 (ti_c (ig54 (B + 59) v8.toInt.toNat).toInt rfl fun z55 hz55 => ?_)
          rw [Ft.i hF 59 _ (by decide)] at hz55
          have kd8 : z55.toInt = kdO (σ v8.toInt.toNat) := by rw [hz55]; exact (hM _ (by omega)).1.1
          refine lv_iconst (v := 1) hx hb dX12_works_53 (by decide) (ti_c 1 (by decide) fun z57 hz57 => ?_)
          have J67 : ∀ (ls : Array Slot) (H : Heap) (locs : List Loc) (ig59 : sI) (lg60 : sG) (u58 : Int32), lv_has ls 3 [(1, .int v8), (0, .ref (B + 49))] → WD B D cA s.heap kd ig59 rg lg60 H locs → IM τ φ υ B kd ig59 rg → Ft B [49, 64, 65, 66, 67, 68, 69, 70, 71, 72, 73, 74] ig lg ig59 lg60 → (u58 = if kdO (σ v8.toInt.toNat) = 1 then Int32.ofInt (σ v8.toInt.toNat).1.2 else 0) → (dnM B σ v8.toInt.toNat ig59) → (InM B σ v8.toInt.toNat ig59 lg60) → W p l e (rL 31 0 0) s m args below meth c H locs 0 0 (MQ below (QcW B D cA (PM τ φ υ B [49, 64, 65, 66, 67, 68, 69, 70, 71, 72, 73, 74] kd ig rg lg (fun r ig' lg' => (r = none ∧ FVm B σ ig')))) args s 0 0 (fun q => B ≤ q)) (F0 m 67 ls [.int u58, .int v8, .ref (B + 66)]) := by
            intro ls H locs ig59 lg60 u58 hl hw hI hF g67_0 g67_1 g67_2
            have dn9 := g67_1
            have inm := g67_2
            refine r_iast C hw (hsh 66 _ rfl) (by omega) (by omega) dX12_works_67 (fun H locs hH hw => ?_)
            obtain ⟨ig61, eig61⟩ : ∃ f, f = up2 ig59 (B + 66) v8.toInt.toNat u58 := ⟨_, rfl⟩
            rw [← eig61] at hw
            have hF : Ft B [49, 64, 65, 66, 67, 68, 69, 70, 71, 72, 73, 74] ig lg ig61 lg60 := by rw [eig61]; exact hF.pi (by decide)
            have hI : IM τ φ υ B kd ig61 rg := by rw [eig61]; exact hI.pi (by decide) (show okR none _ from trivial)
            have dn9 : dnM B σ v8.toInt.toNat ig61 := by rw [eig61]; exact dn9.w (Or.inl (by decide))
            have wo9 : woM B σ v8.toInt.toNat ig61 := by rw [eig61]; exact woM.m g67_0
            have inm : InM B σ v8.toInt.toNat ig61 lg60 := by rw [eig61]; exact inm.w (Or.inr (Nat.le_refl _))
            refine lv_aload_n hx hb dX12_works_68 rfl (lv_at hl 1 rfl) ?_
            refine r_get C hw (hsh 49 _ rfl) fl_X12_105 (oV_r rfl (hrm (49, 24, 67) (by decide))) dX12_works_69 ?_
            refine lv_iload_n hx hb dX12_works_72 rfl (lv_at hl 0 rfl) ?_
            refine lv_aload_n hx hb dX12_works_73 rfl (lv_at hl 1 rfl) ?_
            refine r_get C hw (hsh 49 _ rfl) fl_X12_80 (oV_r rfl (hrm (49, 15, 59) (by decide))) dX12_works_74 ?_
            refine lv_iload_n hx hb dX12_works_77 rfl (lv_at hl 0 rfl) ?_
            refine r_iald C hw (hsh 59 _ rfl) (by omega) (by omega) dX12_works_78 (ti_c (ig61 (B + 59) v8.toInt.toNat).toInt rfl fun z62 hz62 => ?_)
            rw [Ft.i hF 59 _ (by decide)] at hz62
            have kd7 : z62.toInt = kdO (σ v8.toInt.toNat) := by rw [hz62]; exact (hM _ (by omega)).1.1
            refine lv_iconst (v := 2) hx hb dX12_works_79 (by decide) (ti_c 2 (by decide) fun z64 hz64 => ?_)
            have J96 : ∀ (ls : Array Slot) (H : Heap) (locs : List Loc) (ig66 : sI) (lg67 : sG) (u65 : Int32), lv_has ls 3 [(1, .int v8), (0, .ref (B + 49))] → WD B D cA s.heap kd ig66 rg lg67 H locs → IM τ φ υ B kd ig66 rg → Ft B [49, 64, 65, 66, 67, 68, 69, 70, 71, 72, 73, 74] ig lg ig66 lg67 → ((kdO (σ v8.toInt.toNat) = 2 ∧ Rg σ v8.toInt.toNat → u65 = 2) ∧ (¬ (kdO (σ v8.toInt.toNat) = 2 ∧ Rg σ v8.toInt.toNat) → u65 = 0)) → (dnM B σ v8.toInt.toNat ig66) → (woM B σ v8.toInt.toNat ig66) → (InM B σ v8.toInt.toNat ig66 lg67) → W p l e (rL 31 0 0) s m args below meth c H locs 0 0 (MQ below (QcW B D cA (PM τ φ υ B [49, 64, 65, 66, 67, 68, 69, 70, 71, 72, 73, 74] kd ig rg lg (fun r ig' lg' => (r = none ∧ FVm B σ ig')))) args s 0 0 (fun q => B ≤ q)) (F0 m 96 ls [.int u65, .int v8, .ref (B + 67)]) := by
              intro ls H locs ig66 lg67 u65 hl hw hI hF g96_0 g96_1 g96_2 g96_3
              have dn9 := g96_1
              have wo9 := g96_2
              have inm := g96_3
              refine r_iast C hw (hsh 67 _ rfl) (by omega) (by omega) dX12_works_96 (fun H locs hH hw => ?_)
              obtain ⟨ig68, eig68⟩ : ∃ f, f = up2 ig66 (B + 67) v8.toInt.toNat u65 := ⟨_, rfl⟩
              rw [← eig68] at hw
              have hF : Ft B [49, 64, 65, 66, 67, 68, 69, 70, 71, 72, 73, 74] ig lg ig68 lg67 := by rw [eig68]; exact hF.pi (by decide)
              have hI : IM τ φ υ B kd ig68 rg := by rw [eig68]; exact hI.pi (by decide) (show okR none _ from trivial)
              have dn9 : dnM B σ v8.toInt.toNat ig68 := by rw [eig68]; exact dn9.w (Or.inl (by decide))
              have wo9 : woM B σ v8.toInt.toNat ig68 := by rw [eig68]; exact wo9.w (Or.inl (by decide))
              have er9 : erM B σ v8.toInt.toNat ig68 := by rw [eig68]; exact erM.m g96_0
              have inm : InM B σ v8.toInt.toNat ig68 lg67 := by rw [eig68]; exact inm.w (Or.inr (Nat.le_refl _))
              refine lv_aload_n hx hb dX12_works_97 rfl (lv_at hl 1 rfl) ?_
              refine r_get C hw (hsh 49 _ rfl) fl_X12_111 (oV_r rfl (hrm (49, 26, 69) (by decide))) dX12_works_98 ?_
              refine lv_iload_n hx hb dX12_works_101 rfl (lv_at hl 0 rfl) ?_
              refine lv_iconst (v := 0) hx hb dX12_works_102 (by decide) (ti_c 0 (by decide) fun z69 hz69 => ?_)
              refine r_zast C hw (hsh 69 _ rfl) (by omega) (by omega) (nar_b (by omega)) dX12_works_103 (fun H locs hH hw => ?_)
              obtain ⟨ig70, eig70⟩ : ∃ f, f = up2 ig68 (B + 69) v8.toInt.toNat z69 := ⟨_, rfl⟩
              rw [← eig70] at hw
              have hF : Ft B [49, 64, 65, 66, 67, 68, 69, 70, 71, 72, 73, 74] ig lg ig70 lg67 := by rw [eig70]; exact hF.pi (by decide)
              have hI : IM τ φ υ B kd ig70 rg := by rw [eig70]; exact hI.pi (by decide) (show okR none _ from trivial)
              have dn9 : dnM B σ v8.toInt.toNat ig70 := by rw [eig70]; exact dn9.w (Or.inl (by decide))
              have wo9 : woM B σ v8.toInt.toNat ig70 := by rw [eig70]; exact wo9.w (Or.inl (by decide))
              have er9 : erM B σ v8.toInt.toNat ig70 := by rw [eig70]; exact er9.w (Or.inl (by decide))
              have inm : InM B σ v8.toInt.toNat ig70 lg67 := by rw [eig70]; exact inm.w (Or.inl (by decide))
              refine lv_aload_n hx hb dX12_works_104 rfl (lv_at hl 1 rfl) ?_
              refine r_get C hw (hsh 49 _ rfl) fl_X12_114 (oV_r rfl (hrm (49, 27, 70) (by decide))) dX12_works_105 ?_
              refine lv_iload_n hx hb dX12_works_108 rfl (lv_at hl 0 rfl) ?_
              refine lv_iconst (v := 0) hx hb dX12_works_109 (by decide) (ti_c 0 (by decide) fun z71 hz71 => ?_)
              refine r_zast C hw (hsh 70 _ rfl) (by omega) (by omega) (nar_b (by omega)) dX12_works_110 (fun H locs hH hw => ?_)
              obtain ⟨ig72, eig72⟩ : ∃ f, f = up2 ig70 (B + 70) v8.toInt.toNat z71 := ⟨_, rfl⟩
              rw [← eig72] at hw
              have hF : Ft B [49, 64, 65, 66, 67, 68, 69, 70, 71, 72, 73, 74] ig lg ig72 lg67 := by rw [eig72]; exact hF.pi (by decide)
              have hI : IM τ φ υ B kd ig72 rg := by rw [eig72]; exact hI.pi (by decide) (show okR none _ from trivial)
              have dn9 : dnM B σ v8.toInt.toNat ig72 := by rw [eig72]; exact dn9.w (Or.inl (by decide))
              have wo9 : woM B σ v8.toInt.toNat ig72 := by rw [eig72]; exact wo9.w (Or.inl (by decide))
              have er9 : erM B σ v8.toInt.toNat ig72 := by rw [eig72]; exact er9.w (Or.inl (by decide))
              have inm : InM B σ v8.toInt.toNat ig72 lg67 := by rw [eig72]; exact inm.w (Or.inl (by decide))
              refine lv_iconst (v := 0) hx hb dX12_works_111 (by decide) (ti_c 0 (by decide) fun z73 hz73 => ?_)
              refine lv_istore_n (lv' := [(2, .int z73), (1, .int v8), (0, .ref (B + 49))]) hx hb dX12_works_112 rfl hl (by decide) rfl (fun ls hl => ?_)
              have L113 : ∀ (n : Nat) (ls : Array Slot) (H : Heap) (locs : List Loc) (ig75 : sI) (lg76 : sG) (v74 : Int32), lv_has ls 3 [(2, .int v74), (1, .int v8), (0, .ref (B + 49))] → WD B D cA s.heap kd ig75 rg lg76 H locs → IM τ φ υ B kd ig75 rg → Ft B [49, 64, 65, 66, 67, 68, 69, 70, 71, 72, 73, 74] ig lg ig75 lg76 → (0 ≤ v74.toInt) → (v74.toInt ≤ 3) → (dnM B σ v8.toInt.toNat ig75) → (woM B σ v8.toInt.toNat ig75) → (erM B σ v8.toInt.toNat ig75) → (InM B σ v8.toInt.toNat ig75 lg76) → 3 - v74.toInt < (n : Int) → W p l e (rL 31 0 0) s m args below meth c H locs 0 0 (MQ below (QcW B D cA (PM τ φ υ B [49, 64, 65, 66, 67, 68, 69, 70, 71, 72, 73, 74] kd ig rg lg (fun r ig' lg' => (r = none ∧ FVm B σ ig')))) args s 0 0 (fun q => B ≤ q)) (F0 m 113 ls []) := by
                intro n113
                induction n113 with
                | zero => intro ls H locs ig75 lg76 v74 hl hw hI hF g113_0 g113_1 g113_2 g113_3 g113_4 g113_5 hmu; exact absurd hmu (by omega)
                | succ n113 ih113 =>
                  intro ls H locs ig75 lg76 v74 hl hw hI hF g113_0 g113_1 g113_2 g113_3 g113_4 g113_5 hmu
                  have dn9 := g113_2
                  have wo9 := g113_3
                  have er9 := g113_4
                  have inm := g113_5
                  refine lv_iload_n hx hb dX12_works_113 rfl (lv_at hl 0 rfl) ?_
                  refine lv_iconst (v := 3) hx hb dX12_works_114 (by decide) (ti_c 3 (by decide) fun z77 hz77 => ?_)
                  refine b_ge (tgt := 158) hx hb dX12_works_115 (by decide) (fun c115 => ?_) (fun c115 => ?_)
                  · refine tc_inc hx hb dX12_works_158 hl (k := 1) rfl (by decide) (by decide) (fun z78 hz78 ls hl => ?_)
                    first | replace hz78 := hz78 (by omega) | clear hz78
                    have hl : lv_has ls 3 [(1, .int z78), (2, .int v74), (0, .ref (B + 49))] := hl
                    refine lv_goto (tgt := 6) hx hb dX12_works_161 (by decide) ?_
                    exact ih6 ls H locs ig75 lg76 z78 (lv_sub hl [0, 2] rfl) hw hI hF (by omega) (by omega) (by rw [show z78.toInt.toNat = v8.toInt.toNat + 1 by omega]; exact inm.s dn9 wo9 er9) (by omega)
                  · refine lv_aload_n hx hb dX12_works_118 rfl (lv_at hl 2 rfl) ?_
                    refine r_get C hw (hsh 49 _ rfl) fl_X12_108 (oV_r rfl (hrm (49, 25, 68) (by decide))) dX12_works_119 ?_
                    refine lv_iconst (v := 3) hx hb dX12_works_122 (by decide) (ti_c 3 (by decide) fun z79 hz79 => ?_)
                    refine lv_iload_n hx hb dX12_works_123 rfl (lv_at hl 1 rfl) ?_
                    refine lv_imul hx hb dX12_works_124 (tc_mulL 3 hz79 fun z80 hz80 => ?_)
                    first | replace hz80 := hz80 (by omega) | clear hz80
                    refine lv_iload_n hx hb dX12_works_125 rfl (lv_at hl 0 rfl) ?_
                    refine lv_iadd hx hb dX12_works_126 (tc_add fun z81 hz81 => ?_)
                    first | replace hz81 := hz81 (by omega) | clear hz81
                    refine lv_aload_n hx hb dX12_works_127 rfl (lv_at hl 2 rfl) ?_
                    refine r_get C hw (hsh 49 _ rfl) fl_X12_80 (oV_r rfl (hrm (49, 15, 59) (by decide))) dX12_works_128 ?_
                    refine lv_iload_n hx hb dX12_works_131 rfl (lv_at hl 1 rfl) ?_
                    refine r_iald C hw (hsh 59 _ rfl) (by omega) (by omega) dX12_works_132 (ti_c (ig75 (B + 59) v8.toInt.toNat).toInt rfl fun z82 hz82 => ?_)
                    rw [Ft.i hF 59 _ (by decide)] at hz82
                    refine lv_iconst (v := 1) hx hb dX12_works_133 (by decide) (ti_c 1 (by decide) fun z84 hz84 => ?_)
                    refine b_ne (tgt := 150) hx hb dX12_works_134 (by decide) (fun c134 => ?_) (fun c134 => ?_)
                    · refine lv_iconst (v := 0) hx hb dX12_works_150 (by decide) (ti_c 0 (by decide) fun z85 hz85 => ?_)
                      refine r_iast C hw (hsh 68 _ rfl) (by omega) (by omega) dX12_works_151 (fun H locs hH hw => ?_)
                      obtain ⟨ig86, eig86⟩ : ∃ f, f = up2 ig75 (B + 68) z81.toInt.toNat z85 := ⟨_, rfl⟩
                      rw [← eig86] at hw
                      have hF : Ft B [49, 64, 65, 66, 67, 68, 69, 70, 71, 72, 73, 74] ig lg ig86 lg76 := by rw [eig86]; exact hF.pi (by decide)
                      have hI : IM τ φ υ B kd ig86 rg := by rw [eig86]; exact hI.pi (by decide) (show okR none _ from trivial)
                      have dn9 : dnM B σ v8.toInt.toNat ig86 := by rw [eig86]; exact dn9.w (Or.inl (by decide))
                      have wo9 : woM B σ v8.toInt.toNat ig86 := by rw [eig86]; exact wo9.w (Or.inl (by decide))
                      have er9 : erM B σ v8.toInt.toNat ig86 := by rw [eig86]; exact er9.w (Or.inl (by decide))
                      have inm : InM B σ v8.toInt.toNat ig86 lg76 := by rw [eig86]; exact inm.w (Or.inl (by decide))
                      refine tc_inc hx hb dX12_works_152 hl (k := 0) rfl (by decide) (by decide) (fun z87 hz87 ls hl => ?_)
                      first | replace hz87 := hz87 (by omega) | clear hz87
                      have hl : lv_has ls 3 [(2, .int z87), (1, .int v8), (0, .ref (B + 49))] := hl
                      refine lv_goto (tgt := 113) hx hb dX12_works_155 (by decide) ?_
                      exact ih113 ls H locs ig86 lg76 z87 (lv_sub hl [0, 1, 2] rfl) hw hI hF (by omega) (by omega) (dn9) (wo9) (er9) (inm) (by omega)
                    · refine lv_aload_n hx hb dX12_works_137 rfl (lv_at hl 2 rfl) ?_
                      refine r_get C hw (hsh 49 _ rfl) fl_X12_86 (oV_r rfl (hrm (49, 17, 61) (by decide))) dX12_works_138 ?_
                      refine lv_iconst (v := 3) hx hb dX12_works_141 (by decide) (ti_c 3 (by decide) fun z88 hz88 => ?_)
                      refine lv_iload_n hx hb dX12_works_142 rfl (lv_at hl 1 rfl) ?_
                      refine lv_imul hx hb dX12_works_143 (tc_mulL 3 hz88 fun z89 hz89 => ?_)
                      first | replace hz89 := hz89 (by omega) | clear hz89
                      refine lv_iload_n hx hb dX12_works_144 rfl (lv_at hl 0 rfl) ?_
                      refine lv_iadd hx hb dX12_works_145 (tc_add fun z90 hz90 => ?_)
                      first | replace hz90 := hz90 (by omega) | clear hz90
                      refine r_iald C hw (hsh 61 _ rfl) (by omega) (by omega) dX12_works_146 (ti_c (ig75 (B + 61) z90.toInt.toNat).toInt rfl fun z91 hz91 => ?_)
                      rw [Ft.i hF 61 _ (by decide)] at hz91
                      refine lv_goto (tgt := 151) hx hb dX12_works_147 (by decide) ?_
                      refine r_iast C hw (hsh 68 _ rfl) (by omega) (by omega) dX12_works_151 (fun H locs hH hw => ?_)
                      obtain ⟨ig93, eig93⟩ : ∃ f, f = up2 ig75 (B + 68) z81.toInt.toNat z91 := ⟨_, rfl⟩
                      rw [← eig93] at hw
                      have hF : Ft B [49, 64, 65, 66, 67, 68, 69, 70, 71, 72, 73, 74] ig lg ig93 lg76 := by rw [eig93]; exact hF.pi (by decide)
                      have hI : IM τ φ υ B kd ig93 rg := by rw [eig93]; exact hI.pi (by decide) (show okR none _ from trivial)
                      have dn9 : dnM B σ v8.toInt.toNat ig93 := by rw [eig93]; exact dn9.w (Or.inl (by decide))
                      have wo9 : woM B σ v8.toInt.toNat ig93 := by rw [eig93]; exact wo9.w (Or.inl (by decide))
                      have er9 : erM B σ v8.toInt.toNat ig93 := by rw [eig93]; exact er9.w (Or.inl (by decide))
                      have inm : InM B σ v8.toInt.toNat ig93 lg76 := by rw [eig93]; exact inm.w (Or.inl (by decide))
                      refine tc_inc hx hb dX12_works_152 hl (k := 0) rfl (by decide) (by decide) (fun z94 hz94 ls hl => ?_)
                      first | replace hz94 := hz94 (by omega) | clear hz94
                      have hl : lv_has ls 3 [(2, .int z94), (1, .int v8), (0, .ref (B + 49))] := hl
                      refine lv_goto (tgt := 113) hx hb dX12_works_155 (by decide) ?_
                      exact ih113 ls H locs ig93 lg76 z94 (lv_sub hl [0, 1, 2] rfl) hw hI hF (by omega) (by omega) (dn9) (wo9) (er9) (inm) (by omega)
              exact L113 ((3 - z73.toInt) + 1).toNat ls H locs ig72 lg67 z73 (lv_sub hl [0, 1, 2] rfl) hw hI hF (by omega) (by omega) (dn9) (wo9) (er9) (inm) (by omega)
            refine b_ne (tgt := 95) hx hb dX12_works_80 (by decide) (fun c80 => ?_) (fun c80 => ?_)
            · refine lv_iconst (v := 0) hx hb dX12_works_95 (by decide) (ti_c 0 (by decide) fun z95 hz95 => ?_)
              exact J96 ls H locs ig61 lg60 z95 (lv_sub hl [0, 1] rfl) hw hI hF (⟨fun q => absurd q.1 (by omega), fun _ => i32_z (by omega)⟩) (dn9) (wo9) (inm)
            · refine lv_aload_n hx hb dX12_works_83 rfl (lv_at hl 1 rfl) ?_
              refine lv_iload_n hx hb dX12_works_84 rfl (lv_at hl 0 rfl) ?_
              refine r_callV (As := [.int v8]) (rest := [.int v8, .ref (B + 67)]) C hw (t_X12_isRingE l B D cA kd ig61 rg lg60 _ v8 (by omega) σ inm.1.2 hI) sv_X12_229 (hsh 49 _ rfl) rfl hl.1 rfl (Nat.le_of_ble_eq_true rfl) ⟨Nat.le_of_ble_eq_true rfl, Nat.le_of_ble_eq_true rfl⟩ ⟨Nat.le_of_ble_eq_true rfl, Nat.le_of_ble_eq_true rfl⟩ dX12_works_85 (fun r100 kd96 ig97 rg98 lg99 H locs hw hH hp101 => ?_)
              obtain ⟨rfl, rfl, rfl, rfl, hzhp101, hrhp101⟩ := hp101
              obtain ⟨z102, rfl, hz102⟩ := hrhp101
              have rg8 := hz102
              refine z_eq (tgt := 95) hx hb dX12_works_88 (by decide) (fun c88 => ?_) (fun c88 => ?_)
              · refine lv_iconst (v := 0) hx hb dX12_works_95 (by decide) (ti_c 0 (by decide) fun z103 hz103 => ?_)
                exact J96 ls H locs ig61 lg60 z103 (lv_sub hl [0, 1] rfl) hw hI hF (⟨fun q => absurd q.2 (by0 rg8 (by omega)), fun _ => i32_z (by omega)⟩) (dn9) (wo9) (inm)
              · refine lv_iconst (v := 2) hx hb dX12_works_91 (by decide) (ti_c 2 (by decide) fun z104 hz104 => ?_)
                refine lv_goto (tgt := 96) hx hb dX12_works_92 (by decide) ?_
                exact J96 ls H locs ig61 lg60 z104 (lv_sub hl [0, 1] rfl) hw hI hF (⟨fun _ => i32_2 (by omega), fun q => absurd ⟨by omega, by1 rg8 (by omega)⟩ q⟩) (dn9) (wo9) (inm)
          refine b_ne (tgt := 66) hx hb dX12_works_54 (by decide) (fun c54 => ?_) (fun c54 => ?_)
          · refine lv_iconst (v := 0) hx hb dX12_works_66 (by decide) (ti_c 0 (by decide) fun z105 hz105 => ?_)
            exact J67 ls H locs ig54 lg10 z105 (lv_sub hl [0, 1] rfl) hw hI hF ((by rw [if_neg (by omega)]; exact i32_z (by omega))) (dn9) (inm)
          · refine lv_aload_n hx hb dX12_works_57 rfl (lv_at hl 1 rfl) ?_
            refine r_get C hw (hsh 49 _ rfl) fl_X12_83 (oV_r rfl (hrm (49, 16, 60) (by decide))) dX12_works_58 ?_
            refine lv_iload_n hx hb dX12_works_61 rfl (lv_at hl 0 rfl) ?_
            refine r_iald C hw (hsh 60 _ rfl) (by omega) (by omega) dX12_works_62 (ti_c (ig54 (B + 60) v8.toInt.toNat).toInt rfl fun z106 hz106 => ?_)
            rw [Ft.i hF 60 _ (by decide)] at hz106
            refine lv_goto (tgt := 67) hx hb dX12_works_63 (by decide) ?_
            exact J67 ls H locs ig54 lg10 z106 (lv_sub hl [0, 1] rfl) hw hI hF ((by rw [if_pos (by omega)]; exact i32_of (by rw [hz106]; exact (hM _ (by omega)).1.2))) (dn9) (inm)
        · refine lv_aload_n hx hb dX12_works_28 rfl (lv_at hl 1 rfl) ?_
          refine lv_iload_n hx hb dX12_works_29 rfl (lv_at hl 0 rfl) ?_
          refine r_callV (As := [.int v8]) (rest := [.int v8, .ref (B + 73)]) C hw (t_X12_isRingE l B D cA kd ig9 rg lg10 _ v8 (by omega) σ inm.1.2 hI) sv_X12_229 (hsh 49 _ rfl) rfl hl.1 rfl (Nat.le_of_ble_eq_true rfl) ⟨Nat.le_of_ble_eq_true rfl, Nat.le_of_ble_eq_true rfl⟩ ⟨Nat.le_of_ble_eq_true rfl, Nat.le_of_ble_eq_true rfl⟩ dX12_works_30 (fun r112 kd108 ig109 rg110 lg111 H locs hw hH hp113 => ?_)
          obtain ⟨rfl, rfl, rfl, rfl, hzhp113, hrhp113⟩ := hp113
          obtain ⟨z114, rfl, hz114⟩ := hrhp113
          have rg9 := hz114
          refine z_eq (tgt := 40) hx hb dX12_works_33 (by decide) (fun c33 => ?_) (fun c33 => ?_)
          · refine lv_iconst (v := 0) hx hb dX12_works_40 (by decide) (ti_c 0 (by decide) fun z115 hz115 => ?_)
            refine r_zast C hw (hsh 73 _ rfl) (by omega) (by omega) (nar_b (by omega)) dX12_works_41 (fun H locs hH hw => ?_)
            obtain ⟨ig116, eig116⟩ : ∃ f, f = up2 ig9 (B + 73) v8.toInt.toNat z115 := ⟨_, rfl⟩
            rw [← eig116] at hw
            have hF : Ft B [49, 64, 65, 66, 67, 68, 69, 70, 71, 72, 73, 74] ig lg ig116 lg10 := by rw [eig116]; exact hF.pi (by decide)
            have hI : IM τ φ υ B kd ig116 rg := by rw [eig116]; exact hI.pi (by decide) (show okR none _ from trivial)
            have dn9 : dnM B σ v8.toInt.toNat ig116 := by rw [eig116]; exact dnM.m0 (by omega) ⟨by omega, by0 rg9 (by omega)⟩
            have inm : InM B σ v8.toInt.toNat ig116 lg10 := by rw [eig116]; exact inm.w (Or.inr (Nat.le_refl _))
            refine lv_aload_n hx hb dX12_works_42 rfl (lv_at hl 1 rfl) ?_
            refine r_get C hw (hsh 49 _ rfl) fl_X12_102 (oV_r rfl (hrm (49, 23, 66) (by decide))) dX12_works_43 ?_
            refine lv_iload_n hx hb dX12_works_46 rfl (lv_at hl 0 rfl) ?_
            refine lv_aload_n hx hb dX12_works_47 rfl (lv_at hl 1 rfl) ?_
            refine r_get C hw (hsh 49 _ rfl) fl_X12_80 (oV_r rfl (hrm (49, 15, 59) (by decide))) dX12_works_48 ?_
            refine lv_iload_n hx hb dX12_works_51 rfl (lv_at hl 0 rfl) ?_
            refine r_iald C hw (hsh 59 _ rfl) (by omega) (by omega) dX12_works_52 (ti_c (ig116 (B + 59) v8.toInt.toNat).toInt rfl fun z117 hz117 => ?_)
            rw [Ft.i hF 59 _ (by decide)] at hz117
            have kd8 : z117.toInt = kdO (σ v8.toInt.toNat) := by rw [hz117]; exact (hM _ (by omega)).1.1
            refine lv_iconst (v := 1) hx hb dX12_works_53 (by decide) (ti_c 1 (by decide) fun z119 hz119 => ?_)
            have J67 : ∀ (ls : Array Slot) (H : Heap) (locs : List Loc) (ig121 : sI) (lg122 : sG) (u120 : Int32), lv_has ls 3 [(1, .int v8), (0, .ref (B + 49))] → WD B D cA s.heap kd ig121 rg lg122 H locs → IM τ φ υ B kd ig121 rg → Ft B [49, 64, 65, 66, 67, 68, 69, 70, 71, 72, 73, 74] ig lg ig121 lg122 → (u120 = if kdO (σ v8.toInt.toNat) = 1 then Int32.ofInt (σ v8.toInt.toNat).1.2 else 0) → (dnM B σ v8.toInt.toNat ig121) → (InM B σ v8.toInt.toNat ig121 lg122) → W p l e (rL 31 0 0) s m args below meth c H locs 0 0 (MQ below (QcW B D cA (PM τ φ υ B [49, 64, 65, 66, 67, 68, 69, 70, 71, 72, 73, 74] kd ig rg lg (fun r ig' lg' => (r = none ∧ FVm B σ ig')))) args s 0 0 (fun q => B ≤ q)) (F0 m 67 ls [.int u120, .int v8, .ref (B + 66)]) := by
              intro ls H locs ig121 lg122 u120 hl hw hI hF g67_0 g67_1 g67_2
              have dn9 := g67_1
              have inm := g67_2
              refine r_iast C hw (hsh 66 _ rfl) (by omega) (by omega) dX12_works_67 (fun H locs hH hw => ?_)
              obtain ⟨ig123, eig123⟩ : ∃ f, f = up2 ig121 (B + 66) v8.toInt.toNat u120 := ⟨_, rfl⟩
              rw [← eig123] at hw
              have hF : Ft B [49, 64, 65, 66, 67, 68, 69, 70, 71, 72, 73, 74] ig lg ig123 lg122 := by rw [eig123]; exact hF.pi (by decide)
              have hI : IM τ φ υ B kd ig123 rg := by rw [eig123]; exact hI.pi (by decide) (show okR none _ from trivial)
              have dn9 : dnM B σ v8.toInt.toNat ig123 := by rw [eig123]; exact dn9.w (Or.inl (by decide))
              have wo9 : woM B σ v8.toInt.toNat ig123 := by rw [eig123]; exact woM.m g67_0
              have inm : InM B σ v8.toInt.toNat ig123 lg122 := by rw [eig123]; exact inm.w (Or.inr (Nat.le_refl _))
              refine lv_aload_n hx hb dX12_works_68 rfl (lv_at hl 1 rfl) ?_
              refine r_get C hw (hsh 49 _ rfl) fl_X12_105 (oV_r rfl (hrm (49, 24, 67) (by decide))) dX12_works_69 ?_
              refine lv_iload_n hx hb dX12_works_72 rfl (lv_at hl 0 rfl) ?_
              refine lv_aload_n hx hb dX12_works_73 rfl (lv_at hl 1 rfl) ?_
              refine r_get C hw (hsh 49 _ rfl) fl_X12_80 (oV_r rfl (hrm (49, 15, 59) (by decide))) dX12_works_74 ?_
              refine lv_iload_n hx hb dX12_works_77 rfl (lv_at hl 0 rfl) ?_
              refine r_iald C hw (hsh 59 _ rfl) (by omega) (by omega) dX12_works_78 (ti_c (ig123 (B + 59) v8.toInt.toNat).toInt rfl fun z124 hz124 => ?_)
              rw [Ft.i hF 59 _ (by decide)] at hz124
              have kd7 : z124.toInt = kdO (σ v8.toInt.toNat) := by rw [hz124]; exact (hM _ (by omega)).1.1
              refine lv_iconst (v := 2) hx hb dX12_works_79 (by decide) (ti_c 2 (by decide) fun z126 hz126 => ?_)
              have J96 : ∀ (ls : Array Slot) (H : Heap) (locs : List Loc) (ig128 : sI) (lg129 : sG) (u127 : Int32), lv_has ls 3 [(1, .int v8), (0, .ref (B + 49))] → WD B D cA s.heap kd ig128 rg lg129 H locs → IM τ φ υ B kd ig128 rg → Ft B [49, 64, 65, 66, 67, 68, 69, 70, 71, 72, 73, 74] ig lg ig128 lg129 → ((kdO (σ v8.toInt.toNat) = 2 ∧ Rg σ v8.toInt.toNat → u127 = 2) ∧ (¬ (kdO (σ v8.toInt.toNat) = 2 ∧ Rg σ v8.toInt.toNat) → u127 = 0)) → (dnM B σ v8.toInt.toNat ig128) → (woM B σ v8.toInt.toNat ig128) → (InM B σ v8.toInt.toNat ig128 lg129) → W p l e (rL 31 0 0) s m args below meth c H locs 0 0 (MQ below (QcW B D cA (PM τ φ υ B [49, 64, 65, 66, 67, 68, 69, 70, 71, 72, 73, 74] kd ig rg lg (fun r ig' lg' => (r = none ∧ FVm B σ ig')))) args s 0 0 (fun q => B ≤ q)) (F0 m 96 ls [.int u127, .int v8, .ref (B + 67)]) := by
                intro ls H locs ig128 lg129 u127 hl hw hI hF g96_0 g96_1 g96_2 g96_3
                have dn9 := g96_1
                have wo9 := g96_2
                have inm := g96_3
                refine r_iast C hw (hsh 67 _ rfl) (by omega) (by omega) dX12_works_96 (fun H locs hH hw => ?_)
                obtain ⟨ig130, eig130⟩ : ∃ f, f = up2 ig128 (B + 67) v8.toInt.toNat u127 := ⟨_, rfl⟩
                rw [← eig130] at hw
                have hF : Ft B [49, 64, 65, 66, 67, 68, 69, 70, 71, 72, 73, 74] ig lg ig130 lg129 := by rw [eig130]; exact hF.pi (by decide)
                have hI : IM τ φ υ B kd ig130 rg := by rw [eig130]; exact hI.pi (by decide) (show okR none _ from trivial)
                have dn9 : dnM B σ v8.toInt.toNat ig130 := by rw [eig130]; exact dn9.w (Or.inl (by decide))
                have wo9 : woM B σ v8.toInt.toNat ig130 := by rw [eig130]; exact wo9.w (Or.inl (by decide))
                have er9 : erM B σ v8.toInt.toNat ig130 := by rw [eig130]; exact erM.m g96_0
                have inm : InM B σ v8.toInt.toNat ig130 lg129 := by rw [eig130]; exact inm.w (Or.inr (Nat.le_refl _))
                refine lv_aload_n hx hb dX12_works_97 rfl (lv_at hl 1 rfl) ?_
                refine r_get C hw (hsh 49 _ rfl) fl_X12_111 (oV_r rfl (hrm (49, 26, 69) (by decide))) dX12_works_98 ?_
                refine lv_iload_n hx hb dX12_works_101 rfl (lv_at hl 0 rfl) ?_
                refine lv_iconst (v := 0) hx hb dX12_works_102 (by decide) (ti_c 0 (by decide) fun z131 hz131 => ?_)
                refine r_zast C hw (hsh 69 _ rfl) (by omega) (by omega) (nar_b (by omega)) dX12_works_103 (fun H locs hH hw => ?_)
                obtain ⟨ig132, eig132⟩ : ∃ f, f = up2 ig130 (B + 69) v8.toInt.toNat z131 := ⟨_, rfl⟩
                rw [← eig132] at hw
                have hF : Ft B [49, 64, 65, 66, 67, 68, 69, 70, 71, 72, 73, 74] ig lg ig132 lg129 := by rw [eig132]; exact hF.pi (by decide)
                have hI : IM τ φ υ B kd ig132 rg := by rw [eig132]; exact hI.pi (by decide) (show okR none _ from trivial)
                have dn9 : dnM B σ v8.toInt.toNat ig132 := by rw [eig132]; exact dn9.w (Or.inl (by decide))
                have wo9 : woM B σ v8.toInt.toNat ig132 := by rw [eig132]; exact wo9.w (Or.inl (by decide))
                have er9 : erM B σ v8.toInt.toNat ig132 := by rw [eig132]; exact er9.w (Or.inl (by decide))
                have inm : InM B σ v8.toInt.toNat ig132 lg129 := by rw [eig132]; exact inm.w (Or.inl (by decide))
                refine lv_aload_n hx hb dX12_works_104 rfl (lv_at hl 1 rfl) ?_
                refine r_get C hw (hsh 49 _ rfl) fl_X12_114 (oV_r rfl (hrm (49, 27, 70) (by decide))) dX12_works_105 ?_
                refine lv_iload_n hx hb dX12_works_108 rfl (lv_at hl 0 rfl) ?_
                refine lv_iconst (v := 0) hx hb dX12_works_109 (by decide) (ti_c 0 (by decide) fun z133 hz133 => ?_)
                refine r_zast C hw (hsh 70 _ rfl) (by omega) (by omega) (nar_b (by omega)) dX12_works_110 (fun H locs hH hw => ?_)
                obtain ⟨ig134, eig134⟩ : ∃ f, f = up2 ig132 (B + 70) v8.toInt.toNat z133 := ⟨_, rfl⟩
                rw [← eig134] at hw
                have hF : Ft B [49, 64, 65, 66, 67, 68, 69, 70, 71, 72, 73, 74] ig lg ig134 lg129 := by rw [eig134]; exact hF.pi (by decide)
                have hI : IM τ φ υ B kd ig134 rg := by rw [eig134]; exact hI.pi (by decide) (show okR none _ from trivial)
                have dn9 : dnM B σ v8.toInt.toNat ig134 := by rw [eig134]; exact dn9.w (Or.inl (by decide))
                have wo9 : woM B σ v8.toInt.toNat ig134 := by rw [eig134]; exact wo9.w (Or.inl (by decide))
                have er9 : erM B σ v8.toInt.toNat ig134 := by rw [eig134]; exact er9.w (Or.inl (by decide))
                have inm : InM B σ v8.toInt.toNat ig134 lg129 := by rw [eig134]; exact inm.w (Or.inl (by decide))
                refine lv_iconst (v := 0) hx hb dX12_works_111 (by decide) (ti_c 0 (by decide) fun z135 hz135 => ?_)
                refine lv_istore_n (lv' := [(2, .int z135), (1, .int v8), (0, .ref (B + 49))]) hx hb dX12_works_112 rfl hl (by decide) rfl (fun ls hl => ?_)
                have L113 : ∀ (n : Nat) (ls : Array Slot) (H : Heap) (locs : List Loc) (ig137 : sI) (lg138 : sG) (v136 : Int32), lv_has ls 3 [(2, .int v136), (1, .int v8), (0, .ref (B + 49))] → WD B D cA s.heap kd ig137 rg lg138 H locs → IM τ φ υ B kd ig137 rg → Ft B [49, 64, 65, 66, 67, 68, 69, 70, 71, 72, 73, 74] ig lg ig137 lg138 → (0 ≤ v136.toInt) → (v136.toInt ≤ 3) → (dnM B σ v8.toInt.toNat ig137) → (woM B σ v8.toInt.toNat ig137) → (erM B σ v8.toInt.toNat ig137) → (InM B σ v8.toInt.toNat ig137 lg138) → 3 - v136.toInt < (n : Int) → W p l e (rL 31 0 0) s m args below meth c H locs 0 0 (MQ below (QcW B D cA (PM τ φ υ B [49, 64, 65, 66, 67, 68, 69, 70, 71, 72, 73, 74] kd ig rg lg (fun r ig' lg' => (r = none ∧ FVm B σ ig')))) args s 0 0 (fun q => B ≤ q)) (F0 m 113 ls []) := by
                  intro n113
                  induction n113 with
                  | zero => intro ls H locs ig137 lg138 v136 hl hw hI hF g113_0 g113_1 g113_2 g113_3 g113_4 g113_5 hmu; exact absurd hmu (by omega)
                  | succ n113 ih113 =>
                    intro ls H locs ig137 lg138 v136 hl hw hI hF g113_0 g113_1 g113_2 g113_3 g113_4 g113_5 hmu
                    have dn9 := g113_2
                    have wo9 := g113_3
                    have er9 := g113_4
                    have inm := g113_5
                    refine lv_iload_n hx hb dX12_works_113 rfl (lv_at hl 0 rfl) ?_
                    refine lv_iconst (v := 3) hx hb dX12_works_114 (by decide) (ti_c 3 (by decide) fun z139 hz139 => ?_)
                    refine b_ge (tgt := 158) hx hb dX12_works_115 (by decide) (fun c115 => ?_) (fun c115 => ?_)
                    · refine tc_inc hx hb dX12_works_158 hl (k := 1) rfl (by decide) (by decide) (fun z140 hz140 ls hl => ?_)
                      first | replace hz140 := hz140 (by omega) | clear hz140
                      have hl : lv_has ls 3 [(1, .int z140), (2, .int v136), (0, .ref (B + 49))] := hl
                      refine lv_goto (tgt := 6) hx hb dX12_works_161 (by decide) ?_
                      exact ih6 ls H locs ig137 lg138 z140 (lv_sub hl [0, 2] rfl) hw hI hF (by omega) (by omega) (by rw [show z140.toInt.toNat = v8.toInt.toNat + 1 by omega]; exact inm.s dn9 wo9 er9) (by omega)
                    · refine lv_aload_n hx hb dX12_works_118 rfl (lv_at hl 2 rfl) ?_
                      refine r_get C hw (hsh 49 _ rfl) fl_X12_108 (oV_r rfl (hrm (49, 25, 68) (by decide))) dX12_works_119 ?_
                      refine lv_iconst (v := 3) hx hb dX12_works_122 (by decide) (ti_c 3 (by decide) fun z141 hz141 => ?_)
                      refine lv_iload_n hx hb dX12_works_123 rfl (lv_at hl 1 rfl) ?_
                      refine lv_imul hx hb dX12_works_124 (tc_mulL 3 hz141 fun z142 hz142 => ?_)
                      first | replace hz142 := hz142 (by omega) | clear hz142
                      refine lv_iload_n hx hb dX12_works_125 rfl (lv_at hl 0 rfl) ?_
                      refine lv_iadd hx hb dX12_works_126 (tc_add fun z143 hz143 => ?_)
                      first | replace hz143 := hz143 (by omega) | clear hz143
                      refine lv_aload_n hx hb dX12_works_127 rfl (lv_at hl 2 rfl) ?_
                      refine r_get C hw (hsh 49 _ rfl) fl_X12_80 (oV_r rfl (hrm (49, 15, 59) (by decide))) dX12_works_128 ?_
                      refine lv_iload_n hx hb dX12_works_131 rfl (lv_at hl 1 rfl) ?_
                      refine r_iald C hw (hsh 59 _ rfl) (by omega) (by omega) dX12_works_132 (ti_c (ig137 (B + 59) v8.toInt.toNat).toInt rfl fun z144 hz144 => ?_)
                      rw [Ft.i hF 59 _ (by decide)] at hz144
                      refine lv_iconst (v := 1) hx hb dX12_works_133 (by decide) (ti_c 1 (by decide) fun z146 hz146 => ?_)
                      refine b_ne (tgt := 150) hx hb dX12_works_134 (by decide) (fun c134 => ?_) (fun c134 => ?_)
                      · refine lv_iconst (v := 0) hx hb dX12_works_150 (by decide) (ti_c 0 (by decide) fun z147 hz147 => ?_)
                        refine r_iast C hw (hsh 68 _ rfl) (by omega) (by omega) dX12_works_151 (fun H locs hH hw => ?_)
                        obtain ⟨ig148, eig148⟩ : ∃ f, f = up2 ig137 (B + 68) z143.toInt.toNat z147 := ⟨_, rfl⟩
                        rw [← eig148] at hw
                        have hF : Ft B [49, 64, 65, 66, 67, 68, 69, 70, 71, 72, 73, 74] ig lg ig148 lg138 := by rw [eig148]; exact hF.pi (by decide)
                        have hI : IM τ φ υ B kd ig148 rg := by rw [eig148]; exact hI.pi (by decide) (show okR none _ from trivial)
                        have dn9 : dnM B σ v8.toInt.toNat ig148 := by rw [eig148]; exact dn9.w (Or.inl (by decide))
                        have wo9 : woM B σ v8.toInt.toNat ig148 := by rw [eig148]; exact wo9.w (Or.inl (by decide))
                        have er9 : erM B σ v8.toInt.toNat ig148 := by rw [eig148]; exact er9.w (Or.inl (by decide))
                        have inm : InM B σ v8.toInt.toNat ig148 lg138 := by rw [eig148]; exact inm.w (Or.inl (by decide))
                        refine tc_inc hx hb dX12_works_152 hl (k := 0) rfl (by decide) (by decide) (fun z149 hz149 ls hl => ?_)
                        first | replace hz149 := hz149 (by omega) | clear hz149
                        have hl : lv_has ls 3 [(2, .int z149), (1, .int v8), (0, .ref (B + 49))] := hl
                        refine lv_goto (tgt := 113) hx hb dX12_works_155 (by decide) ?_
                        exact ih113 ls H locs ig148 lg138 z149 (lv_sub hl [0, 1, 2] rfl) hw hI hF (by omega) (by omega) (dn9) (wo9) (er9) (inm) (by omega)
                      · refine lv_aload_n hx hb dX12_works_137 rfl (lv_at hl 2 rfl) ?_
                        refine r_get C hw (hsh 49 _ rfl) fl_X12_86 (oV_r rfl (hrm (49, 17, 61) (by decide))) dX12_works_138 ?_
                        refine lv_iconst (v := 3) hx hb dX12_works_141 (by decide) (ti_c 3 (by decide) fun z150 hz150 => ?_)
                        refine lv_iload_n hx hb dX12_works_142 rfl (lv_at hl 1 rfl) ?_
                        refine lv_imul hx hb dX12_works_143 (tc_mulL 3 hz150 fun z151 hz151 => ?_)
                        first | replace hz151 := hz151 (by omega) | clear hz151
                        refine lv_iload_n hx hb dX12_works_144 rfl (lv_at hl 0 rfl) ?_
                        refine lv_iadd hx hb dX12_works_145 (tc_add fun z152 hz152 => ?_)
                        first | replace hz152 := hz152 (by omega) | clear hz152
                        refine r_iald C hw (hsh 61 _ rfl) (by omega) (by omega) dX12_works_146 (ti_c (ig137 (B + 61) z152.toInt.toNat).toInt rfl fun z153 hz153 => ?_)
                        rw [Ft.i hF 61 _ (by decide)] at hz153
                        refine lv_goto (tgt := 151) hx hb dX12_works_147 (by decide) ?_
                        refine r_iast C hw (hsh 68 _ rfl) (by omega) (by omega) dX12_works_151 (fun H locs hH hw => ?_)
                        obtain ⟨ig155, eig155⟩ : ∃ f, f = up2 ig137 (B + 68) z143.toInt.toNat z153 := ⟨_, rfl⟩
                        rw [← eig155] at hw
                        have hF : Ft B [49, 64, 65, 66, 67, 68, 69, 70, 71, 72, 73, 74] ig lg ig155 lg138 := by rw [eig155]; exact hF.pi (by decide)
                        have hI : IM τ φ υ B kd ig155 rg := by rw [eig155]; exact hI.pi (by decide) (show okR none _ from trivial)
                        have dn9 : dnM B σ v8.toInt.toNat ig155 := by rw [eig155]; exact dn9.w (Or.inl (by decide))
                        have wo9 : woM B σ v8.toInt.toNat ig155 := by rw [eig155]; exact wo9.w (Or.inl (by decide))
                        have er9 : erM B σ v8.toInt.toNat ig155 := by rw [eig155]; exact er9.w (Or.inl (by decide))
                        have inm : InM B σ v8.toInt.toNat ig155 lg138 := by rw [eig155]; exact inm.w (Or.inl (by decide))
                        refine tc_inc hx hb dX12_works_152 hl (k := 0) rfl (by decide) (by decide) (fun z156 hz156 ls hl => ?_)
                        first | replace hz156 := hz156 (by omega) | clear hz156
                        have hl : lv_has ls 3 [(2, .int z156), (1, .int v8), (0, .ref (B + 49))] := hl
                        refine lv_goto (tgt := 113) hx hb dX12_works_155 (by decide) ?_
                        exact ih113 ls H locs ig155 lg138 z156 (lv_sub hl [0, 1, 2] rfl) hw hI hF (by omega) (by omega) (dn9) (wo9) (er9) (inm) (by omega)
                exact L113 ((3 - z135.toInt) + 1).toNat ls H locs ig134 lg129 z135 (lv_sub hl [0, 1, 2] rfl) hw hI hF (by omega) (by omega) (dn9) (wo9) (er9) (inm) (by omega)
              refine b_ne (tgt := 95) hx hb dX12_works_80 (by decide) (fun c80 => ?_) (fun c80 => ?_)
              · refine lv_iconst (v := 0) hx hb dX12_works_95 (by decide) (ti_c 0 (by decide) fun z157 hz157 => ?_)
                exact J96 ls H locs ig123 lg122 z157 (lv_sub hl [0, 1] rfl) hw hI hF (⟨fun q => absurd q.1 (by omega), fun _ => i32_z (by omega)⟩) (dn9) (wo9) (inm)
              · refine lv_aload_n hx hb dX12_works_83 rfl (lv_at hl 1 rfl) ?_
                refine lv_iload_n hx hb dX12_works_84 rfl (lv_at hl 0 rfl) ?_
                refine r_callV (As := [.int v8]) (rest := [.int v8, .ref (B + 67)]) C hw (t_X12_isRingE l B D cA kd ig123 rg lg122 _ v8 (by omega) σ inm.1.2 hI) sv_X12_229 (hsh 49 _ rfl) rfl hl.1 rfl (Nat.le_of_ble_eq_true rfl) ⟨Nat.le_of_ble_eq_true rfl, Nat.le_of_ble_eq_true rfl⟩ ⟨Nat.le_of_ble_eq_true rfl, Nat.le_of_ble_eq_true rfl⟩ dX12_works_85 (fun r162 kd158 ig159 rg160 lg161 H locs hw hH hp163 => ?_)
                obtain ⟨rfl, rfl, rfl, rfl, hzhp163, hrhp163⟩ := hp163
                obtain ⟨z164, rfl, hz164⟩ := hrhp163
                have rg8 := hz164
                refine z_eq (tgt := 95) hx hb dX12_works_88 (by decide) (fun c88 => ?_) (fun c88 => ?_)
                · refine lv_iconst (v := 0) hx hb dX12_works_95 (by decide) (ti_c 0 (by decide) fun z165 hz165 => ?_)
                  exact J96 ls H locs ig123 lg122 z165 (lv_sub hl [0, 1] rfl) hw hI hF (⟨fun q => absurd q.2 (by0 rg8 (by omega)), fun _ => i32_z (by omega)⟩) (dn9) (wo9) (inm)
                · refine lv_iconst (v := 2) hx hb dX12_works_91 (by decide) (ti_c 2 (by decide) fun z166 hz166 => ?_)
                  refine lv_goto (tgt := 96) hx hb dX12_works_92 (by decide) ?_
                  exact J96 ls H locs ig123 lg122 z166 (lv_sub hl [0, 1] rfl) hw hI hF (⟨fun _ => i32_2 (by omega), fun q => absurd ⟨by omega, by1 rg8 (by omega)⟩ q⟩) (dn9) (wo9) (inm)
            refine b_ne (tgt := 66) hx hb dX12_works_54 (by decide) (fun c54 => ?_) (fun c54 => ?_)
            · refine lv_iconst (v := 0) hx hb dX12_works_66 (by decide) (ti_c 0 (by decide) fun z167 hz167 => ?_)
              exact J67 ls H locs ig116 lg10 z167 (lv_sub hl [0, 1] rfl) hw hI hF ((by rw [if_neg (by omega)]; exact i32_z (by omega))) (dn9) (inm)
            · refine lv_aload_n hx hb dX12_works_57 rfl (lv_at hl 1 rfl) ?_
              refine r_get C hw (hsh 49 _ rfl) fl_X12_83 (oV_r rfl (hrm (49, 16, 60) (by decide))) dX12_works_58 ?_
              refine lv_iload_n hx hb dX12_works_61 rfl (lv_at hl 0 rfl) ?_
              refine r_iald C hw (hsh 60 _ rfl) (by omega) (by omega) dX12_works_62 (ti_c (ig116 (B + 60) v8.toInt.toNat).toInt rfl fun z168 hz168 => ?_)
              rw [Ft.i hF 60 _ (by decide)] at hz168
              refine lv_goto (tgt := 67) hx hb dX12_works_63 (by decide) ?_
              exact J67 ls H locs ig116 lg10 z168 (lv_sub hl [0, 1] rfl) hw hI hF ((by rw [if_pos (by omega)]; exact i32_of (by rw [hz168]; exact (hM _ (by omega)).1.2))) (dn9) (inm)
          · refine lv_iconst (v := 1) hx hb dX12_works_36 (by decide) (ti_c 1 (by decide) fun z170 hz170 => ?_)
            refine lv_goto (tgt := 41) hx hb dX12_works_37 (by decide) ?_
            refine r_zast C hw (hsh 73 _ rfl) (by omega) (by omega) (nar_b (by omega)) dX12_works_41 (fun H locs hH hw => ?_)
            obtain ⟨ig171, eig171⟩ : ∃ f, f = up2 ig9 (B + 73) v8.toInt.toNat z170 := ⟨_, rfl⟩
            rw [← eig171] at hw
            have hF : Ft B [49, 64, 65, 66, 67, 68, 69, 70, 71, 72, 73, 74] ig lg ig171 lg10 := by rw [eig171]; exact hF.pi (by decide)
            have hI : IM τ φ υ B kd ig171 rg := by rw [eig171]; exact hI.pi (by decide) (show okR none _ from trivial)
            have dn9 : dnM B σ v8.toInt.toNat ig171 := by rw [eig171]; exact dnM.m1 (by omega) (fun q => q.2 (by1 rg9 (by omega)))
            have inm : InM B σ v8.toInt.toNat ig171 lg10 := by rw [eig171]; exact inm.w (Or.inr (Nat.le_refl _))
            refine lv_aload_n hx hb dX12_works_42 rfl (lv_at hl 1 rfl) ?_
            refine r_get C hw (hsh 49 _ rfl) fl_X12_102 (oV_r rfl (hrm (49, 23, 66) (by decide))) dX12_works_43 ?_
            refine lv_iload_n hx hb dX12_works_46 rfl (lv_at hl 0 rfl) ?_
            refine lv_aload_n hx hb dX12_works_47 rfl (lv_at hl 1 rfl) ?_
            refine r_get C hw (hsh 49 _ rfl) fl_X12_80 (oV_r rfl (hrm (49, 15, 59) (by decide))) dX12_works_48 ?_
            refine lv_iload_n hx hb dX12_works_51 rfl (lv_at hl 0 rfl) ?_
            refine r_iald C hw (hsh 59 _ rfl) (by omega) (by omega) dX12_works_52 (ti_c (ig171 (B + 59) v8.toInt.toNat).toInt rfl fun z172 hz172 => ?_)
            rw [Ft.i hF 59 _ (by decide)] at hz172
            have kd8 : z172.toInt = kdO (σ v8.toInt.toNat) := by rw [hz172]; exact (hM _ (by omega)).1.1
            refine lv_iconst (v := 1) hx hb dX12_works_53 (by decide) (ti_c 1 (by decide) fun z174 hz174 => ?_)
            have J67 : ∀ (ls : Array Slot) (H : Heap) (locs : List Loc) (ig176 : sI) (lg177 : sG) (u175 : Int32), lv_has ls 3 [(1, .int v8), (0, .ref (B + 49))] → WD B D cA s.heap kd ig176 rg lg177 H locs → IM τ φ υ B kd ig176 rg → Ft B [49, 64, 65, 66, 67, 68, 69, 70, 71, 72, 73, 74] ig lg ig176 lg177 → (u175 = if kdO (σ v8.toInt.toNat) = 1 then Int32.ofInt (σ v8.toInt.toNat).1.2 else 0) → (dnM B σ v8.toInt.toNat ig176) → (InM B σ v8.toInt.toNat ig176 lg177) → W p l e (rL 31 0 0) s m args below meth c H locs 0 0 (MQ below (QcW B D cA (PM τ φ υ B [49, 64, 65, 66, 67, 68, 69, 70, 71, 72, 73, 74] kd ig rg lg (fun r ig' lg' => (r = none ∧ FVm B σ ig')))) args s 0 0 (fun q => B ≤ q)) (F0 m 67 ls [.int u175, .int v8, .ref (B + 66)]) := by
              intro ls H locs ig176 lg177 u175 hl hw hI hF g67_0 g67_1 g67_2
              have dn9 := g67_1
              have inm := g67_2
              refine r_iast C hw (hsh 66 _ rfl) (by omega) (by omega) dX12_works_67 (fun H locs hH hw => ?_)
              obtain ⟨ig178, eig178⟩ : ∃ f, f = up2 ig176 (B + 66) v8.toInt.toNat u175 := ⟨_, rfl⟩
              rw [← eig178] at hw
              have hF : Ft B [49, 64, 65, 66, 67, 68, 69, 70, 71, 72, 73, 74] ig lg ig178 lg177 := by rw [eig178]; exact hF.pi (by decide)
              have hI : IM τ φ υ B kd ig178 rg := by rw [eig178]; exact hI.pi (by decide) (show okR none _ from trivial)
              have dn9 : dnM B σ v8.toInt.toNat ig178 := by rw [eig178]; exact dn9.w (Or.inl (by decide))
              have wo9 : woM B σ v8.toInt.toNat ig178 := by rw [eig178]; exact woM.m g67_0
              have inm : InM B σ v8.toInt.toNat ig178 lg177 := by rw [eig178]; exact inm.w (Or.inr (Nat.le_refl _))
              refine lv_aload_n hx hb dX12_works_68 rfl (lv_at hl 1 rfl) ?_
              refine r_get C hw (hsh 49 _ rfl) fl_X12_105 (oV_r rfl (hrm (49, 24, 67) (by decide))) dX12_works_69 ?_
              refine lv_iload_n hx hb dX12_works_72 rfl (lv_at hl 0 rfl) ?_
              refine lv_aload_n hx hb dX12_works_73 rfl (lv_at hl 1 rfl) ?_
              refine r_get C hw (hsh 49 _ rfl) fl_X12_80 (oV_r rfl (hrm (49, 15, 59) (by decide))) dX12_works_74 ?_
              refine lv_iload_n hx hb dX12_works_77 rfl (lv_at hl 0 rfl) ?_
              refine r_iald C hw (hsh 59 _ rfl) (by omega) (by omega) dX12_works_78 (ti_c (ig178 (B + 59) v8.toInt.toNat).toInt rfl fun z179 hz179 => ?_)
              rw [Ft.i hF 59 _ (by decide)] at hz179
              have kd7 : z179.toInt = kdO (σ v8.toInt.toNat) := by rw [hz179]; exact (hM _ (by omega)).1.1
              refine lv_iconst (v := 2) hx hb dX12_works_79 (by decide) (ti_c 2 (by decide) fun z181 hz181 => ?_)
              have J96 : ∀ (ls : Array Slot) (H : Heap) (locs : List Loc) (ig183 : sI) (lg184 : sG) (u182 : Int32), lv_has ls 3 [(1, .int v8), (0, .ref (B + 49))] → WD B D cA s.heap kd ig183 rg lg184 H locs → IM τ φ υ B kd ig183 rg → Ft B [49, 64, 65, 66, 67, 68, 69, 70, 71, 72, 73, 74] ig lg ig183 lg184 → ((kdO (σ v8.toInt.toNat) = 2 ∧ Rg σ v8.toInt.toNat → u182 = 2) ∧ (¬ (kdO (σ v8.toInt.toNat) = 2 ∧ Rg σ v8.toInt.toNat) → u182 = 0)) → (dnM B σ v8.toInt.toNat ig183) → (woM B σ v8.toInt.toNat ig183) → (InM B σ v8.toInt.toNat ig183 lg184) → W p l e (rL 31 0 0) s m args below meth c H locs 0 0 (MQ below (QcW B D cA (PM τ φ υ B [49, 64, 65, 66, 67, 68, 69, 70, 71, 72, 73, 74] kd ig rg lg (fun r ig' lg' => (r = none ∧ FVm B σ ig')))) args s 0 0 (fun q => B ≤ q)) (F0 m 96 ls [.int u182, .int v8, .ref (B + 67)]) := by
                intro ls H locs ig183 lg184 u182 hl hw hI hF g96_0 g96_1 g96_2 g96_3
                have dn9 := g96_1
                have wo9 := g96_2
                have inm := g96_3
                refine r_iast C hw (hsh 67 _ rfl) (by omega) (by omega) dX12_works_96 (fun H locs hH hw => ?_)
                obtain ⟨ig185, eig185⟩ : ∃ f, f = up2 ig183 (B + 67) v8.toInt.toNat u182 := ⟨_, rfl⟩
                rw [← eig185] at hw
                have hF : Ft B [49, 64, 65, 66, 67, 68, 69, 70, 71, 72, 73, 74] ig lg ig185 lg184 := by rw [eig185]; exact hF.pi (by decide)
                have hI : IM τ φ υ B kd ig185 rg := by rw [eig185]; exact hI.pi (by decide) (show okR none _ from trivial)
                have dn9 : dnM B σ v8.toInt.toNat ig185 := by rw [eig185]; exact dn9.w (Or.inl (by decide))
                have wo9 : woM B σ v8.toInt.toNat ig185 := by rw [eig185]; exact wo9.w (Or.inl (by decide))
                have er9 : erM B σ v8.toInt.toNat ig185 := by rw [eig185]; exact erM.m g96_0
                have inm : InM B σ v8.toInt.toNat ig185 lg184 := by rw [eig185]; exact inm.w (Or.inr (Nat.le_refl _))
                refine lv_aload_n hx hb dX12_works_97 rfl (lv_at hl 1 rfl) ?_
                refine r_get C hw (hsh 49 _ rfl) fl_X12_111 (oV_r rfl (hrm (49, 26, 69) (by decide))) dX12_works_98 ?_
                refine lv_iload_n hx hb dX12_works_101 rfl (lv_at hl 0 rfl) ?_
                refine lv_iconst (v := 0) hx hb dX12_works_102 (by decide) (ti_c 0 (by decide) fun z186 hz186 => ?_)
                refine r_zast C hw (hsh 69 _ rfl) (by omega) (by omega) (nar_b (by omega)) dX12_works_103 (fun H locs hH hw => ?_)
                obtain ⟨ig187, eig187⟩ : ∃ f, f = up2 ig185 (B + 69) v8.toInt.toNat z186 := ⟨_, rfl⟩
                rw [← eig187] at hw
                have hF : Ft B [49, 64, 65, 66, 67, 68, 69, 70, 71, 72, 73, 74] ig lg ig187 lg184 := by rw [eig187]; exact hF.pi (by decide)
                have hI : IM τ φ υ B kd ig187 rg := by rw [eig187]; exact hI.pi (by decide) (show okR none _ from trivial)
                have dn9 : dnM B σ v8.toInt.toNat ig187 := by rw [eig187]; exact dn9.w (Or.inl (by decide))
                have wo9 : woM B σ v8.toInt.toNat ig187 := by rw [eig187]; exact wo9.w (Or.inl (by decide))
                have er9 : erM B σ v8.toInt.toNat ig187 := by rw [eig187]; exact er9.w (Or.inl (by decide))
                have inm : InM B σ v8.toInt.toNat ig187 lg184 := by rw [eig187]; exact inm.w (Or.inl (by decide))
                refine lv_aload_n hx hb dX12_works_104 rfl (lv_at hl 1 rfl) ?_
                refine r_get C hw (hsh 49 _ rfl) fl_X12_114 (oV_r rfl (hrm (49, 27, 70) (by decide))) dX12_works_105 ?_
                refine lv_iload_n hx hb dX12_works_108 rfl (lv_at hl 0 rfl) ?_
                refine lv_iconst (v := 0) hx hb dX12_works_109 (by decide) (ti_c 0 (by decide) fun z188 hz188 => ?_)
                refine r_zast C hw (hsh 70 _ rfl) (by omega) (by omega) (nar_b (by omega)) dX12_works_110 (fun H locs hH hw => ?_)
                obtain ⟨ig189, eig189⟩ : ∃ f, f = up2 ig187 (B + 70) v8.toInt.toNat z188 := ⟨_, rfl⟩
                rw [← eig189] at hw
                have hF : Ft B [49, 64, 65, 66, 67, 68, 69, 70, 71, 72, 73, 74] ig lg ig189 lg184 := by rw [eig189]; exact hF.pi (by decide)
                have hI : IM τ φ υ B kd ig189 rg := by rw [eig189]; exact hI.pi (by decide) (show okR none _ from trivial)
                have dn9 : dnM B σ v8.toInt.toNat ig189 := by rw [eig189]; exact dn9.w (Or.inl (by decide))
                have wo9 : woM B σ v8.toInt.toNat ig189 := by rw [eig189]; exact wo9.w (Or.inl (by decide))
                have er9 : erM B σ v8.toInt.toNat ig189 := by rw [eig189]; exact er9.w (Or.inl (by decide))
                have inm : InM B σ v8.toInt.toNat ig189 lg184 := by rw [eig189]; exact inm.w (Or.inl (by decide))
                refine lv_iconst (v := 0) hx hb dX12_works_111 (by decide) (ti_c 0 (by decide) fun z190 hz190 => ?_)
                refine lv_istore_n (lv' := [(2, .int z190), (1, .int v8), (0, .ref (B + 49))]) hx hb dX12_works_112 rfl hl (by decide) rfl (fun ls hl => ?_)
                have L113 : ∀ (n : Nat) (ls : Array Slot) (H : Heap) (locs : List Loc) (ig192 : sI) (lg193 : sG) (v191 : Int32), lv_has ls 3 [(2, .int v191), (1, .int v8), (0, .ref (B + 49))] → WD B D cA s.heap kd ig192 rg lg193 H locs → IM τ φ υ B kd ig192 rg → Ft B [49, 64, 65, 66, 67, 68, 69, 70, 71, 72, 73, 74] ig lg ig192 lg193 → (0 ≤ v191.toInt) → (v191.toInt ≤ 3) → (dnM B σ v8.toInt.toNat ig192) → (woM B σ v8.toInt.toNat ig192) → (erM B σ v8.toInt.toNat ig192) → (InM B σ v8.toInt.toNat ig192 lg193) → 3 - v191.toInt < (n : Int) → W p l e (rL 31 0 0) s m args below meth c H locs 0 0 (MQ below (QcW B D cA (PM τ φ υ B [49, 64, 65, 66, 67, 68, 69, 70, 71, 72, 73, 74] kd ig rg lg (fun r ig' lg' => (r = none ∧ FVm B σ ig')))) args s 0 0 (fun q => B ≤ q)) (F0 m 113 ls []) := by
                  intro n113
                  induction n113 with
                  | zero => intro ls H locs ig192 lg193 v191 hl hw hI hF g113_0 g113_1 g113_2 g113_3 g113_4 g113_5 hmu; exact absurd hmu (by omega)
                  | succ n113 ih113 =>
                    intro ls H locs ig192 lg193 v191 hl hw hI hF g113_0 g113_1 g113_2 g113_3 g113_4 g113_5 hmu
                    have dn9 := g113_2
                    have wo9 := g113_3
                    have er9 := g113_4
                    have inm := g113_5
                    refine lv_iload_n hx hb dX12_works_113 rfl (lv_at hl 0 rfl) ?_
                    refine lv_iconst (v := 3) hx hb dX12_works_114 (by decide) (ti_c 3 (by decide) fun z194 hz194 => ?_)
                    refine b_ge (tgt := 158) hx hb dX12_works_115 (by decide) (fun c115 => ?_) (fun c115 => ?_)
                    · refine tc_inc hx hb dX12_works_158 hl (k := 1) rfl (by decide) (by decide) (fun z195 hz195 ls hl => ?_)
                      first | replace hz195 := hz195 (by omega) | clear hz195
                      have hl : lv_has ls 3 [(1, .int z195), (2, .int v191), (0, .ref (B + 49))] := hl
                      refine lv_goto (tgt := 6) hx hb dX12_works_161 (by decide) ?_
                      exact ih6 ls H locs ig192 lg193 z195 (lv_sub hl [0, 2] rfl) hw hI hF (by omega) (by omega) (by rw [show z195.toInt.toNat = v8.toInt.toNat + 1 by omega]; exact inm.s dn9 wo9 er9) (by omega)
                    · refine lv_aload_n hx hb dX12_works_118 rfl (lv_at hl 2 rfl) ?_
                      refine r_get C hw (hsh 49 _ rfl) fl_X12_108 (oV_r rfl (hrm (49, 25, 68) (by decide))) dX12_works_119 ?_
                      refine lv_iconst (v := 3) hx hb dX12_works_122 (by decide) (ti_c 3 (by decide) fun z196 hz196 => ?_)
                      refine lv_iload_n hx hb dX12_works_123 rfl (lv_at hl 1 rfl) ?_
                      refine lv_imul hx hb dX12_works_124 (tc_mulL 3 hz196 fun z197 hz197 => ?_)
                      first | replace hz197 := hz197 (by omega) | clear hz197
                      refine lv_iload_n hx hb dX12_works_125 rfl (lv_at hl 0 rfl) ?_
                      refine lv_iadd hx hb dX12_works_126 (tc_add fun z198 hz198 => ?_)
                      first | replace hz198 := hz198 (by omega) | clear hz198
                      refine lv_aload_n hx hb dX12_works_127 rfl (lv_at hl 2 rfl) ?_
                      refine r_get C hw (hsh 49 _ rfl) fl_X12_80 (oV_r rfl (hrm (49, 15, 59) (by decide))) dX12_works_128 ?_
                      refine lv_iload_n hx hb dX12_works_131 rfl (lv_at hl 1 rfl) ?_
                      refine r_iald C hw (hsh 59 _ rfl) (by omega) (by omega) dX12_works_132 (ti_c (ig192 (B + 59) v8.toInt.toNat).toInt rfl fun z199 hz199 => ?_)
                      rw [Ft.i hF 59 _ (by decide)] at hz199
                      refine lv_iconst (v := 1) hx hb dX12_works_133 (by decide) (ti_c 1 (by decide) fun z201 hz201 => ?_)
                      refine b_ne (tgt := 150) hx hb dX12_works_134 (by decide) (fun c134 => ?_) (fun c134 => ?_)
                      · refine lv_iconst (v := 0) hx hb dX12_works_150 (by decide) (ti_c 0 (by decide) fun z202 hz202 => ?_)
                        refine r_iast C hw (hsh 68 _ rfl) (by omega) (by omega) dX12_works_151 (fun H locs hH hw => ?_)
                        obtain ⟨ig203, eig203⟩ : ∃ f, f = up2 ig192 (B + 68) z198.toInt.toNat z202 := ⟨_, rfl⟩
                        rw [← eig203] at hw
                        have hF : Ft B [49, 64, 65, 66, 67, 68, 69, 70, 71, 72, 73, 74] ig lg ig203 lg193 := by rw [eig203]; exact hF.pi (by decide)
                        have hI : IM τ φ υ B kd ig203 rg := by rw [eig203]; exact hI.pi (by decide) (show okR none _ from trivial)
                        have dn9 : dnM B σ v8.toInt.toNat ig203 := by rw [eig203]; exact dn9.w (Or.inl (by decide))
                        have wo9 : woM B σ v8.toInt.toNat ig203 := by rw [eig203]; exact wo9.w (Or.inl (by decide))
                        have er9 : erM B σ v8.toInt.toNat ig203 := by rw [eig203]; exact er9.w (Or.inl (by decide))
                        have inm : InM B σ v8.toInt.toNat ig203 lg193 := by rw [eig203]; exact inm.w (Or.inl (by decide))
                        refine tc_inc hx hb dX12_works_152 hl (k := 0) rfl (by decide) (by decide) (fun z204 hz204 ls hl => ?_)
                        first | replace hz204 := hz204 (by omega) | clear hz204
                        have hl : lv_has ls 3 [(2, .int z204), (1, .int v8), (0, .ref (B + 49))] := hl
                        refine lv_goto (tgt := 113) hx hb dX12_works_155 (by decide) ?_
                        exact ih113 ls H locs ig203 lg193 z204 (lv_sub hl [0, 1, 2] rfl) hw hI hF (by omega) (by omega) (dn9) (wo9) (er9) (inm) (by omega)
                      · refine lv_aload_n hx hb dX12_works_137 rfl (lv_at hl 2 rfl) ?_
                        refine r_get C hw (hsh 49 _ rfl) fl_X12_86 (oV_r rfl (hrm (49, 17, 61) (by decide))) dX12_works_138 ?_
                        refine lv_iconst (v := 3) hx hb dX12_works_141 (by decide) (ti_c 3 (by decide) fun z205 hz205 => ?_)
                        refine lv_iload_n hx hb dX12_works_142 rfl (lv_at hl 1 rfl) ?_
                        refine lv_imul hx hb dX12_works_143 (tc_mulL 3 hz205 fun z206 hz206 => ?_)
                        first | replace hz206 := hz206 (by omega) | clear hz206
                        refine lv_iload_n hx hb dX12_works_144 rfl (lv_at hl 0 rfl) ?_
                        refine lv_iadd hx hb dX12_works_145 (tc_add fun z207 hz207 => ?_)
                        first | replace hz207 := hz207 (by omega) | clear hz207
                        refine r_iald C hw (hsh 61 _ rfl) (by omega) (by omega) dX12_works_146 (ti_c (ig192 (B + 61) z207.toInt.toNat).toInt rfl fun z208 hz208 => ?_)
                        rw [Ft.i hF 61 _ (by decide)] at hz208
                        refine lv_goto (tgt := 151) hx hb dX12_works_147 (by decide) ?_
                        refine r_iast C hw (hsh 68 _ rfl) (by omega) (by omega) dX12_works_151 (fun H locs hH hw => ?_)
                        obtain ⟨ig210, eig210⟩ : ∃ f, f = up2 ig192 (B + 68) z198.toInt.toNat z208 := ⟨_, rfl⟩
                        rw [← eig210] at hw
                        have hF : Ft B [49, 64, 65, 66, 67, 68, 69, 70, 71, 72, 73, 74] ig lg ig210 lg193 := by rw [eig210]; exact hF.pi (by decide)
                        have hI : IM τ φ υ B kd ig210 rg := by rw [eig210]; exact hI.pi (by decide) (show okR none _ from trivial)
                        have dn9 : dnM B σ v8.toInt.toNat ig210 := by rw [eig210]; exact dn9.w (Or.inl (by decide))
                        have wo9 : woM B σ v8.toInt.toNat ig210 := by rw [eig210]; exact wo9.w (Or.inl (by decide))
                        have er9 : erM B σ v8.toInt.toNat ig210 := by rw [eig210]; exact er9.w (Or.inl (by decide))
                        have inm : InM B σ v8.toInt.toNat ig210 lg193 := by rw [eig210]; exact inm.w (Or.inl (by decide))
                        refine tc_inc hx hb dX12_works_152 hl (k := 0) rfl (by decide) (by decide) (fun z211 hz211 ls hl => ?_)
                        first | replace hz211 := hz211 (by omega) | clear hz211
                        have hl : lv_has ls 3 [(2, .int z211), (1, .int v8), (0, .ref (B + 49))] := hl
                        refine lv_goto (tgt := 113) hx hb dX12_works_155 (by decide) ?_
                        exact ih113 ls H locs ig210 lg193 z211 (lv_sub hl [0, 1, 2] rfl) hw hI hF (by omega) (by omega) (dn9) (wo9) (er9) (inm) (by omega)
                exact L113 ((3 - z190.toInt) + 1).toNat ls H locs ig189 lg184 z190 (lv_sub hl [0, 1, 2] rfl) hw hI hF (by omega) (by omega) (dn9) (wo9) (er9) (inm) (by omega)
              refine b_ne (tgt := 95) hx hb dX12_works_80 (by decide) (fun c80 => ?_) (fun c80 => ?_)
              · refine lv_iconst (v := 0) hx hb dX12_works_95 (by decide) (ti_c 0 (by decide) fun z212 hz212 => ?_)
                exact J96 ls H locs ig178 lg177 z212 (lv_sub hl [0, 1] rfl) hw hI hF (⟨fun q => absurd q.1 (by omega), fun _ => i32_z (by omega)⟩) (dn9) (wo9) (inm)
              · refine lv_aload_n hx hb dX12_works_83 rfl (lv_at hl 1 rfl) ?_
                refine lv_iload_n hx hb dX12_works_84 rfl (lv_at hl 0 rfl) ?_
                refine r_callV (As := [.int v8]) (rest := [.int v8, .ref (B + 67)]) C hw (t_X12_isRingE l B D cA kd ig178 rg lg177 _ v8 (by omega) σ inm.1.2 hI) sv_X12_229 (hsh 49 _ rfl) rfl hl.1 rfl (Nat.le_of_ble_eq_true rfl) ⟨Nat.le_of_ble_eq_true rfl, Nat.le_of_ble_eq_true rfl⟩ ⟨Nat.le_of_ble_eq_true rfl, Nat.le_of_ble_eq_true rfl⟩ dX12_works_85 (fun r217 kd213 ig214 rg215 lg216 H locs hw hH hp218 => ?_)
                obtain ⟨rfl, rfl, rfl, rfl, hzhp218, hrhp218⟩ := hp218
                obtain ⟨z219, rfl, hz219⟩ := hrhp218
                have rg8 := hz219
                refine z_eq (tgt := 95) hx hb dX12_works_88 (by decide) (fun c88 => ?_) (fun c88 => ?_)
                · refine lv_iconst (v := 0) hx hb dX12_works_95 (by decide) (ti_c 0 (by decide) fun z220 hz220 => ?_)
                  exact J96 ls H locs ig178 lg177 z220 (lv_sub hl [0, 1] rfl) hw hI hF (⟨fun q => absurd q.2 (by0 rg8 (by omega)), fun _ => i32_z (by omega)⟩) (dn9) (wo9) (inm)
                · refine lv_iconst (v := 2) hx hb dX12_works_91 (by decide) (ti_c 2 (by decide) fun z221 hz221 => ?_)
                  refine lv_goto (tgt := 96) hx hb dX12_works_92 (by decide) ?_
                  exact J96 ls H locs ig178 lg177 z221 (lv_sub hl [0, 1] rfl) hw hI hF (⟨fun _ => i32_2 (by omega), fun q => absurd ⟨by omega, by1 rg8 (by omega)⟩ q⟩) (dn9) (wo9) (inm)
            refine b_ne (tgt := 66) hx hb dX12_works_54 (by decide) (fun c54 => ?_) (fun c54 => ?_)
            · refine lv_iconst (v := 0) hx hb dX12_works_66 (by decide) (ti_c 0 (by decide) fun z222 hz222 => ?_)
              exact J67 ls H locs ig171 lg10 z222 (lv_sub hl [0, 1] rfl) hw hI hF ((by rw [if_neg (by omega)]; exact i32_z (by omega))) (dn9) (inm)
            · refine lv_aload_n hx hb dX12_works_57 rfl (lv_at hl 1 rfl) ?_
              refine r_get C hw (hsh 49 _ rfl) fl_X12_83 (oV_r rfl (hrm (49, 16, 60) (by decide))) dX12_works_58 ?_
              refine lv_iload_n hx hb dX12_works_61 rfl (lv_at hl 0 rfl) ?_
              refine r_iald C hw (hsh 60 _ rfl) (by omega) (by omega) dX12_works_62 (ti_c (ig171 (B + 60) v8.toInt.toNat).toInt rfl fun z223 hz223 => ?_)
              rw [Ft.i hF 60 _ (by decide)] at hz223
              refine lv_goto (tgt := 67) hx hb dX12_works_63 (by decide) ?_
              exact J67 ls H locs ig171 lg10 z223 (lv_sub hl [0, 1] rfl) hw hI hF ((by rw [if_pos (by omega)]; exact i32_of (by rw [hz223]; exact (hM _ (by omega)).1.2))) (dn9) (inm)
  exact L6 ((288 - z7.toInt) + 1).toNat ls H locs ig2 lg4 z7 (lv_sub hl [0, 1] rfl) hw hI hF (by omega) (by omega) (by rw [show z7.toInt.toNat = 0 by omega]; exact InM.zero rr9.1 rr9.2) (by omega)

set_option maxHeartbeats 4000000 in
set_option maxRecDepth 100000 in
theorem t_X12_remembersE {υ : Option Int} {τ : Tp} {φ : Option Int} (l : Launch) (B : Nat) (D : va_G) (cA : Nat → ClassId) (kd : sK) (ig : sI) (rg : sR) (lg : sG) (sz : Nat)  (hI : IM τ φ υ B kd ig rg) : MC l B D cA yX12_remembers cX12_remembers 2 none (rL 0 0 0) [.ref (B + 49)] kd ig rg lg sz (PM τ φ υ B [76, 77] kd ig rg lg (fun r ig' lg' => (r = none ∧ RmR B (ig (B + 66)) (ig (B + 67)) ig'))) := by
  refine MC.of (own := RX12) (by decide +kernel) rfl (Nat.le_of_ble_eq_true rfl) ?_
  intro p e s m args below meth c ls C hr hlk hnm hw hsz hl
  have hx := C.1.1
  have hb := C.1.2.1
  have hown := C.1.2.2.2.1
  have hts := C.1.2.2.2.2
  have hl : lv_has ls 2 [(0, .ref (B + 49))] := hl
  have hF : Ft B [76, 77] ig lg ig lg := Ft.rf
  have hsh := hI.sh
  have hrm := hI.rm
  refine lv_iconst (v := 0) hx hb dX12_remembers_0 (by decide) (ti_c 0 (by decide) fun z1 hz1 => ?_)
  refine lv_istore_n (lv' := [(1, .int z1), (0, .ref (B + 49))]) hx hb dX12_remembers_1 rfl hl (by decide) rfl (fun ls hl => ?_)
  have L2 : ∀ (n : Nat) (ls : Array Slot) (H : Heap) (locs : List Loc) (ig3 : sI) (lg4 : sG) (v2 : Int32), lv_has ls 2 [(1, .int v2), (0, .ref (B + 49))] → WD B D cA s.heap kd ig3 rg lg4 H locs → IM τ φ υ B kd ig3 rg → Ft B [76, 77] ig lg ig3 lg4 → (0 ≤ v2.toInt) → (v2.toInt ≤ 288) → (∀ p, p < v2.toInt.toNat → ig3 (B + 76) p = ig (B + 66) p ∧ ig3 (B + 77) p = ig (B + 67) p) → 288 - v2.toInt < (n : Int) → W p l e (rL 0 0 0) s m args below meth c H locs 0 0 (MQ below (QcW B D cA (PM τ φ υ B [76, 77] kd ig rg lg (fun r ig' lg' => (r = none ∧ RmR B (ig (B + 66)) (ig (B + 67)) ig')))) args s 0 0 (fun q => B ≤ q)) (F0 m 2 ls []) := by
    intro n2
    induction n2 with
    | zero => intro ls H locs ig3 lg4 v2 hl hw hI hF g2_0 g2_1 g2_2 hmu; exact absurd hmu (by omega)
    | succ n2 ih2 =>
      intro ls H locs ig3 lg4 v2 hl hw hI hF g2_0 g2_1 g2_2 hmu
      refine lv_iload_n hx hb dX12_remembers_2 rfl (lv_at hl 0 rfl) ?_
      refine lv_sipush (v := 288) hx hb dX12_remembers_3 (by decide) (ti_c 288 (by decide) fun z5 hz5 => ?_)
      refine b_ge (tgt := 39) hx hb dX12_remembers_6 (by decide) (fun c6 => ?_) (fun c6 => ?_)
      · exact r_vret C hw hr hlk (Nat.le_of_ble_eq_true rfl) (Nat.le_of_ble_eq_true rfl) dX12_remembers_39 ⟨rfl, rfl, hI, hF, ⟨rfl, fun p hp => g2_2 p (by omega)⟩⟩
      · refine lv_aload_n hx hb dX12_remembers_9 rfl (lv_at hl 1 rfl) ?_
        refine r_get C hw (hsh 49 _ rfl) fl_X12_133 (oV_r rfl (hrm (49, 39, 76) (by decide))) dX12_remembers_10 ?_
        refine lv_iload_n hx hb dX12_remembers_13 rfl (lv_at hl 0 rfl) ?_
        refine lv_aload_n hx hb dX12_remembers_14 rfl (lv_at hl 1 rfl) ?_
        refine r_get C hw (hsh 49 _ rfl) fl_X12_102 (oV_r rfl (hrm (49, 23, 66) (by decide))) dX12_remembers_15 ?_
        refine lv_iload_n hx hb dX12_remembers_18 rfl (lv_at hl 0 rfl) ?_
        refine r_iald C hw (hsh 66 _ rfl) (by omega) (by omega) dX12_remembers_19 (ti_c (ig3 (B + 66) v2.toInt.toNat).toInt rfl fun z6 hz6 => ?_)
        have hF20 := hF
        refine r_iast C hw (hsh 76 _ rfl) (by omega) (by omega) dX12_remembers_20 (fun H locs hH hw => ?_)
        obtain ⟨ig8, eig8⟩ : ∃ f, f = up2 ig3 (B + 76) v2.toInt.toNat z6 := ⟨_, rfl⟩
        rw [← eig8] at hw
        have hF : Ft B [76, 77] ig lg ig8 lg4 := by rw [eig8]; exact hF.pi (by decide)
        have hI : IM τ φ υ B kd ig8 rg := by rw [eig8]; exact hI.pi (by decide) (show okR none _ from trivial)
        refine lv_aload_n hx hb dX12_remembers_21 rfl (lv_at hl 1 rfl) ?_
        refine r_get C hw (hsh 49 _ rfl) fl_X12_136 (oV_r rfl (hrm (49, 40, 77) (by decide))) dX12_remembers_22 ?_
        refine lv_iload_n hx hb dX12_remembers_25 rfl (lv_at hl 0 rfl) ?_
        refine lv_aload_n hx hb dX12_remembers_26 rfl (lv_at hl 1 rfl) ?_
        refine r_get C hw (hsh 49 _ rfl) fl_X12_105 (oV_r rfl (hrm (49, 24, 67) (by decide))) dX12_remembers_27 ?_
        refine lv_iload_n hx hb dX12_remembers_30 rfl (lv_at hl 0 rfl) ?_
        refine r_iald C hw (hsh 67 _ rfl) (by omega) (by omega) dX12_remembers_31 (ti_c (ig8 (B + 67) v2.toInt.toNat).toInt rfl fun z9 hz9 => ?_)
        have hF32 := hF
        refine r_iast C hw (hsh 77 _ rfl) (by omega) (by omega) dX12_remembers_32 (fun H locs hH hw => ?_)
        obtain ⟨ig11, eig11⟩ : ∃ f, f = up2 ig8 (B + 77) v2.toInt.toNat z9 := ⟨_, rfl⟩
        rw [← eig11] at hw
        have hF : Ft B [76, 77] ig lg ig11 lg4 := by rw [eig11]; exact hF.pi (by decide)
        have hI : IM τ φ υ B kd ig11 rg := by rw [eig11]; exact hI.pi (by decide) (show okR none _ from trivial)
        have rm9 : ∀ p, p < v2.toInt.toNat + 1 → ig11 (B + 76) p = ig (B + 66) p ∧ ig11 (B + 77) p = ig (B + 67) p := fun p hp => by
          rw [eig11, up2_a (show B + 76 ≠ B + 77 by omega), eig8]
          by_cases q : p = v2.toInt.toNat
          · rw [q, up2_eq, up2_eq]; exact ⟨i32_inj (by rw [hz6, hF20.i 66 _ (by decide)]), i32_inj (by rw [hz9, hF32.i 67 _ (by decide)])⟩
          · rw [up2_j q, up2_j q, up2_a (show B + 77 ≠ B + 76 by omega)]; exact g2_2 p (by omega)
        refine tc_inc hx hb dX12_remembers_33 hl (k := 0) rfl (by decide) (by decide) (fun z12 hz12 ls hl => ?_)
        first | replace hz12 := hz12 (by omega) | clear hz12
        have hl : lv_has ls 2 [(1, .int z12), (0, .ref (B + 49))] := hl
        refine lv_goto (tgt := 2) hx hb dX12_remembers_36 (by decide) ?_
        exact ih2 ls H locs ig11 lg4 z12 (lv_sub hl [0, 1] rfl) hw hI hF (by omega) (by omega) (fun p hp => rm9 p (by omega)) (by omega)
  exact L2 ((288 - z1.toInt) + 1).toNat ls s.heap [] ig lg z1 (lv_sub hl [0, 1] rfl) hw hI hF (by omega) (by omega) (fun p hp => by omega) (by omega)

set_option maxHeartbeats 4000000 in
set_option maxRecDepth 100000 in
theorem t_X12_tellsE {υ : Option Int} {τ : Tp} {φ : Option Int} (l : Launch) (B : Nat) (D : va_G) (cA : Nat → ClassId) (kd : sK) (ig : sI) (rg : sR) (lg : sG) (sz : Nat)  (hI : IM τ φ υ B kd ig rg) : MC l B D cA yX12_tells cX12_tells 2 (some .int) (rL 0 0 0) [.ref (B + 49)] kd ig rg lg sz (PM τ φ υ B [49, 78] kd ig rg lg (fun r ig' lg' => ∃ z : Int32, r = some (.int z) ∧ z.toInt = (nCh (ig (B + 76)) (ig (B + 77)) (ig (B + 66)) (ig (B + 67)) : Int))) := by
  refine MC.of (own := RX12) (by decide +kernel) rfl (Nat.le_of_ble_eq_true rfl) ?_
  intro p e s m args below meth c ls C hr hlk hnm hw hsz hl
  have hx := C.1.1
  have hb := C.1.2.1
  have hown := C.1.2.2.2.1
  have hts := C.1.2.2.2.2
  have hl : lv_has ls 2 [(0, .ref (B + 49))] := hl
  have hF : Ft B [49, 78] ig lg ig lg := Ft.rf
  have hsh := hI.sh
  have hrm := hI.rm
  refine lv_aload_n hx hb dX12_tells_0 rfl (lv_at hl 0 rfl) ?_
  refine lv_iconst (v := 0) hx hb dX12_tells_1 (by decide) (ti_c 0 (by decide) fun z1 hz1 => ?_)
  refine r_puti C hw (hsh 49 _ rfl) fl_X12_339 rfl rfl rfl dX12_tells_2 (fun H locs hH hw => ?_)
  obtain ⟨ig2, eig2⟩ : ∃ f, f = up2 ig (B + 49) 41 z1 := ⟨_, rfl⟩
  rw [← eig2] at hw
  have hF : Ft B [49, 78] ig lg ig2 lg := by rw [eig2]; exact hF.pi (by decide)
  have hI : IM τ φ υ B kd ig2 rg := by rw [eig2]; exact hI.pi (by decide) (show okR (some (0, 288)) _ from ⟨by show (0 : Int) ≤ _; omega, by show _ ≤ (288 : Int); omega⟩)
  have wig2 : (ig2 (B + 49) 41).toInt = z1.toInt := by rw [eig2, up2_eq]
  refine lv_iconst (v := 0) hx hb dX12_tells_5 (by decide) (ti_c 0 (by decide) fun z3 hz3 => ?_)
  refine lv_istore_n (lv' := [(1, .int z3), (0, .ref (B + 49))]) hx hb dX12_tells_6 rfl hl (by decide) rfl (fun ls hl => ?_)
  have L7 : ∀ (n : Nat) (ls : Array Slot) (H : Heap) (locs : List Loc) (ig5 : sI) (lg6 : sG) (v4 : Int32), lv_has ls 2 [(1, .int v4), (0, .ref (B + 49))] → WD B D cA s.heap kd ig5 rg lg6 H locs → IM τ φ υ B kd ig5 rg → Ft B [49, 78] ig lg ig5 lg6 → (0 ≤ v4.toInt) → (v4.toInt ≤ 288) → ((ig5 (B + 49) 41).toInt = (nTo B ig v4.toInt.toNat : Int)) → 288 - v4.toInt < (n : Int) → W p l e (rL 0 0 0) s m args below meth c H locs 0 0 (MQ below (QcW B D cA (PM τ φ υ B [49, 78] kd ig rg lg (fun r ig' lg' => ∃ z : Int32, r = some (.int z) ∧ z.toInt = (nCh (ig (B + 76)) (ig (B + 77)) (ig (B + 66)) (ig (B + 67)) : Int)))) args s 0 0 (fun q => B ≤ q)) (F0 m 7 ls []) := by
    intro n7
    induction n7 with
    | zero => intro ls H locs ig5 lg6 v4 hl hw hI hF g7_0 g7_1 g7_2 hmu; exact absurd hmu (by omega)
    | succ n7 ih7 =>
      intro ls H locs ig5 lg6 v4 hl hw hI hF g7_0 g7_1 g7_2 hmu
      have nl9 := nTo.le (B := B) (ig := ig) (n := v4.toInt.toNat)
      refine lv_iload_n hx hb dX12_tells_7 rfl (lv_at hl 0 rfl) ?_
      refine lv_sipush (v := 288) hx hb dX12_tells_8 (by decide) (ti_c 288 (by decide) fun z7 hz7 => ?_)
      refine b_ge (tgt := 148) hx hb dX12_tells_11 (by decide) (fun c11 => ?_) (fun c11 => ?_)
      · refine lv_aload_n hx hb dX12_tells_148 rfl (lv_at hl 1 rfl) ?_
        refine r_get C hw (hsh 49 _ rfl) fl_X12_339 (oV_i rfl) dX12_tells_149 (ti_c (ig5 (B + 49) 41).toInt rfl fun z8 hz8 => ?_)
        have k9 : 0 ≤ (ig5 (B + 49) 41).toInt ∧ (ig5 (B + 49) 41).toInt ≤ 288 := hI.i 49 41 (by decide) (by decide)
        exact r_iret C hw hr hlk rfl (Nat.le_of_ble_eq_true rfl) (Nat.le_of_ble_eq_true rfl) dX12_tells_152 ⟨rfl, rfl, hI, hF, ⟨_, rfl, (by show _ = ((nTo B ig 288 : Nat) : Int); rw [show (288 : Nat) = v4.toInt.toNat by omega]; omega)⟩⟩
      · refine lv_aload_n hx hb dX12_tells_14 rfl (lv_at hl 1 rfl) ?_
        refine r_get C hw (hsh 49 _ rfl) fl_X12_133 (oV_r rfl (hrm (49, 39, 76) (by decide))) dX12_tells_15 ?_
        refine lv_iload_n hx hb dX12_tells_18 rfl (lv_at hl 0 rfl) ?_
        refine r_iald C hw (hsh 76 _ rfl) (by omega) (by omega) dX12_tells_19 (ti_c (ig5 (B + 76) v4.toInt.toNat).toInt rfl fun z10 hz10 => ?_)
        have r1 : z10.toInt = (ig (B + 76) v4.toInt.toNat).toInt := by rw [hz10, hF.i 76 _ (by decide)]
        refine lv_aload_n hx hb dX12_tells_20 rfl (lv_at hl 1 rfl) ?_
        refine r_get C hw (hsh 49 _ rfl) fl_X12_102 (oV_r rfl (hrm (49, 23, 66) (by decide))) dX12_tells_21 ?_
        refine lv_iload_n hx hb dX12_tells_24 rfl (lv_at hl 0 rfl) ?_
        refine r_iald C hw (hsh 66 _ rfl) (by omega) (by omega) dX12_tells_25 (ti_c (ig5 (B + 66) v4.toInt.toNat).toInt rfl fun z12 hz12 => ?_)
        have r2 : z12.toInt = (ig (B + 66) v4.toInt.toNat).toInt := by rw [hz12, hF.i 66 _ (by decide)]
        have J44 : ∀ (ls : Array Slot) (H : Heap) (locs : List Loc) (ig14 : sI) (lg15 : sG) , lv_has ls 2 [(1, .int v4), (0, .ref (B + 49))] → WD B D cA s.heap kd ig14 rg lg15 H locs → IM τ φ υ B kd ig14 rg → Ft B [49, 78] ig lg ig14 lg15 → ((ig14 (B + 49) 41).toInt = (nTo B ig v4.toInt.toNat : Int)) → ((nTo B ig (v4.toInt.toNat + 1) : Int) = (nTo B ig v4.toInt.toNat : Int) + 1) → W p l e (rL 0 0 0) s m args below meth c H locs 0 0 (MQ below (QcW B D cA (PM τ φ υ B [49, 78] kd ig rg lg (fun r ig' lg' => ∃ z : Int32, r = some (.int z) ∧ z.toInt = (nCh (ig (B + 76)) (ig (B + 77)) (ig (B + 66)) (ig (B + 67)) : Int)))) args s 0 0 (fun q => B ≤ q)) (F0 m 44 ls []) := by
          intro ls H locs ig14 lg15 hl hw hI hF g44_0 g44_1
          refine lv_aload_n hx hb dX12_tells_44 rfl (lv_at hl 1 rfl) ?_
          refine r_get C hw (hsh 49 _ rfl) fl_X12_139 (oV_r rfl (hrm (49, 42, 78) (by decide))) dX12_tells_45 ?_
          refine lv_iconst (v := 5) hx hb dX12_tells_48 (by decide) (ti_c 5 (by decide) fun z16 hz16 => ?_)
          refine lv_aload_n hx hb dX12_tells_49 rfl (lv_at hl 1 rfl) ?_
          refine r_get C hw (hsh 49 _ rfl) fl_X12_339 (oV_i rfl) dX12_tells_50 (ti_c (ig14 (B + 49) 41).toInt rfl fun z17 hz17 => ?_)
          have k18 : 0 ≤ (ig14 (B + 49) 41).toInt ∧ (ig14 (B + 49) 41).toInt ≤ 288 := hI.i 49 41 (by decide) (by decide)
          refine lv_imul hx hb dX12_tells_53 (tc_mulL 5 hz16 fun z19 hz19 => ?_)
          first | replace hz19 := hz19 (by omega) | clear hz19
          refine lv_iload_n hx hb dX12_tells_54 rfl (lv_at hl 0 rfl) ?_
          refine r_iast C hw (hsh 78 _ rfl) (by omega) (by omega) dX12_tells_55 (fun H locs hH hw => ?_)
          obtain ⟨ig20, eig20⟩ : ∃ f, f = up2 ig14 (B + 78) z19.toInt.toNat v4 := ⟨_, rfl⟩
          rw [← eig20] at hw
          have hF : Ft B [49, 78] ig lg ig20 lg15 := by rw [eig20]; exact hF.pi (by decide)
          have hI : IM τ φ υ B kd ig20 rg := by rw [eig20]; exact hI.pi (by decide) (show okR none _ from trivial)
          have wig20_49_41 : (ig20 (B + 49) 41).toInt = (ig14 (B + 49) 41).toInt := by rw [eig20, up2_a (by omega)]
          refine lv_aload_n hx hb dX12_tells_56 rfl (lv_at hl 1 rfl) ?_
          refine r_get C hw (hsh 49 _ rfl) fl_X12_139 (oV_r rfl (hrm (49, 42, 78) (by decide))) dX12_tells_57 ?_
          refine lv_iconst (v := 5) hx hb dX12_tells_60 (by decide) (ti_c 5 (by decide) fun z21 hz21 => ?_)
          refine lv_aload_n hx hb dX12_tells_61 rfl (lv_at hl 1 rfl) ?_
          refine r_get C hw (hsh 49 _ rfl) fl_X12_339 (oV_i rfl) dX12_tells_62 (ti_c (ig20 (B + 49) 41).toInt rfl fun z22 hz22 => ?_)
          have k23 : 0 ≤ (ig20 (B + 49) 41).toInt ∧ (ig20 (B + 49) 41).toInt ≤ 288 := hI.i 49 41 (by decide) (by decide)
          refine lv_imul hx hb dX12_tells_65 (tc_mulL 5 hz21 fun z24 hz24 => ?_)
          first | replace hz24 := hz24 (by omega) | clear hz24
          refine lv_iconst (v := 1) hx hb dX12_tells_66 (by decide) (ti_c 1 (by decide) fun z25 hz25 => ?_)
          refine lv_iadd hx hb dX12_tells_67 (tc_add fun z26 hz26 => ?_)
          first | replace hz26 := hz26 (by omega) | clear hz26
          refine lv_aload_n hx hb dX12_tells_68 rfl (lv_at hl 1 rfl) ?_
          refine r_get C hw (hsh 49 _ rfl) fl_X12_133 (oV_r rfl (hrm (49, 39, 76) (by decide))) dX12_tells_69 ?_
          refine lv_iload_n hx hb dX12_tells_72 rfl (lv_at hl 0 rfl) ?_
          refine r_iald C hw (hsh 76 _ rfl) (by omega) (by omega) dX12_tells_73 (ti_c (ig20 (B + 76) v4.toInt.toNat).toInt rfl fun z27 hz27 => ?_)
          refine r_iast C hw (hsh 78 _ rfl) (by omega) (by omega) dX12_tells_74 (fun H locs hH hw => ?_)
          obtain ⟨ig29, eig29⟩ : ∃ f, f = up2 ig20 (B + 78) z26.toInt.toNat z27 := ⟨_, rfl⟩
          rw [← eig29] at hw
          have hF : Ft B [49, 78] ig lg ig29 lg15 := by rw [eig29]; exact hF.pi (by decide)
          have hI : IM τ φ υ B kd ig29 rg := by rw [eig29]; exact hI.pi (by decide) (show okR none _ from trivial)
          have wig29_49_41 : (ig29 (B + 49) 41).toInt = (ig20 (B + 49) 41).toInt := by rw [eig29, up2_a (by omega)]
          refine lv_aload_n hx hb dX12_tells_75 rfl (lv_at hl 1 rfl) ?_
          refine r_get C hw (hsh 49 _ rfl) fl_X12_139 (oV_r rfl (hrm (49, 42, 78) (by decide))) dX12_tells_76 ?_
          refine lv_iconst (v := 5) hx hb dX12_tells_79 (by decide) (ti_c 5 (by decide) fun z30 hz30 => ?_)
          refine lv_aload_n hx hb dX12_tells_80 rfl (lv_at hl 1 rfl) ?_
          refine r_get C hw (hsh 49 _ rfl) fl_X12_339 (oV_i rfl) dX12_tells_81 (ti_c (ig29 (B + 49) 41).toInt rfl fun z31 hz31 => ?_)
          have k32 : 0 ≤ (ig29 (B + 49) 41).toInt ∧ (ig29 (B + 49) 41).toInt ≤ 288 := hI.i 49 41 (by decide) (by decide)
          refine lv_imul hx hb dX12_tells_84 (tc_mulL 5 hz30 fun z33 hz33 => ?_)
          first | replace hz33 := hz33 (by omega) | clear hz33
          refine lv_iconst (v := 2) hx hb dX12_tells_85 (by decide) (ti_c 2 (by decide) fun z34 hz34 => ?_)
          refine lv_iadd hx hb dX12_tells_86 (tc_add fun z35 hz35 => ?_)
          first | replace hz35 := hz35 (by omega) | clear hz35
          refine lv_aload_n hx hb dX12_tells_87 rfl (lv_at hl 1 rfl) ?_
          refine r_get C hw (hsh 49 _ rfl) fl_X12_102 (oV_r rfl (hrm (49, 23, 66) (by decide))) dX12_tells_88 ?_
          refine lv_iload_n hx hb dX12_tells_91 rfl (lv_at hl 0 rfl) ?_
          refine r_iald C hw (hsh 66 _ rfl) (by omega) (by omega) dX12_tells_92 (ti_c (ig29 (B + 66) v4.toInt.toNat).toInt rfl fun z36 hz36 => ?_)
          refine r_iast C hw (hsh 78 _ rfl) (by omega) (by omega) dX12_tells_93 (fun H locs hH hw => ?_)
          obtain ⟨ig38, eig38⟩ : ∃ f, f = up2 ig29 (B + 78) z35.toInt.toNat z36 := ⟨_, rfl⟩
          rw [← eig38] at hw
          have hF : Ft B [49, 78] ig lg ig38 lg15 := by rw [eig38]; exact hF.pi (by decide)
          have hI : IM τ φ υ B kd ig38 rg := by rw [eig38]; exact hI.pi (by decide) (show okR none _ from trivial)
          have wig38_49_41 : (ig38 (B + 49) 41).toInt = (ig29 (B + 49) 41).toInt := by rw [eig38, up2_a (by omega)]
          refine lv_aload_n hx hb dX12_tells_94 rfl (lv_at hl 1 rfl) ?_
          refine r_get C hw (hsh 49 _ rfl) fl_X12_139 (oV_r rfl (hrm (49, 42, 78) (by decide))) dX12_tells_95 ?_
          refine lv_iconst (v := 5) hx hb dX12_tells_98 (by decide) (ti_c 5 (by decide) fun z39 hz39 => ?_)
          refine lv_aload_n hx hb dX12_tells_99 rfl (lv_at hl 1 rfl) ?_
          refine r_get C hw (hsh 49 _ rfl) fl_X12_339 (oV_i rfl) dX12_tells_100 (ti_c (ig38 (B + 49) 41).toInt rfl fun z40 hz40 => ?_)
          have k41 : 0 ≤ (ig38 (B + 49) 41).toInt ∧ (ig38 (B + 49) 41).toInt ≤ 288 := hI.i 49 41 (by decide) (by decide)
          refine lv_imul hx hb dX12_tells_103 (tc_mulL 5 hz39 fun z42 hz42 => ?_)
          first | replace hz42 := hz42 (by omega) | clear hz42
          refine lv_iconst (v := 3) hx hb dX12_tells_104 (by decide) (ti_c 3 (by decide) fun z43 hz43 => ?_)
          refine lv_iadd hx hb dX12_tells_105 (tc_add fun z44 hz44 => ?_)
          first | replace hz44 := hz44 (by omega) | clear hz44
          refine lv_aload_n hx hb dX12_tells_106 rfl (lv_at hl 1 rfl) ?_
          refine r_get C hw (hsh 49 _ rfl) fl_X12_136 (oV_r rfl (hrm (49, 40, 77) (by decide))) dX12_tells_107 ?_
          refine lv_iload_n hx hb dX12_tells_110 rfl (lv_at hl 0 rfl) ?_
          refine r_iald C hw (hsh 77 _ rfl) (by omega) (by omega) dX12_tells_111 (ti_c (ig38 (B + 77) v4.toInt.toNat).toInt rfl fun z45 hz45 => ?_)
          refine r_iast C hw (hsh 78 _ rfl) (by omega) (by omega) dX12_tells_112 (fun H locs hH hw => ?_)
          obtain ⟨ig47, eig47⟩ : ∃ f, f = up2 ig38 (B + 78) z44.toInt.toNat z45 := ⟨_, rfl⟩
          rw [← eig47] at hw
          have hF : Ft B [49, 78] ig lg ig47 lg15 := by rw [eig47]; exact hF.pi (by decide)
          have hI : IM τ φ υ B kd ig47 rg := by rw [eig47]; exact hI.pi (by decide) (show okR none _ from trivial)
          have wig47_49_41 : (ig47 (B + 49) 41).toInt = (ig38 (B + 49) 41).toInt := by rw [eig47, up2_a (by omega)]
          refine lv_aload_n hx hb dX12_tells_113 rfl (lv_at hl 1 rfl) ?_
          refine r_get C hw (hsh 49 _ rfl) fl_X12_139 (oV_r rfl (hrm (49, 42, 78) (by decide))) dX12_tells_114 ?_
          refine lv_iconst (v := 5) hx hb dX12_tells_117 (by decide) (ti_c 5 (by decide) fun z48 hz48 => ?_)
          refine lv_aload_n hx hb dX12_tells_118 rfl (lv_at hl 1 rfl) ?_
          refine r_get C hw (hsh 49 _ rfl) fl_X12_339 (oV_i rfl) dX12_tells_119 (ti_c (ig47 (B + 49) 41).toInt rfl fun z49 hz49 => ?_)
          have k50 : 0 ≤ (ig47 (B + 49) 41).toInt ∧ (ig47 (B + 49) 41).toInt ≤ 288 := hI.i 49 41 (by decide) (by decide)
          refine lv_imul hx hb dX12_tells_122 (tc_mulL 5 hz48 fun z51 hz51 => ?_)
          first | replace hz51 := hz51 (by omega) | clear hz51
          refine lv_iconst (v := 4) hx hb dX12_tells_123 (by decide) (ti_c 4 (by decide) fun z52 hz52 => ?_)
          refine lv_iadd hx hb dX12_tells_124 (tc_add fun z53 hz53 => ?_)
          first | replace hz53 := hz53 (by omega) | clear hz53
          refine lv_aload_n hx hb dX12_tells_125 rfl (lv_at hl 1 rfl) ?_
          refine r_get C hw (hsh 49 _ rfl) fl_X12_105 (oV_r rfl (hrm (49, 24, 67) (by decide))) dX12_tells_126 ?_
          refine lv_iload_n hx hb dX12_tells_129 rfl (lv_at hl 0 rfl) ?_
          refine r_iald C hw (hsh 67 _ rfl) (by omega) (by omega) dX12_tells_130 (ti_c (ig47 (B + 67) v4.toInt.toNat).toInt rfl fun z54 hz54 => ?_)
          refine r_iast C hw (hsh 78 _ rfl) (by omega) (by omega) dX12_tells_131 (fun H locs hH hw => ?_)
          obtain ⟨ig56, eig56⟩ : ∃ f, f = up2 ig47 (B + 78) z53.toInt.toNat z54 := ⟨_, rfl⟩
          rw [← eig56] at hw
          have hF : Ft B [49, 78] ig lg ig56 lg15 := by rw [eig56]; exact hF.pi (by decide)
          have hI : IM τ φ υ B kd ig56 rg := by rw [eig56]; exact hI.pi (by decide) (show okR none _ from trivial)
          have wig56_49_41 : (ig56 (B + 49) 41).toInt = (ig47 (B + 49) 41).toInt := by rw [eig56, up2_a (by omega)]
          refine lv_aload_n hx hb dX12_tells_132 rfl (lv_at hl 1 rfl) ?_
          refine lv_dup hx hb dX12_tells_133 rfl ?_
          refine r_get C hw (hsh 49 _ rfl) fl_X12_339 (oV_i rfl) dX12_tells_134 (ti_c (ig56 (B + 49) 41).toInt rfl fun z57 hz57 => ?_)
          have k58 : 0 ≤ (ig56 (B + 49) 41).toInt ∧ (ig56 (B + 49) 41).toInt ≤ 288 := hI.i 49 41 (by decide) (by decide)
          refine lv_iconst (v := 1) hx hb dX12_tells_137 (by decide) (ti_c 1 (by decide) fun z59 hz59 => ?_)
          refine lv_iadd hx hb dX12_tells_138 (tc_add fun z60 hz60 => ?_)
          first | replace hz60 := hz60 (by omega) | clear hz60
          refine r_puti C hw (hsh 49 _ rfl) fl_X12_339 rfl rfl rfl dX12_tells_139 (fun H locs hH hw => ?_)
          obtain ⟨ig61, eig61⟩ : ∃ f, f = up2 ig56 (B + 49) 41 z60 := ⟨_, rfl⟩
          rw [← eig61] at hw
          have hF : Ft B [49, 78] ig lg ig61 lg15 := by rw [eig61]; exact hF.pi (by decide)
          have hI : IM τ φ υ B kd ig61 rg := by rw [eig61]; exact hI.pi (by decide) (show okR (some (0, 288)) _ from ⟨by show (0 : Int) ≤ _; omega, by show _ ≤ (288 : Int); omega⟩)
          have wig61 : (ig61 (B + 49) 41).toInt = z60.toInt := by rw [eig61, up2_eq]
          refine tc_inc hx hb dX12_tells_142 hl (k := 0) rfl (by decide) (by decide) (fun z62 hz62 ls hl => ?_)
          first | replace hz62 := hz62 (by omega) | clear hz62
          have hl : lv_has ls 2 [(1, .int z62), (0, .ref (B + 49))] := hl
          refine lv_goto (tgt := 7) hx hb dX12_tells_145 (by decide) ?_
          exact ih7 ls H locs ig61 lg15 z62 (lv_sub hl [0, 1] rfl) hw hI hF (by omega) (by omega) (by rw [show z62.toInt.toNat = v4.toInt.toNat + 1 by omega]; omega) (by omega)
        refine b_ne (tgt := 44) hx hb dX12_tells_26 (by decide) (fun c26 => ?_) (fun c26 => ?_)
        · exact J44 ls H locs ig5 lg6 (lv_sub hl [0, 1] rfl) hw hI hF (by omega) (by rw [nTo.s, if_neg (fun q => by have w1 := congrArg Int32.toInt q.1; omega)]; omega)
        · refine lv_aload_n hx hb dX12_tells_29 rfl (lv_at hl 1 rfl) ?_
          refine r_get C hw (hsh 49 _ rfl) fl_X12_136 (oV_r rfl (hrm (49, 40, 77) (by decide))) dX12_tells_30 ?_
          refine lv_iload_n hx hb dX12_tells_33 rfl (lv_at hl 0 rfl) ?_
          refine r_iald C hw (hsh 77 _ rfl) (by omega) (by omega) dX12_tells_34 (ti_c (ig5 (B + 77) v4.toInt.toNat).toInt rfl fun z63 hz63 => ?_)
          have r3 : z63.toInt = (ig (B + 77) v4.toInt.toNat).toInt := by rw [hz63, hF.i 77 _ (by decide)]
          refine lv_aload_n hx hb dX12_tells_35 rfl (lv_at hl 1 rfl) ?_
          refine r_get C hw (hsh 49 _ rfl) fl_X12_105 (oV_r rfl (hrm (49, 24, 67) (by decide))) dX12_tells_36 ?_
          refine lv_iload_n hx hb dX12_tells_39 rfl (lv_at hl 0 rfl) ?_
          refine r_iald C hw (hsh 67 _ rfl) (by omega) (by omega) dX12_tells_40 (ti_c (ig5 (B + 67) v4.toInt.toNat).toInt rfl fun z65 hz65 => ?_)
          have r4 : z65.toInt = (ig (B + 67) v4.toInt.toNat).toInt := by rw [hz65, hF.i 67 _ (by decide)]
          refine b_eq (tgt := 142) hx hb dX12_tells_41 (by decide) (fun c41 => ?_) (fun c41 => ?_)
          · refine tc_inc hx hb dX12_tells_142 hl (k := 0) rfl (by decide) (by decide) (fun z67 hz67 ls hl => ?_)
            first | replace hz67 := hz67 (by omega) | clear hz67
            have hl : lv_has ls 2 [(1, .int z67), (0, .ref (B + 49))] := hl
            refine lv_goto (tgt := 7) hx hb dX12_tells_145 (by decide) ?_
            exact ih7 ls H locs ig5 lg6 z67 (lv_sub hl [0, 1] rfl) hw hI hF (by omega) (by omega) (by rw [show z67.toInt.toNat = v4.toInt.toNat + 1 by omega, nTo.s, if_pos ⟨i32_inj (by omega), i32_inj (by omega)⟩]; omega) (by omega)
          · exact J44 ls H locs ig5 lg6 (lv_sub hl [0, 1] rfl) hw hI hF (by omega) (by rw [nTo.s, if_neg (fun q => by have w1 := congrArg Int32.toInt q.2; omega)]; omega)
  exact L7 ((288 - z3.toInt) + 1).toNat ls H locs ig2 lg z3 (lv_sub hl [0, 1] rfl) hw hI hF (by omega) (by omega) (by rw [show z3.toInt.toNat = 0 by omega]; show _ = ((0 : Nat) : Int); omega) (by omega)
