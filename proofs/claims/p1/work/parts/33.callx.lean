/-! a call of a method that may throw, over the world -/
section CALLX
variable {p : Program} {l : Launch} {e : Env} {R : Room} {s : State} {m : MethodId} {args : Array Value} {below : List Frame} {meth : Method} {c : Code} {H : Heap} {locs : List Loc} {cells slots : Nat} {Q : State → Prop}
variable {cc : ByteArray} {pc : Nat} {ls : Array Slot} {rest : List Value} {B sa : Nat} {D : va_G} {cA : Nat → ClassId} {kd : sK} {ig : sI} {rg : sR} {lg : sG} {own : String} {nL : Nat} {N : Prop}
variable {y : MethodName} {cb : ByteArray} {maxL na index : Nat} {ret : Option FieldType} {rm : Room} {As st : List Value} {Post : aP}
theorem r_goesX {g : JFrame} {av : List Value} (hw : WD B D cA s.heap kd ig rg lg H locs) (hr : vx_Run p l e R s m args below meth c H locs cells slots rm.cells rm.slots g rest (QcW B D cA Post av.toArray) (XcW B D cA kd ig rg lg N) (fun q => B ≤ q))
    (kx : ∀ (ce : Cell) (q : Addr) (H' : Heap) (locs' : List Loc), ¬ N → WD B D cA s.heap kd ig rg lg H' locs' → H.size ≤ H'.size → H'[q]? = some ce → ce.vm = .none → s.vm.findClass NSE = some ce.cls → vx_W p l e R s m args below meth c H' locs' (cells + rm.cells) (slots + rm.slots) Q { g with stack := rest } q)
    (kk : ∀ (r : Option Value) (kd' : sK) (ig' : sI) (rg' : sR) (lg' : sG) (H' : Heap) (locs' : List Loc), WD B D cA s.heap kd' ig' rg' lg' H' locs' → H.size ≤ H'.size → Post r kd' ig' rg' lg' H'.size → W p l e R s m args below meth c H' locs' (cells + rm.cells) (slots + rm.slots) Q { g with pc := g.pc + 3, stack := r.toList ++ rest }) : W p l e R s m args below meth c H locs cells slots Q g := by
  intro T hT X
  have far : ∀ {t T' st₀ : State} {L : List Loc}, st₀.heap = H → T'.heap = t.heap → (∀ q ∈ L, B ≤ q.base) → st₀.heap.size ≤ t.heap.size → (∀ q : Nat, q < B → t.heap[q]? = st₀.heap[q]?) → va_S (fun q => B ≤ q) s.heap T'.heap (locs ++ L) ∧ H.size ≤ T'.heap.size := by
    intro t T' st₀ L h0 e1 hL hz hk
    rw [h0] at hz hk
    exact ⟨⟨Nat.le_trans hw.2.2.1.1 (by rw [e1]; exact hz), fun q h1 h2 => by rw [e1, hk q (Nat.not_le.mp h2)]; exact hw.2.2.1.2.1 q h1 h2, fun q hq => (List.mem_append.mp hq).elim (hw.2.2.1.2.2 q) (hL q)⟩, by rw [e1]; exact hz⟩
  rcases hr T hT X with ⟨v, st₀, t, T', L, h0, X', hL, e1, e2, ⟨r, kd', ig', rg', lg', hv, hP', hD', hz, hk, hpost⟩, st⟩ | ⟨q, st₀, t, T', L, E, ce, h0, X', hL, e1, e2, ⟨hE, hN, hP', hz, hk⟩, hce, hcv, hcl, st⟩
  · cases hv
    obtain ⟨f1, f2⟩ := far h0 e1 hL hz hk
    obtain ⟨t2, a1, b1⟩ := kk v kd' ig' rg' lg' T'.heap (locs ++ L) ⟨by rw [e1]; exact hP', hD', f1, hw.2.2.2⟩ f2 (by rw [e1]; exact hpost) T' rfl X'
    exact ⟨t2, st t2 a1, b1⟩
  · obtain ⟨f1, f2⟩ := far h0 e1 hL hz hk
    obtain ⟨t2, a1, b1⟩ := kx ce q T'.heap (locs ++ L) hN ⟨by rw [e1]; exact hP', hw.2.1, f1, hw.2.2.2⟩ f2 (by rw [e1]; exact hce) hcv (by rw [← hE]; exact hcl) T' rfl X'
    exact ⟨t2, st.trans a1, b1⟩
theorem KX.keep {U V : State} (hv : U.WarmedH V.vm) (hq : ∀ a : Nat, a < U.heap.size → ¬ B ≤ a → V.heap[a]? = U.heap[a]?) (h : KX B sa U) : KX B sa V := by
  obtain ⟨h1, h2, h3, h4⟩ := h
  refine ⟨fun w hw => ?_, vk_R.warm hv h2, vx_Zq.moved hv.alike (h3.kept hq), vx_Zq.moved hv.alike (h4.kept hq)⟩
  have h9 := h1 w hw
  simp only [NSw, List.mem_cons, List.not_mem_nil, or_false] at hw
  rcases hw with e | e | e | e
  · subst e; exact va_Nw.warmC hv h9
  · subst e; exact va_Nw.warmD hv h9
  · subst e; exact va_Nw.warmD hv h9
  · subst e; exact va_Nw.warmD hv h9
theorem KX.same {U V : State} (hv : V.vm = U.vm) (hh : V.heap = U.heap) (h : KX B sa U) : KX B sa V := by
  obtain ⟨h1, h2, h3, h4⟩ := h
  exact ⟨fun w hw => va_Nw.same (NSw_t w hw) hv.symm (h1 w hw), vk_R.same hv h2, by rw [hh]; exact vx_Zq.moved (hv ▸ Vm.Alike.refl _) h3, by rw [hh]; exact vx_Zq.moved (hv ▸ Vm.Alike.refl _) h4⟩
theorem PcX.blind {av : List Value} {sz : Nat} : FrameBlind (PcX B D cA sa av kd ig rg lg sz) := fun a U g mk h => ⟨PcW.blind a U g mk h.1, KX.same (U := U) rfl rfl h.2⟩
theorem PcX.pre (C : Cx p m c cc nL s args own D cA) (hK : KX B sa s) (hw : WD B D cA s.heap kd ig rg lg H locs) {av : List Value} : ∀ U : State, U.heap = H → s.WarmedH U.vm → PcX B D cA sa av kd ig rg lg H.size av.toArray U := fun U hU hW => ⟨PcW.pre C hw U hU hW, KX.keep hW (fun a h1 h2 => by rw [hU]; exact hw.2.2.1.2.1 a h1 h2) hK⟩
theorem r_callX (C : Cx p m c cc nL s args own D cA) (hK : KX B sa s) (hw : WD B D cA s.heap kd ig rg lg H locs) {k b nb : Nat} (hM : MX l B D cA sa y cb maxL ret rm (.ref b :: As) kd ig rg lg H.size N Post) (sv : SV own index k y cb maxL ret na) (hkb : kd b = some (k, nb)) (hn : As.length = na) (hsize : ls.size = nL) (hst : st = As.reverse ++ .ref b :: rest) (hrest : (rest.map fun v => v.category).sum ≤ 8) (hR : rm.frames + 1 ≤ R.frames ∧ 8 + (maxL + 11) + rm.locals ≤ R.locals) (hf : cells + rm.cells ≤ R.cells ∧ slots + rm.slots ≤ R.slots) (hdg : decode cc pc = .ok (.invokevirtual index, 3))
    (kx : ∀ (ce : Cell) (q : Addr) (H' : Heap) (locs' : List Loc), ¬ N → WD B D cA s.heap kd ig rg lg H' locs' → H.size ≤ H'.size → H'[q]? = some ce → ce.vm = .none → s.vm.findClass NSE = some ce.cls → vx_W p l e R s m args below meth c H' locs' (cells + rm.cells) (slots + rm.slots) Q (F0 m pc ls rest) q)
    (kk : ∀ (r : Option Value) (kd' : sK) (ig' : sI) (rg' : sR) (lg' : sG) (H' : Heap) (locs' : List Loc), WD B D cA s.heap kd' ig' rg' lg' H' locs' → H.size ≤ H'.size → Post r kd' ig' rg' lg' H'.size → W p l e R s m args below meth c H' locs' (cells + rm.cells) (slots + rm.slots) Q (F0 m (pc + 3) ls (r.toList ++ rest))) : W p l e R s m args below meth c H locs cells slots Q (F0 m pc ls st) := by
  obtain ⟨s1, s2, s3, s4, s5, ⟨q, s6, s6'⟩, s7, s8, s9, s10⟩ := sv
  have hob := hw.1 b k nb hkb
  unfold PWat at hob
  rw [if_pos s7] at hob
  obtain ⟨cellB, g1, g2, g3, -⟩ := hob
  refine r_goesX hw (vx_runV (C := y.cls) (bytes := cb) (maxL := maxL) (ret := ret) (n := na) (index := index) C.1 hM (cwV na C.1.2.2.2.2 (TBg_all ?_) rfl rfl rfl ⟨rfl, s8, s9, s10⟩ hR) ⟨PcX.blind, ⟨cellB, g1, by rw [g3]; rfl, ?_⟩, PcX.pre C hK hw⟩ rfl hn hsize hst (lv_room hrest) hdg hf) kx kk
  · intro w hw
    simp only [wsV, List.mem_append, List.mem_cons, List.not_mem_nil, or_false] at hw
    rcases hw with (rfl | rfl | rfl | rfl) | rfl | h
    · exact s1
    · exact s2
    · exact s3
    · exact s4
    · exact s5
    · exact h
  · rw [g2, ← s6']
    exact (C.2.1.1 k q s6).2.1
end CALLX
