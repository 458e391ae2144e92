/-! CONTRACTS over the world, calls, returns, numbers -/
abbrev aP : Type := Option Value → sK → sI → sR → sG → Nat → Prop
def PcW (B : Nat) (D : va_G) (cA : Nat → ClassId) (av : List Value) (kd : sK) (ig : sI) (rg : sR) (lg : sG) (sz : Nat) : Array Value → State → Prop := fun v U => v = av.toArray ∧ KN B D cA U ∧ PW D cA kd ig rg lg U.heap ∧ (∀ a, kd a ≠ none → B ≤ a) ∧ B ≤ U.heap.size ∧ U.heap.size = sz
def QcW (B : Nat) (D : va_G) (cA : Nat → ClassId) (Post : aP) : Array Value → State → Outcome → State → Prop := fun _ st oc t => ∃ (r : Option Value) (kd : sK) (ig : sI) (rg : sR) (lg : sG), oc = .returned r ∧ PW D cA kd ig rg lg t.heap ∧ (∀ a, kd a ≠ none → B ≤ a) ∧ st.heap.size ≤ t.heap.size ∧ (∀ q : Nat, q < B → t.heap[q]? = st.heap[q]?) ∧ Post r kd ig rg lg t.heap.size
def MC (l : Launch) (B : Nat) (D : va_G) (cA : Nat → ClassId) (y : MethodName) (cc : ByteArray) (maxL : Nat) (ret : Option FieldType) (rm : Room) (av : List Value) (kd : sK) (ig : sI) (rg : sR) (lg : sG) (sz : Nat) (Post : aP) : Prop :=
  Met l y (Cond.code y cc maxL ret :: TBg) rm (PcW B D cA av kd ig rg lg sz) (QcW B D cA Post) rm.cells rm.slots (fun q => B ≤ q)
/-- nothing is changed -/
def Pu (kd : sK) (ig : sI) (rg : sR) (lg : sG) (sz : Nat) (P : Option Value → Prop) : aP := fun r kd' ig' rg' lg' n => kd = kd' ∧ ig = ig' ∧ rg = rg' ∧ lg = lg' ∧ n = sz ∧ P r
def rL (d mc ms : Nat) : Room := { frames := d, cells := mc, slots := ms, locals := 64 * d + 32 }
theorem MC.of {l : Launch} {B : Nat} {D : va_G} {cA : Nat → ClassId} {y : MethodName} {cc : ByteArray} {maxL : Nat} {ret : Option FieldType} {rm : Room} {av : List Value} {kd : sK} {ig : sI} {rg : sR} {lg : sG} {sz : Nat} {Post : aP} {own : String} (hy : plainName y.cls = true) (ho : y.cls = own) (hav : (lg_sl av).length ≤ maxL)
    (body : ∀ (p : Program) (e : Env) (s : State) (m : MethodId) (args : Array Value) (below : List Frame) (meth : Method) (c : Code) (ls : Array Slot), Cx p m c cc maxL s args own B D cA → meth.sig.returnType = ret → meth.locks = false → meth.name = y.name → WD B D cA s.heap kd ig rg lg s.heap [] → s.heap.size = sz → lv_has ls maxL (lv_args 0 av) →
      W p l e rm s m args below meth c s.heap [] 0 0 (MQ below (QcW B D cA Post) args s rm.cells rm.slots (fun q => B ≤ q)) (F0 m 0 ls [])) : MC l B D cA y cc maxL ret rm av kd ig rg lg sz Post := by
  refine Met.ofW (cc := cc) (maxL := maxL) (ret := ret) hy rfl ?_
  intro p e s m args below meth c s₁ Bd hml hv
  obtain ⟨rfl, hK, hP, hdm, hBs, hsz⟩ := hv
  have hts := atoms_spec (ws := Cond.code y cc maxL ret :: TBg) Bd.pre
  have hown : s.vm.findClass own = some m.cls := ho ▸ findClass_of_methodNamed Bd.named
  have hl := lv_entry av (n := maxL) hav
  rw [lg_entry_eq]
  exact body p e s m av.toArray below meth c _ ⟨⟨Bd.exec, Bd.bytes, hml, hown, fun w h => hts w (List.mem_cons_of_mem _ h)⟩, hK⟩ Bd.returns Bd.notSynchronized (name_of_methodNamed Bd.named Bd.method).1 ⟨hP, hdm, va_S.rf, hBs⟩ hsz hl
section CALLS
variable {p : Program} {l : Launch} {e : Env} {R : Room} {s : State} {m : MethodId} {args : Array Value} {below : List Frame} {meth : Method} {c : Code} {H : Heap} {locs : List Loc} {cells slots : Nat} {Q : State → Prop}
variable {cc : ByteArray} {pc : Nat} {ls : Array Slot} {rest : List Value} {B : Nat} {D : va_G} {cA : Nat → ClassId} {kd : sK} {ig : sI} {rg : sR} {lg : sG} {own : String} {nL : Nat}
variable {y : MethodName} {cb : ByteArray} {maxL na index : Nat} {ret : Option FieldType} {rm : Room} {As st : List Value} {Post : aP}
theorem r_goes {g : JFrame} {av : List Value} (hw : WD B D cA s.heap kd ig rg lg H locs) (hr : va_Run p l e R s m args below meth c H locs cells slots rm.cells rm.slots g rest (QcW B D cA Post av.toArray) (fun q => B ≤ q))
    (kk : ∀ (r : Option Value) (kd' : sK) (ig' : sI) (rg' : sR) (lg' : sG) (H' : Heap) (locs' : List Loc), WD B D cA s.heap kd' ig' rg' lg' H' locs' → H.size ≤ H'.size → Post r kd' ig' rg' lg' H'.size → W p l e R s m args below meth c H' locs' (cells + rm.cells) (slots + rm.slots) Q { g with pc := g.pc + 3, stack := r.toList ++ rest }) : W p l e R s m args below meth c H locs cells slots Q g := by
  intro T hT X
  obtain ⟨v, st₀, t, T', L, h0, X', hL, e1, e2, ⟨r, kd', ig', rg', lg', hv, hP', hD', hz, hk, hpost⟩, st⟩ := hr T hT X
  cases hv
  rw [h0] at hz hk
  have hB := hw.size
  obtain ⟨t2, a1, b1⟩ := kk v kd' ig' rg' lg' T'.heap (locs ++ L) ⟨by rw [e1]; exact hP', hD', ⟨Nat.le_trans hw.2.2.1.1 (by rw [e1]; exact hz), fun q h1 h2 => by rw [e1, hk q (Nat.not_le.mp h2)]; exact hw.2.2.1.2.1 q h1 h2, fun q hq => (List.mem_append.mp hq).elim (hw.2.2.1.2.2 q) (hL q)⟩, hw.2.2.2⟩ (by rw [e1]; exact hz) (by rw [e1]; exact hpost) T' rfl X'
  exact ⟨t2, st t2 a1, b1⟩
theorem PcW.blind {av : List Value} {sz : Nat} : FrameBlind (PcW B D cA av kd ig rg lg sz) := fun a U g mk h => ⟨h.1, KN.same (s := U) rfl rfl h.2.1, h.2.2.1, h.2.2.2.1, h.2.2.2.2.1, h.2.2.2.2.2⟩
theorem PcW.pre (C : Cx p m c cc nL s args own B D cA) (hw : WD B D cA s.heap kd ig rg lg H locs) {av : List Value} : ∀ U : State, U.heap = H → s.WarmedH U.vm → PcW B D cA av kd ig rg lg H.size av.toArray U := fun U hU hW => ⟨rfl, KN.warm hW (fun a h1 h2 => by rw [hU]; exact hw.2.2.1.2.1 a h1 h2) C.2, by rw [hU]; exact hw.1, hw.2.1, by rw [hU]; exact hw.size, by rw [hU]⟩
theorem r_callV (C : Cx p m c cc nL s args own B D cA) (hw : WD B D cA s.heap kd ig rg lg H locs) {k b nb : Nat} (hM : MC l B D cA y cb maxL ret rm (.ref b :: As) kd ig rg lg H.size Post) (sv : SV own index k y cb maxL ret na) (hkb : kd b = some (k, nb)) (hn : As.length = na) (hsize : ls.size = nL) (hst : st = As.reverse ++ .ref b :: rest) (hrest : (rest.map fun v => v.category).sum ≤ 8) (hR : rm.frames + 1 ≤ R.frames ∧ 8 + (maxL + 11) + rm.locals ≤ R.locals) (hf : cells + rm.cells ≤ R.cells ∧ slots + rm.slots ≤ R.slots) (hdg : decode cc pc = .ok (.invokevirtual index, 3))
    (kk : ∀ (r : Option Value) (kd' : sK) (ig' : sI) (rg' : sR) (lg' : sG) (H' : Heap) (locs' : List Loc), WD B D cA s.heap kd' ig' rg' lg' H' locs' → H.size ≤ H'.size → Post r kd' ig' rg' lg' H'.size → W p l e R s m args below meth c H' locs' (cells + rm.cells) (slots + rm.slots) Q (F0 m (pc + 3) ls (r.toList ++ rest))) : W p l e R s m args below meth c H locs cells slots Q (F0 m pc ls st) := by
  obtain ⟨s1, s2, s3, s4, s5, ⟨q, s6, s6'⟩, s7, s8, s9, s10⟩ := sv
  have hob := hw.1 b k nb hkb
  unfold PWat at hob
  rw [if_pos s7] at hob
  obtain ⟨cellB, g1, g2, g3, -⟩ := hob
  refine r_goes hw (va_runV (C := y.cls) (bytes := cb) (maxL := maxL) (ret := ret) (n := na) (index := index) C.1 hM (cwV na C.1.2.2.2.2 (TBg_all ?_) rfl rfl rfl ⟨rfl, s8, s9, s10⟩ hR) ⟨PcW.blind, ⟨cellB, g1, by rw [g3]; rfl, ?_⟩, PcW.pre C hw⟩ rfl hn hsize hst (lv_room hrest) hdg hf) kk
  · intro w hw
    simp only [wsV, List.mem_append, List.mem_cons, List.not_mem_nil, or_false] at hw
    rcases hw with (rfl | rfl | rfl | rfl) | rfl | h
    · exact s1
    · exact s2
    · exact s3
    · exact s4
    · exact s5
    · exact h
  · rw [g2, ← s6']
    exact (C.2.1.1 k q s6).2.1
theorem r_callS (C : Cx p m c cc nL s args own B D cA) (hw : WD B D cA s.heap kd ig rg lg H locs) (hM : MC l B D cA y cb maxL ret rm As kd ig rg lg H.size Post) (sv : SS own index y cb maxL ret na) (hn : As.length = na) (hsize : ls.size = nL) (hst : st = As.reverse ++ rest) (hrest : (rest.map fun v => v.category).sum ≤ 8) (hR : rm.frames + 1 ≤ R.frames ∧ 8 + (maxL + 11) + rm.locals ≤ R.locals) (hf : cells + rm.cells ≤ R.cells ∧ slots + rm.slots ≤ R.slots) (hdg : decode cc pc = .ok (.invokestatic index, 3))
    (kk : ∀ (r : Option Value) (kd' : sK) (ig' : sI) (rg' : sR) (lg' : sG) (H' : Heap) (locs' : List Loc), WD B D cA s.heap kd' ig' rg' lg' H' locs' → H.size ≤ H'.size → Post r kd' ig' rg' lg' H'.size → W p l e R s m args below meth c H' locs' (cells + rm.cells) (slots + rm.slots) Q (F0 m (pc + 3) ls (r.toList ++ rest))) : W p l e R s m args below meth c H locs cells slots Q (F0 m pc ls st) := by
  obtain ⟨s1, s2, s3, s5, s8, s9, s10⟩ := sv
  refine r_goes hw (va_runS (bytes := cb) (maxL := maxL) (ret := ret) (n := na) (index := index) C.1 hM (va_cwS na C.1.2.2.2.2 (TBg_all ?_) rfl rfl rfl ⟨s8, s9, s10⟩ hR) ⟨PcW.blind, PcW.pre C hw⟩ rfl hn hsize hst (lv_room hrest) hdg hf) kk
  intro w hw
  simp only [va_wsS, List.mem_append, List.mem_cons, List.not_mem_nil, or_false] at hw
  rcases hw with (rfl | rfl | rfl) | rfl | h
  · exact s1
  · exact s2
  · exact s3
  · exact s5
  · exact h
theorem r_callN {host : String} (C : Cx p m c cc nL s args own B D cA) (hw : WD B D cA s.heap kd ig rg lg H locs) (hM : MC l B D cA y cb maxL ret rm As kd ig rg lg H.size Post) (sv : SN own index y host cb maxL ret na) (hn : As.length = na) (hsize : ls.size = nL) (hst : st = As.reverse ++ rest) (hrest : (rest.map fun v => v.category).sum ≤ 8) (hR : rm.frames + 1 ≤ R.frames ∧ 8 + (maxL + 11) + rm.locals ≤ R.locals) (hf : cells + rm.cells ≤ R.cells ∧ slots + rm.slots ≤ R.slots) (hdg : decode cc pc = .ok (.invokestatic index, 3))
    (kk : ∀ (r : Option Value) (kd' : sK) (ig' : sI) (rg' : sR) (lg' : sG) (H' : Heap) (locs' : List Loc), WD B D cA s.heap kd' ig' rg' lg' H' locs' → H.size ≤ H'.size → Post r kd' ig' rg' lg' H'.size → W p l e R s m args below meth c H' locs' (cells + rm.cells) (slots + rm.slots) Q (F0 m (pc + 3) ls (r.toList ++ rest))) : W p l e R s m args below meth c H locs cells slots Q (F0 m pc ls st) := by
  obtain ⟨s1, s2, s3, s5, s8, s9, s10⟩ := sv
  have hts := C.1.2.2.2.2
  refine r_goes hw (va_runSN (bytes := cb) (maxL := maxL) (ret := ret) (n := na) (index := index) (host := host) C.1 hM ⟨va_cnB na hts (TBg_all ?_) rfl rfl rfl (C.2.2.1 _ s1) (hts _ s3) ⟨s8, s9, s10⟩ hR, hts _ s2, trivial⟩ ⟨PcW.blind, PcW.pre C hw⟩ rfl hn hsize hst (lv_room hrest) hdg hf) kk
  intro w hw
  rcases List.mem_cons.mp hw with rfl | h
  · exact s5
  · exact h
theorem r_callI {b : Nat} (C : Cx p m c cc nL s args own B D cA) (hw : WD B D cA s.heap kd ig rg lg H locs) (hM : MC l B D cA y cb maxL none rm (.ref b :: As) kd ig rg lg H.size Post) (sv : SC own index y cb maxL na) (hn : As.length = na) (hsize : ls.size = nL) (hst : st = As.reverse ++ .ref b :: rest) (hrest : (rest.map fun v => v.category).sum ≤ 8) (hR : rm.frames + 1 ≤ R.frames ∧ 8 + (maxL + 11) + rm.locals ≤ R.locals) (hf : cells + rm.cells ≤ R.cells ∧ slots + rm.slots ≤ R.slots) (hdg : decode cc pc = .ok (.invokespecial index, 3))
    (kk : ∀ (r : Option Value) (kd' : sK) (ig' : sI) (rg' : sR) (lg' : sG) (H' : Heap) (locs' : List Loc), WD B D cA s.heap kd' ig' rg' lg' H' locs' → H.size ≤ H'.size → Post r kd' ig' rg' lg' H'.size → W p l e R s m args below meth c H' locs' (cells + rm.cells) (slots + rm.slots) Q (F0 m (pc + 3) ls (r.toList ++ rest))) : W p l e R s m args below meth c H locs cells slots Q (F0 m pc ls st) := by
  obtain ⟨s1, s2, s3, s5, s6, s8, s9, s10⟩ := sv
  have hts := C.1.2.2.2.2
  refine r_goes hw (va_runI (bytes := cb) (maxL := maxL) (n := na) (index := index) C.1 hM (cwI na hts (TBg_all ?_) rfl rfl rfl (hts _ s3) (hts _ s1) (hts _ s2) s6 ⟨s8, s9, s10⟩ hR) ⟨PcW.blind, PcW.pre C hw⟩ rfl hn hsize hst (lv_room hrest) hdg hf) kk
  intro w hw
  rcases List.mem_cons.mp hw with rfl | h
  · exact s5
  · exact h
theorem r_obj (C : Cx p m c cc nL s args own B D cA) (hl : Cond.methodLink own index Lib.objectInit ∈ TBg) (hi : Cond.instanceMethod Lib.objectInit ∈ TBg) (hcd : Cond.code Lib.objectInit ⟨#[0xb1]⟩ 1 none ∈ TBg) {b : Nat} (hsize : ls.size = nL) (hf : 1 ≤ R.frames) (hlc : (rest.map fun v => v.category).sum + 12 ≤ R.locals) (hdg : decode cc pc = .ok (.invokespecial index, 3))
    (kk : W p l e R s m args below meth c H locs cells slots Q (F0 m (pc + 3) ls rest)) : W p l e R s m args below meth c H locs cells slots Q (F0 m pc ls (.ref b :: rest)) := by
  obtain ⟨⟨hx, hb, hml, hown, hts⟩, hK⟩ := C
  exact W.objInit hx hb hown (hts _ hl) (hts _ hi) (hts _ hcd) rfl (hsize.trans hml.symm) rfl hdg hf (by simpa [JFrame.monitorRoom] using hlc) kk
theorem QcW.now (hw : WD B D cA s.heap kd ig rg lg H locs) {r : Option Value} (hP : Post r kd ig rg lg H.size) : ∀ t : State, t.heap = H → s.WarmedH t.vm → QcW B D cA Post args s (.returned r) t := fun t ht hW => ⟨r, kd, ig, rg, lg, rfl, by rw [ht]; exact hw.1, hw.2.1, by rw [ht]; exact hw.2.2.1.1, fun q hq => by rw [ht]; exact hw.2.2.1.2.1 q (Nat.lt_of_lt_of_le hq hw.2.2.2) (Nat.not_le.mpr hq), by rw [ht]; exact hP⟩
theorem r_iret {ty : FieldType} {v : Int32} {mc ms : Nat} (C : Cx p m c cc nL s args own B D cA) (hw : WD B D cA s.heap kd ig rg lg H locs) (hr : meth.sig.returnType = some ty) (hlk : meth.locks = false) (hn : narrow ty (.int v) = .int v) (h1 : cells ≤ mc) (h2 : slots ≤ ms) (hdg : decode cc pc = .ok (.ireturn, 1)) (hP : Post (some (.int v)) kd ig rg lg H.size) : W p l e R s m args below meth c H locs cells slots (MQ below (QcW B D cA Post) args s mc ms (fun q => B ≤ q)) (F0 m pc ls [.int v]) :=
  W.widen h1 h2 (W.zret C.1.1 C.1.2.1 hr hn (QcW.now hw hP) hw.2.2.1.2.2 hdg hlk)
theorem r_vret {mc ms : Nat} (C : Cx p m c cc nL s args own B D cA) (hw : WD B D cA s.heap kd ig rg lg H locs) (hr : meth.sig.returnType = none) (hlk : meth.locks = false) (h1 : cells ≤ mc) (h2 : slots ≤ ms) (hdg : decode cc pc = .ok (.return_, 1)) (hP : Post none kd ig rg lg H.size) : W p l e R s m args below meth c H locs cells slots (MQ below (QcW B D cA Post) args s mc ms (fun q => B ≤ q)) (F0 m pc ls []) :=
  W.widen h1 h2 (W.vret C.1.1 C.1.2.1 hr (QcW.now hw hP) hw.2.2.1.2.2 hdg hlk)
theorem r_aret {n : String} {v : Value} {mc ms : Nat} (C : Cx p m c cc nL s args own B D cA) (hw : WD B D cA s.heap kd ig rg lg H locs) (hr : meth.sig.returnType = some (.object n)) (hlk : meth.locks = false) (hv : v = .null ∨ ∃ a, v = .ref a) (h1 : cells ≤ mc) (h2 : slots ≤ ms) (hdg : decode cc pc = .ok (.areturn, 1)) (hP : Post (some v) kd ig rg lg H.size) : W p l e R s m args below meth c H locs cells slots (MQ below (QcW B D cA Post) args s mc ms (fun q => B ≤ q)) (F0 m pc ls [v]) :=
  W.widen h1 h2 (W.aret C.1.1 C.1.2.1 hr (Or.inl ⟨n, rfl⟩) hv (QcW.now hw hP) hw.2.2.1.2.2 hdg hlk)
end CALLS
