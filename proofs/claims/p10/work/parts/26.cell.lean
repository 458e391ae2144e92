/-! SheetDoctor.cell, which throws -/
def NSx : List Cond := vx_atX RX11 181 NSE 13 prog_27_method_4_code NSEs
def XcW (B : Nat) (D : va_G) (cA : Nat → ClassId) (kd : sK) (ig : sI) (rg : sR) (lg : sG) (N : Prop) : String → State → State → Prop := fun E st t => E = NSE ∧ ¬ N ∧ PW D cA kd ig rg lg t.heap ∧ st.heap.size ≤ t.heap.size ∧ ∀ q : Nat, q < B → t.heap[q]? = st.heap[q]?
def MX (l : Launch) (B : Nat) (D : va_G) (cA : Nat → ClassId) (y : MethodName) (cc : ByteArray) (maxL : Nat) (ret : Option FieldType) (rm : Room) (av : List Value) (kd : sK) (ig : sI) (rg : sR) (lg : sG) (sz : Nat) (N : Prop) (Post : aP) : Prop :=
  vx_Met l y (Cond.code y cc maxL ret :: TBg) rm (PcW B D cA av kd ig rg lg sz) (QcW B D cA Post) (XcW B D cA kd ig rg lg N) rm.cells rm.slots (fun q => B ≤ q)
theorem MX.of {l : Launch} {B : Nat} {D : va_G} {cA : Nat → ClassId} {y : MethodName} {cc : ByteArray} {maxL : Nat} {ret : Option FieldType} {rm : Room} {av : List Value} {kd : sK} {ig : sI} {rg : sR} {lg : sG} {sz : Nat} {N : Prop} {Post : aP} {own : String} (hy : plainName y.cls = true) (ho : y.cls = own) (hav : (lg_sl av).length ≤ maxL)
    (body : ∀ (p : Program) (e : Env) (s : State) (m : MethodId) (args : Array Value) (below : List Frame) (meth : Method) (c : Code) (ls : Array Slot), Cx p m c cc maxL s args own B D cA → meth.sig.returnType = ret → meth.locks = false → meth.name = y.name → WD B D cA s.heap kd ig rg lg s.heap [] → s.heap.size = sz → lv_has ls maxL (lv_args 0 av) → (∀ x ∈ c.exceptionTable.toList, False) →
      W p l e rm s m args below meth c s.heap [] 0 0 (vx_MQ below (QcW B D cA Post) (XcW B D cA kd ig rg lg N) args s rm.cells rm.slots (fun q => B ≤ q)) (F0 m 0 ls [])) : MX l B D cA y cc maxL ret rm av kd ig rg lg sz N Post := by
  refine vx_ofW (cc := cc) (maxL := maxL) (ret := ret) hy rfl ?_
  intro p e s m args below meth c s₁ Bd hml hnt hv
  obtain ⟨rfl, hK, hP, hdm, hBs, hsz⟩ := hv
  have hts := atoms_spec (ws := Cond.code y cc maxL ret :: TBg) Bd.pre
  have hown : s.vm.findClass own = some m.cls := ho ▸ findClass_of_methodNamed Bd.named
  have hl := lv_entry av (n := maxL) hav
  rw [lg_entry_eq]
  exact body p e s m av.toArray below meth c _ ⟨⟨Bd.exec, Bd.bytes, hml, hown, fun w h => hts w (List.mem_cons_of_mem _ h)⟩, hK⟩ Bd.returns Bd.notSynchronized (name_of_methodNamed Bd.named Bd.method).1 ⟨hP, hdm, va_S.rf, hBs⟩ hsz hl hnt
theorem PW.after {D : va_G} {cA : Nat → ClassId} {kd : sK} {ig : sI} {rg : sR} {lg : sG} {H H' : Heap} (h : PW D cA kd ig rg lg H) (e : ∀ q : Nat, q < H.size → H'[q]? = H[q]?) : PW D cA kd ig rg lg H' := fun a k n ha => (h a k n ha).kept (e a (h a k n ha).lt) (fun _ => rfl) (fun _ => rfl) (fun _ => rfl)
theorem XcW.now {B : Nat} {D : va_G} {cA : Nat → ClassId} {kd : sK} {ig : sI} {rg : sR} {lg : sG} {N : Prop} {s : State} {H : Heap} {locs : List Loc} (hw : WD B D cA s.heap kd ig rg lg H locs) (hN : ¬ N) : ∀ t : State, s.vm.Alike t.vm → H.size ≤ t.heap.size → (∀ q : Nat, q < H.size → t.heap[q]? = H[q]?) → XcW B D cA kd ig rg lg N NSE s t := fun t _ h1 h2 => ⟨rfl, hN, hw.1.after h2, Nat.le_trans hw.2.2.1.1 h1, fun q hq => (h2 q (Nat.lt_of_lt_of_le hq (Nat.le_trans hw.2.2.2 hw.2.2.1.1))).trans (hw.2.2.1.2.1 q (Nat.lt_of_lt_of_le hq hw.2.2.2) (Nat.not_le.mpr hq))⟩
set_option maxHeartbeats 4000000 in
set_option maxRecDepth 100000 in
theorem atN_g : ∀ w ∈ NSx.filter goodWord, w ∈ lw_tbl := by decide +kernel
set_option maxHeartbeats 4000000 in
set_option maxRecDepth 100000 in
theorem atN_n : ∀ w ∈ NSx.filter (fun w => !goodWord w), w ∈ NSw := by decide +kernel
set_option maxHeartbeats 4000000 in
set_option maxRecDepth 100000 in
theorem atN_o : ∀ w ∈ Cond.classLink RX11 177 NSE :: Cond.initialized NSE :: NSx, vx_ot w = true := by decide +kernel
set_option maxHeartbeats 4000000 in
set_option maxRecDepth 100000 in
theorem atN_c : ∀ w ∈ [Cond.classLink RX11 177 NSE, Cond.initialized NSE], w ∈ lw_tbl ∧ goodWord w = true := by decide +kernel
theorem atN {args : Array Value} {s : State} (hts : ∀ w ∈ TBg, w.before args s = true) (hc : ∀ w ∈ NSw, va_Nw w s) : ∀ w ∈ NSx, w.before args s = true := vx_hat (fun w hw => hts w (TBg_in (atN_g w hw) (List.mem_filter.mp hw).2)) atN_n (fun w hw => va_Nw.use (NSw_t w hw) (hc w hw))

