/-! the law's own cell(), which catches -/
def MH (l : Launch) (B : Nat) (D : va_G) (cA : Nat → ClassId) (sa : Nat) (y : MethodName) (cc : ByteArray) (maxL : Nat) (ret : Option FieldType) (hh : List (Nat × Nat × Nat × Nat)) (rm : Room) (av : List Value) (kd : sK) (ig : sI) (rg : sR) (lg : sG) (sz : Nat) (N : Prop) (Post : aP) : Prop :=
  vx_Met l y (Cond.codeWith y cc maxL ret hh :: TBg) rm (PcX B D cA sa av kd ig rg lg sz) (QcW B D cA Post) (XcW B D cA kd ig rg lg N) rm.cells rm.slots (fun q => B ≤ q)
theorem MH.of {l : Launch} {B : Nat} {D : va_G} {cA : Nat → ClassId} {sa : Nat} {y : MethodName} {cc : ByteArray} {maxL : Nat} {ret : Option FieldType} {hh : List (Nat × Nat × Nat × Nat)} {rm : Room} {av : List Value} {kd : sK} {ig : sI} {rg : sR} {lg : sG} {sz : Nat} {N : Prop} {Post : aP} {own : String} (hy : plainName y.cls = true) (ho : y.cls = own) (hav : (lg_sl av).length ≤ maxL)
    (body : ∀ (p : Program) (e : Env) (s : State) (m : MethodId) (args : Array Value) (below : List Frame) (meth : Method) (c : Code) (ls : Array Slot), Cx p m c cc maxL s args own D cA → meth.sig.returnType = ret → meth.locks = false → meth.name = y.name → WD B D cA s.heap kd ig rg lg s.heap [] → s.heap.size = sz → lv_has ls maxL (lv_args 0 av) → KX B sa s → c.exceptionTable.toList = tableOf hh →
      W p l e rm s m args below meth c s.heap [] 0 0 (vx_MQ below (QcW B D cA Post) (XcW B D cA kd ig rg lg N) args s rm.cells rm.slots (fun q => B ≤ q)) (F0 m 0 ls [])) : MH l B D cA sa y cc maxL ret hh rm av kd ig rg lg sz N Post := by
  refine vx_ofWH (cc := cc) (maxL := maxL) (ret := ret) (hh := hh) hy rfl ?_
  intro p e s m args below meth c s₁ Bd hml hv
  obtain ⟨⟨rfl, hK, hP, hdm, hBs, hsz⟩, hKX⟩ := hv
  have hts := atoms_spec (ws := Cond.codeWith y cc maxL ret hh :: TBg) Bd.pre
  have hown : s.vm.findClass own = some m.cls := ho ▸ findClass_of_methodNamed Bd.named
  have hl := lv_entry av (n := maxL) hav
  have hnt := vx_table (x := y) Bd (hts _ List.mem_cons_self)
  rw [lg_entry_eq]
  exact body p e s m av.toArray below meth c _ ⟨⟨Bd.exec, Bd.bytes, hml, hown, fun w h => hts w (List.mem_cons_of_mem _ h)⟩, hK⟩ Bd.returns Bd.notSynchronized (name_of_methodNamed Bd.named Bd.method).1 ⟨hP, hdm, va_S.rf, hBs⟩ hsz hl hKX hnt
set_option maxRecDepth 100000 in
theorem atN_k : Cond.classLink RL 13 NSE ∈ lw_tbl ∧ goodWord (Cond.classLink RL 13 NSE) = true := by decide +kernel

set_option maxHeartbeats 4000000 in
set_option maxRecDepth 100000 in
theorem t_L_cell (l : Launch) (B : Nat) (D : va_G) (cA : Nat → ClassId) (kd : sK) (ig : sI) (rg : sR) (lg : sG) (sz : Nat) (x y : Int32) (sa : Nat) (hst : l.stackTraces = false) (F9 : FC B kd ig rg lg) : MH l B D cA sa yL_cell cL_cell 5 (some .int) [(0, 10, 13, 13)] (rL 7 1 6) [.ref (B + 0), .int x, .int y, .ref (B + 79)] kd ig rg lg sz True (fun r kd' ig' rg' lg' n => (∀ a, a < B + 80 → kd' a = kd a) ∧ Mo B ig' ig ∧ Mo B rg' rg ∧ (∀ a j, B + 49 ≤ a → a < B + 79 → lg' a j = lg a j) ∧ ∃ q : Int32, r = some (.int q) ∧ ((((0 ≤ x.toInt ∧ x.toInt < 288) ∧ 0 ≤ y.toInt ∧ y.toInt ≤ 10) ∧ q.toInt = 0 ∧ ∃ z : Int32, lg' (B + 79) 0 = z.toInt64 ∧ (y.toInt = 3 → z.toInt = -1) ∧ (y.toInt ≠ 3 → z.toInt = 0)) ∨ (¬ ((0 ≤ x.toInt ∧ x.toInt < 288) ∧ 0 ≤ y.toInt ∧ y.toInt ≤ 10) ∧ q.toInt = 1))) := by
  refine MH.of (own := RL) (by decide +kernel) rfl (Nat.le_of_ble_eq_true rfl) ?_
  intro p e s m args below meth c ls C hr hlk hnm hw hsz hl hKX hnt
  have hx := C.1.1
  have hb := C.1.2.1
  have hown := C.1.2.2.2.1
  have hts := C.1.2.2.2.2
  have hl : lv_has ls 5 [(0, .ref (B + 0)), (1, .int x), (2, .int y), (3, .ref (B + 79))] := hl
  have F9q := F9
  obtain ⟨hsh, hrs, -⟩ := F9q.1
  refine lv_aload_n hx hb dL_cell_0 rfl (lv_at hl 3 rfl) ?_
  refine lv_iconst (v := 0) hx hb dL_cell_1 (by decide) (ti_c 0 (by decide) fun z1 hz1 => ?_)
  refine lv_aload_n hx hb dL_cell_2 rfl (lv_at hl 0 rfl) ?_
  refine lv_iload_n hx hb dL_cell_3 rfl (lv_at hl 1 rfl) ?_
  refine lv_iload_n hx hb dL_cell_4 rfl (lv_at hl 2 rfl) ?_
  refine r_callX (sa := sa) (As := [.int x, .int y]) (rest := [.int z1, .ref (B + 79)]) C hKX hw (t_X11_cell l B D cA kd ig rg lg _ x y sa hst F9) sv_L_7 (hsh 0 _ rfl) rfl hl.1 rfl (Nat.le_of_ble_eq_true rfl) ⟨Nat.le_of_ble_eq_true rfl, Nat.le_of_ble_eq_true rfl⟩ ⟨Nat.le_of_ble_eq_true rfl, Nat.le_of_ble_eq_true rfl⟩ dL_cell_5 (fun ce q H locs hN hw hH hce hcv hcl => ?_) (fun r kd1 ig1 rg1 lg1 H locs hw hH hp => ?_)
  · refine vx_catch (E := NSE) (name := NSE) hown [] ⟨0, 10, 13, 13⟩ [] hnt (fun _ h => nomatch h) (by decide) (by decide) (hts _ (TBg_in atN_k.1 atN_k.2)) (va_Nw.use rfl (hKX.1 _ List.mem_cons_self)) hce hcv hcl ?_
    refine W.widen (k := 1) (n := 6) (Nat.le_of_ble_eq_true rfl) (Nat.le_of_ble_eq_true rfl) ?_
    refine lv_astore (lv' := [(4, .ref q), (0, .ref (B + 0)), (1, .int x), (2, .int y), (3, .ref (B + 79))]) hx hb dL_cell_13 hl (by decide) rfl (fun ls hl => ?_)
    refine lv_iconst (v := 1) hx hb dL_cell_15 (by decide) (ti_c 1 (by decide) fun z2 hz2 => ?_)
    exact vx_ret (r_iret C hw hr hlk rfl (Nat.le_of_ble_eq_true rfl) (Nat.le_of_ble_eq_true rfl) dL_cell_16 ⟨fun _ _ => rfl, Mo.rf, Mo.rf, fun _ _ _ _ => rfl, _, rfl, Or.inr ⟨hN, by omega⟩⟩)
  · obtain ⟨ak, ai, ar, al, z, rfl, hv, hz3, hzn⟩ := hp
    have hsh := hsh.ag ak
    obtain ⟨sz1, hsz⟩ : ∃ n, H.size = n := ⟨_, rfl⟩
    refine W.widen (k := 1) (n := 6) (Nat.le_of_ble_eq_true rfl) (Nat.le_of_ble_eq_true rfl) ?_
    refine lv_i2l hx hb dL_cell_8 rfl (lv_topl fun x3 hx3 => ?_)
    refine r_last C hw (hsh 79 _ rfl) (by omega) (by omega) dL_cell_9 (fun H locs hH hw => ?_)
    obtain ⟨lg4, elg4⟩ : ∃ f, f = up2 lg1 (B + 79) z1.toInt.toNat x3 := ⟨_, rfl⟩
    rw [← elg4] at hw
    have hsz := hH.trans hsz
    refine lv_goto (tgt := 17) hx hb dL_cell_10 (by decide) ?_
    refine lv_iconst (v := 0) hx hb dL_cell_17 (by decide) (ti_c 0 (by decide) fun z5 hz5 => ?_)
    exact vx_ret (r_iret C hw hr hlk rfl (Nat.le_of_ble_eq_true rfl) (Nat.le_of_ble_eq_true rfl) dL_cell_18 ⟨ak, ai, ar, fun a j h1 h2 => by rw [elg4, up2_a (by omega)]; exact al a j h1 (by omega), _, rfl, Or.inl ⟨hv, by omega, z, by rw [elg4, show z1.toInt.toNat = 0 by omega, up2_eq]; exact hx3, hz3, hzn⟩⟩)
