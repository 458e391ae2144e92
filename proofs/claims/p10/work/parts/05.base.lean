/-! THE WORLD: what a cell is by its address (kinds 0 .. 12: the objects of vwCl; 20 int[], 21 char[], 22 boolean[], 23 long[], 24 Cell[]), and what its slots hold -/
def TBg : List Cond := lw_tbl.filter goodWord
theorem TBg_in {w : Cond} (h : w ∈ lw_tbl) (g : goodWord w = true) : w ∈ TBg := List.mem_filter.mpr ⟨h, g⟩
theorem TBg_tbl {w : Cond} (h : w ∈ TBg) : w ∈ lw_tbl := (List.mem_filter.mp h).1
theorem TBg_good {w : Cond} (h : w ∈ TBg) : (w.onTables && w.keeps) = true ∨ ∃ ty, w = .arrayClass ty := good_of_word (List.mem_filter.mp h).2
theorem TBg_all {ws : List Cond} (h : ∀ w ∈ ws, w ∈ TBg) : GoodIn TBg ws := fun w hw => ⟨h w hw, TBg_good (h w hw)⟩
theorem TB1 {w : Cond} (i : Nat) (h : tables_1_1[i]? = some w) (g : goodWord w = true) : w ∈ TBg := TBg_in (List.mem_append_right _ (List.mem_append_left _ (List.mem_of_getElem? h))) g
theorem TB2 {w : Cond} (i : Nat) (h : tables_1_2[i]? = some w) (g : goodWord w = true) : w ∈ TBg := TBg_in (List.mem_append_right _ (List.mem_append_right _ (List.mem_append_left _ (List.mem_of_getElem? h)))) g
theorem TB3 {w : Cond} (i : Nat) (h : tables_1_3[i]? = some w) (g : goodWord w = true) : w ∈ TBg := TBg_in (List.mem_append_right _ (List.mem_append_right _ (List.mem_append_right _ (List.mem_append_left _ (List.mem_of_getElem? h))))) g
theorem TB4 {w : Cond} (i : Nat) (h : tables_1_4[i]? = some w) (g : goodWord w = true) : w ∈ TBg := TBg_in (List.mem_append_right _ (List.mem_append_right _ (List.mem_append_right _ (List.mem_append_right _ (List.mem_append_left _ (List.mem_of_getElem? h)))))) g
theorem TB5 {w : Cond} (i : Nat) (h : tables_1_5[i]? = some w) (g : goodWord w = true) : w ∈ TBg := TBg_in (List.mem_append_right _ (List.mem_append_right _ (List.mem_append_right _ (List.mem_append_right _ (List.mem_append_right _ (List.mem_append_left _ (List.mem_of_getElem? h))))))) g
theorem TB6 {w : Cond} (i : Nat) (h : tables_1_6[i]? = some w) (g : goodWord w = true) : w ∈ TBg := TBg_in (List.mem_append_right _ (List.mem_append_right _ (List.mem_append_right _ (List.mem_append_right _ (List.mem_append_right _ (List.mem_append_right _ (List.mem_append_left _ (List.mem_of_getElem? h)))))))) g
theorem TB7 {w : Cond} (i : Nat) (h : tables_1_7[i]? = some w) (g : goodWord w = true) : w ∈ TBg := TBg_in (List.mem_append_right _ (List.mem_append_right _ (List.mem_append_right _ (List.mem_append_right _ (List.mem_append_right _ (List.mem_append_right _ (List.mem_append_right _ (List.mem_of_getElem? h)))))))) g
theorem TBp {q : MethodName × Nat} (h : q ∈ lw_privs) : Cond.selects q.1.cls q.1 q.1 ∈ TBg := TBg_in (List.mem_append_left _ (List.mem_map.mpr ⟨q, h, rfl⟩)) rfl
abbrev sK : Type := Nat → Option (Nat × Nat)
abbrev sI : Type := Nat → Nat → Int32
abbrev sR : Type := Nat → Nat → Option Nat
abbrev sG : Type := Nat → Nat → Int64
def rfs : List (List Nat) := [[2], [0, 1, 2, 3], [0, 1, 2], [0, 1, 2, 3, 4, 5], [0, 1, 2], [0, 1, 3, 4, 5, 6, 7, 8, 10], [0, 1, 2, 3, 4], [0, 3, 4, 5, 9, 10, 11], [0, 1, 2, 3, 4, 5, 6], [0, 1, 2, 3, 4, 5], [0, 1, 2, 3, 4, 5], [0, 1, 2, 3, 4, 5, 6, 7, 8], [1, 4, 5, 6, 9, 10, 11, 12, 13, 15, 16, 17, 18, 20, 21, 22, 23, 24, 25, 26, 27, 28, 29, 30, 36, 38, 39, 40, 42]]
def isRf (k j : Nat) : Bool := (rfs.getD k []).contains j
def nfs : List Nat := [6, 5, 5, 7, 3, 12, 7, 13, 8, 9, 9, 9, 43]
def nf (k : Nat) : Nat := nfs.getD k 0
def oV (k : Nat) (ig : sI) (rg : sR) (a : Nat) : Nat → Value := fun j => if isRf k j = true then va_rf (rg a j) else .int (ig a j)
def aV (k : Nat) (ig : sI) (rg : sR) (lg : sG) (a : Nat) : Nat → Value := fun j => if k = 23 then .long (lg a j) else if k = 24 then va_rf (rg a j) else .int (ig a j)
def PWat (D : va_G) (cA : Nat → ClassId) (ig : sI) (rg : sR) (lg : sG) (a k n : Nat) (H : Heap) : Prop :=
  if k < 13 then t_OB a (D.1 k) (nf k) (D.2 k) H (oV k ig rg a) else H[a]? = some (arrV (cA k) n (aV k ig rg lg a))
def PW (D : va_G) (cA : Nat → ClassId) (kd : sK) (ig : sI) (rg : sR) (lg : sG) (H : Heap) : Prop := ∀ a k n, kd a = some (k, n) → PWat D cA ig rg lg a k n H
def WD (B : Nat) (D : va_G) (cA : Nat → ClassId) (H0 : Heap) (kd : sK) (ig : sI) (rg : sR) (lg : sG) (H : Heap) (locs : List Loc) : Prop :=
  PW D cA kd ig rg lg H ∧ (∀ a, kd a ≠ none → B ≤ a) ∧ va_S (fun q => B ≤ q) H0 H locs ∧ B ≤ H0.size
def up2 {α : Type} (f : Nat → Nat → α) (a j : Nat) (v : α) : Nat → Nat → α := fun b i => if b = a ∧ i = j then v else f b i
theorem up2_eq {α : Type} {f : Nat → Nat → α} {a j : Nat} {v : α} : up2 f a j v a j = v := by simp [up2]
theorem up2_a {α : Type} {f : Nat → Nat → α} {a b i j : Nat} {v : α} (h : b ≠ a) : up2 f a j v b i = f b i := by simp [up2, h]
theorem up2_j {α : Type} {f : Nat → Nat → α} {a b i j : Nat} {v : α} (h : i ≠ j) : up2 f a j v b i = f b i := by simp [up2, h]
def upK (kd : sK) (a k n : Nat) : sK := fun b => if b = a then some (k, n) else kd b
theorem upK_eq {kd : sK} {a k n : Nat} : upK kd a k n a = some (k, n) := by simp [upK]
theorem upK_ne {kd : sK} {a b k n : Nat} (h : b ≠ a) : upK kd a k n b = kd b := by simp [upK, h]
def upR {α : Type} (f : Nat → Nat → α) (a : Nat) (v : α) : Nat → Nat → α := fun b i => if b = a then v else f b i
theorem upR_eq {α : Type} {f : Nat → Nat → α} {a i : Nat} {v : α} : upR f a v a i = v := by simp [upR]
theorem upR_ne {α : Type} {f : Nat → Nat → α} {a b i : Nat} {v : α} (h : b ≠ a) : upR f a v b i = f b i := by simp [upR, h]
theorem oV_i {k j a : Nat} {ig : sI} {rg : sR} (h : isRf k j = false) : oV k ig rg a j = .int (ig a j) := by simp [oV, h]
theorem oV_r {k j a q : Nat} {ig : sI} {rg : sR} (h : isRf k j = true) (e : rg a j = some q) : oV k ig rg a j = .ref q := by simp [oV, h, e, va_rf]
theorem oV_n {k j a : Nat} {ig : sI} {rg : sR} (h : isRf k j = true) (e : rg a j = none) : oV k ig rg a j = .null := by simp [oV, h, e, va_rf]
theorem oV_q {k j a : Nat} {ig : sI} {rg : sR} (h : isRf k j = true) : oV k ig rg a j = va_rf (rg a j) := by simp [oV, h]
theorem PWat.lt {D : va_G} {cA : Nat → ClassId} {ig : sI} {rg : sR} {lg : sG} {a k n : Nat} {H : Heap} (h : PWat D cA ig rg lg a k n H) : a < H.size := by
  unfold PWat at h
  split at h
  · obtain ⟨cell, h2, -⟩ := h
    exact (Array.getElem?_eq_some_iff.mp h2).1
  · exact (Array.getElem?_eq_some_iff.mp h).1
theorem PWat.kept {D : va_G} {cA : Nat → ClassId} {ig ig' : sI} {rg rg' : sR} {lg lg' : sG} {a k n : Nat} {H H' : Heap} (h : PWat D cA ig rg lg a k n H) (hq : H'[a]? = H[a]?) (hi : ∀ j, ig' a j = ig a j) (hr : ∀ j, rg' a j = rg a j) (hl : ∀ j, lg' a j = lg a j) : PWat D cA ig' rg' lg' a k n H' := by
  unfold PWat at h ⊢
  split at h
  · rename_i hk
    rw [if_pos hk]
    exact (h.kept hq).to (fun j _ => by simp only [oV, hi, hr])
  · rename_i hk
    rw [if_neg hk, hq, h]
    congr 2
    funext j
    simp only [aV, hi, hr, hl]
theorem PW.put {D : va_G} {cA : Nat → ClassId} {kd : sK} {ig ig' : sI} {rg rg' : sR} {lg lg' : sG} {a k n : Nat} {H H' : Heap} (h : PW D cA kd ig rg lg H) (ha : kd a = some (k, n)) (hat : PWat D cA ig' rg' lg' a k n H') (e3 : ∀ q, q ≠ a → H'[q]? = H[q]?)
    (hi : ∀ b j, b ≠ a → ig' b j = ig b j) (hr : ∀ b j, b ≠ a → rg' b j = rg b j) (hl : ∀ b j, b ≠ a → lg' b j = lg b j) : PW D cA kd ig' rg' lg' H' := by
  intro b k' n' hb
  by_cases hba : b = a
  · subst hba
    rw [ha] at hb
    cases hb
    exact hat
  · exact (h b k' n' hb).kept (e3 b hba) (fun j => hi b j hba) (fun j => hr b j hba) (fun j => hl b j hba)
theorem PW.new {D : va_G} {cA : Nat → ClassId} {kd : sK} {ig ig' : sI} {rg rg' : sR} {lg lg' : sG} {k n : Nat} {H H' : Heap} (h : PW D cA kd ig rg lg H) (hat : PWat D cA ig' rg' lg' H.size k n H') (e3 : ∀ q, q < H.size → H'[q]? = H[q]?)
    (hi : ∀ b j, b ≠ H.size → ig' b j = ig b j) (hr : ∀ b j, b ≠ H.size → rg' b j = rg b j) (hl : ∀ b j, b ≠ H.size → lg' b j = lg b j) : PW D cA (upK kd H.size k n) ig' rg' lg' H' := by
  intro b k' n' hb
  by_cases hba : b = H.size
  · subst hba
    rw [upK_eq] at hb
    cases hb
    exact hat
  · rw [upK_ne hba] at hb
    have h1 := h b k' n' hb
    exact h1.kept (e3 b h1.lt) (fun j => hi b j hba) (fun j => hr b j hba) (fun j => hl b j hba)
def tysA (cA : Nat → ClassId) : List (ClassId × FieldType) := [(cA 20, .int), (cA 21, .char), (cA 22, .boolean), (cA 23, .long), (cA 24, .object "SheetDoctor$Cell")]
def NWs : List Cond := [.methodLinkNest RX6 42 yX11_onSheet RX11, .methodLinkNest RX5 93 yX11_setBit RX11, .methodLinkNest RX5 85 yX11_hasBit RX11, .methodLinkNest RX9 72 yX11_onSheet RX11, .methodLinkNest RX5 75 yX11_onSheet RX11, .methodLinkNest RX8 63 yX11_onSheet RX11, .methodLinkNest RX8 118 yX11_hasBit RX11, .methodLinkNest RX8 122 yX11_setBit RX11, .methodLinkNest RX2 46 yX11_onSheet RX11, .methodLinkNest RX10 65 yX11_onSheet RX11]
def NSE : String := "java/util/NoSuchElementException"
def NSEs : List String := ["java/lang/RuntimeException", "java/lang/Exception"]
def NSw : List Cond := [.castable NSE NSE, .declares (Bundle.initS "java/lang/RuntimeException"), .declares (Bundle.initS "java/lang/Exception"), .declares (Bundle.initS "java/lang/Throwable")]
theorem NSw_t : ∀ w ∈ NSw, w.onTables = true := by decide +kernel
def KX (B sa : Nat) (U : State) : Prop := (∀ w ∈ NSw, va_Nw w U) ∧ vk_R RX11 179 "no such cell, or nothing of that number to tell" sa U ∧ vx_Zq Bundle.tN "UNASSIGNED_STACK" Bundle.steD (fun q => B ≤ q) U U.heap ∧ vx_Zq Bundle.tN "SUPPRESSED_SENTINEL" Bundle.listD (fun q => B ≤ q) U U.heap
def skT : String := "()+-*/:$"
/-- the tape's String constant (at cA 30, its bytes at cA 31), and that Strings are compact -/
def KS (B : Nat) (cA : Nat → ClassId) (U : State) : Prop := vk_R RX7 96 skT (cA 30) U ∧ vk_S 1 [8] [[40, 41, 43, 45, 42, 47, 58, 36]] (fun _ => cA 30) (fun _ => cA 31) (fun q => B ≤ q) U U.heap ∧ va_Z "java/lang/String" "COMPACT_STRINGS" "Z" (.int 1) (fun q => B ≤ q) U U.heap
theorem KX.keep {B sa : Nat} {U V : State} (hv : U.WarmedH V.vm) (hq : ∀ a : Nat, a < U.heap.size → ¬ B ≤ a → V.heap[a]? = U.heap[a]?) (h : KX B sa U) : KX B sa V := by
  obtain ⟨h1, h2, h3, h4⟩ := h
  refine ⟨fun w hw => ?_, vk_R.warm hv h2, vx_Zq.moved hv.alike (h3.kept hq), vx_Zq.moved hv.alike (h4.kept hq)⟩
  have h9 := h1 w hw
  simp only [NSw, List.mem_cons, List.not_mem_nil, or_false] at hw
  rcases hw with e | e | e | e
  · subst e; exact va_Nw.warmC hv h9
  · subst e; exact va_Nw.warmD hv h9
  · subst e; exact va_Nw.warmD hv h9
  · subst e; exact va_Nw.warmD hv h9
theorem KX.same {B sa : Nat} {U V : State} (hv : V.vm = U.vm) (hh : V.heap = U.heap) (h : KX B sa U) : KX B sa V := by
  obtain ⟨h1, h2, h3, h4⟩ := h
  exact ⟨fun w hw => va_Nw.same (NSw_t w hw) hv.symm (h1 w hw), vk_R.same hv h2, by rw [hh]; exact vx_Zq.moved (hv ▸ Vm.Alike.refl _) h3, by rw [hh]; exact vx_Zq.moved (hv ▸ Vm.Alike.refl _) h4⟩
theorem KS.keep {B : Nat} {cA : Nat → ClassId} {U V : State} (hv : U.WarmedH V.vm) (hq : ∀ a : Nat, a < U.heap.size → ¬ B ≤ a → V.heap[a]? = U.heap[a]?) (h : KS B cA U) : KS B cA V := by
  obtain ⟨h1, h2, h3⟩ := h
  exact ⟨vk_R.warm hv h1, vk_S.moved hv.alike (h2.kept hq), va_Z.moved hv.alike (h3.kept hq)⟩
theorem KS.same {B : Nat} {cA : Nat → ClassId} {U V : State} (hv : V.vm = U.vm) (hh : V.heap = U.heap) (h : KS B cA U) : KS B cA V := by
  obtain ⟨h1, h2, h3⟩ := h
  exact ⟨vk_R.same hv h1, by rw [hh]; exact vk_S.moved (hv ▸ Vm.Alike.refl _) h2, by rw [hh]; exact va_Z.moved (hv ▸ Vm.Alike.refl _) h3⟩
def KN (B : Nat) (D : va_G) (cA : Nat → ClassId) (U : State) : Prop := va_K D vwCl (tysA cA) U ∧ (∀ w ∈ NWs, va_Nw w U) ∧ va_AO RX0 U ∧ (∃ sa, KX B sa U) ∧ KS B cA U ∧ va_Nw (.castable "[I" "java/lang/Cloneable") U
theorem KN.warm {B : Nat} {D : va_G} {cA : Nat → ClassId} {s U : State} (hW : s.WarmedH U.vm) (hq : ∀ a : Nat, a < s.heap.size → ¬ B ≤ a → U.heap[a]? = s.heap[a]?) (h : KN B D cA s) : KN B D cA U := by
  refine ⟨va_K.moved hW.alike h.1, fun w hw => ?_, va_AO.moved hW.alike h.2.2.1, h.2.2.2.1.elim fun sa h9 => ⟨sa, KX.keep hW hq h9⟩, KS.keep hW hq h.2.2.2.2.1, va_Nw.warmC hW h.2.2.2.2.2⟩
  have h2 := h.2.1 w hw
  simp only [NWs, List.mem_cons, List.not_mem_nil, or_false] at hw
  rcases hw with e | e | e | e | e | e | e | e | e | e <;> (subst e; exact va_Nw.warmM hW h2)
theorem KN.same {B : Nat} {D : va_G} {cA : Nat → ClassId} {s U : State} (hvm : s.vm = U.vm) (hh : s.heap = U.heap) (h : KN B D cA s) : KN B D cA U := by
  refine ⟨va_K.moved (hvm ▸ Vm.Alike.refl s.vm) h.1, fun w hw => ?_, va_AO.moved (hvm ▸ Vm.Alike.refl s.vm) h.2.2.1, h.2.2.2.1.elim fun sa h9 => ⟨sa, KX.same hvm.symm hh.symm h9⟩, KS.same hvm.symm hh.symm h.2.2.2.2.1, va_Nw.same rfl hvm h.2.2.2.2.2⟩
  have h2 := h.2.1 w hw
  simp only [NWs, List.mem_cons, List.not_mem_nil, or_false] at hw
  rcases hw with e | e | e | e | e | e | e | e | e | e <;> (subst e; exact va_Nw.same rfl hvm h2)
/-- a field by its place in the constant pool -/
def FL (own : String) (index k j : Nat) (fin : Bool) (ty : FieldType) : Prop :=
  ∃ (Cn : String) (T : u_T) (N : Nat) (t0 : Nat → FieldType), vwCl[k]? = some (Cn, T, N) ∧ j < N ∧ k < 13 ∧ nf k = N ∧ (∀ w ∈ u_ws Cn T N, w ∈ TBg) ∧ Cond.fieldLink own index (T j).1 (T j).2.1 (T j).2.2.1 ∈ TBg ∧ (T j).1 = Cn ∧
    (∀ q, q < N → parseFieldDescriptor (T q).2.2.1 = some (t0 q)) ∧ (∀ a, a < N → ∀ b, b < N → a ≠ b → (T a).2.1 ≠ (T b).2.1) ∧ (T j).2.2.2 = fin ∧ t0 j = ty
abbrev Cx (p : Program) (m : MethodId) (c : Code) (cc : ByteArray) (nL : Nat) (s : State) (args : Array Value) (own : String) (B : Nat) (D : va_G) (cA : Nat → ClassId) : Prop := CallFix p m c cc nL s args TBg own ∧ KN B D cA s
def SV (own : String) (index k : Nat) (y : MethodName) (cb : ByteArray) (maxL : Nat) (ret : Option FieldType) (na : Nat) : Prop :=
  Cond.methodLink own index y ∈ TBg ∧ Cond.instanceMethod y ∈ TBg ∧ Cond.selects y.cls y y ∈ TBg ∧ Cond.initialized y.cls ∈ TBg ∧ Cond.code y cb maxL ret ∈ TBg ∧ (∃ q, vwCl[k]? = some q ∧ q.1 = y.cls) ∧ k < 13 ∧ y.cls ≠ "java/lang/invoke/MethodHandle" ∧ y.cls ≠ "java/lang/invoke/VarHandle" ∧ (parseMethodDescriptor y.desc).map (fun d => d.parameters.length) = some na
def SS (own : String) (index : Nat) (y : MethodName) (cb : ByteArray) (maxL : Nat) (ret : Option FieldType) (na : Nat) : Prop :=
  Cond.methodLink own index y ∈ TBg ∧ Cond.static y ∈ TBg ∧ Cond.initialized y.cls ∈ TBg ∧ Cond.code y cb maxL ret ∈ TBg ∧ y.cls ≠ "java/lang/invoke/MethodHandle" ∧ y.cls ≠ "java/lang/invoke/VarHandle" ∧ (parseMethodDescriptor y.desc).map (fun d => d.parameters.length) = some na
def SN (own : String) (index : Nat) (y : MethodName) (host : String) (cb : ByteArray) (maxL : Nat) (ret : Option FieldType) (na : Nat) : Prop :=
  Cond.methodLinkNest own index y host ∈ NWs ∧ Cond.static y ∈ TBg ∧ Cond.initialized y.cls ∈ TBg ∧ Cond.code y cb maxL ret ∈ TBg ∧ y.cls ≠ "java/lang/invoke/MethodHandle" ∧ y.cls ≠ "java/lang/invoke/VarHandle" ∧ (parseMethodDescriptor y.desc).map (fun d => d.parameters.length) = some na
def SC (own : String) (index : Nat) (y : MethodName) (cb : ByteArray) (maxL : Nat) (na : Nat) : Prop :=
  Cond.methodLink own index y ∈ TBg ∧ Cond.instanceMethod y ∈ TBg ∧ Cond.initialized y.cls ∈ TBg ∧ Cond.code y cb maxL none ∈ TBg ∧ y.name = "<init>" ∧ y.cls ≠ "java/lang/invoke/MethodHandle" ∧ y.cls ≠ "java/lang/invoke/VarHandle" ∧ (parseMethodDescriptor y.desc).map (fun d => d.parameters.length) = some na
/-- a call of a String's own method -/
def SR (own : String) (index : Nat) (y : MethodName) (cb : ByteArray) (maxL : Nat) (ret : Option FieldType) (na : Nat) : Prop :=
  Cond.methodLink own index y ∈ TBg ∧ Cond.instanceMethod y ∈ TBg ∧ Cond.selects y.cls y y ∈ TBg ∧ Cond.initialized y.cls ∈ TBg ∧ Cond.code y cb maxL ret ∈ TBg ∧ y.cls = "java/lang/String" ∧ y.cls ≠ "java/lang/invoke/MethodHandle" ∧ y.cls ≠ "java/lang/invoke/VarHandle" ∧ (parseMethodDescriptor y.desc).map (fun d => d.parameters.length) = some na
