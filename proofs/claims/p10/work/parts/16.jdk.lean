/-! the JDK's own: Math, System.arraycopy, clone() of a row of ints, Arrays.copyOf -/
def upA {α : Type} (f : Nat → Nat → α) (a : Nat) (g : Nat → α) : Nat → Nat → α := fun b i => if b = a then g i else f b i
theorem upA_eq {α : Type} {f : Nat → Nat → α} {a i : Nat} {g : Nat → α} : upA f a g a i = g i := by simp [upA]
theorem upA_ne {α : Type} {f : Nat → Nat → α} {a b i : Nat} {g : Nat → α} (h : b ≠ a) : upA f a g b i = f b i := by simp [upA, h]
section JDK
variable {p : Program} {l : Launch} {e : Env} {R : Room} {s : State} {m : MethodId} {args : Array Value} {below : List Frame} {meth : Method} {c : Code} {H : Heap} {locs : List Loc} {cells slots : Nat} {Q : State → Prop}
variable {cc : ByteArray} {pc : Nat} {ls : Array Slot} {rest : List Value} {B : Nat} {D : va_G} {cA : Nat → ClassId} {kd : sK} {ig : sI} {rg : sR} {lg : sG} {own : String} {nL index : Nat}
theorem r_max (C : Cx p m c cc nL s args own B D cA) (ss : SS own index yJ9_max_7cf53 cJ9_max_7cf53 2 (some .int) 2) (hsize : ls.size = nL) (hf : 1 ≤ R.frames) (hlc : (rest.map fun v => v.category).sum + 13 ≤ R.locals) (hc : cells ≤ R.cells) (hs : slots ≤ R.slots) {x y : Int32} (hdg : decode cc pc = .ok (.invokestatic index, 3))
    (kk : ∀ z : Int32, (x.toInt ≤ z.toInt ∧ y.toInt ≤ z.toInt ∧ (z.toInt = x.toInt ∨ z.toInt = y.toInt)) → W p l e R s m args below meth c H locs cells slots Q (F0 m (pc + 3) ls (.int z :: rest))) : W p l e R s m args below meth c H locs cells slots Q (F0 m pc ls (.int y :: .int x :: rest)) := by
  obtain ⟨⟨hx, hb, hml, hown, hts⟩, hK⟩ := C
  obtain ⟨s1, s2, s3, s4, -⟩ := ss
  refine va_mmax hx hb (hml.trans hsize.symm) hown (hts _ s1) (hts _ s2) (hts _ s3) (hts _ s4) hf hlc hc hs hdg (kk _ ?_)
  split
  · rename_i h
    have := Int32.lt_iff_toInt_lt.mp h
    omega
  · rename_i h
    rw [Int32.lt_iff_toInt_lt] at h
    omega
theorem r_min (C : Cx p m c cc nL s args own B D cA) (ss : SS own index yJ9_min_7cf53 cJ9_min_7cf53 2 (some .int) 2) (hsize : ls.size = nL) (hf : 1 ≤ R.frames) (hlc : (rest.map fun v => v.category).sum + 13 ≤ R.locals) (hc : cells ≤ R.cells) (hs : slots ≤ R.slots) {x y : Int32} (hdg : decode cc pc = .ok (.invokestatic index, 3))
    (kk : ∀ z : Int32, (z.toInt ≤ x.toInt ∧ z.toInt ≤ y.toInt ∧ (z.toInt = x.toInt ∨ z.toInt = y.toInt)) → W p l e R s m args below meth c H locs cells slots Q (F0 m (pc + 3) ls (.int z :: rest))) : W p l e R s m args below meth c H locs cells slots Q (F0 m pc ls (.int y :: .int x :: rest)) := by
  obtain ⟨⟨hx, hb, hml, hown, hts⟩, hK⟩ := C
  obtain ⟨s1, s2, s3, s4, -⟩ := ss
  refine va_mmin hx hb (hml.trans hsize.symm) hown (hts _ s1) (hts _ s2) (hts _ s3) (hts _ s4) hf hlc hc hs hdg (kk _ ?_)
  split
  · rename_i h
    have := Int32.lt_iff_toInt_lt.mp h
    omega
  · rename_i h
    rw [Int32.lt_iff_toInt_lt] at h
    omega
theorem nn32 {z : Int32} (hz : 0 ≤ z.toInt) : z.toInt = (z.toNatClampNeg : Int) := by
  show z.toInt = ((z.toInt.toNat : Nat) : Int)
  omega
theorem nl0 {z : Int32} (hz : 0 ≤ z.toInt) : ¬ z < 0 := fun h => by rw [Int32.lt_iff_toInt_lt, Int32.toInt_zero] at h; omega
/-- arraycopy between rows of ints or of longs -/
theorem r_acopy {k a0 a n0 n1 : Nat} {sp dp n : Int32} (hkk : k = 20 ∨ k = 23) (C : Cx p m c cc nL s args own B D cA) (hw : WD B D cA s.heap kd ig rg lg H locs) (s1 : Cond.methodLink own index arraycopyName ∈ TBg) (s2 : Cond.native arraycopyName ∈ TBg) (s3 : Cond.static arraycopyName ∈ TBg) (s4 : Cond.initialized "java/lang/System" ∈ TBg)
    (ha0 : kd a0 = some (k, n0)) (ha : kd a = some (k, n1)) (h1 : 0 ≤ sp.toInt) (h2 : 0 ≤ dp.toInt) (h3 : 0 ≤ n.toInt) (h4 : sp.toInt + n.toInt ≤ (n0 : Int)) (h5 : dp.toInt + n.toInt ≤ (n1 : Int)) (hsize : ls.size = nL)
    (hframes : 1 ≤ R.frames) (hlocals : (rest.map fun v => v.category).sum + (nativeFrameWords "java/lang/System" "arraycopy" 5 + 11) ≤ R.locals) (hdg : decode cc pc = .ok (.invokestatic index, 3))
    (kk : ∀ (H1 : Heap) (locs1 : List Loc) (ig' : sI) (lg' : sG), (∀ b i, b ≠ a → ig' b i = ig b i) → (∀ b i, b ≠ a → lg' b i = lg b i) → (k = 20 → lg' = lg ∧ ∀ i, ig' a i = va_cpy (ig a0) (ig a) sp.toInt.toNat dp.toInt.toNat n.toInt.toNat i) → (k = 23 → ig' = ig ∧ ∀ i, lg' a i = va_cpy (lg a0) (lg a) sp.toInt.toNat dp.toInt.toNat n.toInt.toNat i) → H1.size = H.size → WD B D cA s.heap kd ig' rg lg' H1 locs1 → W p l e R s m args below meth c H1 locs1 cells slots Q (F0 m (pc + 3) ls rest)) : W p l e R s m args below meth c H locs cells slots Q (F0 m pc ls (.int n :: .int dp :: .ref a :: .int sp :: .ref a0 :: rest)) := by
  obtain ⟨⟨hx, hb, hml, hown, hts⟩, hK⟩ := C
  have k13 : ¬ k < 13 := by omega
  have hc0 := hw.1.arr ha0 k13
  have hc1 := hw.1.arr ha k13
  obtain ⟨ty, hT, hprim, hfitv⟩ : ∃ ty : FieldType, ArrOfT s (cA k) ty ∧ refKind ty = false ∧ ∀ (b i : Nat), fits ty (aV k ig rg lg b i) = true := by
    rcases hkk with rfl | rfl
    · exact ⟨.int, (hK.1.2 0 _ rfl).1, rfl, fun b i => rfl⟩
    · exact ⟨.long, (hK.1.2 3 _ rfl).1, rfl, fun b i => rfl⟩
  intro T hT' X
  obtain ⟨-, k0, hk0, cm0, hkk0⟩ := hT n0 (aV k ig rg lg a0)
  obtain ⟨-, k1, hk1, cm1, hkk1⟩ := hT n1 (aV k ig rg lg a)
  obtain ⟨vm', X', step⟩ := X.arraycopy hx hown (hts _ s1) (hts _ s2) (hts _ s3) (hts _ s4) (src := a0) (dst := a) (cs := arrV (cA k) n0 (aV k ig rg lg a0)) (cd := arrV (cA k) n1 (aV k ig rg lg a)) (srcPos := sp) (destPos := dp) (n := n) (by rw [hT']; exact hc0) (by rw [hT']; exact hc1)
    (fun _ h => by cases h) (fun _ h => by cases h) (fun h => by cases h) (fun h => by cases h) hk0 hk1 hkk0 hkk1 (by simp [hprim]) (nl0 h1) (nl0 h2) (nl0 h3)
    (by rw [arrV_size]; omega) (by rw [arrV_size]; omega)
    (fun vm₁ _ i hi => by
      have hi2 : sp.toNatClampNeg + i < n0 := by
        have e1 := nn32 h1
        have e2 := nn32 h3
        omega
      have e : (arrV (cA k) n0 (aV k ig rg lg a0)).slots.getD (sp.toNatClampNeg + i) .null = aV k ig rg lg a0 (sp.toNatClampNeg + i) := by
        rw [Array.getD_eq_getD_getElem?, arrV_read _ _ hi2]
        rfl
      refine ⟨?_, ?_⟩
      · rw [e]
        exact hfitv _ _
      · rw [e]
        rcases hkk with rfl | rfl <;> exact trivial)
    (g := F0 m pc ls (.int n :: .int dp :: .ref a :: .int sp :: .ref a0 :: rest)) rfl (by rw [hml, hsize]) (rest := rest) rfl (by rw [hb]; exact hdg) hframes (by show 2 * 0 + _ + _ ≤ _; omega)
  have hcp : sp.toNatClampNeg + n.toNatClampNeg ≤ n0 := by
    have e1 := nn32 h1
    have e2 := nn32 h3
    omega
  obtain ⟨ig', lg', q1, q2, q3, q4, q5⟩ : ∃ (ig' : sI) (lg' : sG), (∀ b i, b ≠ a → ig' b i = ig b i) ∧ (∀ b i, b ≠ a → lg' b i = lg b i) ∧ (k = 20 → lg' = lg ∧ ∀ i, ig' a i = va_cpy (ig a0) (ig a) sp.toInt.toNat dp.toInt.toNat n.toInt.toNat i) ∧ (k = 23 → ig' = ig ∧ ∀ i, lg' a i = va_cpy (lg a0) (lg a) sp.toInt.toNat dp.toInt.toNat n.toInt.toNat i) ∧ copied (arrV (cA k) n0 (aV k ig rg lg a0)) (arrV (cA k) n1 (aV k ig rg lg a)) sp dp n = arrV (cA k) n1 (aV k ig' rg lg' a) := by
    rcases hkk with rfl | rfl
    · refine ⟨upA ig a (va_cpy (ig a0) (ig a) sp.toInt.toNat dp.toInt.toNat n.toInt.toNat), lg, fun b i h => upA_ne h, fun _ _ _ => rfl, fun _ => ⟨rfl, fun i => upA_eq⟩, fun h => (by cases h), ?_⟩
      have e9 := va_copied (fun z : Int32 => Value.int z) (cA 20) (cA 20) (n1 := n1) (dp := dp.toNatClampNeg) (ig a0) (ig a) hcp
      have e8 : (fun j => Value.int (va_cpy (ig a0) (ig a) sp.toNatClampNeg dp.toNatClampNeg n.toNatClampNeg j)) = aV 20 (upA ig a (va_cpy (ig a0) (ig a) sp.toInt.toNat dp.toInt.toNat n.toInt.toNat)) rg lg a := by
        funext j
        simp [aV, upA]
        try rfl
      rw [e8] at e9
      exact e9
    · refine ⟨ig, upA lg a (va_cpy (lg a0) (lg a) sp.toInt.toNat dp.toInt.toNat n.toInt.toNat), fun _ _ _ => rfl, fun b i h => upA_ne h, fun h => (by cases h), fun _ => ⟨rfl, fun i => upA_eq⟩, ?_⟩
      have e9 := va_copied (fun z : Int64 => Value.long z) (cA 23) (cA 23) (n1 := n1) (dp := dp.toNatClampNeg) (lg a0) (lg a) hcp
      have e8 : (fun j => Value.long (va_cpy (lg a0) (lg a) sp.toNatClampNeg dp.toNatClampNeg n.toNatClampNeg j)) = aV 23 ig rg (upA lg a (va_cpy (lg a0) (lg a) sp.toInt.toNat dp.toInt.toNat n.toInt.toNat)) a := by
        funext j
        simp [aV, upA]
        try rfl
      rw [e8] at e9
      exact e9
  rw [q5] at X' step
  have hlt : a < H.size := hw.lt ha
  have oq : ∀ q : Nat, q ≠ a → (H.setIfInBounds a (arrV (cA k) n1 (aV k ig' rg lg' a)))[q]? = H[q]? := fun q hq => by simp [Array.getElem?_setIfInBounds, Ne.symm hq]
  have hheap : ((T.setVm vm').setCell a (arrV (cA k) n1 (aV k ig' rg lg' a))).heap = H.setIfInBounds a (arrV (cA k) n1 (aV k ig' rg lg' a)) := by rw [← hT']; rfl
  obtain ⟨t, a1, b1⟩ := kk _ _ ig' lg' q1 q2 q3 q4 (by simp) ⟨hw.1.put ha (PWat_arr k13 (show (H.setIfInBounds a _)[a]? = some _ by simp [Array.getElem?_setIfInBounds, hlt])) oq (fun b i h => q1 b i h) (fun _ _ _ => rfl) (fun b i h => q2 b i h), hw.2.1, ⟨by simp; exact hw.2.2.1.1, fun q g1 g2 => by
      rw [oq q (fun e => g2 (by rw [e]; exact hw.ge ha))]
      exact hw.2.2.1.2.1 q g1 g2, fun q hq => by
      rcases List.mem_append.mp hq with h | h
      · exact hw.2.2.1.2.2 q h
      · obtain ⟨z, -, hz⟩ := List.mem_map.mp h
        rw [← hz]
        exact hw.ge ha⟩, hw.2.2.2⟩ _ hheap X'
  exact ⟨t, step t a1, b1⟩
/-- clone() of a row of ints -/
theorem r_clone {a n : Nat} (C : Cx p m c cc nL s args own B D cA) (hw : WD B D cA s.heap kd ig rg lg H locs) (s1 : Cond.methodLink own index ⟨"[I", "clone", "()Ljava/lang/Object;"⟩ ∈ TBg) (s2 : Cond.sameMethod "[I" "java/lang/Object" "clone" "()Ljava/lang/Object;" ∈ TBg) (s3 : Cond.native ⟨"java/lang/Object", "clone", "()Ljava/lang/Object;"⟩ ∈ TBg) (s4 : Cond.instanceMethod ⟨"java/lang/Object", "clone", "()Ljava/lang/Object;"⟩ ∈ TBg) (s5 : Cond.selects "[I" ⟨"[I", "clone", "()Ljava/lang/Object;"⟩ ⟨"java/lang/Object", "clone", "()Ljava/lang/Object;"⟩ ∈ TBg)
    (ha : kd a = some (20, n)) (hsize : ls.size = nL) (hframes : 1 ≤ R.frames) (hlocals : (rest.map fun v => v.category).sum + 14 ≤ R.locals) (hcells : cells + 1 ≤ R.cells) (hslots : slots + n ≤ R.slots) (hdg : decode cc pc = .ok (.invokevirtual index, 3)) {h : Nat} (hh : H.size = h)
    (kk : ∀ (H1 : Heap), H1.size = h + 1 → WD B D cA s.heap (upK kd h 20 n) (upA ig h (ig a)) rg lg H1 locs → W p l e R s m args below meth c H1 locs (cells + 1) (slots + n) Q (F0 m (pc + 3) ls (.ref h :: rest))) : W p l e R s m args below meth c H locs cells slots Q (F0 m pc ls (.ref a :: rest)) := by
  subst hh
  obtain ⟨⟨hx, hb, hml, hown, hts⟩, hK⟩ := C
  have hnm : s.vm.findClass "[I" = some (cA 20) := (hK.1.2 0 _ rfl).2
  obtain ⟨c0, t0', f1, f2, f3⟩ := Cond.castable_spec (va_Nw.use (A := args) rfl hK.2.2.2.2.2)
  cases hnm.symm.trans f1
  have hc0 := hw.1.arr ha (by decide)
  intro T hT X
  have hcellT : T.heap[a]? = some (arrV (cA 20) n (aV 20 ig rg lg a)) := by rw [hT]; exact hc0
  obtain ⟨-, kA, hkA, comp, hkind⟩ := State.isArrayOf_alike X.warmed.alike ((hK.1.2 0 _ rfl).1 0 (fun _ => .null))
  obtain ⟨-, kS, hkS, compS, hkindS⟩ := (hK.1.2 0 _ rfl).1 0 (fun _ => .null)
  obtain ⟨vm', X', st⟩ := X.cloneArray hx hown (hts _ s1) (hts _ s2) (hts _ s3) (hts _ s4) (hts _ s5) (a := a) (cell := arrV (cA 20) n (aV 20 ig rg lg a)) hcellT (fun k h => by cases h) (fun h => by cases h) hnm f2 f3
    (fun i v hv => by
      have hk' : T.vm.classes[cA 20]? = some kA := hkA
      have hfv : fits .int v = true := by
        have hi : i < n := by
          have := (Array.getElem?_eq_some_iff.mp hv).1
          rwa [arrV_size] at this
        rw [arrV_read _ _ hi] at hv
        cases hv
        rfl
      have hcl0 : (arrV (cA 20) n (aV 20 ig rg lg a)).cls = cA 20 := rfl
      rw [hcl0]
      simpa [State.fitsSlot, State.slotType?, hk', hkind] using hfv)
    (g := F0 m pc ls (.ref a :: rest)) rfl (by rw [hml, hsize]) rfl (by rw [hb]; exact hdg) hframes (by show 2 * 0 + _ + 14 ≤ _; omega) hcells (by rw [arrV_size]; exact hslots) (hloader := Vm.clonesLoader_of_array hkS hkindS)
  rw [arrV_size] at X'
  have hce : ({ cls := (arrV (cA 20) n (aV 20 ig rg lg a)).cls, slots := (arrV (cA 20) n (aV 20 ig rg lg a)).slots } : Cell) = arrV (cA 20) n (aV 20 ig rg lg a) := rfl
  rw [hce] at X' st
  generalize hH1 : H.push (arrV (cA 20) n (aV 20 ig rg lg a)) = H1
  have z1 : H1.size = H.size + 1 := by rw [← hH1, Array.size_push]
  have e1 : H1[H.size]? = some (arrV (cA 20) n (aV 20 ig rg lg a)) := by rw [← hH1, Array.getElem?_push_size]
  have o1 : ∀ q : Nat, q < H.size → H1[q]? = H[q]? := fun q hq => by rw [← hH1, Array.getElem?_push, if_neg (Nat.ne_of_lt hq)]
  have e2 : aV 20 ig rg lg a = aV 20 (upA ig H.size (ig a)) rg lg H.size := by
    funext j
    simp [aV, upA]
  obtain ⟨t, b1, b2⟩ := kk H1 z1 ⟨hw.1.new (PWat_arr (by decide) (by rw [e1, e2])) o1 (fun b j hb' => upA_ne hb') (fun _ _ _ => rfl) (fun _ _ _ => rfl), hw.newD, hw.newS z1 o1, hw.2.2.2⟩ _ (by rw [← hH1, ← hT]; rfl) X'
  refine ⟨t, ?_, b2⟩
  have ha0 : T.heap.size = H.size := by rw [hT]
  rw [ha0] at st
  exact st t b1
/-- checkcast of a row of ints -/
theorem r_castI {a n : Nat} (C : Cx p m c cc nL s args own B D cA) (hw : WD B D cA s.heap kd ig rg lg H locs) (s1 : Cond.classLink own index "[I" ∈ TBg) (ha : kd a = some (20, n)) (hdg : decode cc pc = .ok (.checkcast index, 3))
    (kk : W p l e R s m args below meth c H locs cells slots Q (F0 m (pc + 3) ls (.ref a :: rest))) : W p l e R s m args below meth c H locs cells slots Q (F0 m pc ls (.ref a :: rest)) := by
  obtain ⟨⟨hx, hb, hml, hown, hts⟩, hK⟩ := C
  have hnm : s.vm.findClass "[I" = some (cA 20) := (hK.1.2 0 _ rfl).2
  have hc0 := hw.1.arr ha (by decide)
  intro T hT X
  obtain ⟨vm', X', st⟩ := X.checkcastYes hx hown (hts _ s1) (by rw [hT]; exact hc0) rfl hnm (va_asg _ _) (g := F0 m pc ls (.ref a :: rest)) rfl rfl (by rw [hb]; exact hdg)
  obtain ⟨t, a1, b1⟩ := kk (T.setVm vm') hT X'
  exact ⟨t, st t a1, b1⟩
end JDK
