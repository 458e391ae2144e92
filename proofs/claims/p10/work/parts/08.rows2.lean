section ROWS2
variable {p : Program} {l : Launch} {e : Env} {R : Room} {s : State} {m : MethodId} {args : Array Value} {below : List Frame} {meth : Method} {c : Code} {H : Heap} {locs : List Loc} {cells slots : Nat} {Q : State → Prop}
variable {cc : ByteArray} {pc : Nat} {ls : Array Slot} {rest : List Value} {B : Nat} {D : va_G} {cA : Nat → ClassId} {kd : sK} {ig : sI} {rg : sR} {lg : sG} {own : String} {nL : Nat}
theorem PWat_arr {a k n : Nat} (hk : ¬ k < 13) (h : H[a]? = some (arrV (cA k) n (aV k ig rg lg a))) : PWat D cA ig rg lg a k n H := by
  unfold PWat
  rwa [if_neg hk]
theorem aV_up {k a j : Nat} {x : Int32} (hk : k ≠ 23 ∧ k ≠ 24) : updV (aV k ig rg lg a) j (.int x) = aV k (up2 ig a j x) rg lg a := by
  funext i
  by_cases hij : i = j
  · subst hij
    simp [updV, aV, hk, up2]
  · simp [updV, aV, hk, hij, up2]
theorem r_iast (C : Cx p m c cc nL s args own B D cA) (hw : WD B D cA s.heap kd ig rg lg H locs) {a n : Nat} {i x : Int32} (ha : kd a = some (20, n)) (h0 : 0 ≤ i.toInt) (h1 : i.toInt < (n : Int)) (hdg : decode cc pc = .ok (.iastore, 1))
    (kk : ∀ (H1 : Heap) (locs1 : List Loc), H1.size = H.size → WD B D cA s.heap kd (up2 ig a i.toInt.toNat x) rg lg H1 locs1 → W p l e R s m args below meth c H1 locs1 cells slots Q (F0 m (pc + 1) ls rest)) : W p l e R s m args below meth c H locs cells slots Q (F0 m pc ls (.int x :: .int i :: .ref a :: rest)) := by
  obtain ⟨⟨hx, hb, hml, hown, hts⟩, hK⟩ := C
  have hin := in_of h0 h1
  refine W.iast hx hb (hw.1.arr ha (by decide)) ((hK.1.2 0 _ rfl).1 n _) (fun q => by cases q) (by rw [arrV_size]; exact hin) rfl rfl hdg fun H1 e1 e2 e3 => ?_
  rw [arrV_store] at e1
  refine kk H1 _ e2 ⟨hw.1.put ha (PWat_arr (by decide) (e1.trans (by rw [← aV_up (by decide)]; rfl))) e3 (fun b i hb' => up2_a hb') (fun _ _ _ => rfl) (fun _ _ _ => rfl), hw.2.1, hw.2.2.1.put e2 e3 (hw.ge ha), hw.2.2.2⟩
theorem r_cast (C : Cx p m c cc nL s args own B D cA) (hw : WD B D cA s.heap kd ig rg lg H locs) {a n : Nat} {i x : Int32} (ha : kd a = some (21, n)) (h0 : 0 ≤ i.toInt) (h1 : i.toInt < (n : Int)) (hn : narrow .char (.int x) = .int x) (hdg : decode cc pc = .ok (.castore, 1))
    (kk : ∀ (H1 : Heap) (locs1 : List Loc), H1.size = H.size → WD B D cA s.heap kd (up2 ig a i.toInt.toNat x) rg lg H1 locs1 → W p l e R s m args below meth c H1 locs1 cells slots Q (F0 m (pc + 1) ls rest)) : W p l e R s m args below meth c H locs cells slots Q (F0 m pc ls (.int x :: .int i :: .ref a :: rest)) := by
  obtain ⟨⟨hx, hb, hml, hown, hts⟩, hK⟩ := C
  have hin := in_of h0 h1
  refine W.cast hx hb (hw.1.arr ha (by decide)) ((hK.1.2 1 _ rfl).1 n _) (fun q => by cases q) (by rw [arrV_size]; exact hin) rfl rfl hdg fun H1 e1 e2 e3 => ?_
  rw [arrV_store, hn] at e1
  refine kk H1 _ e2 ⟨hw.1.put ha (PWat_arr (by decide) (e1.trans (by rw [← aV_up (by decide)]; rfl))) e3 (fun b i hb' => up2_a hb') (fun _ _ _ => rfl) (fun _ _ _ => rfl), hw.2.1, hw.2.2.1.put e2 e3 (hw.ge ha), hw.2.2.2⟩
theorem r_zast (C : Cx p m c cc nL s args own B D cA) (hw : WD B D cA s.heap kd ig rg lg H locs) {a n : Nat} {i x : Int32} (ha : kd a = some (22, n)) (h0 : 0 ≤ i.toInt) (h1 : i.toInt < (n : Int)) (hn : narrow .boolean (.int x) = .int x) (hdg : decode cc pc = .ok (.bastore, 1))
    (kk : ∀ (H1 : Heap) (locs1 : List Loc), H1.size = H.size → WD B D cA s.heap kd (up2 ig a i.toInt.toNat x) rg lg H1 locs1 → W p l e R s m args below meth c H1 locs1 cells slots Q (F0 m (pc + 1) ls rest)) : W p l e R s m args below meth c H locs cells slots Q (F0 m pc ls (.int x :: .int i :: .ref a :: rest)) := by
  obtain ⟨⟨hx, hb, hml, hown, hts⟩, hK⟩ := C
  have hin := in_of h0 h1
  refine W.zast hx hb (hw.1.arr ha (by decide)) ((hK.1.2 2 _ rfl).1 n _) (fun q => by cases q) (by rw [arrV_size]; exact hin) rfl rfl hdg fun H1 e1 e2 e3 => ?_
  rw [arrV_store, hn] at e1
  refine kk H1 _ e2 ⟨hw.1.put ha (PWat_arr (by decide) (e1.trans (by rw [← aV_up (by decide)]; rfl))) e3 (fun b i hb' => up2_a hb') (fun _ _ _ => rfl) (fun _ _ _ => rfl), hw.2.1, hw.2.2.1.put e2 e3 (hw.ge ha), hw.2.2.2⟩
theorem r_last (C : Cx p m c cc nL s args own B D cA) (hw : WD B D cA s.heap kd ig rg lg H locs) {a n : Nat} {i : Int32} {x : Int64} (ha : kd a = some (23, n)) (h0 : 0 ≤ i.toInt) (h1 : i.toInt < (n : Int)) (hdg : decode cc pc = .ok (.lastore, 1))
    (kk : ∀ (H1 : Heap) (locs1 : List Loc), H1.size = H.size → WD B D cA s.heap kd ig rg (up2 lg a i.toInt.toNat x) H1 locs1 → W p l e R s m args below meth c H1 locs1 cells slots Q (F0 m (pc + 1) ls rest)) : W p l e R s m args below meth c H locs cells slots Q (F0 m pc ls (.long x :: .int i :: .ref a :: rest)) := by
  obtain ⟨⟨hx, hb, hml, hown, hts⟩, hK⟩ := C
  have hin := in_of h0 h1
  refine W.last hx hb (hw.1.arr ha (by decide)) ((hK.1.2 3 _ rfl).1 n _) (fun q => by cases q) (by rw [arrV_size]; exact hin) rfl rfl hdg fun H1 e1 e2 e3 => ?_
  rw [arrV_store] at e1
  have e4 : updV (aV 23 ig rg lg a) i.toNatClampNeg (.long x) = aV 23 ig rg (up2 lg a i.toInt.toNat x) a := by
    funext q
    by_cases hq : q = i.toInt.toNat
    · subst hq
      simp [updV, aV, up2]
    · have hq2 : q ≠ i.toNatClampNeg := hq
      simp [updV, aV, up2, hq, hq2]
  rw [e4] at e1
  exact kk H1 _ e2 ⟨hw.1.put ha (PWat_arr (by decide) e1) e3 (fun _ _ _ => rfl) (fun _ _ _ => rfl) (fun b i hb' => up2_a hb'), hw.2.1, hw.2.2.1.put e2 e3 (hw.ge ha), hw.2.2.2⟩
theorem r_aast (C : Cx p m c cc nL s args own B D cA) (hw : WD B D cA s.heap kd ig rg lg H locs) {a n v nv : Nat} {i : Int32} (ha : kd a = some (24, n)) (hv : kd v = some (0, nv)) (h0 : 0 ≤ i.toInt) (h1 : i.toInt < (n : Int)) (hdg : decode cc pc = .ok (.aastore, 1))
    (kk : ∀ (H1 : Heap) (locs1 : List Loc), H1.size = H.size → WD B D cA s.heap kd ig (up2 rg a i.toInt.toNat (some v)) lg H1 locs1 → W p l e R s m args below meth c H1 locs1 cells slots Q (F0 m (pc + 1) ls rest)) : W p l e R s m args below meth c H locs cells slots Q (F0 m pc ls (.ref v :: .int i :: .ref a :: rest)) := by
  obtain ⟨⟨hx, hb, hml, hown, hts⟩, hK⟩ := C
  have hin := in_of h0 h1
  have hlt : i.toNatClampNeg < n := Nat.not_le.mp fun q => hin (Or.inr q)
  have h2 : ¬ i < 0 := fun q => hin (Or.inl q)
  have hov := hw.1 v 0 nv hv
  unfold PWat at hov
  rw [if_pos (by decide)] at hov
  obtain ⟨cellV, g1, g2, g3, -⟩ := hov
  have hcls := (hK.1.1 0 _ rfl).2
  obtain ⟨kA, comp, k1, k2, k3, -⟩ := (hK.1.2 4 _ rfl).2
  have hcomp : comp = D.1 0 := Option.some.inj (k3.symm.trans hcls.1)
  subst hcomp
  obtain ⟨kC, hkC, -⟩ := hcls.2
  refine W.aast hx hb (hw.1.arr ha (by decide)) (fun q h => by cases h) (fun h => by cases h) k1 k2 rfl hkC ⟨h2, by rw [arrV_size]; exact hlt⟩ g1 (fun q h => by rw [g3] at h; cases h) (by rw [g2]; exact hkC) (by rw [g2]; exact va_assign hcls) rfl rfl hdg fun H1 e1 e2 e3 => ?_
  rw [arrV_store] at e1
  have e4 : updV (aV 24 ig rg lg a) i.toNatClampNeg (.ref v) = aV 24 ig (up2 rg a i.toInt.toNat (some v)) lg a := by
    funext q
    by_cases hq : q = i.toInt.toNat
    · subst hq
      simp [updV, aV, up2, va_rf]
    · have hq2 : q ≠ i.toNatClampNeg := hq
      simp [updV, aV, up2, hq, hq2]
  rw [e4] at e1
  exact kk H1 _ e2 ⟨hw.1.put ha (PWat_arr (by decide) e1) e3 (fun _ _ _ => rfl) (fun b i hb' => up2_a hb') (fun _ _ _ => rfl), hw.2.1, hw.2.2.1.put e2 e3 (hw.ge ha), hw.2.2.2⟩
/-- what follows a making -/
theorem WD.newS (hw : WD B D cA s.heap kd ig rg lg H locs) {H1 : Heap} (z : H1.size = H.size + 1) (o : ∀ q, q < H.size → H1[q]? = H[q]?) : va_S (fun q => B ≤ q) s.heap H1 locs :=
  ⟨Nat.le_trans hw.2.2.1.1 (by omega), fun q h1 h2 => (o q (Nat.lt_of_lt_of_le h1 hw.2.2.1.1)).trans (hw.2.2.1.2.1 q h1 h2), hw.2.2.1.2.2⟩
theorem WD.newD (hw : WD B D cA s.heap kd ig rg lg H locs) {k n : Nat} : ∀ a, upK kd H.size k n a ≠ none → B ≤ a := by
  intro a h
  by_cases e1 : a = H.size
  · rw [e1]; exact hw.size
  · rw [upK_ne e1] at h; exact hw.2.1 a h
theorem r_newa {k n : Nat} {ty : FieldType} {atype : ArrayType} (C : Cx p m c cc nL s args own B D cA) (hw : WD B D cA s.heap kd ig rg lg H locs) (ht : newarray.typeOf atype = ty) (hk : (tysA cA)[k - 20]? = some (cA k, ty)) (hkk : k = 20 ∨ k = 21 ∨ k = 22) (harr : Cond.arrayClass ty ∈ TBg) {i : Int32} (hi : i.toInt = (n : Int)) (hdv : defaultValue ty = .int 0) (hbytes : n * componentBytes ty ≤ 536870912) (hcells : cells + 1 ≤ R.cells) (hslots : slots + n ≤ R.slots) (hdg : decode cc pc = .ok (.newarray atype, 2)) {h : Nat} (hh : H.size = h)
    (kk : ∀ (H1 : Heap), H1.size = h + 1 → WD B D cA s.heap (upK kd h k n) (upR ig h 0) rg lg H1 locs → W p l e R s m args below meth c H1 locs (cells + 1) (slots + n) Q (F0 m (pc + 2) ls (.ref h :: rest))) : W p l e R s m args below meth c H locs cells slots Q (F0 m pc ls (.int i :: rest)) := by
  subst ht
  subst hh
  obtain ⟨⟨hx, hb, hml, hown, hts⟩, hK⟩ := C
  refine va_newaK (N := n) hx hb (hts _ harr) rfl hdg rfl (fun q => by rw [Int32.lt_iff_toInt_lt, hi, Int32.toInt_zero] at q; omega) (by show i.toInt.toNat = n; omega) hbytes hcells hslots rfl fun H1 cB e1 z1 o1 hAr hNm => ?_
  have hRA := (hK.1.2 (k - 20) _ hk).2
  have hcB : cB = cA k := by
    have h2 : s.vm.findClass ("[" ++ (newarray.typeOf atype).toString) = some (cA k) := by
      revert hRA
      cases atype <;> exact fun h => h
    exact Option.some.inj (hNm.symm.trans h2)
  subst hcB
  refine kk H1 z1 ⟨hw.1.new (PWat_arr (by omega) ?_) o1 (fun b j hb' => upR_ne hb') (fun _ _ _ => rfl) (fun _ _ _ => rfl), hw.newD, hw.newS z1 o1, hw.2.2.2⟩
  rw [e1]
  congr 2
  funext j
  rw [hdv]
  simp [aV, upR, show k ≠ 23 by omega, show k ≠ 24 by omega]
theorem r_newl {n : Nat} (C : Cx p m c cc nL s args own B D cA) (hw : WD B D cA s.heap kd ig rg lg H locs) (harr : Cond.arrayClass .long ∈ TBg) {i : Int32} (hi : i.toInt = (n : Int)) (hbytes : n * componentBytes .long ≤ 536870912) (hcells : cells + 1 ≤ R.cells) (hslots : slots + n ≤ R.slots) (hdg : decode cc pc = .ok (.newarray .long, 2)) {h : Nat} (hh : H.size = h)
    (kk : ∀ (H1 : Heap), H1.size = h + 1 → WD B D cA s.heap (upK kd h 23 n) ig rg (upR lg h 0) H1 locs → W p l e R s m args below meth c H1 locs (cells + 1) (slots + n) Q (F0 m (pc + 2) ls (.ref h :: rest))) : W p l e R s m args below meth c H locs cells slots Q (F0 m pc ls (.int i :: rest)) := by
  subst hh
  obtain ⟨⟨hx, hb, hml, hown, hts⟩, hK⟩ := C
  refine va_newaK (N := n) (atype := .long) hx hb (hts _ harr) rfl hdg rfl (fun q => by rw [Int32.lt_iff_toInt_lt, hi, Int32.toInt_zero] at q; omega) (by show i.toInt.toNat = n; omega) hbytes hcells hslots rfl fun H1 cB e1 z1 o1 hAr hNm => ?_
  have hRA : s.vm.findClass ("[" ++ FieldType.long.toString) = some (cA 23) := (hK.1.2 3 _ rfl).2
  have hcB : cB = cA 23 := Option.some.inj (hNm.symm.trans hRA)
  subst hcB
  refine kk H1 z1 ⟨hw.1.new (PWat_arr (by omega) ?_) o1 (fun _ _ _ => rfl) (fun _ _ _ => rfl) (fun b j hb' => upR_ne hb'), hw.newD, hw.newS z1 o1, hw.2.2.2⟩
  rw [e1]
  congr 2
  funext j
  simp [aV, upR]
  rfl
theorem r_anew {n : Nat} {index : Nat} (C : Cx p m c cc nL s args own B D cA) (hw : WD B D cA s.heap kd ig rg lg H locs) (hcl : Cond.classLink own index RX0 ∈ TBg) {i : Int32} (hi : i.toInt = (n : Int)) (hbytes : n * 4 ≤ 536870912) (hcells : cells + 1 ≤ R.cells) (hslots : slots + n ≤ R.slots) (hdg : decode cc pc = .ok (.anewarray index, 3)) {h : Nat} (hh : H.size = h)
    (kk : ∀ (H1 : Heap), H1.size = h + 1 → WD B D cA s.heap (upK kd h 24 n) ig (upR rg h none) lg H1 locs → W p l e R s m args below meth c H1 locs (cells + 1) (slots + n) Q (F0 m (pc + 3) ls (.ref h :: rest))) : W p l e R s m args below meth c H locs cells slots Q (F0 m pc ls (.int i :: rest)) := by
  subst hh
  obtain ⟨⟨hx, hb, hml, hown, hts⟩, hK⟩ := C
  have hN : i.toNatClampNeg = n := by show i.toInt.toNat = n; omega
  refine W.anew hx hb hown (hts _ hcl) (va_AO.use hK.2.2.1) rfl hdg rfl (fun q => by rw [Int32.lt_iff_toInt_lt, hi, Int32.toInt_zero] at q; omega) (by rw [hN]; exact hbytes) hcells (by rw [hN]; exact hslots) fun cB kA comp f1 f2 f3 f4 => ?_
  rw [hN]
  obtain ⟨_, _, -, -, -, hRA⟩ := (hK.1.2 4 _ rfl).2
  have hcB : cB = cA 24 := Option.some.inj (f1.symm.trans hRA)
  subst hcB
  have o1 : ∀ q : Nat, q < H.size → (H.push ({ cls := cA 24, slots := Array.replicate n .null, vm := .none } : Cell))[q]? = H[q]? := fun q hq => by rw [Array.getElem?_push, if_neg (Nat.ne_of_lt hq)]
  refine kk _ (by rw [Array.size_push]) ⟨hw.1.new (PWat_arr (by omega) ?_) o1 (fun _ _ _ => rfl) (fun b j hb' => upR_ne hb') (fun _ _ _ => rfl), hw.newD, hw.newS (by rw [Array.size_push]) o1, hw.2.2.2⟩
  rw [Array.getElem?_push_size, show aV 24 ig (upR rg H.size none) lg H.size = fun _ => Value.null from by funext j; simp [aV, upR, va_rf], ← arrV_new]
theorem r_new {k index : Nat} {Cn : String} {T : u_T} {N : Nat} {t0 : Nat → FieldType} (C : Cx p m c cc nL s args own B D cA) (hw : WD B D cA s.heap kd ig rg lg H locs) (h1 : vwCl[k]? = some (Cn, T, N)) (h3 : k < 13) (h4 : nf k = N) (h5 : ∀ w ∈ u_ws Cn T N, w ∈ TBg) (h8 : ∀ q, q < N → parseFieldDescriptor (T q).2.2.1 = some (t0 q)) (hd : ∀ j, j < N → defaultValue (t0 j) = if isRf k j = true then .null else .int 0)
    (hcl : Cond.classLink own index Cn ∈ TBg) (hins : Cond.instantiable Cn N ∈ TBg) (hini : Cond.initialized Cn ∈ TBg) (hcells : cells + 1 ≤ R.cells) (hslots : slots + N ≤ R.slots) (hdg : decode cc pc = .ok (.new index, 3)) {h : Nat} (hh : H.size = h)
    (kk : ∀ (H1 : Heap), H1.size = h + 1 → WD B D cA s.heap (upK kd h k 0) (upR ig h 0) (upR rg h none) lg H1 locs → W p l e R s m args below meth c H1 locs (cells + 1) (slots + N) Q (F0 m (pc + 3) ls (.ref h :: rest))) : W p l e R s m args below meth c H locs cells slots Q (F0 m pc ls rest) := by
  subst hh
  obtain ⟨⟨hx, hb, hml, hown, hts⟩, hK⟩ := C
  have hKn := hK.1.1 k _ h1
  refine W.newcK hx hb hown (hts _ hcl) (hts _ hins) (hts _ hini) rfl hdg hcells hslots hKn.2.1 rfl fun H1 kC hkC e1 z1 o1 => ?_
  refine kk H1 z1 ⟨hw.1.new ?_ o1 (fun b j hb' => upR_ne hb') (fun b j hb' => upR_ne hb') (fun _ _ _ => rfl), hw.newD, hw.newS z1 o1, hw.2.2.2⟩
  unfold PWat
  rw [if_pos h3, h4]
  refine (u_born t0 hts h5 hKn hkC e1 h8).to (fun j hj => ?_)
  rw [hd j hj]
  by_cases hr : isRf k j = true
  · simp [oV, hr, upR, va_rf]
  · simp [oV, hr, upR]
end ROWS2
