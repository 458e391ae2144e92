section ROWS
variable {p : Program} {l : Launch} {e : Env} {R : Room} {s : State} {m : MethodId} {args : Array Value} {below : List Frame} {meth : Method} {c : Code} {H : Heap} {locs : List Loc} {cells slots : Nat} {Q : State → Prop}
variable {cc : ByteArray} {pc : Nat} {ls : Array Slot} {rest : List Value} {B : Nat} {D : va_G} {cA : Nat → ClassId} {kd : sK} {ig : sI} {rg : sR} {lg : sG} {own : String} {nL : Nat}
theorem WD.ge (hw : WD B D cA s.heap kd ig rg lg H locs) {a k n : Nat} (ha : kd a = some (k, n)) : B ≤ a := hw.2.1 a (by rw [ha]; simp)
theorem WD.lt (hw : WD B D cA s.heap kd ig rg lg H locs) {a k n : Nat} (ha : kd a = some (k, n)) : a < H.size := (hw.1 a k n ha).lt
theorem WD.size (hw : WD B D cA s.heap kd ig rg lg H locs) : B ≤ H.size := Nat.le_trans hw.2.2.2 hw.2.2.1.1
theorem WD.fresh (hw : WD B D cA s.heap kd ig rg lg H locs) : kd H.size = none := by
  cases h : kd H.size with
  | none => rfl
  | some q => exact absurd (hw.lt (k := q.1) (n := q.2) h) (Nat.lt_irrefl _)
/-- getfield -/
theorem r_get (C : Cx p m c cc nL s args own B D cA) (hw : WD B D cA s.heap kd ig rg lg H locs) {a k n j index : Nat} {fin : Bool} {ty : FieldType} (ha : kd a = some (k, n)) (fl : FL own index k j fin ty) {v : Value} (hv : oV k ig rg a j = v) (hdg : decode cc pc = .ok (.getfield index, 3))
    (kk : W p l e R s m args below meth c H locs cells slots Q (F0 m (pc + 3) ls (v :: rest))) : W p l e R s m args below meth c H locs cells slots Q (F0 m pc ls (.ref a :: rest)) := by
  obtain ⟨Cn, T, N, t0, h1, h2, h3, h4, h5, h6, h7, h8, h9, h10, h11⟩ := fl
  have hob := hw.1 a k n ha
  unfold PWat at hob
  rw [if_pos h3] at hob
  obtain ⟨cell, q1, q2, q3, q4⟩ := hob
  obtain ⟨⟨hx, hb, hml, hown, hts⟩, hK⟩ := C
  obtain ⟨hS, hfc, kC, hkC, hkind⟩ := hK.1.1 k _ h1
  obtain ⟨cf, kf, fi, f, hi, hsl⟩ := hS j h2
  refine W.getf hx hb hown (hts _ h6) hi (u_facts hfc hkC (u_lays hts h5 h2) hi).1 q1 (by rw [q3]; exact fun h => by cases h) (v := v) ?_ rfl rfl hdg kk
  rw [hsl, q4 j (by rw [h4]; exact h2), hv]
/-- putfield of a number -/
theorem r_puti (C : Cx p m c cc nL s args own B D cA) (hw : WD B D cA s.heap kd ig rg lg H locs) {a k n j index : Nat} {ty : FieldType} {x : Int32} (ha : kd a = some (k, n)) (fl : FL own index k j false ty) (hj : isRf k j = false) (hn : narrow ty (.int x) = .int x) (hf : fits ty (.int x) = true) (hdg : decode cc pc = .ok (.putfield index, 3))
    (kk : ∀ (H1 : Heap) (locs1 : List Loc), H1.size = H.size → WD B D cA s.heap kd (up2 ig a j x) rg lg H1 locs1 → W p l e R s m args below meth c H1 locs1 cells slots Q (F0 m (pc + 3) ls rest)) : W p l e R s m args below meth c H locs cells slots Q (F0 m pc ls (.int x :: .ref a :: rest)) := by
  obtain ⟨Cn, T, N, t0, h1, h2, h3, h4, h5, h6, h7, h8, h9, h10, h11⟩ := fl
  have hob := hw.1 a k n ha
  unfold PWat at hob
  rw [if_pos h3] at hob
  obtain ⟨cell, q1, q2, q3, q4⟩ := hob
  obtain ⟨⟨hx, hb, hml, hown, hts⟩, hK⟩ := C
  have hap := va_apart (own := own) hts h5 t0 h8 h9 hK.1 h1
  obtain ⟨hS, hfc, kC, hkC, hkind⟩ := hK.1.1 k _ h1
  obtain ⟨cf, kf, fi, f, hi, hsl⟩ := hS j h2
  have hlay := hts _ (h5 _ (u_in_lay h2))
  unfold u_lay at hlay
  rw [if_neg (by rw [h10]; decide)] at hlay
  have h12 := u_store hfc hkC hkind hlay hi (h8 j h2) (by rw [h11]; exact hn) (by rw [h11]; exact hf)
  rw [h4] at q4
  refine W.putK hx hb (f := f) ⟨hown, hts _ h6, ⟨_, _, _, hi⟩, (u_facts hfc hkC (u_lays hts h5 h2) hi).1⟩ (by rw [q2]; exact h12) q1 q3 (by rw [hsl]; exact k2_hasslot (q4 j h2)) rfl rfl hdg fun H' e1 e2 e3 => ?_
  rw [hsl] at e1 ⊢
  refine kk H' _ e2 ⟨hw.1.put ha ?_ e3 (fun b i hb' => up2_a hb') (fun _ _ _ => rfl) (fun _ _ _ => rfl), hw.2.1, hw.2.2.1.put e2 e3 (hw.ge ha), hw.2.2.2⟩
  unfold PWat
  rw [if_pos h3, h4]
  refine t_OB.to (V := updV (oV k ig rg a) j (.int x)) ⟨_, e1, q2, q3, t_set q4 hap h2 _⟩ (fun i _ => ?_)
  by_cases hij : i = j
  · subst hij
    simp [updV, oV, hj, up2]
  · simp [updV, oV, hij, up2]
/-- putfield of a reference -/
theorem r_putr (C : Cx p m c cc nL s args own B D cA) (hw : WD B D cA s.heap kd ig rg lg H locs) {a k n j index : Nat} {ty : FieldType} {v : Value} (r : Option Nat) (hv : va_rf r = v) (ha : kd a = some (k, n)) (fl : FL own index k j false ty) (hj : isRf k j = true) (hn : narrow ty v = v) (hf : fits ty v = true) (hdg : decode cc pc = .ok (.putfield index, 3))
    (kk : ∀ (H1 : Heap) (locs1 : List Loc), H1.size = H.size → WD B D cA s.heap kd ig (up2 rg a j r) lg H1 locs1 → W p l e R s m args below meth c H1 locs1 cells slots Q (F0 m (pc + 3) ls rest)) : W p l e R s m args below meth c H locs cells slots Q (F0 m pc ls (v :: .ref a :: rest)) := by
  subst hv
  obtain ⟨Cn, T, N, t0, h1, h2, h3, h4, h5, h6, h7, h8, h9, h10, h11⟩ := fl
  have hob := hw.1 a k n ha
  unfold PWat at hob
  rw [if_pos h3] at hob
  obtain ⟨cell, q1, q2, q3, q4⟩ := hob
  obtain ⟨⟨hx, hb, hml, hown, hts⟩, hK⟩ := C
  have hap := va_apart (own := own) hts h5 t0 h8 h9 hK.1 h1
  obtain ⟨hS, hfc, kC, hkC, hkind⟩ := hK.1.1 k _ h1
  obtain ⟨cf, kf, fi, f, hi, hsl⟩ := hS j h2
  have hlay := hts _ (h5 _ (u_in_lay h2))
  unfold u_lay at hlay
  rw [if_neg (by rw [h10]; decide)] at hlay
  have h12 := u_store hfc hkC hkind hlay hi (h8 j h2) (by rw [h11]; exact hn) (by rw [h11]; exact hf)
  rw [h4] at q4
  refine W.putK hx hb (f := f) ⟨hown, hts _ h6, ⟨_, _, _, hi⟩, (u_facts hfc hkC (u_lays hts h5 h2) hi).1⟩ (by rw [q2]; exact h12) q1 q3 (by rw [hsl]; exact k2_hasslot (q4 j h2)) rfl rfl hdg fun H' e1 e2 e3 => ?_
  rw [hsl] at e1 ⊢
  refine kk H' _ e2 ⟨hw.1.put ha ?_ e3 (fun _ _ _ => rfl) (fun b i hb' => up2_a hb') (fun _ _ _ => rfl), hw.2.1, hw.2.2.1.put e2 e3 (hw.ge ha), hw.2.2.2⟩
  unfold PWat
  rw [if_pos h3, h4]
  refine t_OB.to (V := updV (oV k ig rg a) j (va_rf r)) ⟨_, e1, q2, q3, t_set q4 hap h2 _⟩ (fun i _ => ?_)
  by_cases hij : i = j
  · subst hij
    simp [updV, oV, hj, up2]
  · simp [updV, oV, hij, up2]
/-- .. of final fields in the constructor -/
theorem r_putiF (C : Cx p m c cc nL s args own B D cA) (hw : WD B D cA s.heap kd ig rg lg H locs) {a k n j index : Nat} {ty : FieldType} {x : Int32} (hin2 : meth.name = "<init>") (hC : (vwCl[k]?).map (fun q => q.1) = some own) (ha : kd a = some (k, n)) (fl : FL own index k j true ty) (hj : isRf k j = false) (hn : narrow ty (.int x) = .int x) (hf : fits ty (.int x) = true) (hdg : decode cc pc = .ok (.putfield index, 3))
    (kk : ∀ (H1 : Heap) (locs1 : List Loc), H1.size = H.size → WD B D cA s.heap kd (up2 ig a j x) rg lg H1 locs1 → W p l e R s m args below meth c H1 locs1 cells slots Q (F0 m (pc + 3) ls rest)) : W p l e R s m args below meth c H locs cells slots Q (F0 m pc ls (.int x :: .ref a :: rest)) := by
  obtain ⟨Cn, T, N, t0, h1, h2, h3, h4, h5, h6, h7, h8, h9, h10, h11⟩ := fl
  have hob := hw.1 a k n ha
  unfold PWat at hob
  rw [if_pos h3] at hob
  obtain ⟨cell, q1, q2, q3, q4⟩ := hob
  rw [h1] at hC
  have hCn : Cn = own := Option.some.inj hC
  obtain ⟨⟨hx, hb, hml, hown, hts⟩, hK⟩ := C
  have hap := va_apart (own := own) hts h5 t0 h8 h9 hK.1 h1
  obtain ⟨hS, hfc, kC, hkC, hkind⟩ := hK.1.1 k _ h1
  obtain ⟨cf, kf, fi, f, hi, hsl⟩ := hS j h2
  have hlay := hts _ (h5 _ (u_in_lay h2))
  unfold u_lay at hlay
  rw [if_pos h10] at hlay
  have hcf : m.cls = cf := by
    obtain ⟨_, _, c', _, _, _, -, -, hf', -, -, -, hown2, -⟩ := Cond.laysFinal_spec hlay
    have e1 : c' = cf := by have := hi.symm.trans hf'; simp at this; exact this.1.symm
    rw [h7, hCn] at hown2
    rw [← e1]; exact Option.some.inj (hown.symm.trans hown2)
  have h12 := u_fits hfc hkC hkind (Or.inr hlay) hi (h8 j h2) (by rw [h11]; exact hn) (by rw [h11]; exact hf)
  rw [h4] at q4
  refine W.putFinK hx hb hown (hts _ h6) hi (u_facts hfc hkC (u_lays hts h5 h2) hi).1 hcf hin2 (by rw [q2]; exact h12) q1 q3 (by rw [hsl]; exact k2_hasslot (q4 j h2)) rfl rfl hdg fun H' e1 e2 e3 => ?_
  rw [hsl] at e1 ⊢
  refine kk H' _ e2 ⟨hw.1.put ha ?_ e3 (fun b i hb' => up2_a hb') (fun _ _ _ => rfl) (fun _ _ _ => rfl), hw.2.1, hw.2.2.1.put e2 e3 (hw.ge ha), hw.2.2.2⟩
  unfold PWat
  rw [if_pos h3, h4]
  refine t_OB.to (V := updV (oV k ig rg a) j (.int x)) ⟨_, e1, q2, q3, t_set q4 hap h2 _⟩ (fun i _ => ?_)
  by_cases hij : i = j
  · subst hij
    simp [updV, oV, hj, up2]
  · simp [updV, oV, hij, up2]
theorem r_putrF (C : Cx p m c cc nL s args own B D cA) (hw : WD B D cA s.heap kd ig rg lg H locs) {a k n j index : Nat} {ty : FieldType} {v : Value} (r : Option Nat) (hv : va_rf r = v) (hin2 : meth.name = "<init>") (hC : (vwCl[k]?).map (fun q => q.1) = some own) (ha : kd a = some (k, n)) (fl : FL own index k j true ty) (hj : isRf k j = true) (hn : narrow ty v = v) (hf : fits ty v = true) (hdg : decode cc pc = .ok (.putfield index, 3))
    (kk : ∀ (H1 : Heap) (locs1 : List Loc), H1.size = H.size → WD B D cA s.heap kd ig (up2 rg a j r) lg H1 locs1 → W p l e R s m args below meth c H1 locs1 cells slots Q (F0 m (pc + 3) ls rest)) : W p l e R s m args below meth c H locs cells slots Q (F0 m pc ls (v :: .ref a :: rest)) := by
  subst hv
  obtain ⟨Cn, T, N, t0, h1, h2, h3, h4, h5, h6, h7, h8, h9, h10, h11⟩ := fl
  have hob := hw.1 a k n ha
  unfold PWat at hob
  rw [if_pos h3] at hob
  obtain ⟨cell, q1, q2, q3, q4⟩ := hob
  rw [h1] at hC
  have hCn : Cn = own := Option.some.inj hC
  obtain ⟨⟨hx, hb, hml, hown, hts⟩, hK⟩ := C
  have hap := va_apart (own := own) hts h5 t0 h8 h9 hK.1 h1
  obtain ⟨hS, hfc, kC, hkC, hkind⟩ := hK.1.1 k _ h1
  obtain ⟨cf, kf, fi, f, hi, hsl⟩ := hS j h2
  have hlay := hts _ (h5 _ (u_in_lay h2))
  unfold u_lay at hlay
  rw [if_pos h10] at hlay
  have hcf : m.cls = cf := by
    obtain ⟨_, _, c', _, _, _, -, -, hf', -, -, -, hown2, -⟩ := Cond.laysFinal_spec hlay
    have e1 : c' = cf := by have := hi.symm.trans hf'; simp at this; exact this.1.symm
    rw [h7, hCn] at hown2
    rw [← e1]; exact Option.some.inj (hown.symm.trans hown2)
  have h12 := u_fits hfc hkC hkind (Or.inr hlay) hi (h8 j h2) (by rw [h11]; exact hn) (by rw [h11]; exact hf)
  rw [h4] at q4
  refine W.putFinK hx hb hown (hts _ h6) hi (u_facts hfc hkC (u_lays hts h5 h2) hi).1 hcf hin2 (by rw [q2]; exact h12) q1 q3 (by rw [hsl]; exact k2_hasslot (q4 j h2)) rfl rfl hdg fun H' e1 e2 e3 => ?_
  rw [hsl] at e1 ⊢
  refine kk H' _ e2 ⟨hw.1.put ha ?_ e3 (fun _ _ _ => rfl) (fun b i hb' => up2_a hb') (fun _ _ _ => rfl), hw.2.1, hw.2.2.1.put e2 e3 (hw.ge ha), hw.2.2.2⟩
  unfold PWat
  rw [if_pos h3, h4]
  refine t_OB.to (V := updV (oV k ig rg a) j (va_rf r)) ⟨_, e1, q2, q3, t_set q4 hap h2 _⟩ (fun i _ => ?_)
  by_cases hij : i = j
  · subst hij
    simp [updV, oV, hj, up2]
  · simp [updV, oV, hij, up2]
theorem in_of {i : Int32} {n : Nat} (h0 : 0 ≤ i.toInt) (h1 : i.toInt < (n : Int)) : vp_in i n := vp_in_iff.mpr ⟨h0, h1⟩
theorem PW.arr (h : PW D cA kd ig rg lg H) {a k n : Nat} (ha : kd a = some (k, n)) (hk : ¬ k < 13) : H[a]? = some (arrV (cA k) n (aV k ig rg lg a)) := by
  have h1 := h a k n ha
  unfold PWat at h1
  rwa [if_neg hk] at h1
theorem r_alen (C : Cx p m c cc nL s args own B D cA) (hw : WD B D cA s.heap kd ig rg lg H locs) {a k n : Nat} (ha : kd a = some (k, n)) (hk : k = 20 ∨ k = 21 ∨ k = 22 ∨ k = 23 ∨ k = 24) (hn : n < 2147483648) (hdg : decode cc pc = .ok (.arraylength, 1))
    (kk : ∀ z : Int32, z.toInt = (n : Int) → W p l e R s m args below meth c H locs cells slots Q (F0 m (pc + 1) ls (.int z :: rest))) : W p l e R s m args below meth c H locs cells slots Q (F0 m pc ls (.ref a :: rest)) := by
  obtain ⟨⟨hx, hb, hml, hown, hts⟩, hK⟩ := C
  have hc := hw.1.arr ha (by omega)
  have hT : ∃ ty, ArrOfT s (cA k) ty := by
    rcases hk with e | e | e | e | e <;> subst e
    · exact ⟨_, (hK.1.2 0 _ rfl).1⟩
    · exact ⟨_, (hK.1.2 1 _ rfl).1⟩
    · exact ⟨_, (hK.1.2 2 _ rfl).1⟩
    · exact ⟨_, (hK.1.2 3 _ rfl).1⟩
    · exact ⟨_, (hK.1.2 4 _ rfl).1⟩
  obtain ⟨ty, hT⟩ := hT
  refine W.alen (n := nI n) hx hb hc (hT n _) (by rw [arrV_size]; rfl) rfl rfl hdg (kk _ (nI_toInt hn))
theorem r_iald (C : Cx p m c cc nL s args own B D cA) (hw : WD B D cA s.heap kd ig rg lg H locs) {a n : Nat} {i : Int32} (ha : kd a = some (20, n)) (h0 : 0 ≤ i.toInt) (h1 : i.toInt < (n : Int)) (hdg : decode cc pc = .ok (.iaload, 1))
    (kk : W p l e R s m args below meth c H locs cells slots Q (F0 m (pc + 1) ls (.int (ig a i.toInt.toNat) :: rest))) : W p l e R s m args below meth c H locs cells slots Q (F0 m pc ls (.int i :: .ref a :: rest)) := by
  obtain ⟨⟨hx, hb, hml, hown, hts⟩, hK⟩ := C
  have hin := in_of h0 h1
  have hlt : i.toNatClampNeg < n := Nat.not_le.mp fun q => hin (Or.inr q)
  exact W.iald (v := .int (ig a i.toInt.toNat)) hx hb (hw.1.arr ha (by decide)) ((hK.1.2 0 _ rfl).1 n _) (fun q => by cases q) (by rw [arrV_size]; exact hin) (by rw [arrV_read _ _ hlt]; rfl) rfl rfl hdg kk
theorem r_cald (C : Cx p m c cc nL s args own B D cA) (hw : WD B D cA s.heap kd ig rg lg H locs) {a n : Nat} {i : Int32} (ha : kd a = some (21, n)) (h0 : 0 ≤ i.toInt) (h1 : i.toInt < (n : Int)) (hdg : decode cc pc = .ok (.caload, 1))
    (kk : W p l e R s m args below meth c H locs cells slots Q (F0 m (pc + 1) ls (.int (ig a i.toInt.toNat) :: rest))) : W p l e R s m args below meth c H locs cells slots Q (F0 m pc ls (.int i :: .ref a :: rest)) := by
  obtain ⟨⟨hx, hb, hml, hown, hts⟩, hK⟩ := C
  have hin := in_of h0 h1
  have hlt : i.toNatClampNeg < n := Nat.not_le.mp fun q => hin (Or.inr q)
  exact W.cald (v := .int (ig a i.toInt.toNat)) hx hb (hw.1.arr ha (by decide)) ((hK.1.2 1 _ rfl).1 n _) (fun q => by cases q) (by rw [arrV_size]; exact hin) (by rw [arrV_read _ _ hlt]; rfl) rfl rfl hdg kk
theorem r_zald (C : Cx p m c cc nL s args own B D cA) (hw : WD B D cA s.heap kd ig rg lg H locs) {a n : Nat} {i : Int32} (ha : kd a = some (22, n)) (h0 : 0 ≤ i.toInt) (h1 : i.toInt < (n : Int)) (hdg : decode cc pc = .ok (.baload, 1))
    (kk : W p l e R s m args below meth c H locs cells slots Q (F0 m (pc + 1) ls (.int (ig a i.toInt.toNat) :: rest))) : W p l e R s m args below meth c H locs cells slots Q (F0 m pc ls (.int i :: .ref a :: rest)) := by
  obtain ⟨⟨hx, hb, hml, hown, hts⟩, hK⟩ := C
  have hin := in_of h0 h1
  have hlt : i.toNatClampNeg < n := Nat.not_le.mp fun q => hin (Or.inr q)
  exact W.zald (v := .int (ig a i.toInt.toNat)) hx hb (hw.1.arr ha (by decide)) ((hK.1.2 2 _ rfl).1 n _) (fun q => by cases q) (by rw [arrV_size]; exact hin) (by rw [arrV_read _ _ hlt]; rfl) rfl rfl hdg kk
theorem r_lald (C : Cx p m c cc nL s args own B D cA) (hw : WD B D cA s.heap kd ig rg lg H locs) {a n : Nat} {i : Int32} (ha : kd a = some (23, n)) (h0 : 0 ≤ i.toInt) (h1 : i.toInt < (n : Int)) (hdg : decode cc pc = .ok (.laload, 1))
    (kk : W p l e R s m args below meth c H locs cells slots Q (F0 m (pc + 1) ls (.long (lg a i.toInt.toNat) :: rest))) : W p l e R s m args below meth c H locs cells slots Q (F0 m pc ls (.int i :: .ref a :: rest)) := by
  obtain ⟨⟨hx, hb, hml, hown, hts⟩, hK⟩ := C
  have hin := in_of h0 h1
  have hlt : i.toNatClampNeg < n := Nat.not_le.mp fun q => hin (Or.inr q)
  exact W.lald (v := .long (lg a i.toInt.toNat)) hx hb (hw.1.arr ha (by decide)) ((hK.1.2 3 _ rfl).1 n _) (fun q => by cases q) (by rw [arrV_size]; exact hin) (by rw [arrV_read _ _ hlt]; rfl) rfl rfl hdg kk
theorem r_aald (C : Cx p m c cc nL s args own B D cA) (hw : WD B D cA s.heap kd ig rg lg H locs) {a n : Nat} {i : Int32} (ha : kd a = some (24, n)) (h0 : 0 ≤ i.toInt) (h1 : i.toInt < (n : Int)) {v : Value} (hv : va_rf (rg a i.toInt.toNat) = v) (hdg : decode cc pc = .ok (.aaload, 1))
    (kk : W p l e R s m args below meth c H locs cells slots Q (F0 m (pc + 1) ls (v :: rest))) : W p l e R s m args below meth c H locs cells slots Q (F0 m pc ls (.int i :: .ref a :: rest)) := by
  obtain ⟨⟨hx, hb, hml, hown, hts⟩, hK⟩ := C
  have hin := in_of h0 h1
  have hlt : i.toNatClampNeg < n := Nat.not_le.mp fun q => hin (Or.inr q)
  exact W.aald (v := v) (ty := .object "SheetDoctor$Cell") hx hb (hw.1.arr ha (by decide)) ((hK.1.2 4 _ rfl).1 n _) rfl (fun q => by cases q) (by rw [arrV_size]; exact hin) (by rw [arrV_read _ _ hlt, ← hv]; rfl) rfl rfl hdg kk
end ROWS
