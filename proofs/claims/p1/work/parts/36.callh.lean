/-! a static call of a method with a table that never throws, over the world -/
section CALLH
variable {p : Program} {l : Launch} {e : Env} {R : Room} {s : State} {m : MethodId} {args : Array Value} {below : List Frame} {meth : Method} {c : Code} {H : Heap} {locs : List Loc} {cells slots : Nat} {Q : State → Prop}
variable {cc : ByteArray} {pc : Nat} {ls : Array Slot} {rest : List Value} {B sa : Nat} {D : va_G} {cA : Nat → ClassId} {kd : sK} {ig : sI} {rg : sR} {lg : sG} {own : String} {nL : Nat}
variable {y : MethodName} {cb : ByteArray} {maxL na index : Nat} {ret : Option FieldType} {rm : Room} {As st : List Value} {Post : aP} {hh : List (Nat × Nat × Nat × Nat)}
theorem r_callH (C : Cx p m c cc nL s args own D cA) (hK : KX B sa s) (hw : WD B D cA s.heap kd ig rg lg H locs) (hM : MH l B D cA sa y cb maxL ret hh rm As kd ig rg lg H.size True Post)
    (s1 : Cond.methodLink own index y ∈ TBg) (s2 : Cond.static y ∈ TBg) (s3 : Cond.initialized y.cls ∈ TBg) (s5 : Cond.codeWith y cb maxL ret hh ∈ TBg) (s8 : y.cls ≠ "java/lang/invoke/MethodHandle" ∧ y.cls ≠ "java/lang/invoke/VarHandle" ∧ (parseMethodDescriptor y.desc).map (fun d => d.parameters.length) = some na)
    (hn : As.length = na) (hsize : ls.size = nL) (hst : st = As.reverse ++ rest) (hrest : (rest.map fun v => v.category).sum ≤ 8) (hR : rm.frames + 1 ≤ R.frames ∧ 8 + (maxL + 11) + rm.locals ≤ R.locals) (hf : cells + rm.cells ≤ R.cells ∧ slots + rm.slots ≤ R.slots) (hdg : decode cc pc = .ok (.invokestatic index, 3))
    (kk : ∀ (r : Option Value) (kd' : sK) (ig' : sI) (rg' : sR) (lg' : sG) (H' : Heap) (locs' : List Loc), WD B D cA s.heap kd' ig' rg' lg' H' locs' → H.size ≤ H'.size → Post r kd' ig' rg' lg' H'.size → W p l e R s m args below meth c H' locs' (cells + rm.cells) (slots + rm.slots) Q (F0 m (pc + 3) ls (r.toList ++ rest))) : W p l e R s m args below meth c H locs cells slots Q (F0 m pc ls st) := by
  refine r_goesX (N := True) hw (vx_runSX (hh := hh) (bytes := cb) (maxL := maxL) (ret := ret) (n := na) (index := index) C.1 hM (vx_cwSW na C.1.2.2.2.2 (TBg_all ?_) rfl rfl rfl s8 hR) ⟨PcX.blind, PcX.pre C hK hw⟩ rfl hn hsize hst (lv_room hrest) hdg hf) (fun _ _ _ _ h => (h trivial).elim) kk
  intro w hw
  simp only [va_wsS, List.mem_append, List.mem_cons, List.not_mem_nil, or_false] at hw
  rcases hw with (rfl | rfl | rfl) | rfl | h
  · exact s1
  · exact s2
  · exact s3
  · exact s5
  · exact h
end CALLH
