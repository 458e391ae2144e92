section ROWS3
variable {p : Program} {l : Launch} {e : Env} {R : Room} {s : State} {m : MethodId} {args : Array Value} {below : List Frame} {meth : Method} {c : Code} {H : Heap} {locs : List Loc} {cells slots : Nat} {Q : State → Prop}
variable {cc : ByteArray} {pc : Nat} {ls : Array Slot} {rest : List Value}
theorem ti_inc (hx : p.tables.exec = Jvm.exec) (hb : c.code = cc) {i nL k : Nat} {n : Int} {x : Int32} {lv : List (Nat × Value)} (hdg : decode cc pc = .ok (.iinc i n, 3)) (h : lv_has ls nL lv) (hk : lv[k]? = some (i, .int x)) (hn : i < nL) (hi : (Int32.ofInt n).toInt = n) (hr : -2147483648 ≤ x.toInt + n ∧ x.toInt + n ≤ 2147483647)
    (kk : ∀ z : Int32, z.toInt = x.toInt + n → ∀ ls' : Array Slot, lv_has ls' nL ((i, Value.int z) :: lv.filter (fun q => !(q.1 == i) && !(q.1 + 1 == i && q.2.category == 2))) → W p l e R s m args below meth c H locs cells slots Q (F0 m (pc + 3) ls' rest)) : W p l e R s m args below meth c H locs cells slots Q (F0 m pc ls rest) :=
  lv_iinc hx hb hdg h hk rfl hn rfl (kk _ (by rw [i32_add (by rw [hi]; exact hr.1) (by rw [hi]; exact hr.2), hi]))
theorem nar_b {z : Int32} (h : z.toInt = 0 ∨ z.toInt = 1) : narrow .boolean (.int z) = .int z := by
  rcases h with h | h
  · have e1 : z = 0 := i32_inj h
    subst e1; rfl
  · have e1 : z = 1 := i32_inj h
    subst e1; rfl
theorem fit_b {z : Int32} (h : z.toInt = 0 ∨ z.toInt = 1) : fits .boolean (.int z) = true := by
  rcases h with h | h
  · have e1 : z = 0 := i32_inj h
    subst e1; rfl
  · have e1 : z = 1 := i32_inj h
    subst e1; rfl
end ROWS3
/-! the layout: what is made by new SheetDoctor(), new SheetDoctorModel(), new long[1], in this order, from the address B on -/
def shp : List (Nat × Nat) := [(11, 0), (7, 0), (21, 120), (20, 121), (20, 121), (20, 121), (20, 120), (20, 120), (20, 120), (6, 0), (0, 0), (24, 288), (22, 288), (20, 20), (24, 20), (5, 0), (20, 288), (23, 5), (23, 1440), (23, 1440), (22, 288), (20, 288), (20, 288), (20, 288), (10, 0), (20, 288), (20, 288), (20, 288), (20, 32), (2, 0), (20, 288), (20, 288), (9, 0), (20, 864), (22, 288), (20, 288), (20, 96), (8, 0), (22, 288), (20, 288), (20, 288), (23, 1440), (23, 1440), (3, 0), (20, 900), (1, 0), (20, 288), (20, 288), (20, 1440),
  (12, 0), (20, 120), (20, 122), (20, 122), (23, 122), (20, 37080), (20, 37080), (20, 37080), (20, 37080), (20, 309), (20, 309), (20, 309), (20, 927), (22, 288), (20, 20), (23, 1440), (23, 1440), (20, 288), (20, 288), (20, 864), (22, 288), (22, 288), (20, 288), (20, 82944), (22, 288), (20, 90), (20, 900), (20, 288), (20, 288), (20, 1440), (23, 1)]
/-- object, field, what it points to: never changed once made -/
def rfp : List (Nat × Nat × Nat) := [(0, 0, 1), (0, 1, 9), (0, 2, 15), (0, 3, 24), (0, 4, 29), (0, 5, 32), (0, 6, 37), (0, 7, 43), (0, 8, 45), (1, 0, 2), (1, 3, 3), (1, 4, 4), (1, 5, 5), (1, 9, 6), (1, 10, 7), (1, 11, 8), (9, 0, 10), (9, 1, 11), (9, 2, 12), (9, 3, 13), (9, 4, 14), (15, 0, 9), (15, 1, 16), (15, 3, 17), (15, 4, 18), (15, 5, 19), (15, 6, 20), (15, 7, 21), (15, 8, 22), (15, 10, 23), (24, 0, 9), (24, 1, 15), (24, 2, 25), (24, 3, 26), (24, 4, 27), (24, 5, 28), (29, 0, 9), (29, 1, 30), (29, 2, 31),
  (32, 0, 9), (32, 1, 15), (32, 2, 33), (32, 3, 34), (32, 4, 35), (32, 5, 36), (37, 0, 9), (37, 1, 15), (37, 2, 38), (37, 3, 39), (37, 4, 40), (37, 5, 41), (37, 6, 42), (43, 0, 9), (43, 1, 15), (43, 2, 29), (43, 3, 32), (43, 4, 37), (43, 5, 44), (45, 0, 24), (45, 1, 46), (45, 2, 47), (45, 3, 48)]
def rfm : List (Nat × Nat × Nat) := [(49, 1, 50), (49, 4, 51), (49, 5, 52), (49, 6, 53), (49, 9, 54), (49, 10, 55), (49, 11, 56), (49, 12, 57), (49, 13, 58), (49, 15, 59), (49, 16, 60), (49, 17, 61), (49, 18, 62), (49, 20, 63), (49, 21, 64), (49, 22, 65), (49, 23, 66), (49, 24, 67), (49, 25, 68), (49, 26, 69), (49, 27, 70), (49, 28, 71), (49, 29, 72), (49, 30, 73), (49, 36, 74), (49, 38, 75), (49, 39, 76), (49, 40, 77), (49, 42, 78)]
def Sh (B : Nat) (kd : sK) : Prop := ∀ c q, shp[c]? = some q → kd (B + c) = some q
def Rs (B : Nat) (rg : sR) : Prop := ∀ x ∈ rfp, rg (B + x.1) x.2.1 = some (B + x.2.2)
def Rm (B : Nat) (rg : sR) : Prop := ∀ x ∈ rfm, rg (B + x.1) x.2.1 = some (B + x.2.2)
/-- the same but between two places of the layout -/
def Off {α : Type} (B lo hi : Nat) (f g : Nat → Nat → α) : Prop := ∀ a j, ¬ (B + lo ≤ a ∧ a < B + hi) → f a j = g a j
