/-! both worlds behind the constructors -/
theorem sh_80 {B : Nat} : Sh B (kx B 80) := fun c q h => kxs c (List.getElem?_eq_some_iff.mp h).1 h
theorem ok_ite {q : Prop} [Decidable q] {a b : Option (Int × Int)} {v : Int32} (ha : okR a v) (hb : okR b v) : okR (if q then a else b) v := by
  split
  · exact ha
  · exact hb
theorem ok_s {n : Int} (h : 0 ≤ n) : okR (some (0, n)) 0 := by
  have e : (0 : Int32).toInt = 0 := by decide
  exact ⟨by rw [e]; exact Int.le_refl 0, by rw [e]; exact h⟩
theorem ok0 (c j : Nat) : okR (cR c j) 0 := by
  unfold cR
  repeat' first | exact ok_s (by decide) | exact trivial | apply ok_ite
theorem ok_iv (c j : Nat) : okR (cR c j) (iv c j) := by
  by_cases h : (c, j) ∈ vsl
  · have e : cR c j = none := (by decide : ∀ x ∈ vsl, cR x.1 x.2 = none) (c, j) h
    rw [e]; exact trivial
  · unfold iv; rw [if_neg h]
    exact ok0 c j
theorem okM0 (c j : Nat) : okR (cM c j) 0 := by
  unfold cM
  repeat' first | exact ok_s (by decide) | exact trivial | apply ok_ite
theorem kx_cell {B q n : Nat} (h : kx B 80 q = some (0, n)) : q = B + 10 := by
  unfold kx at h
  split at h
  · rename_i hb
    have h1 := (by decide : ∀ c, c < 80 → (shp[c]?).map Prod.fst = some 0 → c = 10) (q - B) (by omega) (by rw [h]; rfl)
    omega
  · cases h
theorem ic_of {B : Nat} {ig : sI} {rg : sR} (h1 : Rs B rg) (h2 : ∀ c j, 1 ≤ c → c < 49 → ig (B + c) j = iv c j) (h3 : ∀ j, j < 288 → rg (B + 11) j = some (B + 10)) (h4 : rg (B + 10) 2 = none) (h5 : ∀ j, j < 20 → rg (B + 14) j = some (B + 10)) : IC [] B (kx B 80) ig rg := by
  have k10 : kx B 80 (B + 10) = some (0, 0) := sh_80 10 _ rfl
  refine ⟨⟨sh_80, h1, fun c j hc => ?_, fun j hj => ⟨_, _, h3 j hj, k10⟩, fun j hj => ⟨_, _, h5 j hj, k10⟩, fun q n hq => Or.inl (by rw [kx_cell hq]; exact h4)⟩, (by rw [h2 1 1 (by decide) (by decide)]; rfl), by decide, fun j hj => absurd hj (Nat.not_lt_zero j)⟩
  rcases Nat.eq_zero_or_pos c with h0 | h0
  · subst h0
    have e : cR 0 j = none := by simp [cR]
    rw [e]; exact trivial
  · rw [h2 c j h0 hc]; exact ok_iv c j
theorem im_of {B : Nat} {ig : sI} {rg : sR} (hrm : Rm B rg) (hz : ∀ c j, 49 ≤ c → c < 79 → c ≠ 71 → ig (B + c) j = 0) : IM [] none none B (kx B 80) ig rg := by
  refine ⟨⟨sh_80, hrm, fun c j h1 h2 => ?_, fun p h1 h2 h3 => ?_⟩, ⟨(by rw [hz 49 2 (by decide) (by decide) (by decide)]; rfl), by decide, fun j hj => absurd hj (Nat.not_lt_zero j)⟩, (fun f hf => by cases hf), fun f hf => by cases hf⟩
  · by_cases e : c = 71
    · subst e
      have e : cM 71 j = none := by simp [cM]
      rw [e]; exact trivial
    · rw [hz c j h1 h2 e]; exact okM0 c j
  · rw [hz 59 p (by decide) (by decide) (by decide)] at h3
    exact absurd h3 (by decide)
theorem prt_fd {τ : Tp} {f : Nat → Int32} (h : Prt τ) : ∀ n, Prt (fd τ f n)
  | 0 => h
  | n + 1 => by
    by_cases c : 32 ≤ (f n).toInt ∧ (f n).toInt ≤ 126 ∧ (fd τ f n).length < 120
    · rw [fd_yes c]
      intro j hj
      by_cases e : j < (fd τ f n).length
      · rw [List.getElem_append_left e]; exact prt_fd h n j e
      · have hj2 : j = (fd τ f n).length := by rw [List.length_append, List.length_singleton] at hj; omega
        subst hj2
        rw [List.getElem_append_right (Nat.le_refl _)]
        simp only [Nat.sub_self, List.getElem_cons_zero]
        exact ⟨c.1, c.2.1⟩
    · rw [fd_no c]; exact prt_fd h n
theorem stF.ex {τ : Tp} {σ : Sg} {π : Ps} {x z : Int} {σ1 : Sg} {π1 : Ps} (h : stF τ σ π x z σ1 π1) (ho : onS x) (h0 : pTop (tK τ) (tV τ) (tS τ) 0) : ∃ L, tTop τ x.toNat L ∧ fitW x.toNat L := by
  rcases h with ⟨a, -⟩ | ⟨-, ⟨a, b, -⟩ | ⟨-, -, L, a, b, -⟩⟩
  · exact (a ho).elim
  · exact absurd (pTop.det (fun a => by unfold tS; omega) b h0) a
  · exact ⟨L, a, b⟩
theorem ClQ.b0 {B : Nat} {ig : sI} {rg : sR} (h2 : ∀ c j, 1 ≤ c → c < 49 → ig (B + c) j = iv c j) (h4 : rg (B + 10) 2 = none) : ClQ B (kx B 80) ig rg (B + 10) blk := by
  have z : ∀ j, ig (B + 10) j = 0 := fun j => by
    rw [h2 10 j (by decide) (by decide)]
    unfold iv
    rw [if_neg (by simp [vsl])]
  refine ⟨⟨0, sh_80 10 _ rfl⟩, Or.inl rfl, ⟨?_, ?_, ?_, ?_, ?_⟩, Or.inl ⟨by decide, h4⟩⟩ <;> (rw [z]; rfl)
theorem sch_of {B : Nat} {ig : sI} {rg : sR} (h2 : ∀ c j, 1 ≤ c → c < 49 → ig (B + c) j = iv c j) (h3 : ∀ j, j < 288 → rg (B + 11) j = some (B + 10)) (h4 : rg (B + 10) 2 = none) : SCh B (fun _ => blk) [] 0 (kx B 80) ig rg ∧ FV B (fun _ => blk) 0 ig := by
  refine ⟨⟨fun p hp => ⟨_, h3 p hp, ClQ.b0 h2 h4⟩, ClQ.b0 h2 h4, ⟨by rw [h2 9 5 (by decide) (by decide)]; rfl, by decide⟩, fun i hi => absurd hi (Nat.not_lt_zero i), by rw [h2 9 6 (by decide) (by decide)]; rfl⟩, ?_⟩
  have e : (ig (B + 29) 4).toInt = -1 := by rw [h2 29 4 (by decide) (by decide)]; rfl
  exact ⟨by omega, fun q => by omega⟩
theorem kd_b2 : ¬ kdO blk = 2 := by decide
theorem sm_of {B : Nat} {ig : sI} (hz : ∀ c j, 49 ≤ c → c < 79 → c ≠ 71 → ig (B + c) j = 0) (h71 : ∀ j : Nat, j < 288 → ig (B + 71) j = -1) : SM B (fun _ => blk) [] ig ∧ FMm B (fun _ => blk) ig := by
  have z : ∀ c j, 49 ≤ c → c < 79 → c ≠ 71 → (ig (B + c) j).toInt = 0 := fun c j a b d => by rw [hz c j a b d]; rfl
  refine ⟨⟨fun p hp => ⟨⟨z 59 p (by decide) (by decide) (by decide), z 60 p (by decide) (by decide) (by decide)⟩, ⟨z 61 _ (by decide) (by decide) (by decide), z 61 _ (by decide) (by decide) (by decide), z 61 _ (by decide) (by decide) (by decide)⟩, fun w => absurd w kd_b2, fun _ => z 58 p (by decide) (by decide) (by decide)⟩, ⟨z 49 19 (by decide) (by decide) (by decide), by decide⟩, fun i hi => absurd hi (Nat.not_lt_zero i)⟩, fun p hp => ?_⟩
  rw [h71 p hp]
  exact ⟨fun _ => rfl, fun w => absurd w kd_b2⟩
theorem ws_0 : WS (fun _ => blk) [] := ⟨fun p _ => ⟨fun w => absurd w kd_b2, fun _ => ⟨rfl, rfl⟩⟩, fun e he => by cases he⟩
theorem fx_of {B : Nat} {ig : sI} (h : SM B (fun _ => blk) [] ig ∧ FMm B (fun _ => blk) ig) (hz : ∀ c j, 49 ≤ c → c < 79 → c ≠ 71 → ig (B + c) j = 0) : SM B (fun _ => blk) [] ig ∧ FXm B (fun _ => blk) ig (fun _ _ => 0) := by
  have nt : ∀ p, ¬ isTot (fun _ => blk) p := fun p q => absurd q.2.1 kd_b2
  refine ⟨h.1, ⟨h.2, fun p hp => ⟨fun _ => ⟨hz 66 p (by decide) (by decide) (by decide), hz 67 p (by decide) (by decide) (by decide)⟩, fun w => absurd w kd_b2, fun w => absurd w kd_b2⟩⟩, ⟨fun p hp => Or.inr ⟨by rw [hz 70 p (by decide) (by decide) (by decide)]; rfl, nt p⟩, fun p hp => absurd hp (nt p)⟩, fun p hp => ⟨fun _ => ⟨?_, ?_⟩, fun w => absurd w kd_b2, fun w => absurd w kd_b2⟩, fun p q hp hq => ?_⟩
  · unfold uM un3
    rw [hz 68 _ (by decide) (by decide) (by decide), hz 68 _ (by decide) (by decide) (by decide), hz 68 _ (by decide) (by decide) (by decide)]
    rfl
  · unfold clM
    rw [hz 69 _ (by decide) (by decide) (by decide)]
    rfl
  · rw [bR_z (fun w hw => rfl) (by omega)]
    exact ⟨fun w => (by cases w), fun w => absurd w.2.2.1 kd_b2⟩
theorem lv_of {B : Nat} {ig : sI} (h2 : ∀ c j, 1 ≤ c → c < 49 → ig (B + c) j = iv c j) : LV (-1) B (fun _ => blk) 0 ig (fun _ _ => 0) := by
  have e : (ig (B + 15) 11).toInt = -1 := by rw [h2 15 11 (by decide) (by decide)]; rfl
  exact ⟨⟨by omega, by omega⟩, fun _ _ _ _ _ => rfl, fun q => by omega⟩
theorem vv_of {B : Nat} {ig : sI} (h2 : ∀ c j, 1 ≤ c → c < 49 → ig (B + c) j = iv c j) : VV B (fun _ => blk) 0 ig := by
  have e : (ig (B + 24) 8).toInt = -1 := by rw [h2 24 8 (by decide) (by decide)]; rfl
  exact ⟨⟨by omega, by omega⟩, fun q => by omega⟩
theorem sx_of {B : Nat} {ig : sI} (h2 : ∀ c j, 1 ≤ c → c < 49 → ig (B + c) j = iv c j) (hz : ∀ c j, 49 ≤ c → c < 79 → c ≠ 71 → ig (B + c) j = 0) : Sx B (fun _ => blk) [] 0 ig (fun _ _ => 0) := by
  have e7 : (ig (B + 37) 7).toInt = -1 := by rw [h2 37 7 (by decide) (by decide)]; rfl
  have e8 : (ig (B + 32) 8).toInt = -1 := by rw [h2 32 8 (by decide) (by decide)]; rfl
  have e12 : ∀ p, iv 12 p = 0 := fun p => by
    unfold iv
    rw [if_neg (fun w => absurd w (by simp [vsl]))]
  exact ⟨-1, fun _ => False, [], lv_of h2, ⟨⟨⟨by omega, by omega⟩, fun q => by omega⟩, by omega⟩, vv_of h2, ⟨⟨by omega, by omega⟩, fun q => by omega⟩, K3S.zero, fun p hp => Or.inr ⟨by rw [h2 12 p (by decide) (by decide), e12]; rfl, fun w => w⟩, fun p hp => Or.inr ⟨by rw [hz 62 p (by decide) (by decide) (by decide)]; rfl, fun w => w⟩, ⟨by rw [h2 43 6 (by decide) (by decide)]; rfl, fun i hi => absurd hi (Nat.not_lt_zero i)⟩, ⟨by rw [hz 49 37 (by decide) (by decide) (by decide)]; rfl, fun i hi => absurd hi (Nat.not_lt_zero i)⟩⟩
