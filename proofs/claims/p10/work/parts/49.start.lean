/-! THE LAW, from its entry -/
theorem ci_0 {B : Nat} : CI B 1 (fun _ _ => 0) (fun _ _ => none) (fun _ _ => 0) := ⟨fun x _ h1 h2 => by omega, fun c j h1 h2 => by omega, fun h => by omega, fun _ _ _ => ⟨rfl, rfl⟩, fun _ _ => rfl⟩
set_option maxHeartbeats 4000000 in
set_option maxRecDepth 100000 in
theorem whole_start {p : Program} {e : Env} {s : State} {m : MethodId} {below : List Frame} {meth : Method} {c : Code} (l : Launch) (hst : l.stackTraces = false) {b L : Nat} {xs : Nat → Int32} (hL : L ≤ 3584) (C0 : lw_At p s m meth c b L xs) : W p l e room_1 s m #[Value.ref b] below meth c s.heap [] 0 0 (lw_Z below #[Value.ref b] s) (entryFrame m ([Value.ref b] : List Value).toArray 7) := by
  obtain ⟨hx, hb, hr, hml, hown, hts, hX, hbl, hlocks, hgv⟩ := id C0
  obtain ⟨D, cA, hKN⟩ := kn_start hts hgv
  have C : Cx p m c cL_law 7 s #[Value.ref b] RL s.heap.size D cA := ⟨⟨hx, hb, hml, hown, fun w h => hts w (TBg_tbl h)⟩, hKN⟩
  have A : LA p s m meth c b L xs D cA := ⟨C, hX, hbl, hr, hlocks, hL⟩
  have hl := lv_entry ([.ref b]) (n := 7) (Nat.le_of_ble_eq_true rfl)
  rw [lg_entry_eq]
  generalize (lg_sl ([.ref b]) ++ List.replicate (7 - (lg_sl ([.ref b])).length) Slot.unset).toArray = ls at hl ⊢
  have hl : lv_has ls 7 [(0, .ref b)] := hl
  have hw : WD s.heap.size D cA s.heap (kx s.heap.size 0) (fun _ _ => 0) (fun _ _ => none) (fun _ _ => 0) s.heap [] := ⟨fun a k n h => (by unfold kx at h; rw [if_neg (by omega)] at h; cases h), fun a h => (h (by unfold kx; rw [if_neg (by omega)])).elim, va_S.rf, Nat.le_refl _⟩
  refine r_new (k := 11) (t0 := tyX11) C hw rfl (by decide) rfl inT11 tyX11_ok dfX11 cl_L_8 it_11 id_11 (Nat.le_of_ble_eq_true rfl) (Nat.le_of_ble_eq_true rfl) dL_law_0 (h := s.heap.size + 0) rfl (fun H hsz hw => ?_)
  rw [kx_up (m := 1) rfl rfl] at hw
  rw [upR_same (fun _ => rfl), upR_same (fun _ => rfl)] at hw
  have hsz : H.size = s.heap.size + 1 := hsz
  refine lv_dup hx hb dL_law_3 rfl ?_
  refine r_callI (As := []) (rest := [.ref (s.heap.size + 0)]) C hw (t_X11_init l s.heap.size D cA (kx s.heap.size 1) (fun _ _ => 0) (fun _ _ => none) (fun _ _ => 0) _ hsz rfl ci_0) sc_L_15 rfl hl.1 rfl (Nat.le_of_ble_eq_true rfl) ⟨Nat.le_of_ble_eq_true rfl, Nat.le_of_ble_eq_true rfl⟩ ⟨Nat.le_of_ble_eq_true rfl, Nat.le_of_ble_eq_true rfl⟩ dL_law_4 (fun r kd1 ig1 rg1 lg1 H locs hw hH hp => ?_)
  obtain ⟨rfl, hsz, rfl, rfl, hci, hr0⟩ := hp
  have zn := hci.2.2.2.1
  refine lv_astore_n (lv' := [(1, .ref (s.heap.size + 0)), (0, .ref b)]) hx hb dL_law_7 rfl hl (by decide) rfl (fun ls hl => ?_)
  refine r_new (k := 12) (t0 := tyX12) C hw rfl (by decide) rfl inT12 tyX12_ok dfX12 cl_L_16 it_12 id_12 (Nat.le_of_ble_eq_true rfl) (Nat.le_of_ble_eq_true rfl) dL_law_8 hsz (fun H hsz hw => ?_)
  rw [kx_up (m := 50) rfl rfl] at hw
  rw [upR_same (fun j => (zn _ j (by omega)).1), upR_same (fun j => (zn _ j (by omega)).2)] at hw
  have hsz : H.size = s.heap.size + 50 := hsz
  refine lv_dup hx hb dL_law_11 rfl ?_
  refine r_callI (As := []) (rest := [.ref (s.heap.size + 49)]) C hw (t_X12_init l s.heap.size D cA (kx s.heap.size 50) ig1 rg1 (fun _ _ => 0) _ hsz rfl zn (fun _ _ => rfl)) sc_L_18 rfl hl.1 rfl (Nat.le_of_ble_eq_true rfl) ⟨Nat.le_of_ble_eq_true rfl, Nat.le_of_ble_eq_true rfl⟩ ⟨Nat.le_of_ble_eq_true rfl, Nat.le_of_ble_eq_true rfl⟩ dL_law_12 (fun r kd2 ig2 rg2 lg2 H locs hw hH hp => ?_)
  obtain ⟨rfl, hsz, rfl, rfl, hrm, hrg, hig, h71⟩ := hp
  refine lv_astore_n (lv' := [(2, .ref (s.heap.size + 49)), (1, .ref (s.heap.size + 0)), (0, .ref b)]) hx hb dL_law_15 rfl hl (by decide) rfl (fun ls hl => ?_)
  refine lv_iconst (v := 1) hx hb dL_law_16 (by decide) (ti_c 1 (by decide) fun z1 hz1 => ?_)
  refine r_newl (n := 1) C hw ac_long hz1 (by decide) (Nat.le_of_ble_eq_true rfl) (Nat.le_of_ble_eq_true rfl) dL_law_17 hsz (fun H hsz hw => ?_)
  rw [kx_up (m := 80) rfl rfl] at hw
  rw [upR_same (fun _ => rfl)] at hw
  refine lv_astore_n (lv' := [(3, .ref (s.heap.size + 79)), (2, .ref (s.heap.size + 49)), (1, .ref (s.heap.size + 0)), (0, .ref b)]) hx hb dL_law_19 rfl hl (by decide) rfl (fun ls hl => ?_)
  refine lv_iconst (v := 0) hx hb dL_law_20 (by decide) ?_
  refine lv_istore (lv' := [(4, .int 0), (3, .ref (s.heap.size + 79)), (2, .ref (s.heap.size + 49)), (1, .ref (s.heap.size + 0)), (0, .ref b)]) hx hb dL_law_21 hl (by decide) rfl (fun ls hl => ?_)
  have hl : lv_has ls 7 [(0, .ref b), (1, .ref (s.heap.size + 0)), (2, .ref (s.heap.size + 49)), (3, .ref (s.heap.size + 79)), (4, .int 0)] := lv_sub hl [4, 3, 2, 1, 0] rfl
  refine W.widen (k := 80 + 6 * 0) (n := 257976 + 370 * 0) (Nat.le_of_ble_eq_true rfl) (Nat.le_of_ble_eq_true rfl) ?_
  have hlt : ∀ x ∈ rfp, x.1 < 49 := by decide
  have hI : IC [] s.heap.size (kx s.heap.size 80) ig2 rg2 := by
    refine ic_of (fun x h => ?_) (fun c j h1 h2 => ?_) (fun j hj => ?_) ?_ (fun j hj => ?_)
    · have h9 := hlt x h
      rw [hrg _ _ (by omega)]
      rcases Nat.eq_zero_or_pos x.1 with h0 | h0
      · rw [h0]; exact hr0 x h h0
      · exact hci.1 x h h0 h9
    · rw [hig _ _ (by omega)]; exact hci.2.1 c j h1 h2
    · rw [hrg _ _ (by omega)]; exact (hci.2.2.1 (by decide)).1 j hj
    · rw [hrg _ _ (by omega)]; exact (hci.2.2.1 (by decide)).2.1
    · rw [hrg _ _ (by omega)]; exact (hci.2.2.1 (by decide)).2.2 j hj
  have hM : IM [] none none s.heap.size (kx s.heap.size 80) ig2 rg2 := im_of hrm (fun c j h1 h2 h3 => by rw [hig _ _ (by omega)]; exact (zn _ j (by omega)).1)
  have hc2 : ∀ c j, 1 ≤ c → c < 49 → ig2 (s.heap.size + c) j = iv c j := fun c j h1 h2 => by rw [hig _ _ (by omega)]; exact hci.2.1 c j h1 h2
  have hc3 : ∀ j, j < 288 → rg2 (s.heap.size + 11) j = some (s.heap.size + 10) := fun j hj => by rw [hrg _ _ (by omega)]; exact (hci.2.2.1 (by decide)).1 j hj
  have hc4 : rg2 (s.heap.size + 10) 2 = none := by rw [hrg _ _ (by omega)]; exact (hci.2.2.1 (by decide)).2.1
  have hm2 : ∀ c j, 49 ≤ c → c < 79 → c ≠ 71 → ig2 (s.heap.size + c) j = 0 := fun c j h1 h2 h3 => by rw [hig _ _ (by omega)]; exact (zn _ j (by omega)).1
  exact l_loop hst A 512 0 0 [] (fun _ => blk) [] 0 ls H locs _ _ _ _ (by decide) (by decide) (by omega) ⟨fun j h => absurd h (Nat.not_lt_zero j), hI, hM, sch_of hc2 hc3 hc4, fx_of (sm_of hm2 h71) hm2, ws_0, sx_of hc2 hm2⟩ (Nat.le_refl 0) hw hl
