/-! THE LAW, from its entry -/
theorem ci_0 {B : Nat} : CI B 1 (fun _ _ => 0) (fun _ _ => none) (fun _ _ => 0) := ⟨fun x _ h1 h2 => by omega, fun c j h1 h2 => by omega, fun h => by omega, fun _ _ _ => ⟨rfl, rfl⟩, fun _ _ => rfl⟩
theorem sh_80 {B : Nat} : Sh B (kx B 80) := fun c q h => kxs c (List.getElem?_eq_some_iff.mp h).1 h
set_option maxHeartbeats 4000000 in
set_option maxRecDepth 100000 in
theorem whole_start {p : Program} {e : Env} {s : State} {m : MethodId} {below : List Frame} {meth : Method} {c : Code} (l : Launch) (hst : l.stackTraces = false) {b L : Nat} {xs : Nat → Int32} (hL : L ≤ 7) (C0 : lw_At p s m meth c b L xs) : W p l e room_1 s m #[Value.ref b] below meth c s.heap [] 0 0 (lw_Z below #[Value.ref b] s) (entryFrame m ([Value.ref b] : List Value).toArray 7) := by
  obtain ⟨hx, hb, hr, hml, hown, hts, hX, hbl, hlocks, hgv⟩ := id C0
  obtain ⟨D, cA, hKN⟩ := kn_start hts
  obtain ⟨sa, hKX⟩ := kx_start hts hgv
  have C : Cx p m c cL_law 7 s #[Value.ref b] RL D cA := ⟨⟨hx, hb, hml, hown, fun w h => hts w (TBg_tbl h)⟩, hKN⟩
  have A : LA p s m meth c b L sa xs D cA := ⟨C, hKX, hX, hbl, hr, hlocks⟩
  have hl := lv_entry ([.ref b]) (n := 7) (Nat.le_of_ble_eq_true rfl)
  rw [lg_entry_eq]
  generalize (lg_sl ([.ref b]) ++ List.replicate (7 - (lg_sl ([.ref b])).length) Slot.unset).toArray = ls at hl ⊢
  have hl : lv_has ls 7 [(0, .ref b)] := hl
  have hw : WD s.heap.size D cA s.heap (kx s.heap.size 0) (fun _ _ => 0) (fun _ _ => none) (fun _ _ => 0) s.heap [] := ⟨fun a k n h => (by unfold kx at h; rw [if_neg (by omega)] at h; cases h), fun a h => (h (by unfold kx; rw [if_neg (by omega)])).elim, va_S.rf, Nat.le_refl _⟩
  refine r_new (k := 11) (t0 := tyX11) C hw rfl (by decide) rfl inT11 tyX11_ok dfX11 cl_L_8 it_11 id_11 (Nat.le_of_ble_eq_true rfl) (Nat.le_of_ble_eq_true rfl) dL_law_0 (h := s.heap.size + 0) rfl (fun H hsz hw => ?_)
  rw [kx_up (m := 1) rfl rfl] at hw
  rw [upR_same (fun _ => rfl), upR_same (fun _ => rfl)] at hw
  have hsz : H.size = s.heap.size + 1 := hsz
  refine lv_dup hx hb dL_law_3 rfl ?_
  refine r_callI (As := []) (rest := [.ref (s.heap.size + 0)]) C hw (t_X11_init l s.heap.size D cA (kx s.heap.size 1) (fun _ _ => 0) (fun _ _ => none) (fun _ _ => 0) _ hsz rfl ci_0) sc_L_15 rfl hl.1 rfl (Nat.le_of_ble_eq_true rfl) ⟨Nat.le_of_ble_eq_true rfl, Nat.le_of_ble_eq_true rfl⟩ ⟨Nat.le_of_ble_eq_true rfl, Nat.le_of_ble_eq_true rfl⟩ dL_law_4 (fun r kd1 ig1 rg1 lg1 H locs hw hH hp => ?_)
  obtain ⟨rfl, hsz, rfl, rfl, hci, hr0⟩ := hp
  have zn := hci.2.2.2.1
  refine lv_astore_n (lv' := [(1, .ref (s.heap.size + 0)), (0, .ref b)]) hx hb dL_law_7 rfl hl (by decide) rfl (fun ls hl => ?_)
  refine r_new (k := 12) (t0 := tyX12) C hw rfl (by decide) rfl inT12 tyX12_ok dfX12 cl_L_16 it_12 id_12 (Nat.le_of_ble_eq_true rfl) (Nat.le_of_ble_eq_true rfl) dL_law_8 hsz (fun H hsz hw => ?_)
  rw [kx_up (m := 50) rfl rfl] at hw
  rw [upR_same (fun j => (zn _ j (by omega)).1), upR_same (fun j => (zn _ j (by omega)).2)] at hw
  have hsz : H.size = s.heap.size + 50 := hsz
  refine lv_dup hx hb dL_law_11 rfl ?_
  refine r_callI (As := []) (rest := [.ref (s.heap.size + 49)]) C hw (t_X12_init l s.heap.size D cA (kx s.heap.size 50) ig1 rg1 (fun _ _ => 0) _ hsz rfl zn (fun _ _ => rfl)) sc_L_18 rfl hl.1 rfl (Nat.le_of_ble_eq_true rfl) ⟨Nat.le_of_ble_eq_true rfl, Nat.le_of_ble_eq_true rfl⟩ ⟨Nat.le_of_ble_eq_true rfl, Nat.le_of_ble_eq_true rfl⟩ dL_law_12 (fun r kd2 ig2 rg2 lg2 H locs hw hH hp => ?_)
  obtain ⟨rfl, hsz, rfl, rfl, hrm, hrg, hig, h71⟩ := hp
  refine lv_astore_n (lv' := [(2, .ref (s.heap.size + 49)), (1, .ref (s.heap.size + 0)), (0, .ref b)]) hx hb dL_law_15 rfl hl (by decide) rfl (fun ls hl => ?_)
  refine lv_iconst (v := 1) hx hb dL_law_16 (by decide) (ti_c 1 (by decide) fun z1 hz1 => ?_)
  refine r_newl (n := 1) C hw ac_long hz1 (by decide) (Nat.le_of_ble_eq_true rfl) (Nat.le_of_ble_eq_true rfl) dL_law_17 hsz (fun H hsz hw => ?_)
  rw [kx_up (m := 80) rfl rfl] at hw
  rw [upR_same (fun _ => rfl)] at hw
  have hsz : H.size = s.heap.size + 80 := hsz
  refine lv_astore_n (lv' := [(3, .ref (s.heap.size + 79)), (2, .ref (s.heap.size + 49)), (1, .ref (s.heap.size + 0)), (0, .ref b)]) hx hb dL_law_19 rfl hl (by decide) rfl (fun ls hl => ?_)
  refine lv_iconst (v := 0) hx hb dL_law_20 (by decide) ?_
  refine lv_istore (lv' := [(4, .int 0), (3, .ref (s.heap.size + 79)), (2, .ref (s.heap.size + 49)), (1, .ref (s.heap.size + 0)), (0, .ref b)]) hx hb dL_law_21 hl (by decide) rfl (fun ls hl => ?_)
  have hl : lv_has ls 7 [(0, .ref b), (1, .ref (s.heap.size + 0)), (2, .ref (s.heap.size + 49)), (3, .ref (s.heap.size + 79)), (4, .int 0)] := lv_sub hl [4, 3, 2, 1, 0] rfl
  refine W.widen (k := 80) (n := 257976) (Nat.le_of_ble_eq_true rfl) (Nat.le_of_ble_eq_true rfl) ?_
  have hlt : ∀ x ∈ rfp, x.1 < 49 := by decide
  have F9 : FC s.heap.size (kx s.heap.size 80) ig2 rg2 (fun _ _ => 0) := by
    refine fc_of sh_80 (fun x h => ?_) (fun c j h1 h2 => ?_) (fun j hj => ?_) ?_ (fun _ => rfl)
    · have h9 := hlt x h
      rw [hrg _ _ (by omega)]
      rcases Nat.eq_zero_or_pos x.1 with h0 | h0
      · rw [h0]; exact hr0 x h h0
      · exact hci.1 x h h0 h9
    · rw [hig _ _ (by omega)]; exact hci.2.1 c j h1 h2
    · rw [hrg _ _ (by omega)]; exact (hci.2.2.1 (by decide)).1 j hj
    · rw [hrg _ _ (by omega)]; exact (hci.2.2.1 (by decide)).2
  have F8 : FM s.heap.size (kx s.heap.size 80) ig2 rg2 (fun _ _ => 0) := ⟨sh_80, hrm, fun c j h1 h2 h3 => by rw [hig _ _ (by omega)]; exact (zn _ j (by omega)).1, h71, fun _ _ _ _ => rfl⟩
  refine l_head A hL hw (lv_at hl 0 rfl) (lv_at hl 4 rfl) (fun _ => l_end A hw (Nat.le_of_ble_eq_true rfl) (Nat.le_of_ble_eq_true rfl)) (fun h7 => ?_)
  have e0 : (0 : Int32).toInt = 0 := by decide
  have h7 : L = 7 := by omega
  have hsz : s.heap.size + 80 ≤ H.size := by omega
  refine lv_aload_n hx hb dL_law_33 rfl (lv_at hl 0 rfl) ?_
  refine lv_iload hx hb dL_law_34 (lv_at hl 4 rfl) ?_
  refine va_sld hx hb hX hbl (Nat.not_le.mpr hbl) hw.2.2.1 (in_of (by decide) (by rw [h7]; decide)) dL_law_36 ?_
  refine lv_bipush (v := 15) hx hb dL_law_37 (by decide) ?_
  refine lv_iand hx hb dL_law_39 (lv_topi fun v hv => ?_)
  have hv2 := and15 (xs (0 : Int32).toNatClampNeg)
  rw [← hv] at hv2
  have hc : v.toInt = 0 ∨ v.toInt = 1 ∨ v.toInt = 2 ∨ v.toInt = 3 ∨ v.toInt = 4 ∨ v.toInt = 5 ∨ v.toInt = 6 ∨ v.toInt = 7 ∨ v.toInt = 8 ∨ v.toInt = 9 ∨ v.toInt = 10 ∨ v.toInt = 11 ∨ v.toInt = 12 ∨ v.toInt = 13 ∨ v.toInt = 14 ∨ v.toInt = 15 := by omega
  rcases hc with h | h | h | h | h | h | h | h | h | h | h | h | h | h | h | h
  · exact lv_tableIn (off := 80) (tgt := 120) hx hb dL_law_40 (by omega) (by omega) (by rw [h]; rfl) (by decide) (l_c0 hst A h7 F9 F8 hw hsz hl)
  · exact lv_tableIn (off := 227) (tgt := 267) hx hb dL_law_40 (by omega) (by omega) (by rw [h]; rfl) (by decide) (l_c1 hst A h7 F9 F8 hw hsz hl)
  · exact lv_tableIn (off := 252) (tgt := 292) hx hb dL_law_40 (by omega) (by omega) (by rw [h]; rfl) (by decide) (l_c2 hst A h7 F9 F8 hw hsz hl)
  · exact lv_tableIn (off := 289) (tgt := 329) hx hb dL_law_40 (by omega) (by omega) (by rw [h]; rfl) (by decide) (l_c3 hst A h7 F9 F8 hw hsz hl)
  · exact lv_tableIn (off := 314) (tgt := 354) hx hb dL_law_40 (by omega) (by omega) (by rw [h]; rfl) (by decide) (l_c4 hst A h7 F9 F8 hw hsz hl)
  · exact lv_tableIn (off := 351) (tgt := 391) hx hb dL_law_40 (by omega) (by omega) (by rw [h]; rfl) (by decide) (l_c5 hst A h7 F9 F8 hw hsz hl)
  · exact lv_tableIn (off := 412) (tgt := 452) hx hb dL_law_40 (by omega) (by omega) (by rw [h]; rfl) (by decide) (l_c6 hst A h7 F9 F8 hw hsz hl)
  · exact lv_tableIn (off := 465) (tgt := 505) hx hb dL_law_40 (by omega) (by omega) (by rw [h]; rfl) (by decide) (l_c7 hst A h7 F9 F8 hw hsz hl)
  · exact lv_tableIn (off := 478) (tgt := 518) hx hb dL_law_40 (by omega) (by omega) (by rw [h]; rfl) (by decide) (l_c8 hst A h7 F9 F8 hw hsz hl)
  · exact lv_tableIn (off := 515) (tgt := 555) hx hb dL_law_40 (by omega) (by omega) (by rw [h]; rfl) (by decide) (l_c9 hst A h7 F9 F8 hw hsz hl)
  · exact lv_tableIn (off := 540) (tgt := 580) hx hb dL_law_40 (by omega) (by omega) (by rw [h]; rfl) (by decide) (l_c10 hst A h7 F9 F8 hw hsz hl)
  · exact lv_tableIn (off := 577) (tgt := 617) hx hb dL_law_40 (by omega) (by omega) (by rw [h]; rfl) (by decide) (l_c11 hst A h7 F9 F8 hw hsz hl)
  · exact lv_tableIn (off := 614) (tgt := 654) hx hb dL_law_40 (by omega) (by omega) (by rw [h]; rfl) (by decide) (l_c12 hst A h7 F9 F8 hw hsz hl)
  · exact lv_tableIn (off := 627) (tgt := 667) hx hb dL_law_40 (by omega) (by omega) (by rw [h]; rfl) (by decide) (l_c13 hst A h7 F9 F8 hw hsz hl)
  · exact lv_tableIn (off := 695) (tgt := 735) hx hb dL_law_40 (by omega) (by omega) (by rw [h]; rfl) (by decide) (l_c14 hst A h7 F9 F8 hw hsz hl)
  · exact lv_tableIn (off := 732) (tgt := 772) hx hb dL_law_40 (by omega) (by omega) (by rw [h]; rfl) (by decide) (l_c15 hst A h7 F9 F8 hw hsz hl)
