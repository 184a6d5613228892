/-! contracts: X5_ruin, X3_add, X5_seen, X5_forget, X5_agreesWithSeen, X5_roomsThatMay, X5_hoursThatMay, X5_may, X5_likely, X5_drawOf, X5_dealOnce -/
theorem uX5_ruin_X4 : ∀ w ∈ wsX40, w ∈ wsX5_ruin := fun w h => List.mem_cons_of_mem _ (List.mem_append_left _ (List.mem_append_right _ h))
theorem uX5_ruin_X5 : ∀ w ∈ wsX50, w ∈ wsX5_ruin := fun w h => List.mem_cons_of_mem _ (List.mem_append_left _ (List.mem_append_left _ (List.mem_append_right _ h)))
set_option maxHeartbeats 4000000 in
set_option maxRecDepth 100000 in
theorem c_X5_ruin (l : Launch) (D : va_G) (cI cC cL cB : ClassId) (h : Nat) (h_page : Nat) (h_laid : Nat) (h_draft : Nat) (h_now : Nat) (h_trial : Nat) (h_past : Nat) (h_sightings : Nat) (h_kept : Nat) (h_told : Nat) (h_laid_kinds : Nat) (h_laid_prices : Nat) (h_laid_persons : Nat) (h_laid_places : Nat) (h_laid_hours : Nat) (h_laid_weights : Nat) (h_laid_numbers : Nat) (a1 : Int32) (h_keptCount : Int32) (h_laid_pieces : Int32) (h_laid_roomsAtFirst : Int32) (h_laid_deeds : Int32) (h_laid_coins : Int32) (h_laid_law : Int32) (h_laid_persons_c : Nat → Int32) (h_now_rooms : Int32) (h_now_bought : Int32) (h_now_spoken : Int32) (h_now_out : Int32) (h_now_coins : Int32) (h_laid_weights_c : Nat → Int32) (r : Int32) (hf : m_X5_ruin a1 h_laid_deeds h_laid_persons_c h_now_out h_laid_weights_c = some r) : Met l yX5_ruin wsX5_ruin ({ frames := 2, cells := 0, slots := 0, locals := 42 }) (va_Pc [.ref h, .int a1] (q_R D vwCl (tyL cI cC cL cB) [(h, .inr (5, [.ref h_page, .ref h_laid, .ref h_draft, .ref h_now, .ref h_trial, .ref h_past, .ref h_sightings, .ref h_kept, .int h_keptCount, .ref h_told])), (h_laid, .inr (0, [.int h_laid_pieces, .ref h_laid_kinds, .ref h_laid_prices, .int h_laid_roomsAtFirst, .int h_laid_deeds, .ref h_laid_persons, .ref h_laid_places, .ref h_laid_hours, .ref h_laid_weights, .int h_laid_coins, .int h_laid_law, .ref h_laid_numbers])), (h_laid_persons, .inl (cI, 9, .inl h_laid_persons_c)), (h_now, .inr (4, [.int h_now_rooms, .int h_now_bought, .int h_now_spoken, .int h_now_out, .int h_now_coins])), (h_laid_weights, .inl (cI, 9, .inl h_laid_weights_c))])) (vp_Si (fun r' => r' = r)) 0 0 (fun _ => False) := by
  refine Met.ofW (cc := cX5_ruin) (maxL := 2) (ret := (some .int)) (by decide) rfl ?_
  intro p e s m args below meth c s₁ B hml hv
  obtain ⟨rfl, hP, hK⟩ := hv
  have hx := B.exec
  have hb := B.bytes
  have hr := B.returns
  have hts := atoms_spec (ws := wsX5_ruin) B.pre
  have hown : s.vm.findClass RX5 = some m.cls := findClass_of_methodNamed B.named
  have hlocks := B.notSynchronized
  have hl := lv_entry ([.ref h, .int a1]) (n := 2) (Nat.le_of_ble_eq_true rfl)
  rw [lg_entry_eq]
  generalize (lg_sl ([.ref h, .int a1]) ++ List.replicate (2 - (lg_sl ([.ref h, .int a1])).length) Slot.unset).toArray = ls at hl ⊢
  have hl : lv_has ls 2 [(0, .ref h), (1, .int a1)] := hl
  unfold m_X5_ruin at hf
  refine lv_iload_n hx hb dX5_ruin_0 rfl (lv_at hl 1 rfl) ?_
  obtain ⟨x1, hv_1, hf⟩ := ob1_some hf
  refine q_rSi (As := [.int a1]) (rest := []) (r := x1) ⟨hx, hb, hml, hown, hts⟩ (c_X5_isPerson l D cI cC cL cB a1 x1 hv_1) (va_cwS 1 hts gX5_ruin_X5_isPerson rfl rfl rfl (by decide +kernel) ⟨Nat.le_of_ble_eq_true rfl, Nat.le_of_ble_eq_true rfl⟩) hK hP [] rfl rfl hl.1 rfl (Nat.le_of_ble_eq_true rfl) dX5_ruin_1 ⟨Nat.le_of_ble_eq_true rfl, Nat.le_of_ble_eq_true rfl⟩ ?_
  refine lv_if_ne (tgt := 9) hx hb dX5_ruin_4 (by decide) (fun c_2 => ?_) (fun c_2 => ?_)
  · have hf := im c_2 hf
    refine lv_aload_n hx hb dX5_ruin_9 rfl (lv_at hl 0 rfl) ?_
    refine va_get (D := D) (ci := 5) (v := .ref h_laid) (C := RX5) (T := TX5) (N := 10) hx hb hts uX5_ruin_X5 hown hK hP 0 rfl rfl 1 (by decide) (hts (.fieldLink RX5 19 "SpeaksForTheChair" "laid" "LSpeaksForTheChair$House;") (List.mem_of_getElem? (i := 1) rfl)) (fun _ h9 => h9) rfl dX5_ruin_10 ?_
    refine lv_aload_n hx hb dX5_ruin_13 rfl (lv_at hl 0 rfl) ?_
    refine va_get (D := D) (ci := 5) (v := .ref h_laid) (C := RX5) (T := TX5) (N := 10) hx hb hts uX5_ruin_X5 hown hK hP 0 rfl rfl 1 (by decide) (hts (.fieldLink RX5 19 "SpeaksForTheChair" "laid" "LSpeaksForTheChair$House;") (List.mem_of_getElem? (i := 1) rfl)) (fun _ h9 => h9) rfl dX5_ruin_14 ?_
    refine lv_iload_n hx hb dX5_ruin_17 rfl (lv_at hl 1 rfl) ?_
    obtain ⟨x2, hv_3, hf⟩ := ob1_some hf
    refine q_rVi (As := [.int a1]) (rest := [.ref h_laid]) (r := x2) ⟨hx, hb, hml, hown, hts⟩ (c_X0_deedsOf l D cI cC cL cB h_laid h_laid_kinds h_laid_prices h_laid_persons h_laid_places h_laid_hours h_laid_weights h_laid_numbers a1 h_laid_pieces h_laid_roomsAtFirst h_laid_deeds h_laid_coins h_laid_law h_laid_persons_c x2 hv_3) (cwV 1 hts gX5_ruin_X0_deedsOf rfl rfl rfl (by decide +kernel) ⟨Nat.le_of_ble_eq_true rfl, Nat.le_of_ble_eq_true rfl⟩) hK hP [1, 2] rfl (va_recv hK hP (ci := 0) (q0 := 1) rfl rfl) rfl hl.1 rfl (Nat.le_of_ble_eq_true rfl) dX5_ruin_18 ⟨Nat.le_of_ble_eq_true rfl, Nat.le_of_ble_eq_true rfl⟩ ?_
    refine lv_aload_n hx hb dX5_ruin_21 rfl (lv_at hl 0 rfl) ?_
    refine va_get (D := D) (ci := 5) (v := .ref h_now) (C := RX5) (T := TX5) (N := 10) hx hb hts uX5_ruin_X5 hown hK hP 0 rfl rfl 3 (by decide) (hts (.fieldLink RX5 29 "SpeaksForTheChair" "now" "LSpeaksForTheChair$Standing;") (List.mem_of_getElem? (i := 2) rfl)) (fun _ h9 => h9) rfl dX5_ruin_22 ?_
    refine va_get (D := D) (ci := 4) (v := .int h_now_out) (C := RX4) (T := TX4) (N := 5) hx hb hts uX5_ruin_X4 hown hK hP 3 rfl rfl 3 (by decide) (hts (.fieldLink RX5 191 "SpeaksForTheChair$Standing" "out" "I") (List.mem_of_getElem? (i := 3) rfl)) (fun _ h9 => h9) rfl dX5_ruin_25 ?_
    refine lv_iand hx hb dX5_ruin_28 ?_
    obtain ⟨x3, hv_4, hf⟩ := ob1_some hf
    refine q_rVi (As := [.int (x2 &&& h_now_out)]) (rest := []) (r := x3) ⟨hx, hb, hml, hown, hts⟩ (c_X0_weightOf l D cI cC cL cB h_laid h_laid_kinds h_laid_prices h_laid_persons h_laid_places h_laid_hours h_laid_weights h_laid_numbers ((x2 &&& h_now_out)) h_laid_pieces h_laid_roomsAtFirst h_laid_deeds h_laid_coins h_laid_law h_laid_weights_c x3 hv_4) (cwV 1 hts gX5_ruin_X0_weightOf rfl rfl rfl (by decide +kernel) ⟨Nat.le_of_ble_eq_true rfl, Nat.le_of_ble_eq_true rfl⟩) hK hP [1, 4] rfl (va_recv hK hP (ci := 0) (q0 := 1) rfl rfl) rfl hl.1 rfl (Nat.le_of_ble_eq_true rfl) dX5_ruin_29 ⟨Nat.le_of_ble_eq_true rfl, Nat.le_of_ble_eq_true rfl⟩ ?_
    cases hf
    exact W.iret hx hb hr (fun t ht hW => ⟨_, rfl, rfl, ht⟩) (fun _ h => by cases h) dX5_ruin_32
  · have hf := ip c_2 hf
    refine lv_iconst (v := (-1)) hx hb dX5_ruin_7 (by decide) ?_
    cases hf
    exact W.iret hx hb hr (fun t ht hW => ⟨_, rfl, rfl, ht⟩) (fun _ h => by cases h) dX5_ruin_8
theorem uX3_add_X3 : ∀ w ∈ wsX30, w ∈ wsX3_add := fun w h => List.mem_cons_of_mem _ (List.mem_append_right _ h)
set_option maxHeartbeats 4000000 in
set_option maxRecDepth 100000 in
theorem c_X3_add (l : Launch) (D : va_G) (cI cC cL cB : ClassId) (sz : Nat) (h : Nat) (h_pieces : Nat) (h_deeds : Nat) (h_tells : Nat) (a1 : Int32) (a2 : Int32) (a3 : Int32) (h_length : Int32) (h_pieces_c : Nat → Int32) (h_deeds_c : Nat → Int32) (h_tells_c : Nat → Int32) (r : Int32) (o0 : Int32) (o1 : Nat → Int32) (o2 : Nat → Int32) (o3 : Nat → Int32) (hf : m_X3_add a1 a2 a3 h_length h_pieces_c h_deeds_c h_tells_c = some (r, o0, o1, o2, o3)) : Met l yX3_add wsX3_add ({ frames := 0, cells := 0, slots := 0, locals := 0 }) (va_Pc [.ref h, .int a1, .int a2, .int a3] (q_W D vwCl (tyL cI cC cL cB) [(h, .inr (3, [.ref h_pieces, .ref h_deeds, .ref h_tells, .int h_length])), (h_pieces, .inl (cI, 6, .inl h_pieces_c)), (h_deeds, .inl (cI, 6, .inl h_deeds_c)), (h_tells, .inl (cB, 6, .inl h_tells_c))] sz)) (va_Qi (fun r' _ => r' = r) (q_E D vwCl (tyL cI cC cL cB) (va_A [(h, .inr (3, [.ref h_pieces, .ref h_deeds, .ref h_tells, .int h_length])), (h_pieces, .inl (cI, 6, .inl h_pieces_c)), (h_deeds, .inl (cI, 6, .inl h_deeds_c)), (h_tells, .inl (cB, 6, .inl h_tells_c))] sz) [(h, .inr (3, [.ref h_pieces, .ref h_deeds, .ref h_tells, .int o0])), (h_pieces, .inl (cI, 6, .inl o1)), (h_deeds, .inl (cI, 6, .inl o2)), (h_tells, .inl (cB, 6, .inl o3))]) (va_A [(h, .inr (3, [.ref h_pieces, .ref h_deeds, .ref h_tells, .int h_length])), (h_pieces, .inl (cI, 6, .inl h_pieces_c)), (h_deeds, .inl (cI, 6, .inl h_deeds_c)), (h_tells, .inl (cB, 6, .inl h_tells_c))] sz)) 0 0 (va_A [(h, .inr (3, [.ref h_pieces, .ref h_deeds, .ref h_tells, .int h_length])), (h_pieces, .inl (cI, 6, .inl h_pieces_c)), (h_deeds, .inl (cI, 6, .inl h_deeds_c)), (h_tells, .inl (cB, 6, .inl h_tells_c))] sz) := by
  refine Met.ofW (cc := cX3_add) (maxL := 4) (ret := (some .boolean)) (by decide) rfl ?_
  intro p e s m args below meth c s₁ B hml hv
  obtain ⟨rfl, hsz, hP, hK, hD0⟩ := hv
  have hx := B.exec
  have hb := B.bytes
  have hr := B.returns
  have hts := atoms_spec (ws := wsX3_add) B.pre
  have hown : s.vm.findClass RX3 = some m.cls := findClass_of_methodNamed B.named
  have hlocks := B.notSynchronized
  subst hsz
  have hD := hD0.self (sz := s.heap.size)
  generalize hAe : va_A [(h, .inr (3, [.ref h_pieces, .ref h_deeds, .ref h_tells, .int h_length])), (h_pieces, .inl (cI, 6, .inl h_pieces_c)), (h_deeds, .inl (cI, 6, .inl h_deeds_c)), (h_tells, .inl (cB, 6, .inl h_tells_c))] s.heap.size = A at hD ⊢
  have hA : ∀ q : Nat, s.heap.size ≤ q → A q := fun q h => by rw [← hAe]; exact Or.inr h
  have hS : va_S A s.heap s.heap [] := va_S.rf
  have hP : va_P D vwCl [(h, .inr (3, [.ref h_pieces, .ref h_deeds, .ref h_tells, .int h_length])), (h_pieces, .inl (cI, 6, .inl h_pieces_c)), (h_deeds, .inl (cI, 6, .inl h_deeds_c)), (h_tells, .inl (cB, 6, .inl h_tells_c))] s.heap := hP
  have hl := lv_entry ([.ref h, .int a1, .int a2, .int a3]) (n := 4) (Nat.le_of_ble_eq_true rfl)
  rw [lg_entry_eq]
  generalize (lg_sl ([.ref h, .int a1, .int a2, .int a3]) ++ List.replicate (4 - (lg_sl ([.ref h, .int a1, .int a2, .int a3])).length) Slot.unset).toArray = ls at hl ⊢
  have hl : lv_has ls 4 [(0, .ref h), (1, .int a1), (2, .int a2), (3, .int a3)] := hl
  unfold m_X3_add at hf
  refine lv_aload_n hx hb dX3_add_0 rfl (lv_at hl 0 rfl) ?_
  refine va_get (D := D) (ci := 3) (v := .int h_length) (C := RX3) (T := TX3) (N := 4) hx hb hts uX3_add_X3 hown hK hP 0 rfl rfl 3 (by decide) (hts (.fieldLink RX3 22 "SpeaksForTheChair$Sightings" "length" "I") (List.mem_of_getElem? (i := 1) rfl)) (fun _ h9 => h9) rfl dX3_add_1 ?_
  refine lv_bipush (v := 6) hx hb dX3_add_4 (by decide) ?_
  refine lv_icmp_lt (tgt := 11) hx hb dX3_add_6 (by decide) (fun c_1 => ?_) (fun c_1 => ?_)
  · have hf := ip c_1 hf
    refine lv_aload_n hx hb dX3_add_11 rfl (lv_at hl 0 rfl) ?_
    refine va_get (D := D) (ci := 3) (v := .ref h_pieces) (C := RX3) (T := TX3) (N := 4) hx hb hts uX3_add_X3 hown hK hP 0 rfl rfl 0 (by decide) (hts (.fieldLink RX3 9 "SpeaksForTheChair$Sightings" "pieces" "[I") (List.mem_of_getElem? (i := 2) rfl)) (fun _ h9 => h9) rfl dX3_add_12 ?_
    refine lv_aload_n hx hb dX3_add_15 rfl (lv_at hl 0 rfl) ?_
    refine va_get (D := D) (ci := 3) (v := .int h_length) (C := RX3) (T := TX3) (N := 4) hx hb hts uX3_add_X3 hown hK hP 0 rfl rfl 3 (by decide) (hts (.fieldLink RX3 22 "SpeaksForTheChair$Sightings" "length" "I") (List.mem_of_getElem? (i := 1) rfl)) (fun _ h9 => h9) rfl dX3_add_16 ?_
    refine lv_iload_n hx hb dX3_add_19 rfl (lv_at hl 1 rfl) ?_
    obtain ⟨g_2, hf⟩ := gu_in hf
    refine va_iast hx hb hK hP hD hS 1 0 rfl rfl g_2 dX3_add_20 (fun H locs hP hD hS => ?_)
    obtain ⟨c1, ec1⟩ : ∃ y : Nat → Int32, y = (upd h_pieces_c h_length.toNatClampNeg a1) := ⟨_, rfl⟩
    have hf := pv_eq ec1 hf
    rw [← ec1] at hP hD
    have hP : va_P D vwCl [(h, .inr (3, [.ref h_pieces, .ref h_deeds, .ref h_tells, .int h_length])), (h_pieces, .inl (cI, 6, .inl c1)), (h_deeds, .inl (cI, 6, .inl h_deeds_c)), (h_tells, .inl (cB, 6, .inl h_tells_c))] H := hP
    have hD : va_D A [(h, .inr (3, [.ref h_pieces, .ref h_deeds, .ref h_tells, .int h_length])), (h_pieces, .inl (cI, 6, .inl c1)), (h_deeds, .inl (cI, 6, .inl h_deeds_c)), (h_tells, .inl (cB, 6, .inl h_tells_c))] := hD
    refine lv_aload_n hx hb dX3_add_21 rfl (lv_at hl 0 rfl) ?_
    refine va_get (D := D) (ci := 3) (v := .ref h_deeds) (C := RX3) (T := TX3) (N := 4) hx hb hts uX3_add_X3 hown hK hP 0 rfl rfl 1 (by decide) (hts (.fieldLink RX3 15 "SpeaksForTheChair$Sightings" "deeds" "[I") (List.mem_of_getElem? (i := 3) rfl)) (fun _ h9 => h9) rfl dX3_add_22 ?_
    refine lv_aload_n hx hb dX3_add_25 rfl (lv_at hl 0 rfl) ?_
    refine va_get (D := D) (ci := 3) (v := .int h_length) (C := RX3) (T := TX3) (N := 4) hx hb hts uX3_add_X3 hown hK hP 0 rfl rfl 3 (by decide) (hts (.fieldLink RX3 22 "SpeaksForTheChair$Sightings" "length" "I") (List.mem_of_getElem? (i := 1) rfl)) (fun _ h9 => h9) rfl dX3_add_26 ?_
    refine lv_iload_n hx hb dX3_add_29 rfl (lv_at hl 2 rfl) ?_
    obtain ⟨g_3, hf⟩ := gu_in hf
    refine va_iast hx hb hK hP hD hS 2 0 rfl rfl g_3 dX3_add_30 (fun H locs hP hD hS => ?_)
    obtain ⟨c2, ec2⟩ : ∃ y : Nat → Int32, y = (upd h_deeds_c h_length.toNatClampNeg a2) := ⟨_, rfl⟩
    have hf := pv_eq ec2 hf
    rw [← ec2] at hP hD
    have hP : va_P D vwCl [(h, .inr (3, [.ref h_pieces, .ref h_deeds, .ref h_tells, .int h_length])), (h_pieces, .inl (cI, 6, .inl c1)), (h_deeds, .inl (cI, 6, .inl c2)), (h_tells, .inl (cB, 6, .inl h_tells_c))] H := hP
    have hD : va_D A [(h, .inr (3, [.ref h_pieces, .ref h_deeds, .ref h_tells, .int h_length])), (h_pieces, .inl (cI, 6, .inl c1)), (h_deeds, .inl (cI, 6, .inl c2)), (h_tells, .inl (cB, 6, .inl h_tells_c))] := hD
    refine lv_aload_n hx hb dX3_add_31 rfl (lv_at hl 0 rfl) ?_
    refine va_get (D := D) (ci := 3) (v := .ref h_tells) (C := RX3) (T := TX3) (N := 4) hx hb hts uX3_add_X3 hown hK hP 0 rfl rfl 2 (by decide) (hts (.fieldLink RX3 18 "SpeaksForTheChair$Sightings" "tells" "[Z") (List.mem_of_getElem? (i := 4) rfl)) (fun _ h9 => h9) rfl dX3_add_32 ?_
    refine lv_aload_n hx hb dX3_add_35 rfl (lv_at hl 0 rfl) ?_
    refine va_get (D := D) (ci := 3) (v := .int h_length) (C := RX3) (T := TX3) (N := 4) hx hb hts uX3_add_X3 hown hK hP 0 rfl rfl 3 (by decide) (hts (.fieldLink RX3 22 "SpeaksForTheChair$Sightings" "length" "I") (List.mem_of_getElem? (i := 1) rfl)) (fun _ h9 => h9) rfl dX3_add_36 ?_
    refine lv_iload_n hx hb dX3_add_39 rfl (lv_at hl 3 rfl) ?_
    obtain ⟨g_4, hf⟩ := gu_in hf
    refine va_zast hx hb hK hP hD hS 3 3 rfl rfl g_4 dX3_add_40 (fun H locs hP hD hS => ?_)
    obtain ⟨c3, ec3⟩ : ∃ y : Nat → Int32, y = (upd h_tells_c h_length.toNatClampNeg (vp_nar .boolean a3)) := ⟨_, rfl⟩
    have hf := pv_eq ec3 hf
    rw [← ec3] at hP hD
    have hP : va_P D vwCl [(h, .inr (3, [.ref h_pieces, .ref h_deeds, .ref h_tells, .int h_length])), (h_pieces, .inl (cI, 6, .inl c1)), (h_deeds, .inl (cI, 6, .inl c2)), (h_tells, .inl (cB, 6, .inl c3))] H := hP
    have hD : va_D A [(h, .inr (3, [.ref h_pieces, .ref h_deeds, .ref h_tells, .int h_length])), (h_pieces, .inl (cI, 6, .inl c1)), (h_deeds, .inl (cI, 6, .inl c2)), (h_tells, .inl (cB, 6, .inl c3))] := hD
    refine lv_aload_n hx hb dX3_add_41 rfl (lv_at hl 0 rfl) ?_
    refine lv_dup hx hb dX3_add_42 rfl ?_
    refine va_get (D := D) (ci := 3) (v := .int h_length) (C := RX3) (T := TX3) (N := 4) hx hb hts uX3_add_X3 hown hK hP 0 rfl rfl 3 (by decide) (hts (.fieldLink RX3 22 "SpeaksForTheChair$Sightings" "length" "I") (List.mem_of_getElem? (i := 1) rfl)) (fun _ h9 => h9) rfl dX3_add_43 ?_
    refine lv_iconst (v := 1) hx hb dX3_add_46 (by decide) ?_
    refine lv_iadd hx hb dX3_add_47 ?_
    refine lv_topi (fun f4 ef4 => ?_)
    have hf := pv_eq ef4 hf
    refine va_put (D := D) (ci := 3) (v := .int f4) (ty := .int) (C := RX3) (T := TX3) (N := 4) hx hb hts uX3_add_X3 tyX3 tyX3_ok nmX3 hown hK hP hD hS 0 rfl rfl 3 (by decide) (hts (.fieldLink RX3 22 "SpeaksForTheChair$Sightings" "length" "I") (List.mem_of_getElem? (i := 1) rfl)) (fun _ h9 => h9) rfl (by decide +kernel) rfl rfl (Nat.le_of_ble_eq_true rfl) dX3_add_48 (fun H locs hP hD hS => ?_)
    have hP : va_P D vwCl [(h, .inr (3, [.ref h_pieces, .ref h_deeds, .ref h_tells, .int f4])), (h_pieces, .inl (cI, 6, .inl c1)), (h_deeds, .inl (cI, 6, .inl c2)), (h_tells, .inl (cB, 6, .inl c3))] H := hP
    have hD : va_D A [(h, .inr (3, [.ref h_pieces, .ref h_deeds, .ref h_tells, .int f4])), (h_pieces, .inl (cI, 6, .inl c1)), (h_deeds, .inl (cI, 6, .inl c2)), (h_tells, .inl (cB, 6, .inl c3))] := hD
    refine lv_iconst (v := 1) hx hb dX3_add_51 (by decide) ?_
    cases hf
    exact W.zret hx hb hr rfl (fun t ht hW => ⟨⟨_, (), rfl, rfl, by rw [ht]; exact hP, va_K.moved hW.alike hK, hD⟩, hS.F ht⟩) hS.2.2 dX3_add_52
  · have hf := im c_1 hf
    refine lv_iconst (v := 0) hx hb dX3_add_9 (by decide) ?_
    cases hf
    exact W.zret hx hb hr rfl (fun t ht hW => ⟨⟨_, (), rfl, rfl, by rw [ht]; exact hP, va_K.moved hW.alike hK, hD⟩, hS.F ht⟩) hS.2.2 dX3_add_10
theorem uX5_seen_X3 : ∀ w ∈ wsX30, w ∈ wsX5_seen := fun w h => List.mem_cons_of_mem _ (List.mem_append_left _ (List.mem_append_right _ h))
theorem uX5_seen_X5 : ∀ w ∈ wsX50, w ∈ wsX5_seen := fun w h => List.mem_cons_of_mem _ (List.mem_append_left _ (List.mem_append_left _ (List.mem_append_right _ h)))
set_option maxHeartbeats 4000000 in
set_option maxRecDepth 100000 in
theorem c_X5_seen (l : Launch) (D : va_G) (cI cC cL cB : ClassId) (sz : Nat) (h : Nat) (h_page : Nat) (h_laid : Nat) (h_draft : Nat) (h_now : Nat) (h_trial : Nat) (h_past : Nat) (h_sightings : Nat) (h_kept : Nat) (h_told : Nat) (h_laid_kinds : Nat) (h_laid_prices : Nat) (h_laid_persons : Nat) (h_laid_places : Nat) (h_laid_hours : Nat) (h_laid_weights : Nat) (h_laid_numbers : Nat) (h_sightings_pieces : Nat) (h_sightings_deeds : Nat) (h_sightings_tells : Nat) (a1 : Int32) (a2 : Int32) (a3 : Int32) (h_keptCount : Int32) (h_laid_pieces : Int32) (h_laid_roomsAtFirst : Int32) (h_laid_deeds : Int32) (h_laid_coins : Int32) (h_laid_law : Int32) (h_sightings_length : Int32) (h_sightings_pieces_c : Nat → Int32) (h_sightings_deeds_c : Nat → Int32) (h_sightings_tells_c : Nat → Int32) (r : Int32) (o0 : Int32) (o1 : Nat → Int32) (o2 : Nat → Int32) (o3 : Nat → Int32) (hf : m_X5_seen a1 a2 a3 h_laid_pieces h_laid_deeds h_sightings_length h_sightings_pieces_c h_sightings_deeds_c h_sightings_tells_c = some (r, o0, o1, o2, o3)) : Met l yX5_seen wsX5_seen ({ frames := 2, cells := 0, slots := 0, locals := 43 }) (va_Pc [.ref h, .int a1, .int a2, .int a3] (q_W D vwCl (tyL cI cC cL cB) [(h, .inr (5, [.ref h_page, .ref h_laid, .ref h_draft, .ref h_now, .ref h_trial, .ref h_past, .ref h_sightings, .ref h_kept, .int h_keptCount, .ref h_told])), (h_laid, .inr (0, [.int h_laid_pieces, .ref h_laid_kinds, .ref h_laid_prices, .int h_laid_roomsAtFirst, .int h_laid_deeds, .ref h_laid_persons, .ref h_laid_places, .ref h_laid_hours, .ref h_laid_weights, .int h_laid_coins, .int h_laid_law, .ref h_laid_numbers])), (h_sightings, .inr (3, [.ref h_sightings_pieces, .ref h_sightings_deeds, .ref h_sightings_tells, .int h_sightings_length])), (h_sightings_pieces, .inl (cI, 6, .inl h_sightings_pieces_c)), (h_sightings_deeds, .inl (cI, 6, .inl h_sightings_deeds_c)), (h_sightings_tells, .inl (cB, 6, .inl h_sightings_tells_c))] sz)) (va_Qi (fun r' _ => r' = r) (q_E D vwCl (tyL cI cC cL cB) (va_A [(h, .inr (5, [.ref h_page, .ref h_laid, .ref h_draft, .ref h_now, .ref h_trial, .ref h_past, .ref h_sightings, .ref h_kept, .int h_keptCount, .ref h_told])), (h_laid, .inr (0, [.int h_laid_pieces, .ref h_laid_kinds, .ref h_laid_prices, .int h_laid_roomsAtFirst, .int h_laid_deeds, .ref h_laid_persons, .ref h_laid_places, .ref h_laid_hours, .ref h_laid_weights, .int h_laid_coins, .int h_laid_law, .ref h_laid_numbers])), (h_sightings, .inr (3, [.ref h_sightings_pieces, .ref h_sightings_deeds, .ref h_sightings_tells, .int h_sightings_length])), (h_sightings_pieces, .inl (cI, 6, .inl h_sightings_pieces_c)), (h_sightings_deeds, .inl (cI, 6, .inl h_sightings_deeds_c)), (h_sightings_tells, .inl (cB, 6, .inl h_sightings_tells_c))] sz) [(h, .inr (5, [.ref h_page, .ref h_laid, .ref h_draft, .ref h_now, .ref h_trial, .ref h_past, .ref h_sightings, .ref h_kept, .int h_keptCount, .ref h_told])), (h_laid, .inr (0, [.int h_laid_pieces, .ref h_laid_kinds, .ref h_laid_prices, .int h_laid_roomsAtFirst, .int h_laid_deeds, .ref h_laid_persons, .ref h_laid_places, .ref h_laid_hours, .ref h_laid_weights, .int h_laid_coins, .int h_laid_law, .ref h_laid_numbers])), (h_sightings, .inr (3, [.ref h_sightings_pieces, .ref h_sightings_deeds, .ref h_sightings_tells, .int o0])), (h_sightings_pieces, .inl (cI, 6, .inl o1)), (h_sightings_deeds, .inl (cI, 6, .inl o2)), (h_sightings_tells, .inl (cB, 6, .inl o3))]) (va_A [(h, .inr (5, [.ref h_page, .ref h_laid, .ref h_draft, .ref h_now, .ref h_trial, .ref h_past, .ref h_sightings, .ref h_kept, .int h_keptCount, .ref h_told])), (h_laid, .inr (0, [.int h_laid_pieces, .ref h_laid_kinds, .ref h_laid_prices, .int h_laid_roomsAtFirst, .int h_laid_deeds, .ref h_laid_persons, .ref h_laid_places, .ref h_laid_hours, .ref h_laid_weights, .int h_laid_coins, .int h_laid_law, .ref h_laid_numbers])), (h_sightings, .inr (3, [.ref h_sightings_pieces, .ref h_sightings_deeds, .ref h_sightings_tells, .int h_sightings_length])), (h_sightings_pieces, .inl (cI, 6, .inl h_sightings_pieces_c)), (h_sightings_deeds, .inl (cI, 6, .inl h_sightings_deeds_c)), (h_sightings_tells, .inl (cB, 6, .inl h_sightings_tells_c))] sz)) 0 0 (va_A [(h, .inr (5, [.ref h_page, .ref h_laid, .ref h_draft, .ref h_now, .ref h_trial, .ref h_past, .ref h_sightings, .ref h_kept, .int h_keptCount, .ref h_told])), (h_laid, .inr (0, [.int h_laid_pieces, .ref h_laid_kinds, .ref h_laid_prices, .int h_laid_roomsAtFirst, .int h_laid_deeds, .ref h_laid_persons, .ref h_laid_places, .ref h_laid_hours, .ref h_laid_weights, .int h_laid_coins, .int h_laid_law, .ref h_laid_numbers])), (h_sightings, .inr (3, [.ref h_sightings_pieces, .ref h_sightings_deeds, .ref h_sightings_tells, .int h_sightings_length])), (h_sightings_pieces, .inl (cI, 6, .inl h_sightings_pieces_c)), (h_sightings_deeds, .inl (cI, 6, .inl h_sightings_deeds_c)), (h_sightings_tells, .inl (cB, 6, .inl h_sightings_tells_c))] sz) := by
  refine Met.ofW (cc := cX5_seen) (maxL := 4) (ret := (some .int)) (by decide) rfl ?_
  intro p e s m args below meth c s₁ B hml hv
  obtain ⟨rfl, hsz, hP, hK, hD0⟩ := hv
  have hx := B.exec
  have hb := B.bytes
  have hr := B.returns
  have hts := atoms_spec (ws := wsX5_seen) B.pre
  have hown : s.vm.findClass RX5 = some m.cls := findClass_of_methodNamed B.named
  have hlocks := B.notSynchronized
  subst hsz
  have hD := hD0.self (sz := s.heap.size)
  generalize hAe : va_A [(h, .inr (5, [.ref h_page, .ref h_laid, .ref h_draft, .ref h_now, .ref h_trial, .ref h_past, .ref h_sightings, .ref h_kept, .int h_keptCount, .ref h_told])), (h_laid, .inr (0, [.int h_laid_pieces, .ref h_laid_kinds, .ref h_laid_prices, .int h_laid_roomsAtFirst, .int h_laid_deeds, .ref h_laid_persons, .ref h_laid_places, .ref h_laid_hours, .ref h_laid_weights, .int h_laid_coins, .int h_laid_law, .ref h_laid_numbers])), (h_sightings, .inr (3, [.ref h_sightings_pieces, .ref h_sightings_deeds, .ref h_sightings_tells, .int h_sightings_length])), (h_sightings_pieces, .inl (cI, 6, .inl h_sightings_pieces_c)), (h_sightings_deeds, .inl (cI, 6, .inl h_sightings_deeds_c)), (h_sightings_tells, .inl (cB, 6, .inl h_sightings_tells_c))] s.heap.size = A at hD ⊢
  have hA : ∀ q : Nat, s.heap.size ≤ q → A q := fun q h => by rw [← hAe]; exact Or.inr h
  have hS : va_S A s.heap s.heap [] := va_S.rf
  have hP : va_P D vwCl [(h, .inr (5, [.ref h_page, .ref h_laid, .ref h_draft, .ref h_now, .ref h_trial, .ref h_past, .ref h_sightings, .ref h_kept, .int h_keptCount, .ref h_told])), (h_laid, .inr (0, [.int h_laid_pieces, .ref h_laid_kinds, .ref h_laid_prices, .int h_laid_roomsAtFirst, .int h_laid_deeds, .ref h_laid_persons, .ref h_laid_places, .ref h_laid_hours, .ref h_laid_weights, .int h_laid_coins, .int h_laid_law, .ref h_laid_numbers])), (h_sightings, .inr (3, [.ref h_sightings_pieces, .ref h_sightings_deeds, .ref h_sightings_tells, .int h_sightings_length])), (h_sightings_pieces, .inl (cI, 6, .inl h_sightings_pieces_c)), (h_sightings_deeds, .inl (cI, 6, .inl h_sightings_deeds_c)), (h_sightings_tells, .inl (cB, 6, .inl h_sightings_tells_c))] s.heap := hP
  have hl := lv_entry ([.ref h, .int a1, .int a2, .int a3]) (n := 4) (Nat.le_of_ble_eq_true rfl)
  rw [lg_entry_eq]
  generalize (lg_sl ([.ref h, .int a1, .int a2, .int a3]) ++ List.replicate (4 - (lg_sl ([.ref h, .int a1, .int a2, .int a3])).length) Slot.unset).toArray = ls at hl ⊢
  have hl : lv_has ls 4 [(0, .ref h), (1, .int a1), (2, .int a2), (3, .int a3)] := hl
  unfold m_X5_seen at hf
  refine lv_aload_n hx hb dX5_seen_0 rfl (lv_at hl 0 rfl) ?_
  refine lv_iload_n hx hb dX5_seen_1 rfl (lv_at hl 1 rfl) ?_
  obtain ⟨x1, hv_1, hf⟩ := ob1_some hf
  refine q_rVi (As := [.int a1]) (rest := []) (r := x1) ⟨hx, hb, hml, hown, hts⟩ (c_X5_isPiece l D cI cC cL cB h h_page h_laid h_draft h_now h_trial h_past h_sightings h_kept h_told h_laid_kinds h_laid_prices h_laid_persons h_laid_places h_laid_hours h_laid_weights h_laid_numbers a1 h_keptCount h_laid_pieces h_laid_roomsAtFirst h_laid_deeds h_laid_coins h_laid_law x1 hv_1) (cwV 1 hts gX5_seen_X5_isPiece rfl rfl rfl (by decide +kernel) ⟨Nat.le_of_ble_eq_true rfl, Nat.le_of_ble_eq_true rfl⟩) hK hP [0, 1] rfl (va_recv hK hP (ci := 5) (q0 := 0) rfl rfl) rfl hl.1 rfl (Nat.le_of_ble_eq_true rfl) dX5_seen_2 ⟨Nat.le_of_ble_eq_true rfl, Nat.le_of_ble_eq_true rfl⟩ ?_
  refine lv_if_eq (tgt := 25) hx hb dX5_seen_5 (by decide) (fun c_2 => ?_) (fun c_2 => ?_)
  · have hf := ip c_2 hf
    refine lv_iconst (v := (-1)) hx hb dX5_seen_25 (by decide) ?_
    cases hf
    exact W.iret hx hb hr (fun t ht hW => ⟨⟨_, (), rfl, rfl, by rw [ht]; exact hP, va_K.moved hW.alike hK, hD⟩, hS.F ht⟩) hS.2.2 dX5_seen_26
  · have hf := im c_2 hf
    refine lv_aload_n hx hb dX5_seen_8 rfl (lv_at hl 0 rfl) ?_
    refine lv_iload_n hx hb dX5_seen_9 rfl (lv_at hl 2 rfl) ?_
    obtain ⟨x2, hv_3, hf⟩ := ob1_some hf
    refine q_rVi (As := [.int a2]) (rest := []) (r := x2) ⟨hx, hb, hml, hown, hts⟩ (c_X5_isDeed l D cI cC cL cB h h_page h_laid h_draft h_now h_trial h_past h_sightings h_kept h_told h_laid_kinds h_laid_prices h_laid_persons h_laid_places h_laid_hours h_laid_weights h_laid_numbers a2 h_keptCount h_laid_pieces h_laid_roomsAtFirst h_laid_deeds h_laid_coins h_laid_law x2 hv_3) (cwV 1 hts gX5_seen_X5_isDeed rfl rfl rfl (by decide +kernel) ⟨Nat.le_of_ble_eq_true rfl, Nat.le_of_ble_eq_true rfl⟩) hK hP [0, 1] rfl (va_recv hK hP (ci := 5) (q0 := 0) rfl rfl) rfl hl.1 rfl (Nat.le_of_ble_eq_true rfl) dX5_seen_10 ⟨Nat.le_of_ble_eq_true rfl, Nat.le_of_ble_eq_true rfl⟩ ?_
    refine lv_if_eq (tgt := 25) hx hb dX5_seen_13 (by decide) (fun c_4 => ?_) (fun c_4 => ?_)
    · have hf := ip c_4 hf
      refine lv_iconst (v := (-1)) hx hb dX5_seen_25 (by decide) ?_
      cases hf
      exact W.iret hx hb hr (fun t ht hW => ⟨⟨_, (), rfl, rfl, by rw [ht]; exact hP, va_K.moved hW.alike hK, hD⟩, hS.F ht⟩) hS.2.2 dX5_seen_26
    · have hf := im c_4 hf
      refine lv_iload_n hx hb dX5_seen_16 rfl (lv_at hl 3 rfl) ?_
      refine lv_iconst (v := 0) hx hb dX5_seen_17 (by decide) ?_
      refine lv_iconst (v := 1) hx hb dX5_seen_18 (by decide) ?_
      obtain ⟨x3, hv_5, hf⟩ := ob1_some hf
      refine q_rSi (As := [.int a3, .int 0, .int 1]) (rest := []) (r := x3) ⟨hx, hb, hml, hown, hts⟩ (c_X5_isWithin l D cI cC cL cB a3 ((0 : Int32)) ((1 : Int32)) x3 hv_5) (va_cwS 3 hts gX5_seen_X5_isWithin rfl rfl rfl (by decide +kernel) ⟨Nat.le_of_ble_eq_true rfl, Nat.le_of_ble_eq_true rfl⟩) hK hP [] rfl rfl hl.1 rfl (Nat.le_of_ble_eq_true rfl) dX5_seen_19 ⟨Nat.le_of_ble_eq_true rfl, Nat.le_of_ble_eq_true rfl⟩ ?_
      refine lv_if_ne (tgt := 27) hx hb dX5_seen_22 (by decide) (fun c_6 => ?_) (fun c_6 => ?_)
      · have hf := im c_6 hf
        refine lv_aload_n hx hb dX5_seen_27 rfl (lv_at hl 0 rfl) ?_
        refine va_get (D := D) (ci := 5) (v := .ref h_sightings) (C := RX5) (T := TX5) (N := 10) hx hb hts uX5_seen_X5 hown hK hP 0 rfl rfl 6 (by decide) (hts (.fieldLink RX5 46 "SpeaksForTheChair" "sightings" "LSpeaksForTheChair$Sightings;") (List.mem_of_getElem? (i := 1) rfl)) (fun _ h9 => h9) rfl dX5_seen_28 ?_
        refine lv_iload_n hx hb dX5_seen_31 rfl (lv_at hl 1 rfl) ?_
        refine lv_iload_n hx hb dX5_seen_32 rfl (lv_at hl 2 rfl) ?_
        refine lv_iload_n hx hb dX5_seen_33 rfl (lv_at hl 3 rfl) ?_
        refine lv_iconst (v := 1) hx hb dX5_seen_34 (by decide) ?_
        obtain ⟨x4, hr43, hf⟩ := ob1_some hf
        refine q_jn (pcJ := 43) (nL := 4) (vs := [(0, .ref h)]) (st := [.int x4, .int a2, .int a1, .ref h_sightings]) (fun ls hl => ?_) (fun J43 => ?_)
        · clear hr43
          obtain ⟨x5, f6, c7, c8, c9, hv_8, hf⟩ := ob5_some hf
          refine q_wVi (As := [.int a1, .int a2, .int x4]) (rest := []) (r := x5) (w1 := [(h_sightings, .inr (3, [.ref h_sightings_pieces, .ref h_sightings_deeds, .ref h_sightings_tells, .int f6])), (h_sightings_pieces, .inl (cI, 6, .inl c7)), (h_sightings_deeds, .inl (cI, 6, .inl c8)), (h_sightings_tells, .inl (cB, 6, .inl c9))]) (wr := [(h, .inr (5, [.ref h_page, .ref h_laid, .ref h_draft, .ref h_now, .ref h_trial, .ref h_past, .ref h_sightings, .ref h_kept, .int h_keptCount, .ref h_told])), (h_laid, .inr (0, [.int h_laid_pieces, .ref h_laid_kinds, .ref h_laid_prices, .int h_laid_roomsAtFirst, .int h_laid_deeds, .ref h_laid_persons, .ref h_laid_places, .ref h_laid_hours, .ref h_laid_weights, .int h_laid_coins, .int h_laid_law, .ref h_laid_numbers]))]) (w2 := [(h, .inr (5, [.ref h_page, .ref h_laid, .ref h_draft, .ref h_now, .ref h_trial, .ref h_past, .ref h_sightings, .ref h_kept, .int h_keptCount, .ref h_told])), (h_laid, .inr (0, [.int h_laid_pieces, .ref h_laid_kinds, .ref h_laid_prices, .int h_laid_roomsAtFirst, .int h_laid_deeds, .ref h_laid_persons, .ref h_laid_places, .ref h_laid_hours, .ref h_laid_weights, .int h_laid_coins, .int h_laid_law, .ref h_laid_numbers])), (h_sightings, .inr (3, [.ref h_sightings_pieces, .ref h_sightings_deeds, .ref h_sightings_tells, .int f6])), (h_sightings_pieces, .inl (cI, 6, .inl c7)), (h_sightings_deeds, .inl (cI, 6, .inl c8)), (h_sightings_tells, .inl (cB, 6, .inl c9))]) ⟨hx, hb, hml, hown, hts⟩ (c_X3_add l D cI cC cL cB s.heap.size h_sightings h_sightings_pieces h_sightings_deeds h_sightings_tells a1 a2 x4 h_sightings_length h_sightings_pieces_c h_sightings_deeds_c h_sightings_tells_c x5 f6 c7 c8 c9 hv_8) (cwV 3 hts gX5_seen_X3_add rfl rfl rfl (by decide +kernel) ⟨Nat.le_of_ble_eq_true rfl, Nat.le_of_ble_eq_true rfl⟩) hK hP hD hS hA [2, 3, 4, 5] rfl (by decide) [0, 1] rfl (by decide) (by decide) [0, 1, 2, 3, 4, 5] rfl (by decide) (va_recv hK hP (ci := 3) (q0 := 2) rfl rfl) rfl hl.1 rfl (Nat.le_of_ble_eq_true rfl) dX5_seen_43 ⟨Nat.le_of_ble_eq_true rfl, Nat.le_of_ble_eq_true rfl⟩ (fun H locs hP hD hS => ?_)
          have hP : va_P D vwCl [(h, .inr (5, [.ref h_page, .ref h_laid, .ref h_draft, .ref h_now, .ref h_trial, .ref h_past, .ref h_sightings, .ref h_kept, .int h_keptCount, .ref h_told])), (h_laid, .inr (0, [.int h_laid_pieces, .ref h_laid_kinds, .ref h_laid_prices, .int h_laid_roomsAtFirst, .int h_laid_deeds, .ref h_laid_persons, .ref h_laid_places, .ref h_laid_hours, .ref h_laid_weights, .int h_laid_coins, .int h_laid_law, .ref h_laid_numbers])), (h_sightings, .inr (3, [.ref h_sightings_pieces, .ref h_sightings_deeds, .ref h_sightings_tells, .int f6])), (h_sightings_pieces, .inl (cI, 6, .inl c7)), (h_sightings_deeds, .inl (cI, 6, .inl c8)), (h_sightings_tells, .inl (cB, 6, .inl c9))] H := hP
          have hD : va_D A [(h, .inr (5, [.ref h_page, .ref h_laid, .ref h_draft, .ref h_now, .ref h_trial, .ref h_past, .ref h_sightings, .ref h_kept, .int h_keptCount, .ref h_told])), (h_laid, .inr (0, [.int h_laid_pieces, .ref h_laid_kinds, .ref h_laid_prices, .int h_laid_roomsAtFirst, .int h_laid_deeds, .ref h_laid_persons, .ref h_laid_places, .ref h_laid_hours, .ref h_laid_weights, .int h_laid_coins, .int h_laid_law, .ref h_laid_numbers])), (h_sightings, .inr (3, [.ref h_sightings_pieces, .ref h_sightings_deeds, .ref h_sightings_tells, .int f6])), (h_sightings_pieces, .inl (cI, 6, .inl c7)), (h_sightings_deeds, .inl (cI, 6, .inl c8)), (h_sightings_tells, .inl (cB, 6, .inl c9))] := hD
          refine lv_if_eq (tgt := 59) hx hb dX5_seen_46 (by decide) (fun c_9 => ?_) (fun c_9 => ?_)
          · have hf := ip c_9 hf
            refine lv_bipush (v := (-3)) hx hb dX5_seen_59 (by decide) ?_
            cases hf
            exact W.iret hx hb hr (fun t ht hW => ⟨⟨_, (), rfl, rfl, by rw [ht]; exact hP, va_K.moved hW.alike hK, hD⟩, hS.F ht⟩) hS.2.2 dX5_seen_61
          · have hf := im c_9 hf
            refine lv_aload_n hx hb dX5_seen_49 rfl (lv_at hl 0 rfl) ?_
            refine va_get (D := D) (ci := 5) (v := .ref h_sightings) (C := RX5) (T := TX5) (N := 10) hx hb hts uX5_seen_X5 hown hK hP 0 rfl rfl 6 (by decide) (hts (.fieldLink RX5 46 "SpeaksForTheChair" "sightings" "LSpeaksForTheChair$Sightings;") (List.mem_of_getElem? (i := 1) rfl)) (fun _ h9 => h9) rfl dX5_seen_50 ?_
            refine va_get (D := D) (ci := 3) (v := .int f6) (C := RX3) (T := TX3) (N := 4) hx hb hts uX5_seen_X3 hown hK hP 2 rfl rfl 3 (by decide) (hts (.fieldLink RX5 236 "SpeaksForTheChair$Sightings" "length" "I") (List.mem_of_getElem? (i := 2) rfl)) (fun _ h9 => h9) rfl dX5_seen_53 ?_
            refine lv_goto (tgt := 61) hx hb dX5_seen_56 (by decide) ?_
            cases hf
            exact W.iret hx hb hr (fun t ht hW => ⟨⟨_, (), rfl, rfl, by rw [ht]; exact hP, va_K.moved hW.alike hK, hD⟩, hS.F ht⟩) hS.2.2 dX5_seen_61
        · replace hf := hr43
          refine lv_icmp_ne (tgt := 42) hx hb dX5_seen_35 (by decide) (fun c_7 => ?_) (fun c_7 => ?_)
          · have hf := im c_7 hf
            refine lv_iconst (v := 0) hx hb dX5_seen_42 (by decide) ?_
            cases hf
            exact J43 ls (lv_sub hl [0] rfl)
          · have hf := ip c_7 hf
            refine lv_iconst (v := 1) hx hb dX5_seen_38 (by decide) ?_
            refine lv_goto (tgt := 43) hx hb dX5_seen_39 (by decide) ?_
            cases hf
            exact J43 ls (lv_sub hl [0] rfl)
      · have hf := ip c_6 hf
        refine lv_iconst (v := (-1)) hx hb dX5_seen_25 (by decide) ?_
        cases hf
        exact W.iret hx hb hr (fun t ht hW => ⟨⟨_, (), rfl, rfl, by rw [ht]; exact hP, va_K.moved hW.alike hK, hD⟩, hS.F ht⟩) hS.2.2 dX5_seen_26
theorem uX5_forget_X3 : ∀ w ∈ wsX30, w ∈ wsX5_forget := fun w h => List.mem_cons_of_mem _ (List.mem_append_right _ h)
theorem uX5_forget_X5 : ∀ w ∈ wsX50, w ∈ wsX5_forget := fun w h => List.mem_cons_of_mem _ (List.mem_append_left _ (List.mem_append_right _ h))
set_option maxHeartbeats 4000000 in
set_option maxRecDepth 100000 in
theorem c_X5_forget (l : Launch) (D : va_G) (cI cC cL cB : ClassId) (sz : Nat) (h : Nat) (h_page : Nat) (h_laid : Nat) (h_draft : Nat) (h_now : Nat) (h_trial : Nat) (h_past : Nat) (h_sightings : Nat) (h_kept : Nat) (h_told : Nat) (h_sightings_pieces : Nat) (h_sightings_deeds : Nat) (h_sightings_tells : Nat) (h_keptCount : Int32) (h_sightings_length : Int32) (r : Int32) (o0 : Int32) (hf : m_X5_forget h_sightings_length = some (r, o0)) : Met l yX5_forget wsX5_forget ({ frames := 1, cells := 0, slots := 0, locals := 20 }) (va_Pc [.ref h] (q_W D vwCl (tyL cI cC cL cB) [(h, .inr (5, [.ref h_page, .ref h_laid, .ref h_draft, .ref h_now, .ref h_trial, .ref h_past, .ref h_sightings, .ref h_kept, .int h_keptCount, .ref h_told])), (h_sightings, .inr (3, [.ref h_sightings_pieces, .ref h_sightings_deeds, .ref h_sightings_tells, .int h_sightings_length]))] sz)) (va_Qi (fun r' _ => r' = r) (q_E D vwCl (tyL cI cC cL cB) (va_A [(h, .inr (5, [.ref h_page, .ref h_laid, .ref h_draft, .ref h_now, .ref h_trial, .ref h_past, .ref h_sightings, .ref h_kept, .int h_keptCount, .ref h_told])), (h_sightings, .inr (3, [.ref h_sightings_pieces, .ref h_sightings_deeds, .ref h_sightings_tells, .int h_sightings_length]))] sz) [(h, .inr (5, [.ref h_page, .ref h_laid, .ref h_draft, .ref h_now, .ref h_trial, .ref h_past, .ref h_sightings, .ref h_kept, .int h_keptCount, .ref h_told])), (h_sightings, .inr (3, [.ref h_sightings_pieces, .ref h_sightings_deeds, .ref h_sightings_tells, .int o0]))]) (va_A [(h, .inr (5, [.ref h_page, .ref h_laid, .ref h_draft, .ref h_now, .ref h_trial, .ref h_past, .ref h_sightings, .ref h_kept, .int h_keptCount, .ref h_told])), (h_sightings, .inr (3, [.ref h_sightings_pieces, .ref h_sightings_deeds, .ref h_sightings_tells, .int h_sightings_length]))] sz)) 0 0 (va_A [(h, .inr (5, [.ref h_page, .ref h_laid, .ref h_draft, .ref h_now, .ref h_trial, .ref h_past, .ref h_sightings, .ref h_kept, .int h_keptCount, .ref h_told])), (h_sightings, .inr (3, [.ref h_sightings_pieces, .ref h_sightings_deeds, .ref h_sightings_tells, .int h_sightings_length]))] sz) := by
  refine Met.ofW (cc := cX5_forget) (maxL := 2) (ret := (some .int)) (by decide) rfl ?_
  intro p e s m args below meth c s₁ B hml hv
  obtain ⟨rfl, hsz, hP, hK, hD0⟩ := hv
  have hx := B.exec
  have hb := B.bytes
  have hr := B.returns
  have hts := atoms_spec (ws := wsX5_forget) B.pre
  have hown : s.vm.findClass RX5 = some m.cls := findClass_of_methodNamed B.named
  have hlocks := B.notSynchronized
  subst hsz
  have hD := hD0.self (sz := s.heap.size)
  generalize hAe : va_A [(h, .inr (5, [.ref h_page, .ref h_laid, .ref h_draft, .ref h_now, .ref h_trial, .ref h_past, .ref h_sightings, .ref h_kept, .int h_keptCount, .ref h_told])), (h_sightings, .inr (3, [.ref h_sightings_pieces, .ref h_sightings_deeds, .ref h_sightings_tells, .int h_sightings_length]))] s.heap.size = A at hD ⊢
  have hA : ∀ q : Nat, s.heap.size ≤ q → A q := fun q h => by rw [← hAe]; exact Or.inr h
  have hS : va_S A s.heap s.heap [] := va_S.rf
  have hP : va_P D vwCl [(h, .inr (5, [.ref h_page, .ref h_laid, .ref h_draft, .ref h_now, .ref h_trial, .ref h_past, .ref h_sightings, .ref h_kept, .int h_keptCount, .ref h_told])), (h_sightings, .inr (3, [.ref h_sightings_pieces, .ref h_sightings_deeds, .ref h_sightings_tells, .int h_sightings_length]))] s.heap := hP
  have hl := lv_entry ([.ref h]) (n := 2) (Nat.le_of_ble_eq_true rfl)
  rw [lg_entry_eq]
  generalize (lg_sl ([.ref h]) ++ List.replicate (2 - (lg_sl ([.ref h])).length) Slot.unset).toArray = ls at hl ⊢
  have hl : lv_has ls 2 [(0, .ref h)] := hl
  unfold m_X5_forget at hf
  refine lv_aload_n hx hb dX5_forget_0 rfl (lv_at hl 0 rfl) ?_
  refine va_get (D := D) (ci := 5) (v := .ref h_sightings) (C := RX5) (T := TX5) (N := 10) hx hb hts uX5_forget_X5 hown hK hP 0 rfl rfl 6 (by decide) (hts (.fieldLink RX5 46 "SpeaksForTheChair" "sightings" "LSpeaksForTheChair$Sightings;") (List.mem_of_getElem? (i := 1) rfl)) (fun _ h9 => h9) rfl dX5_forget_1 ?_
  refine va_get (D := D) (ci := 3) (v := .int h_sightings_length) (C := RX3) (T := TX3) (N := 4) hx hb hts uX5_forget_X3 hown hK hP 1 rfl rfl 3 (by decide) (hts (.fieldLink RX5 236 "SpeaksForTheChair$Sightings" "length" "I") (List.mem_of_getElem? (i := 2) rfl)) (fun _ h9 => h9) rfl dX5_forget_4 ?_
  refine lv_istore_n (lv' := [(1, .int h_sightings_length), (0, .ref h)]) hx hb dX5_forget_7 rfl hl (by decide) rfl (fun ls hl => ?_)
  refine lv_aload_n hx hb dX5_forget_8 rfl (lv_at hl 1 rfl) ?_
  refine va_get (D := D) (ci := 5) (v := .ref h_sightings) (C := RX5) (T := TX5) (N := 10) hx hb hts uX5_forget_X5 hown hK hP 0 rfl rfl 6 (by decide) (hts (.fieldLink RX5 46 "SpeaksForTheChair" "sightings" "LSpeaksForTheChair$Sightings;") (List.mem_of_getElem? (i := 1) rfl)) (fun _ h9 => h9) rfl dX5_forget_9 ?_
  obtain ⟨f1, hv_1, hf⟩ := ob1_some hf
  refine q_wVv (As := []) (rest := []) (w1 := [(h_sightings, .inr (3, [.ref h_sightings_pieces, .ref h_sightings_deeds, .ref h_sightings_tells, .int f1]))]) (wr := [(h, .inr (5, [.ref h_page, .ref h_laid, .ref h_draft, .ref h_now, .ref h_trial, .ref h_past, .ref h_sightings, .ref h_kept, .int h_keptCount, .ref h_told]))]) (w2 := [(h, .inr (5, [.ref h_page, .ref h_laid, .ref h_draft, .ref h_now, .ref h_trial, .ref h_past, .ref h_sightings, .ref h_kept, .int h_keptCount, .ref h_told])), (h_sightings, .inr (3, [.ref h_sightings_pieces, .ref h_sightings_deeds, .ref h_sightings_tells, .int f1]))]) ⟨hx, hb, hml, hown, hts⟩ (c_X3_clear l D cI cC cL cB s.heap.size h_sightings h_sightings_pieces h_sightings_deeds h_sightings_tells h_sightings_length f1 hv_1) (cwV 0 hts gX5_forget_X3_clear rfl rfl rfl (by decide +kernel) ⟨Nat.le_of_ble_eq_true rfl, Nat.le_of_ble_eq_true rfl⟩) hK hP hD hS hA [1] rfl (by decide) [0] rfl (by decide) (by decide) [0, 1] rfl (by decide) (va_recv hK hP (ci := 3) (q0 := 1) rfl rfl) rfl hl.1 rfl (Nat.le_of_ble_eq_true rfl) dX5_forget_12 ⟨Nat.le_of_ble_eq_true rfl, Nat.le_of_ble_eq_true rfl⟩ (fun H locs hP hD hS => ?_)
  have hP : va_P D vwCl [(h, .inr (5, [.ref h_page, .ref h_laid, .ref h_draft, .ref h_now, .ref h_trial, .ref h_past, .ref h_sightings, .ref h_kept, .int h_keptCount, .ref h_told])), (h_sightings, .inr (3, [.ref h_sightings_pieces, .ref h_sightings_deeds, .ref h_sightings_tells, .int f1]))] H := hP
  have hD : va_D A [(h, .inr (5, [.ref h_page, .ref h_laid, .ref h_draft, .ref h_now, .ref h_trial, .ref h_past, .ref h_sightings, .ref h_kept, .int h_keptCount, .ref h_told])), (h_sightings, .inr (3, [.ref h_sightings_pieces, .ref h_sightings_deeds, .ref h_sightings_tells, .int f1]))] := hD
  refine lv_iload_n hx hb dX5_forget_15 rfl (lv_at hl 0 rfl) ?_
  cases hf
  exact W.iret hx hb hr (fun t ht hW => ⟨⟨_, (), rfl, rfl, by rw [ht]; exact hP, va_K.moved hW.alike hK, hD⟩, hS.F ht⟩) hS.2.2 dX5_forget_16
theorem uX5_agreesWithSeen_X0 : ∀ w ∈ wsX00, w ∈ wsX5_agreesWithSeen := fun w h => List.mem_cons_of_mem _ (List.mem_append_left _ (List.mem_append_right _ h))
theorem uX5_agreesWithSeen_X3 : ∀ w ∈ wsX30, w ∈ wsX5_agreesWithSeen := fun w h => List.mem_cons_of_mem _ (List.mem_append_left _ (List.mem_append_left _ (List.mem_append_right _ h)))
theorem uX5_agreesWithSeen_X5 : ∀ w ∈ wsX50, w ∈ wsX5_agreesWithSeen := fun w h => List.mem_cons_of_mem _ (List.mem_append_left _ (List.mem_append_left _ (List.mem_append_left _ (List.mem_append_right _ h))))
set_option maxHeartbeats 4000000 in
set_option maxRecDepth 100000 in
theorem c_X5_agreesWithSeen (l : Launch) (D : va_G) (cI cC cL cB : ClassId) (h : Nat) (h_page : Nat) (h_laid : Nat) (h_draft : Nat) (h_now : Nat) (h_trial : Nat) (h_past : Nat) (h_sightings : Nat) (h_kept : Nat) (h_told : Nat) (h_sightings_pieces : Nat) (h_sightings_deeds : Nat) (h_sightings_tells : Nat) (h_laid_kinds : Nat) (h_laid_prices : Nat) (h_laid_persons : Nat) (h_laid_places : Nat) (h_laid_hours : Nat) (h_laid_weights : Nat) (h_laid_numbers : Nat) (a1 : Int32) (a2 : Int32) (a3 : Int32) (h_keptCount : Int32) (h_sightings_length : Int32) (h_sightings_pieces_c : Nat → Int32) (h_sightings_deeds_c : Nat → Int32) (h_laid_pieces : Int32) (h_laid_roomsAtFirst : Int32) (h_laid_deeds : Int32) (h_laid_coins : Int32) (h_laid_law : Int32) (h_now_rooms : Int32) (h_now_bought : Int32) (h_now_spoken : Int32) (h_now_out : Int32) (h_now_coins : Int32) (h_laid_kinds_c : Nat → Int32) (h_laid_weights_c : Nat → Int32) (h_laid_hours_c : Nat → Int32) (h_laid_places_c : Nat → Int32) (h_sightings_tells_c : Nat → Int32) (r : Int32) (hf : m_X5_agreesWithSeen a1 a2 a3 h_sightings_length h_sightings_pieces_c h_sightings_deeds_c h_laid_pieces h_laid_deeds h_now_rooms h_laid_kinds_c h_laid_weights_c h_laid_hours_c h_laid_places_c h_sightings_tells_c = some r) : Met l yX5_agreesWithSeen wsX5_agreesWithSeen ({ frames := 2, cells := 0, slots := 0, locals := 51 }) (va_Pc [.ref h, .int a1, .int a2, .int a3] (q_R D vwCl (tyL cI cC cL cB) [(h, .inr (5, [.ref h_page, .ref h_laid, .ref h_draft, .ref h_now, .ref h_trial, .ref h_past, .ref h_sightings, .ref h_kept, .int h_keptCount, .ref h_told])), (h_sightings, .inr (3, [.ref h_sightings_pieces, .ref h_sightings_deeds, .ref h_sightings_tells, .int h_sightings_length])), (h_sightings_pieces, .inl (cI, 6, .inl h_sightings_pieces_c)), (h_sightings_deeds, .inl (cI, 6, .inl h_sightings_deeds_c)), (h_laid, .inr (0, [.int h_laid_pieces, .ref h_laid_kinds, .ref h_laid_prices, .int h_laid_roomsAtFirst, .int h_laid_deeds, .ref h_laid_persons, .ref h_laid_places, .ref h_laid_hours, .ref h_laid_weights, .int h_laid_coins, .int h_laid_law, .ref h_laid_numbers])), (h_now, .inr (4, [.int h_now_rooms, .int h_now_bought, .int h_now_spoken, .int h_now_out, .int h_now_coins])), (h_laid_kinds, .inl (cI, 8, .inl h_laid_kinds_c)), (h_laid_weights, .inl (cI, 9, .inl h_laid_weights_c)), (h_laid_hours, .inl (cI, 9, .inl h_laid_hours_c)), (h_laid_places, .inl (cI, 9, .inl h_laid_places_c)), (h_sightings_tells, .inl (cB, 6, .inl h_sightings_tells_c))])) (vp_Si (fun r' => r' = r)) 0 0 (fun _ => False) := by
  refine Met.ofW (cc := cX5_agreesWithSeen) (maxL := 7) (ret := (some .boolean)) (by decide) rfl ?_
  intro p e s m args below meth c s₁ B hml hv
  obtain ⟨rfl, hP, hK⟩ := hv
  have hx := B.exec
  have hb := B.bytes
  have hr := B.returns
  have hts := atoms_spec (ws := wsX5_agreesWithSeen) B.pre
  have hown : s.vm.findClass RX5 = some m.cls := findClass_of_methodNamed B.named
  have hlocks := B.notSynchronized
  have hl := lv_entry ([.ref h, .int a1, .int a2, .int a3]) (n := 7) (Nat.le_of_ble_eq_true rfl)
  rw [lg_entry_eq]
  generalize (lg_sl ([.ref h, .int a1, .int a2, .int a3]) ++ List.replicate (7 - (lg_sl ([.ref h, .int a1, .int a2, .int a3])).length) Slot.unset).toArray = ls at hl ⊢
  have hl : lv_has ls 7 [(0, .ref h), (1, .int a1), (2, .int a2), (3, .int a3)] := hl
  unfold m_X5_agreesWithSeen at hf
  refine lv_iconst (v := 0) hx hb dX5_agreesWithSeen_0 (by decide) ?_
  refine lv_istore (lv' := [(4, .int 0), (0, .ref h), (1, .int a1), (2, .int a2), (3, .int a3)]) hx hb dX5_agreesWithSeen_1 hl (by decide) rfl (fun ls hl => ?_)
  have loop3 : ∀ (n : Nat) (x1 : Int32), ∀ (ls : Array Slot), lv_has ls 7 [(0, .ref h), (1, .int a1), (2, .int a2), (3, .int a3), (4, .int x1)] → L_X5_agreesWithSeen_3 h_sightings_length h_sightings_pieces_c h_sightings_deeds_c a1 h_laid_pieces h_now_rooms a2 h_laid_kinds_c a3 h_laid_weights_c h_laid_deeds h_laid_hours_c h_laid_places_c h_sightings_tells_c n x1 = some r → W p l e (headSpec wsX5_agreesWithSeen ({ frames := 2, cells := 0, slots := 0, locals := 51 })).room s m ([.ref h, .int a1, .int a2, .int a3] : List Value).toArray below meth c s.heap [] 0 0 (MQ below (vp_Si (fun r' => r' = r)) ([.ref h, .int a1, .int a2, .int a3] : List Value).toArray s 0 0 (fun _ => False)) (F0 m 3 ls []) := by
    intro n
    induction n with
    | zero =>
      intro x1 ls hl hf
      rw [L_X5_agreesWithSeen_3] at hf
      cases hf
    | succ n ih =>
      intro x1 ls hl hf
      rw [L_X5_agreesWithSeen_3] at hf
      refine lv_iload hx hb dX5_agreesWithSeen_3 (lv_at hl 4 rfl) ?_
      refine lv_aload_n hx hb dX5_agreesWithSeen_5 rfl (lv_at hl 0 rfl) ?_
      refine va_get (D := D) (ci := 5) (v := .ref h_sightings) (C := RX5) (T := TX5) (N := 10) hx hb hts uX5_agreesWithSeen_X5 hown hK hP 0 rfl rfl 6 (by decide) (hts (.fieldLink RX5 46 "SpeaksForTheChair" "sightings" "LSpeaksForTheChair$Sightings;") (List.mem_of_getElem? (i := 1) rfl)) (fun _ h9 => h9) rfl dX5_agreesWithSeen_6 ?_
      refine va_get (D := D) (ci := 3) (v := .int h_sightings_length) (C := RX3) (T := TX3) (N := 4) hx hb hts uX5_agreesWithSeen_X3 hown hK hP 1 rfl rfl 3 (by decide) (hts (.fieldLink RX5 236 "SpeaksForTheChair$Sightings" "length" "I") (List.mem_of_getElem? (i := 2) rfl)) (fun _ h9 => h9) rfl dX5_agreesWithSeen_9 ?_
      refine lv_icmp_ge (tgt := 125) hx hb dX5_agreesWithSeen_12 (by decide) (fun c_34 => ?_) (fun c_34 => ?_)
      · have hf := ip c_34 hf
        refine lv_iconst (v := 1) hx hb dX5_agreesWithSeen_125 (by decide) ?_
        cases hf
        exact W.zret hx hb hr rfl (fun t ht hW => ⟨_, rfl, rfl, ht⟩) (fun _ h => by cases h) dX5_agreesWithSeen_126
      · have hf := im c_34 hf
        refine lv_aload_n hx hb dX5_agreesWithSeen_15 rfl (lv_at hl 0 rfl) ?_
        refine va_get (D := D) (ci := 5) (v := .ref h_sightings) (C := RX5) (T := TX5) (N := 10) hx hb hts uX5_agreesWithSeen_X5 hown hK hP 0 rfl rfl 6 (by decide) (hts (.fieldLink RX5 46 "SpeaksForTheChair" "sightings" "LSpeaksForTheChair$Sightings;") (List.mem_of_getElem? (i := 1) rfl)) (fun _ h9 => h9) rfl dX5_agreesWithSeen_16 ?_
        refine va_get (D := D) (ci := 3) (v := .ref h_sightings_pieces) (C := RX3) (T := TX3) (N := 4) hx hb hts uX5_agreesWithSeen_X3 hown hK hP 1 rfl rfl 0 (by decide) (hts (.fieldLink RX5 262 "SpeaksForTheChair$Sightings" "pieces" "[I") (List.mem_of_getElem? (i := 3) rfl)) (fun _ h9 => h9) rfl dX5_agreesWithSeen_19 ?_
        refine lv_iload hx hb dX5_agreesWithSeen_22 (lv_at hl 4 rfl) ?_
        obtain ⟨g_35, hf⟩ := gu_in hf
        refine va_iald hx hb hK hP 2 0 rfl rfl g_35 dX5_agreesWithSeen_24 ?_
        refine lv_topi (fun x2 ex2 => ?_)
        have hf := pv_eq ex2 hf
        refine lv_istore (lv' := [(5, .int x2), (0, .ref h), (1, .int a1), (2, .int a2), (3, .int a3), (4, .int x1)]) hx hb dX5_agreesWithSeen_25 hl (by decide) rfl (fun ls hl => ?_)
        refine lv_aload_n hx hb dX5_agreesWithSeen_27 rfl (lv_at hl 1 rfl) ?_
        refine va_get (D := D) (ci := 5) (v := .ref h_sightings) (C := RX5) (T := TX5) (N := 10) hx hb hts uX5_agreesWithSeen_X5 hown hK hP 0 rfl rfl 6 (by decide) (hts (.fieldLink RX5 46 "SpeaksForTheChair" "sightings" "LSpeaksForTheChair$Sightings;") (List.mem_of_getElem? (i := 1) rfl)) (fun _ h9 => h9) rfl dX5_agreesWithSeen_28 ?_
        refine va_get (D := D) (ci := 3) (v := .ref h_sightings_deeds) (C := RX3) (T := TX3) (N := 4) hx hb hts uX5_agreesWithSeen_X3 hown hK hP 1 rfl rfl 1 (by decide) (hts (.fieldLink RX5 264 "SpeaksForTheChair$Sightings" "deeds" "[I") (List.mem_of_getElem? (i := 4) rfl)) (fun _ h9 => h9) rfl dX5_agreesWithSeen_31 ?_
        refine lv_iload hx hb dX5_agreesWithSeen_34 (lv_at hl 5 rfl) ?_
        obtain ⟨g_36, hf⟩ := gu_in hf
        refine va_iald hx hb hK hP 3 0 rfl rfl g_36 dX5_agreesWithSeen_36 ?_
        refine lv_iload_n hx hb dX5_agreesWithSeen_37 rfl (lv_at hl 2 rfl) ?_
        refine lv_icmp_ne (tgt := 119) hx hb dX5_agreesWithSeen_38 (by decide) (fun c_37 => ?_) (fun c_37 => ?_)
        · have hf := im c_37 hf
          obtain ⟨x3, ex3⟩ : ∃ y : Int32, y = (x1 + 1) := ⟨_, rfl⟩
          have hf := pv_eq ex3 hf
          refine lv_iinc (v := x3) (lv' := [(4, .int x3), (5, .int x2), (0, .ref h), (1, .int a1), (2, .int a2), (3, .int a3)]) hx hb dX5_agreesWithSeen_119 hl (k := 5) rfl (by rw [ex3]; rfl) (by decide) rfl (fun ls hl => ?_)
          refine lv_goto (tgt := 3) hx hb dX5_agreesWithSeen_122 (by decide) ?_
          exact ih _ ls (lv_sub hl [2, 3, 4, 5, 0] rfl) hf
        · have hf := ip c_37 hf
          refine lv_aload_n hx hb dX5_agreesWithSeen_41 rfl (lv_at hl 1 rfl) ?_
          refine lv_iload hx hb dX5_agreesWithSeen_42 (lv_at hl 0 rfl) ?_
          obtain ⟨x4, hv_38, hf⟩ := ob1_some hf
          refine q_rVi (As := [.int x2]) (rest := []) (r := x4) ⟨hx, hb, hml, hown, hts⟩ (c_X5_isPiece l D cI cC cL cB h h_page h_laid h_draft h_now h_trial h_past h_sightings h_kept h_told h_laid_kinds h_laid_prices h_laid_persons h_laid_places h_laid_hours h_laid_weights h_laid_numbers x2 h_keptCount h_laid_pieces h_laid_roomsAtFirst h_laid_deeds h_laid_coins h_laid_law x4 hv_38) (cwV 1 hts gX5_agreesWithSeen_X5_isPiece rfl rfl rfl (by decide +kernel) ⟨Nat.le_of_ble_eq_true rfl, Nat.le_of_ble_eq_true rfl⟩) hK hP [0, 4] rfl (va_recv hK hP (ci := 5) (q0 := 0) rfl rfl) rfl hl.1 rfl (Nat.le_of_ble_eq_true rfl) dX5_agreesWithSeen_44 ⟨Nat.le_of_ble_eq_true rfl, Nat.le_of_ble_eq_true rfl⟩ ?_
          refine lv_if_eq (tgt := 119) hx hb dX5_agreesWithSeen_47 (by decide) (fun c_39 => ?_) (fun c_39 => ?_)
          · have hf := ip c_39 hf
            obtain ⟨x5, ex5⟩ : ∃ y : Int32, y = (x1 + 1) := ⟨_, rfl⟩
            have hf := pv_eq ex5 hf
            refine lv_iinc (v := x5) (lv' := [(4, .int x5), (5, .int x2), (0, .ref h), (1, .int a1), (2, .int a2), (3, .int a3)]) hx hb dX5_agreesWithSeen_119 hl (k := 5) rfl (by rw [ex5]; rfl) (by decide) rfl (fun ls hl => ?_)
            refine lv_goto (tgt := 3) hx hb dX5_agreesWithSeen_122 (by decide) ?_
            exact ih _ ls (lv_sub hl [2, 3, 4, 5, 0] rfl) hf
          · have hf := im c_39 hf
            refine lv_aload_n hx hb dX5_agreesWithSeen_50 rfl (lv_at hl 1 rfl) ?_
            refine va_get (D := D) (ci := 5) (v := .ref h_now) (C := RX5) (T := TX5) (N := 10) hx hb hts uX5_agreesWithSeen_X5 hown hK hP 0 rfl rfl 3 (by decide) (hts (.fieldLink RX5 29 "SpeaksForTheChair" "now" "LSpeaksForTheChair$Standing;") (List.mem_of_getElem? (i := 5) rfl)) (fun _ h9 => h9) rfl dX5_agreesWithSeen_51 ?_
            refine lv_iload hx hb dX5_agreesWithSeen_54 (lv_at hl 0 rfl) ?_
            obtain ⟨x6, hv_40, hf⟩ := ob1_some hf
            refine q_rVi (As := [.int x2]) (rest := []) (r := x6) ⟨hx, hb, hml, hown, hts⟩ (c_X4_roomOf l D cI cC cL cB h_now x2 h_now_rooms h_now_bought h_now_spoken h_now_out h_now_coins x6 hv_40) (cwV 1 hts gX5_agreesWithSeen_X4_roomOf rfl rfl rfl (by decide +kernel) ⟨Nat.le_of_ble_eq_true rfl, Nat.le_of_ble_eq_true rfl⟩) hK hP [5] rfl (va_recv hK hP (ci := 4) (q0 := 5) rfl rfl) rfl hl.1 rfl (Nat.le_of_ble_eq_true rfl) dX5_agreesWithSeen_56 ⟨Nat.le_of_ble_eq_true rfl, Nat.le_of_ble_eq_true rfl⟩ ?_
            refine lv_iload_n hx hb dX5_agreesWithSeen_59 rfl (lv_at hl 3 rfl) ?_
            obtain ⟨x7, hr100, hf⟩ := ob1_some hf
            refine q_jn (pcJ := 100) (nL := 7) (vs := [(0, .ref h), (1, .int a1), (2, .int a2), (3, .int a3), (4, .int x1)]) (st := [.int x7]) (fun ls hl => ?_) (fun J100 => ?_)
            · clear hr100
              refine lv_istore (lv' := [(6, .int x7), (0, .ref h), (1, .int a1), (2, .int a2), (3, .int a3), (4, .int x1)]) hx hb dX5_agreesWithSeen_100 hl (by decide) rfl (fun ls hl => ?_)
              refine lv_iload hx hb dX5_agreesWithSeen_102 (lv_at hl 0 rfl) ?_
              refine lv_aload_n hx hb dX5_agreesWithSeen_104 rfl (lv_at hl 1 rfl) ?_
              refine va_get (D := D) (ci := 5) (v := .ref h_sightings) (C := RX5) (T := TX5) (N := 10) hx hb hts uX5_agreesWithSeen_X5 hown hK hP 0 rfl rfl 6 (by decide) (hts (.fieldLink RX5 46 "SpeaksForTheChair" "sightings" "LSpeaksForTheChair$Sightings;") (List.mem_of_getElem? (i := 1) rfl)) (fun _ h9 => h9) rfl dX5_agreesWithSeen_105 ?_
              refine va_get (D := D) (ci := 3) (v := .ref h_sightings_tells) (C := RX3) (T := TX3) (N := 4) hx hb hts uX5_agreesWithSeen_X3 hown hK hP 1 rfl rfl 2 (by decide) (hts (.fieldLink RX5 266 "SpeaksForTheChair$Sightings" "tells" "[Z") (List.mem_of_getElem? (i := 9) rfl)) (fun _ h9 => h9) rfl dX5_agreesWithSeen_108 ?_
              refine lv_iload hx hb dX5_agreesWithSeen_111 (lv_at hl 5 rfl) ?_
              obtain ⟨g_46, hf⟩ := gu_in hf
              refine va_zald hx hb hK hP 10 3 rfl rfl g_46 dX5_agreesWithSeen_113 ?_
              refine lv_icmp_eq (tgt := 119) hx hb dX5_agreesWithSeen_114 (by decide) (fun c_47 => ?_) (fun c_47 => ?_)
              · have hf := ip c_47 hf
                obtain ⟨x8, ex8⟩ : ∃ y : Int32, y = (x1 + 1) := ⟨_, rfl⟩
                have hf := pv_eq ex8 hf
                refine lv_iinc (v := x8) (lv' := [(4, .int x8), (6, .int x7), (0, .ref h), (1, .int a1), (2, .int a2), (3, .int a3)]) hx hb dX5_agreesWithSeen_119 hl (k := 5) rfl (by rw [ex8]; rfl) (by decide) rfl (fun ls hl => ?_)
                refine lv_goto (tgt := 3) hx hb dX5_agreesWithSeen_122 (by decide) ?_
                exact ih _ ls (lv_sub hl [2, 3, 4, 5, 0] rfl) hf
              · have hf := im c_47 hf
                refine lv_iconst (v := 0) hx hb dX5_agreesWithSeen_117 (by decide) ?_
                cases hf
                exact W.zret hx hb hr rfl (fun t ht hW => ⟨_, rfl, rfl, ht⟩) (fun _ h => by cases h) dX5_agreesWithSeen_118
            · replace hf := hr100
              refine lv_icmp_ne (tgt := 99) hx hb dX5_agreesWithSeen_60 (by decide) (fun c_41 => ?_) (fun c_41 => ?_)
              · have hf := im c_41 hf
                refine lv_iconst (v := 0) hx hb dX5_agreesWithSeen_99 (by decide) ?_
                cases hf
                exact J100 ls (lv_sub hl [1, 2, 3, 4, 5] rfl)
              · have hf := ip c_41 hf
                refine lv_aload_n hx hb dX5_agreesWithSeen_63 rfl (lv_at hl 1 rfl) ?_
                refine va_get (D := D) (ci := 5) (v := .ref h_laid) (C := RX5) (T := TX5) (N := 10) hx hb hts uX5_agreesWithSeen_X5 hown hK hP 0 rfl rfl 1 (by decide) (hts (.fieldLink RX5 19 "SpeaksForTheChair" "laid" "LSpeaksForTheChair$House;") (List.mem_of_getElem? (i := 6) rfl)) (fun _ h9 => h9) rfl dX5_agreesWithSeen_64 ?_
                refine lv_aload_n hx hb dX5_agreesWithSeen_67 rfl (lv_at hl 1 rfl) ?_
                refine va_get (D := D) (ci := 5) (v := .ref h_laid) (C := RX5) (T := TX5) (N := 10) hx hb hts uX5_agreesWithSeen_X5 hown hK hP 0 rfl rfl 1 (by decide) (hts (.fieldLink RX5 19 "SpeaksForTheChair" "laid" "LSpeaksForTheChair$House;") (List.mem_of_getElem? (i := 6) rfl)) (fun _ h9 => h9) rfl dX5_agreesWithSeen_68 ?_
                refine va_get (D := D) (ci := 0) (v := .ref h_laid_kinds) (C := RX0) (T := TX0) (N := 12) hx hb hts uX5_agreesWithSeen_X0 hown hK hP 4 rfl rfl 1 (by decide) (hts (.fieldLink RX5 113 "SpeaksForTheChair$House" "kinds" "[I") (List.mem_of_getElem? (i := 7) rfl)) (fun _ h9 => h9) rfl dX5_agreesWithSeen_71 ?_
                refine lv_iload hx hb dX5_agreesWithSeen_74 (lv_at hl 0 rfl) ?_
                obtain ⟨g_48, hf⟩ := gu_in hf
                refine va_iald hx hb hK hP 6 0 rfl rfl g_48 dX5_agreesWithSeen_76 ?_
                refine lv_iload_n hx hb dX5_agreesWithSeen_77 rfl (lv_at hl 3 rfl) ?_
                refine lv_iload_n hx hb dX5_agreesWithSeen_78 rfl (lv_at hl 2 rfl) ?_
                refine lv_iload_n hx hb dX5_agreesWithSeen_79 rfl (lv_at hl 4 rfl) ?_
                refine lv_aload_n hx hb dX5_agreesWithSeen_80 rfl (lv_at hl 1 rfl) ?_
                refine va_get (D := D) (ci := 5) (v := .ref h_laid) (C := RX5) (T := TX5) (N := 10) hx hb hts uX5_agreesWithSeen_X5 hown hK hP 0 rfl rfl 1 (by decide) (hts (.fieldLink RX5 19 "SpeaksForTheChair" "laid" "LSpeaksForTheChair$House;") (List.mem_of_getElem? (i := 6) rfl)) (fun _ h9 => h9) rfl dX5_agreesWithSeen_81 ?_
                refine va_get (D := D) (ci := 0) (v := .ref h_laid_weights) (C := RX0) (T := TX0) (N := 12) hx hb hts uX5_agreesWithSeen_X0 hown hK hP 4 rfl rfl 8 (by decide) (hts (.fieldLink RX5 146 "SpeaksForTheChair$House" "weights" "[I") (List.mem_of_getElem? (i := 8) rfl)) (fun _ h9 => h9) rfl dX5_agreesWithSeen_84 ?_
                refine lv_iload_n hx hb dX5_agreesWithSeen_87 rfl (lv_at hl 2 rfl) ?_
                obtain ⟨g_49, hf⟩ := gu_in hf
                refine va_iald hx hb hK hP 7 0 rfl rfl g_49 dX5_agreesWithSeen_88 ?_
                obtain ⟨x9, hv_50, hf⟩ := ob1_some hf
                refine q_rVi (As := [.int (h_laid_kinds_c x2.toNatClampNeg), .int a2, .int a1, .int a3, .int (h_laid_weights_c a1.toNatClampNeg)]) (rest := []) (r := x9) ⟨hx, hb, hml, hown, hts⟩ (c_X0_wouldTell l D cI cC cL cB h_laid h_laid_kinds h_laid_prices h_laid_persons h_laid_places h_laid_hours h_laid_weights h_laid_numbers ((h_laid_kinds_c x2.toNatClampNeg)) a2 a1 a3 ((h_laid_weights_c a1.toNatClampNeg)) h_laid_pieces h_laid_roomsAtFirst h_laid_deeds h_laid_coins h_laid_law h_laid_hours_c h_laid_places_c x9 hv_50) (cwV 5 hts gX5_agreesWithSeen_X0_wouldTell rfl rfl rfl (by decide +kernel) ⟨Nat.le_of_ble_eq_true rfl, Nat.le_of_ble_eq_true rfl⟩) hK hP [4, 8, 9] rfl (va_recv hK hP (ci := 0) (q0 := 4) rfl rfl) rfl hl.1 rfl (Nat.le_of_ble_eq_true rfl) dX5_agreesWithSeen_89 ⟨Nat.le_of_ble_eq_true rfl, Nat.le_of_ble_eq_true rfl⟩ ?_
                refine lv_if_eq (tgt := 99) hx hb dX5_agreesWithSeen_92 (by decide) (fun c_51 => ?_) (fun c_51 => ?_)
                · have hf := ip c_51 hf
                  refine lv_iconst (v := 0) hx hb dX5_agreesWithSeen_99 (by decide) ?_
                  cases hf
                  exact J100 ls (lv_sub hl [1, 2, 3, 4, 5] rfl)
                · have hf := im c_51 hf
                  refine lv_iconst (v := 1) hx hb dX5_agreesWithSeen_95 (by decide) ?_
                  refine lv_goto (tgt := 100) hx hb dX5_agreesWithSeen_96 (by decide) ?_
                  cases hf
                  exact J100 ls (lv_sub hl [1, 2, 3, 4, 5] rfl)
  exact loop3 300 _ ls (lv_sub hl [1, 2, 3, 4, 0] rfl) hf
theorem uX5_roomsThatMay_X0 : ∀ w ∈ wsX00, w ∈ wsX5_roomsThatMay := fun w h => List.mem_cons_of_mem _ (List.mem_append_left _ (List.mem_append_left _ (List.mem_append_right _ h)))
theorem uX5_roomsThatMay_X5 : ∀ w ∈ wsX50, w ∈ wsX5_roomsThatMay := fun w h => List.mem_cons_of_mem _ (List.mem_append_left _ (List.mem_append_left _ (List.mem_append_left _ (List.mem_append_right _ h))))
set_option maxHeartbeats 4000000 in
set_option maxRecDepth 100000 in
theorem c_X5_roomsThatMay (l : Launch) (D : va_G) (cI cC cL cB : ClassId) (h : Nat) (h_page : Nat) (h_laid : Nat) (h_draft : Nat) (h_now : Nat) (h_trial : Nat) (h_past : Nat) (h_sightings : Nat) (h_kept : Nat) (h_told : Nat) (h_laid_kinds : Nat) (h_laid_prices : Nat) (h_laid_persons : Nat) (h_laid_places : Nat) (h_laid_hours : Nat) (h_laid_weights : Nat) (h_laid_numbers : Nat) (h_sightings_pieces : Nat) (h_sightings_deeds : Nat) (h_sightings_tells : Nat) (a1 : Int32) (h_keptCount : Int32) (h_laid_pieces : Int32) (h_laid_roomsAtFirst : Int32) (h_laid_deeds : Int32) (h_laid_coins : Int32) (h_laid_law : Int32) (h_laid_hours_c : Nat → Int32) (h_sightings_length : Int32) (h_sightings_pieces_c : Nat → Int32) (h_sightings_deeds_c : Nat → Int32) (h_now_rooms : Int32) (h_now_bought : Int32) (h_now_spoken : Int32) (h_now_out : Int32) (h_now_coins : Int32) (h_laid_kinds_c : Nat → Int32) (h_laid_weights_c : Nat → Int32) (h_laid_places_c : Nat → Int32) (h_sightings_tells_c : Nat → Int32) (r : Int32) (hf : m_X5_roomsThatMay a1 h_laid_pieces h_laid_deeds h_laid_hours_c h_sightings_length h_sightings_pieces_c h_sightings_deeds_c h_now_rooms h_laid_kinds_c h_laid_weights_c h_laid_places_c h_sightings_tells_c = some r) : Met l yX5_roomsThatMay wsX5_roomsThatMay ({ frames := 3, cells := 0, slots := 0, locals := 77 }) (va_Pc [.ref h, .int a1] (q_R D vwCl (tyL cI cC cL cB) [(h, .inr (5, [.ref h_page, .ref h_laid, .ref h_draft, .ref h_now, .ref h_trial, .ref h_past, .ref h_sightings, .ref h_kept, .int h_keptCount, .ref h_told])), (h_laid, .inr (0, [.int h_laid_pieces, .ref h_laid_kinds, .ref h_laid_prices, .int h_laid_roomsAtFirst, .int h_laid_deeds, .ref h_laid_persons, .ref h_laid_places, .ref h_laid_hours, .ref h_laid_weights, .int h_laid_coins, .int h_laid_law, .ref h_laid_numbers])), (h_laid_hours, .inl (cI, 9, .inl h_laid_hours_c)), (h_sightings, .inr (3, [.ref h_sightings_pieces, .ref h_sightings_deeds, .ref h_sightings_tells, .int h_sightings_length])), (h_sightings_pieces, .inl (cI, 6, .inl h_sightings_pieces_c)), (h_sightings_deeds, .inl (cI, 6, .inl h_sightings_deeds_c)), (h_now, .inr (4, [.int h_now_rooms, .int h_now_bought, .int h_now_spoken, .int h_now_out, .int h_now_coins])), (h_laid_kinds, .inl (cI, 8, .inl h_laid_kinds_c)), (h_laid_weights, .inl (cI, 9, .inl h_laid_weights_c)), (h_laid_places, .inl (cI, 9, .inl h_laid_places_c)), (h_sightings_tells, .inl (cB, 6, .inl h_sightings_tells_c))])) (vp_Si (fun r' => r' = r)) 0 0 (fun _ => False) := by
  refine Met.ofW (cc := cX5_roomsThatMay) (maxL := 4) (ret := (some .int)) (by decide) rfl ?_
  intro p e s m args below meth c s₁ B hml hv
  obtain ⟨rfl, hP, hK⟩ := hv
  have hx := B.exec
  have hb := B.bytes
  have hr := B.returns
  have hts := atoms_spec (ws := wsX5_roomsThatMay) B.pre
  have hown : s.vm.findClass RX5 = some m.cls := findClass_of_methodNamed B.named
  have hlocks := B.notSynchronized
  have hl := lv_entry ([.ref h, .int a1]) (n := 4) (Nat.le_of_ble_eq_true rfl)
  rw [lg_entry_eq]
  generalize (lg_sl ([.ref h, .int a1]) ++ List.replicate (4 - (lg_sl ([.ref h, .int a1])).length) Slot.unset).toArray = ls at hl ⊢
  have hl : lv_has ls 4 [(0, .ref h), (1, .int a1)] := hl
  unfold m_X5_roomsThatMay at hf
  refine lv_iconst (v := 0) hx hb dX5_roomsThatMay_0 (by decide) ?_
  refine lv_istore_n (lv' := [(2, .int 0), (0, .ref h), (1, .int a1)]) hx hb dX5_roomsThatMay_1 rfl hl (by decide) rfl (fun ls hl => ?_)
  refine lv_iconst (v := 0) hx hb dX5_roomsThatMay_2 (by decide) ?_
  refine lv_istore_n (lv' := [(3, .int 0), (2, .int 0), (0, .ref h), (1, .int a1)]) hx hb dX5_roomsThatMay_3 rfl hl (by decide) rfl (fun ls hl => ?_)
  have loop4 : ∀ (n : Nat) (x1 : Int32) (x2 : Int32), ∀ (ls : Array Slot), lv_has ls 4 [(0, .ref h), (1, .int a1), (2, .int x1), (3, .int x2)] → ∀ (x3 : Int32), L_X5_roomsThatMay_4 a1 h_laid_hours_c h_sightings_length h_sightings_pieces_c h_sightings_deeds_c h_laid_pieces h_laid_deeds h_now_rooms h_laid_kinds_c h_laid_weights_c h_laid_places_c h_sightings_tells_c n x1 x2 = some x3 → (∀ (ls : Array Slot), lv_has ls 4 [(2, .int x3)] → W p l e (headSpec wsX5_roomsThatMay ({ frames := 3, cells := 0, slots := 0, locals := 77 })).room s m ([.ref h, .int a1] : List Value).toArray below meth c s.heap [] 0 0 (MQ below (vp_Si (fun r' => r' = r)) ([.ref h, .int a1] : List Value).toArray s 0 0 (fun _ => False)) (F0 m 39 ls [])) → W p l e (headSpec wsX5_roomsThatMay ({ frames := 3, cells := 0, slots := 0, locals := 77 })).room s m ([.ref h, .int a1] : List Value).toArray below meth c s.heap [] 0 0 (MQ below (vp_Si (fun r' => r' = r)) ([.ref h, .int a1] : List Value).toArray s 0 0 (fun _ => False)) (F0 m 4 ls []) := by
    intro n
    induction n with
    | zero =>
      intro x1 x2 ls hl x3 hf KX
      rw [L_X5_roomsThatMay_4] at hf
      cases hf
    | succ n ih =>
      intro x1 x2 ls hl x3 hf KX
      rw [L_X5_roomsThatMay_4] at hf
      refine lv_iload_n hx hb dX5_roomsThatMay_4 rfl (lv_at hl 3 rfl) ?_
      refine lv_iconst (v := 4) hx hb dX5_roomsThatMay_5 (by decide) ?_
      refine lv_icmp_ge (tgt := 39) hx hb dX5_roomsThatMay_6 (by decide) (fun c_9 => ?_) (fun c_9 => ?_)
      · have hf := ip c_9 hf
        cases hf
        exact KX ls (lv_sub hl [2] rfl)
      · have hf := im c_9 hf
        refine lv_aload_n hx hb dX5_roomsThatMay_9 rfl (lv_at hl 0 rfl) ?_
        refine lv_iload_n hx hb dX5_roomsThatMay_10 rfl (lv_at hl 1 rfl) ?_
        refine lv_iload_n hx hb dX5_roomsThatMay_11 rfl (lv_at hl 3 rfl) ?_
        refine lv_aload_n hx hb dX5_roomsThatMay_12 rfl (lv_at hl 0 rfl) ?_
        refine va_get (D := D) (ci := 5) (v := .ref h_laid) (C := RX5) (T := TX5) (N := 10) hx hb hts uX5_roomsThatMay_X5 hown hK hP 0 rfl rfl 1 (by decide) (hts (.fieldLink RX5 19 "SpeaksForTheChair" "laid" "LSpeaksForTheChair$House;") (List.mem_of_getElem? (i := 1) rfl)) (fun _ h9 => h9) rfl dX5_roomsThatMay_13 ?_
        refine va_get (D := D) (ci := 0) (v := .ref h_laid_hours) (C := RX0) (T := TX0) (N := 12) hx hb hts uX5_roomsThatMay_X0 hown hK hP 1 rfl rfl 7 (by decide) (hts (.fieldLink RX5 143 "SpeaksForTheChair$House" "hours" "[I") (List.mem_of_getElem? (i := 2) rfl)) (fun _ h9 => h9) rfl dX5_roomsThatMay_16 ?_
        refine lv_iload_n hx hb dX5_roomsThatMay_19 rfl (lv_at hl 1 rfl) ?_
        obtain ⟨g_10, hf⟩ := gu_in hf
        refine va_iald hx hb hK hP 2 0 rfl rfl g_10 dX5_roomsThatMay_20 ?_
        obtain ⟨x4, hv_11, hf⟩ := ob1_some hf
        refine q_rVi (As := [.int a1, .int x2, .int (h_laid_hours_c a1.toNatClampNeg)]) (rest := []) (r := x4) ⟨hx, hb, hml, hown, hts⟩ (c_X5_agreesWithSeen l D cI cC cL cB h h_page h_laid h_draft h_now h_trial h_past h_sightings h_kept h_told h_sightings_pieces h_sightings_deeds h_sightings_tells h_laid_kinds h_laid_prices h_laid_persons h_laid_places h_laid_hours h_laid_weights h_laid_numbers a1 x2 ((h_laid_hours_c a1.toNatClampNeg)) h_keptCount h_sightings_length h_sightings_pieces_c h_sightings_deeds_c h_laid_pieces h_laid_roomsAtFirst h_laid_deeds h_laid_coins h_laid_law h_now_rooms h_now_bought h_now_spoken h_now_out h_now_coins h_laid_kinds_c h_laid_weights_c h_laid_hours_c h_laid_places_c h_sightings_tells_c x4 hv_11) (cwV 3 hts gX5_roomsThatMay_X5_agreesWithSeen rfl rfl rfl (by decide +kernel) ⟨Nat.le_of_ble_eq_true rfl, Nat.le_of_ble_eq_true rfl⟩) hK hP [0, 3, 4, 5, 1, 6, 7, 8, 2, 9, 10] rfl (va_recv hK hP (ci := 5) (q0 := 0) rfl rfl) rfl hl.1 rfl (Nat.le_of_ble_eq_true rfl) dX5_roomsThatMay_21 ⟨Nat.le_of_ble_eq_true rfl, Nat.le_of_ble_eq_true rfl⟩ ?_
        refine lv_if_eq (tgt := 33) hx hb dX5_roomsThatMay_24 (by decide) (fun c_12 => ?_) (fun c_12 => ?_)
        · have hf := ip c_12 hf
          obtain ⟨x5, ex5⟩ : ∃ y : Int32, y = (x2 + 1) := ⟨_, rfl⟩
          have hf := pv_eq ex5 hf
          refine lv_iinc (v := x5) (lv' := [(3, .int x5), (0, .ref h), (1, .int a1), (2, .int x1)]) hx hb dX5_roomsThatMay_33 hl (k := 3) rfl (by rw [ex5]; rfl) (by decide) rfl (fun ls hl => ?_)
          refine lv_goto (tgt := 4) hx hb dX5_roomsThatMay_36 (by decide) ?_
          exact ih _ _ ls (lv_sub hl [1, 2, 3, 0] rfl) _ hf KX
        · have hf := im c_12 hf
          refine lv_iload_n hx hb dX5_roomsThatMay_27 rfl (lv_at hl 2 rfl) ?_
          refine lv_iconst (v := 1) hx hb dX5_roomsThatMay_28 (by decide) ?_
          refine lv_iload_n hx hb dX5_roomsThatMay_29 rfl (lv_at hl 3 rfl) ?_
          refine lv_ishl hx hb dX5_roomsThatMay_30 ?_
          refine lv_ior hx hb dX5_roomsThatMay_31 ?_
          refine lv_topi (fun x6 ex6 => ?_)
          have hf := pv_eq ex6 hf
          refine lv_istore_n (lv' := [(2, .int x6), (0, .ref h), (1, .int a1), (3, .int x2)]) hx hb dX5_roomsThatMay_32 rfl hl (by decide) rfl (fun ls hl => ?_)
          obtain ⟨x7, ex7⟩ : ∃ y : Int32, y = (x2 + 1) := ⟨_, rfl⟩
          have hf := pv_eq ex7 hf
          refine lv_iinc (v := x7) (lv' := [(3, .int x7), (2, .int x6), (0, .ref h), (1, .int a1)]) hx hb dX5_roomsThatMay_33 hl (k := 3) rfl (by rw [ex7]; rfl) (by decide) rfl (fun ls hl => ?_)
          refine lv_goto (tgt := 4) hx hb dX5_roomsThatMay_36 (by decide) ?_
          exact ih _ _ ls (lv_sub hl [2, 3, 1, 0] rfl) _ hf KX
  obtain ⟨x3, hr4, hf⟩ := ob1_some hf
  refine loop4 300 _ _ ls (lv_sub hl [2, 3, 1, 0] rfl) _ hr4 (fun ls hl => ?_)
  refine lv_iload_n hx hb dX5_roomsThatMay_39 rfl (lv_at hl 0 rfl) ?_
  cases hf
  exact W.iret hx hb hr (fun t ht hW => ⟨_, rfl, rfl, ht⟩) (fun _ h => by cases h) dX5_roomsThatMay_40
theorem uX5_hoursThatMay_X0 : ∀ w ∈ wsX00, w ∈ wsX5_hoursThatMay := fun w h => List.mem_cons_of_mem _ (List.mem_append_left _ (List.mem_append_left _ (List.mem_append_right _ h)))
theorem uX5_hoursThatMay_X5 : ∀ w ∈ wsX50, w ∈ wsX5_hoursThatMay := fun w h => List.mem_cons_of_mem _ (List.mem_append_left _ (List.mem_append_left _ (List.mem_append_left _ (List.mem_append_right _ h))))
set_option maxHeartbeats 4000000 in
set_option maxRecDepth 100000 in
theorem c_X5_hoursThatMay (l : Launch) (D : va_G) (cI cC cL cB : ClassId) (h : Nat) (h_page : Nat) (h_laid : Nat) (h_draft : Nat) (h_now : Nat) (h_trial : Nat) (h_past : Nat) (h_sightings : Nat) (h_kept : Nat) (h_told : Nat) (h_laid_kinds : Nat) (h_laid_prices : Nat) (h_laid_persons : Nat) (h_laid_places : Nat) (h_laid_hours : Nat) (h_laid_weights : Nat) (h_laid_numbers : Nat) (h_sightings_pieces : Nat) (h_sightings_deeds : Nat) (h_sightings_tells : Nat) (a1 : Int32) (h_keptCount : Int32) (h_laid_pieces : Int32) (h_laid_roomsAtFirst : Int32) (h_laid_deeds : Int32) (h_laid_coins : Int32) (h_laid_law : Int32) (h_laid_places_c : Nat → Int32) (h_sightings_length : Int32) (h_sightings_pieces_c : Nat → Int32) (h_sightings_deeds_c : Nat → Int32) (h_now_rooms : Int32) (h_now_bought : Int32) (h_now_spoken : Int32) (h_now_out : Int32) (h_now_coins : Int32) (h_laid_kinds_c : Nat → Int32) (h_laid_weights_c : Nat → Int32) (h_laid_hours_c : Nat → Int32) (h_sightings_tells_c : Nat → Int32) (r : Int32) (hf : m_X5_hoursThatMay a1 h_laid_pieces h_laid_deeds h_laid_places_c h_sightings_length h_sightings_pieces_c h_sightings_deeds_c h_now_rooms h_laid_kinds_c h_laid_weights_c h_laid_hours_c h_sightings_tells_c = some r) : Met l yX5_hoursThatMay wsX5_hoursThatMay ({ frames := 3, cells := 0, slots := 0, locals := 77 }) (va_Pc [.ref h, .int a1] (q_R D vwCl (tyL cI cC cL cB) [(h, .inr (5, [.ref h_page, .ref h_laid, .ref h_draft, .ref h_now, .ref h_trial, .ref h_past, .ref h_sightings, .ref h_kept, .int h_keptCount, .ref h_told])), (h_laid, .inr (0, [.int h_laid_pieces, .ref h_laid_kinds, .ref h_laid_prices, .int h_laid_roomsAtFirst, .int h_laid_deeds, .ref h_laid_persons, .ref h_laid_places, .ref h_laid_hours, .ref h_laid_weights, .int h_laid_coins, .int h_laid_law, .ref h_laid_numbers])), (h_laid_places, .inl (cI, 9, .inl h_laid_places_c)), (h_sightings, .inr (3, [.ref h_sightings_pieces, .ref h_sightings_deeds, .ref h_sightings_tells, .int h_sightings_length])), (h_sightings_pieces, .inl (cI, 6, .inl h_sightings_pieces_c)), (h_sightings_deeds, .inl (cI, 6, .inl h_sightings_deeds_c)), (h_now, .inr (4, [.int h_now_rooms, .int h_now_bought, .int h_now_spoken, .int h_now_out, .int h_now_coins])), (h_laid_kinds, .inl (cI, 8, .inl h_laid_kinds_c)), (h_laid_weights, .inl (cI, 9, .inl h_laid_weights_c)), (h_laid_hours, .inl (cI, 9, .inl h_laid_hours_c)), (h_sightings_tells, .inl (cB, 6, .inl h_sightings_tells_c))])) (vp_Si (fun r' => r' = r)) 0 0 (fun _ => False) := by
  refine Met.ofW (cc := cX5_hoursThatMay) (maxL := 4) (ret := (some .int)) (by decide) rfl ?_
  intro p e s m args below meth c s₁ B hml hv
  obtain ⟨rfl, hP, hK⟩ := hv
  have hx := B.exec
  have hb := B.bytes
  have hr := B.returns
  have hts := atoms_spec (ws := wsX5_hoursThatMay) B.pre
  have hown : s.vm.findClass RX5 = some m.cls := findClass_of_methodNamed B.named
  have hlocks := B.notSynchronized
  have hl := lv_entry ([.ref h, .int a1]) (n := 4) (Nat.le_of_ble_eq_true rfl)
  rw [lg_entry_eq]
  generalize (lg_sl ([.ref h, .int a1]) ++ List.replicate (4 - (lg_sl ([.ref h, .int a1])).length) Slot.unset).toArray = ls at hl ⊢
  have hl : lv_has ls 4 [(0, .ref h), (1, .int a1)] := hl
  unfold m_X5_hoursThatMay at hf
  refine lv_iconst (v := 0) hx hb dX5_hoursThatMay_0 (by decide) ?_
  refine lv_istore_n (lv' := [(2, .int 0), (0, .ref h), (1, .int a1)]) hx hb dX5_hoursThatMay_1 rfl hl (by decide) rfl (fun ls hl => ?_)
  refine lv_iconst (v := 0) hx hb dX5_hoursThatMay_2 (by decide) ?_
  refine lv_istore_n (lv' := [(3, .int 0), (2, .int 0), (0, .ref h), (1, .int a1)]) hx hb dX5_hoursThatMay_3 rfl hl (by decide) rfl (fun ls hl => ?_)
  have loop4 : ∀ (n : Nat) (x1 : Int32) (x2 : Int32), ∀ (ls : Array Slot), lv_has ls 4 [(0, .ref h), (1, .int a1), (2, .int x1), (3, .int x2)] → ∀ (x3 : Int32), L_X5_hoursThatMay_4 a1 h_laid_places_c h_sightings_length h_sightings_pieces_c h_sightings_deeds_c h_laid_pieces h_laid_deeds h_now_rooms h_laid_kinds_c h_laid_weights_c h_laid_hours_c h_sightings_tells_c n x1 x2 = some x3 → (∀ (ls : Array Slot), lv_has ls 4 [(2, .int x3)] → W p l e (headSpec wsX5_hoursThatMay ({ frames := 3, cells := 0, slots := 0, locals := 77 })).room s m ([.ref h, .int a1] : List Value).toArray below meth c s.heap [] 0 0 (MQ below (vp_Si (fun r' => r' = r)) ([.ref h, .int a1] : List Value).toArray s 0 0 (fun _ => False)) (F0 m 40 ls [])) → W p l e (headSpec wsX5_hoursThatMay ({ frames := 3, cells := 0, slots := 0, locals := 77 })).room s m ([.ref h, .int a1] : List Value).toArray below meth c s.heap [] 0 0 (MQ below (vp_Si (fun r' => r' = r)) ([.ref h, .int a1] : List Value).toArray s 0 0 (fun _ => False)) (F0 m 4 ls []) := by
    intro n
    induction n with
    | zero =>
      intro x1 x2 ls hl x3 hf KX
      rw [L_X5_hoursThatMay_4] at hf
      cases hf
    | succ n ih =>
      intro x1 x2 ls hl x3 hf KX
      rw [L_X5_hoursThatMay_4] at hf
      refine lv_iload_n hx hb dX5_hoursThatMay_4 rfl (lv_at hl 3 rfl) ?_
      refine lv_bipush (v := 24) hx hb dX5_hoursThatMay_5 (by decide) ?_
      refine lv_icmp_ge (tgt := 40) hx hb dX5_hoursThatMay_7 (by decide) (fun c_9 => ?_) (fun c_9 => ?_)
      · have hf := ip c_9 hf
        cases hf
        exact KX ls (lv_sub hl [2] rfl)
      · have hf := im c_9 hf
        refine lv_aload_n hx hb dX5_hoursThatMay_10 rfl (lv_at hl 0 rfl) ?_
        refine lv_iload_n hx hb dX5_hoursThatMay_11 rfl (lv_at hl 1 rfl) ?_
        refine lv_aload_n hx hb dX5_hoursThatMay_12 rfl (lv_at hl 0 rfl) ?_
        refine va_get (D := D) (ci := 5) (v := .ref h_laid) (C := RX5) (T := TX5) (N := 10) hx hb hts uX5_hoursThatMay_X5 hown hK hP 0 rfl rfl 1 (by decide) (hts (.fieldLink RX5 19 "SpeaksForTheChair" "laid" "LSpeaksForTheChair$House;") (List.mem_of_getElem? (i := 1) rfl)) (fun _ h9 => h9) rfl dX5_hoursThatMay_13 ?_
        refine va_get (D := D) (ci := 0) (v := .ref h_laid_places) (C := RX0) (T := TX0) (N := 12) hx hb hts uX5_hoursThatMay_X0 hown hK hP 1 rfl rfl 6 (by decide) (hts (.fieldLink RX5 140 "SpeaksForTheChair$House" "places" "[I") (List.mem_of_getElem? (i := 2) rfl)) (fun _ h9 => h9) rfl dX5_hoursThatMay_16 ?_
        refine lv_iload_n hx hb dX5_hoursThatMay_19 rfl (lv_at hl 1 rfl) ?_
        obtain ⟨g_10, hf⟩ := gu_in hf
        refine va_iald hx hb hK hP 2 0 rfl rfl g_10 dX5_hoursThatMay_20 ?_
        refine lv_iload_n hx hb dX5_hoursThatMay_21 rfl (lv_at hl 3 rfl) ?_
        obtain ⟨x4, hv_11, hf⟩ := ob1_some hf
        refine q_rVi (As := [.int a1, .int (h_laid_places_c a1.toNatClampNeg), .int x2]) (rest := []) (r := x4) ⟨hx, hb, hml, hown, hts⟩ (c_X5_agreesWithSeen l D cI cC cL cB h h_page h_laid h_draft h_now h_trial h_past h_sightings h_kept h_told h_sightings_pieces h_sightings_deeds h_sightings_tells h_laid_kinds h_laid_prices h_laid_persons h_laid_places h_laid_hours h_laid_weights h_laid_numbers a1 ((h_laid_places_c a1.toNatClampNeg)) x2 h_keptCount h_sightings_length h_sightings_pieces_c h_sightings_deeds_c h_laid_pieces h_laid_roomsAtFirst h_laid_deeds h_laid_coins h_laid_law h_now_rooms h_now_bought h_now_spoken h_now_out h_now_coins h_laid_kinds_c h_laid_weights_c h_laid_hours_c h_laid_places_c h_sightings_tells_c x4 hv_11) (cwV 3 hts gX5_hoursThatMay_X5_agreesWithSeen rfl rfl rfl (by decide +kernel) ⟨Nat.le_of_ble_eq_true rfl, Nat.le_of_ble_eq_true rfl⟩) hK hP [0, 3, 4, 5, 1, 6, 7, 8, 9, 2, 10] rfl (va_recv hK hP (ci := 5) (q0 := 0) rfl rfl) rfl hl.1 rfl (Nat.le_of_ble_eq_true rfl) dX5_hoursThatMay_22 ⟨Nat.le_of_ble_eq_true rfl, Nat.le_of_ble_eq_true rfl⟩ ?_
        refine lv_if_eq (tgt := 34) hx hb dX5_hoursThatMay_25 (by decide) (fun c_12 => ?_) (fun c_12 => ?_)
        · have hf := ip c_12 hf
          obtain ⟨x5, ex5⟩ : ∃ y : Int32, y = (x2 + 1) := ⟨_, rfl⟩
          have hf := pv_eq ex5 hf
          refine lv_iinc (v := x5) (lv' := [(3, .int x5), (0, .ref h), (1, .int a1), (2, .int x1)]) hx hb dX5_hoursThatMay_34 hl (k := 3) rfl (by rw [ex5]; rfl) (by decide) rfl (fun ls hl => ?_)
          refine lv_goto (tgt := 4) hx hb dX5_hoursThatMay_37 (by decide) ?_
          exact ih _ _ ls (lv_sub hl [1, 2, 3, 0] rfl) _ hf KX
        · have hf := im c_12 hf
          refine lv_iload_n hx hb dX5_hoursThatMay_28 rfl (lv_at hl 2 rfl) ?_
          refine lv_iconst (v := 1) hx hb dX5_hoursThatMay_29 (by decide) ?_
          refine lv_iload_n hx hb dX5_hoursThatMay_30 rfl (lv_at hl 3 rfl) ?_
          refine lv_ishl hx hb dX5_hoursThatMay_31 ?_
          refine lv_ior hx hb dX5_hoursThatMay_32 ?_
          refine lv_topi (fun x6 ex6 => ?_)
          have hf := pv_eq ex6 hf
          refine lv_istore_n (lv' := [(2, .int x6), (0, .ref h), (1, .int a1), (3, .int x2)]) hx hb dX5_hoursThatMay_33 rfl hl (by decide) rfl (fun ls hl => ?_)
          obtain ⟨x7, ex7⟩ : ∃ y : Int32, y = (x2 + 1) := ⟨_, rfl⟩
          have hf := pv_eq ex7 hf
          refine lv_iinc (v := x7) (lv' := [(3, .int x7), (2, .int x6), (0, .ref h), (1, .int a1)]) hx hb dX5_hoursThatMay_34 hl (k := 3) rfl (by rw [ex7]; rfl) (by decide) rfl (fun ls hl => ?_)
          refine lv_goto (tgt := 4) hx hb dX5_hoursThatMay_37 (by decide) ?_
          exact ih _ _ ls (lv_sub hl [2, 3, 1, 0] rfl) _ hf KX
  obtain ⟨x3, hr4, hf⟩ := ob1_some hf
  refine loop4 300 _ _ ls (lv_sub hl [2, 3, 1, 0] rfl) _ hr4 (fun ls hl => ?_)
  refine lv_iload_n hx hb dX5_hoursThatMay_40 rfl (lv_at hl 0 rfl) ?_
  cases hf
  exact W.iret hx hb hr (fun t ht hW => ⟨_, rfl, rfl, ht⟩) (fun _ h => by cases h) dX5_hoursThatMay_41
set_option maxHeartbeats 4000000 in
set_option maxRecDepth 100000 in
theorem c_X5_may (l : Launch) (D : va_G) (cI cC cL cB : ClassId) (h : Nat) (h_page : Nat) (h_laid : Nat) (h_draft : Nat) (h_now : Nat) (h_trial : Nat) (h_past : Nat) (h_sightings : Nat) (h_kept : Nat) (h_told : Nat) (h_laid_kinds : Nat) (h_laid_prices : Nat) (h_laid_persons : Nat) (h_laid_places : Nat) (h_laid_hours : Nat) (h_laid_weights : Nat) (h_laid_numbers : Nat) (h_sightings_pieces : Nat) (h_sightings_deeds : Nat) (h_sightings_tells : Nat) (a1 : Int32) (a2 : Int32) (h_keptCount : Int32) (h_laid_pieces : Int32) (h_laid_roomsAtFirst : Int32) (h_laid_deeds : Int32) (h_laid_coins : Int32) (h_laid_law : Int32) (h_laid_places_c : Nat → Int32) (h_sightings_length : Int32) (h_sightings_pieces_c : Nat → Int32) (h_sightings_deeds_c : Nat → Int32) (h_now_rooms : Int32) (h_now_bought : Int32) (h_now_spoken : Int32) (h_now_out : Int32) (h_now_coins : Int32) (h_laid_kinds_c : Nat → Int32) (h_laid_weights_c : Nat → Int32) (h_laid_hours_c : Nat → Int32) (h_sightings_tells_c : Nat → Int32) (r : Int32) (hf : m_X5_may a1 a2 h_laid_pieces h_laid_deeds h_laid_places_c h_sightings_length h_sightings_pieces_c h_sightings_deeds_c h_now_rooms h_laid_kinds_c h_laid_weights_c h_laid_hours_c h_sightings_tells_c = some r) : Met l yX5_may wsX5_may ({ frames := 4, cells := 0, slots := 0, locals := 100 }) (va_Pc [.ref h, .int a1, .int a2] (q_R D vwCl (tyL cI cC cL cB) [(h, .inr (5, [.ref h_page, .ref h_laid, .ref h_draft, .ref h_now, .ref h_trial, .ref h_past, .ref h_sightings, .ref h_kept, .int h_keptCount, .ref h_told])), (h_laid, .inr (0, [.int h_laid_pieces, .ref h_laid_kinds, .ref h_laid_prices, .int h_laid_roomsAtFirst, .int h_laid_deeds, .ref h_laid_persons, .ref h_laid_places, .ref h_laid_hours, .ref h_laid_weights, .int h_laid_coins, .int h_laid_law, .ref h_laid_numbers])), (h_laid_places, .inl (cI, 9, .inl h_laid_places_c)), (h_sightings, .inr (3, [.ref h_sightings_pieces, .ref h_sightings_deeds, .ref h_sightings_tells, .int h_sightings_length])), (h_sightings_pieces, .inl (cI, 6, .inl h_sightings_pieces_c)), (h_sightings_deeds, .inl (cI, 6, .inl h_sightings_deeds_c)), (h_now, .inr (4, [.int h_now_rooms, .int h_now_bought, .int h_now_spoken, .int h_now_out, .int h_now_coins])), (h_laid_kinds, .inl (cI, 8, .inl h_laid_kinds_c)), (h_laid_weights, .inl (cI, 9, .inl h_laid_weights_c)), (h_laid_hours, .inl (cI, 9, .inl h_laid_hours_c)), (h_sightings_tells, .inl (cB, 6, .inl h_sightings_tells_c))])) (vp_Si (fun r' => r' = r)) 0 0 (fun _ => False) := by
  refine Met.ofW (cc := cX5_may) (maxL := 3) (ret := (some .int)) (by decide) rfl ?_
  intro p e s m args below meth c s₁ B hml hv
  obtain ⟨rfl, hP, hK⟩ := hv
  have hx := B.exec
  have hb := B.bytes
  have hr := B.returns
  have hts := atoms_spec (ws := wsX5_may) B.pre
  have hown : s.vm.findClass RX5 = some m.cls := findClass_of_methodNamed B.named
  have hlocks := B.notSynchronized
  have hl := lv_entry ([.ref h, .int a1, .int a2]) (n := 3) (Nat.le_of_ble_eq_true rfl)
  rw [lg_entry_eq]
  generalize (lg_sl ([.ref h, .int a1, .int a2]) ++ List.replicate (3 - (lg_sl ([.ref h, .int a1, .int a2])).length) Slot.unset).toArray = ls at hl ⊢
  have hl : lv_has ls 3 [(0, .ref h), (1, .int a1), (2, .int a2)] := hl
  unfold m_X5_may at hf
  refine lv_aload_n hx hb dX5_may_0 rfl (lv_at hl 0 rfl) ?_
  refine lv_iload_n hx hb dX5_may_1 rfl (lv_at hl 1 rfl) ?_
  obtain ⟨x1, hv_1, hf⟩ := ob1_some hf
  refine q_rVi (As := [.int a1]) (rest := []) (r := x1) ⟨hx, hb, hml, hown, hts⟩ (c_X5_isDeed l D cI cC cL cB h h_page h_laid h_draft h_now h_trial h_past h_sightings h_kept h_told h_laid_kinds h_laid_prices h_laid_persons h_laid_places h_laid_hours h_laid_weights h_laid_numbers a1 h_keptCount h_laid_pieces h_laid_roomsAtFirst h_laid_deeds h_laid_coins h_laid_law x1 hv_1) (cwV 1 hts gX5_may_X5_isDeed rfl rfl rfl (by decide +kernel) ⟨Nat.le_of_ble_eq_true rfl, Nat.le_of_ble_eq_true rfl⟩) hK hP [0, 1] rfl (va_recv hK hP (ci := 5) (q0 := 0) rfl rfl) rfl hl.1 rfl (Nat.le_of_ble_eq_true rfl) dX5_may_2 ⟨Nat.le_of_ble_eq_true rfl, Nat.le_of_ble_eq_true rfl⟩ ?_
  refine lv_if_eq (tgt := 17) hx hb dX5_may_5 (by decide) (fun c_2 => ?_) (fun c_2 => ?_)
  · have hf := ip c_2 hf
    refine lv_iconst (v := (-1)) hx hb dX5_may_17 (by decide) ?_
    cases hf
    exact W.iret hx hb hr (fun t ht hW => ⟨_, rfl, rfl, ht⟩) (fun _ h => by cases h) dX5_may_18
  · have hf := im c_2 hf
    refine lv_iload_n hx hb dX5_may_8 rfl (lv_at hl 2 rfl) ?_
    refine lv_iconst (v := 0) hx hb dX5_may_9 (by decide) ?_
    refine lv_iconst (v := 1) hx hb dX5_may_10 (by decide) ?_
    obtain ⟨x2, hv_3, hf⟩ := ob1_some hf
    refine q_rSi (As := [.int a2, .int 0, .int 1]) (rest := []) (r := x2) ⟨hx, hb, hml, hown, hts⟩ (c_X5_isWithin l D cI cC cL cB a2 ((0 : Int32)) ((1 : Int32)) x2 hv_3) (va_cwS 3 hts gX5_may_X5_isWithin rfl rfl rfl (by decide +kernel) ⟨Nat.le_of_ble_eq_true rfl, Nat.le_of_ble_eq_true rfl⟩) hK hP [] rfl rfl hl.1 rfl (Nat.le_of_ble_eq_true rfl) dX5_may_11 ⟨Nat.le_of_ble_eq_true rfl, Nat.le_of_ble_eq_true rfl⟩ ?_
    refine lv_if_ne (tgt := 19) hx hb dX5_may_14 (by decide) (fun c_4 => ?_) (fun c_4 => ?_)
    · have hf := im c_4 hf
      refine lv_iload_n hx hb dX5_may_19 rfl (lv_at hl 2 rfl) ?_
      refine lv_if_ne (tgt := 31) hx hb dX5_may_20 (by decide) (fun c_5 => ?_) (fun c_5 => ?_)
      · have hf := im c_5 hf
        refine lv_aload_n hx hb dX5_may_31 rfl (lv_at hl 0 rfl) ?_
        refine lv_iload_n hx hb dX5_may_32 rfl (lv_at hl 1 rfl) ?_
        obtain ⟨x3, hv_6, hf⟩ := ob1_some hf
        refine q_rVi (As := [.int a1]) (rest := []) (r := x3) ⟨hx, hb, hml, hown, hts⟩ (c_X5_hoursThatMay l D cI cC cL cB h h_page h_laid h_draft h_now h_trial h_past h_sightings h_kept h_told h_laid_kinds h_laid_prices h_laid_persons h_laid_places h_laid_hours h_laid_weights h_laid_numbers h_sightings_pieces h_sightings_deeds h_sightings_tells a1 h_keptCount h_laid_pieces h_laid_roomsAtFirst h_laid_deeds h_laid_coins h_laid_law h_laid_places_c h_sightings_length h_sightings_pieces_c h_sightings_deeds_c h_now_rooms h_now_bought h_now_spoken h_now_out h_now_coins h_laid_kinds_c h_laid_weights_c h_laid_hours_c h_sightings_tells_c x3 hv_6) (cwV 1 hts gX5_may_X5_hoursThatMay rfl rfl rfl (by decide +kernel) ⟨Nat.le_of_ble_eq_true rfl, Nat.le_of_ble_eq_true rfl⟩) hK hP [0, 1, 2, 3, 4, 5, 6, 7, 8, 9, 10] rfl (va_recv hK hP (ci := 5) (q0 := 0) rfl rfl) rfl hl.1 rfl (Nat.le_of_ble_eq_true rfl) dX5_may_33 ⟨Nat.le_of_ble_eq_true rfl, Nat.le_of_ble_eq_true rfl⟩ ?_
        cases hf
        exact W.iret hx hb hr (fun t ht hW => ⟨_, rfl, rfl, ht⟩) (fun _ h => by cases h) dX5_may_36
      · have hf := ip c_5 hf
        refine lv_aload_n hx hb dX5_may_23 rfl (lv_at hl 0 rfl) ?_
        refine lv_iload_n hx hb dX5_may_24 rfl (lv_at hl 1 rfl) ?_
        obtain ⟨x4, hv_7, hf⟩ := ob1_some hf
        refine q_rVi (As := [.int a1]) (rest := []) (r := x4) ⟨hx, hb, hml, hown, hts⟩ (c_X5_roomsThatMay l D cI cC cL cB h h_page h_laid h_draft h_now h_trial h_past h_sightings h_kept h_told h_laid_kinds h_laid_prices h_laid_persons h_laid_places h_laid_hours h_laid_weights h_laid_numbers h_sightings_pieces h_sightings_deeds h_sightings_tells a1 h_keptCount h_laid_pieces h_laid_roomsAtFirst h_laid_deeds h_laid_coins h_laid_law h_laid_hours_c h_sightings_length h_sightings_pieces_c h_sightings_deeds_c h_now_rooms h_now_bought h_now_spoken h_now_out h_now_coins h_laid_kinds_c h_laid_weights_c h_laid_places_c h_sightings_tells_c x4 hv_7) (cwV 1 hts gX5_may_X5_roomsThatMay rfl rfl rfl (by decide +kernel) ⟨Nat.le_of_ble_eq_true rfl, Nat.le_of_ble_eq_true rfl⟩) hK hP [0, 1, 9, 3, 4, 5, 6, 7, 8, 2, 10] rfl (va_recv hK hP (ci := 5) (q0 := 0) rfl rfl) rfl hl.1 rfl (Nat.le_of_ble_eq_true rfl) dX5_may_25 ⟨Nat.le_of_ble_eq_true rfl, Nat.le_of_ble_eq_true rfl⟩ ?_
        refine lv_goto (tgt := 36) hx hb dX5_may_28 (by decide) ?_
        cases hf
        exact W.iret hx hb hr (fun t ht hW => ⟨_, rfl, rfl, ht⟩) (fun _ h => by cases h) dX5_may_36
    · have hf := ip c_4 hf
      refine lv_iconst (v := (-1)) hx hb dX5_may_17 (by decide) ?_
      cases hf
      exact W.iret hx hb hr (fun t ht hW => ⟨_, rfl, rfl, ht⟩) (fun _ h => by cases h) dX5_may_18
set_option maxHeartbeats 4000000 in
set_option maxRecDepth 100000 in
theorem c_X5_likely (l : Launch) (D : va_G) (cI cC cL cB : ClassId) (h : Nat) (h_page : Nat) (h_laid : Nat) (h_draft : Nat) (h_now : Nat) (h_trial : Nat) (h_past : Nat) (h_sightings : Nat) (h_kept : Nat) (h_told : Nat) (h_laid_kinds : Nat) (h_laid_prices : Nat) (h_laid_persons : Nat) (h_laid_places : Nat) (h_laid_hours : Nat) (h_laid_weights : Nat) (h_laid_numbers : Nat) (a1 : Int32) (a2 : Int32) (a3 : Int32) (h_keptCount : Int32) (h_laid_pieces : Int32) (h_laid_roomsAtFirst : Int32) (h_laid_deeds : Int32) (h_laid_coins : Int32) (h_laid_law : Int32) (h_now_rooms : Int32) (h_now_bought : Int32) (h_now_spoken : Int32) (h_now_out : Int32) (h_now_coins : Int32) (h_laid_kinds_c : Nat → Int32) (h_laid_places_c : Nat → Int32) (h_laid_hours_c : Nat → Int32) (h_laid_weights_c : Nat → Int32) (r : Int32) (hf : m_X5_likely a1 a2 a3 h_laid_pieces h_laid_deeds h_laid_law h_now_rooms h_now_bought h_now_spoken h_now_out h_laid_kinds_c h_laid_places_c h_laid_hours_c h_laid_weights_c = some r) : Met l yX5_likely wsX5_likely ({ frames := 4, cells := 0, slots := 0, locals := 98 }) (va_Pc [.ref h, .int a1, .int a2, .int a3] (q_R D vwCl (tyL cI cC cL cB) [(h, .inr (5, [.ref h_page, .ref h_laid, .ref h_draft, .ref h_now, .ref h_trial, .ref h_past, .ref h_sightings, .ref h_kept, .int h_keptCount, .ref h_told])), (h_laid, .inr (0, [.int h_laid_pieces, .ref h_laid_kinds, .ref h_laid_prices, .int h_laid_roomsAtFirst, .int h_laid_deeds, .ref h_laid_persons, .ref h_laid_places, .ref h_laid_hours, .ref h_laid_weights, .int h_laid_coins, .int h_laid_law, .ref h_laid_numbers])), (h_now, .inr (4, [.int h_now_rooms, .int h_now_bought, .int h_now_spoken, .int h_now_out, .int h_now_coins])), (h_laid_kinds, .inl (cI, 8, .inl h_laid_kinds_c)), (h_laid_places, .inl (cI, 9, .inl h_laid_places_c)), (h_laid_hours, .inl (cI, 9, .inl h_laid_hours_c)), (h_laid_weights, .inl (cI, 9, .inl h_laid_weights_c))])) (vp_Si (fun r' => r' = r)) 0 0 (fun _ => False) := by
  refine Met.ofW (cc := cX5_likely) (maxL := 9) (ret := (some .int)) (by decide) rfl ?_
  intro p e s m args below meth c s₁ B hml hv
  obtain ⟨rfl, hP, hK⟩ := hv
  have hx := B.exec
  have hb := B.bytes
  have hr := B.returns
  have hts := atoms_spec (ws := wsX5_likely) B.pre
  have hown : s.vm.findClass RX5 = some m.cls := findClass_of_methodNamed B.named
  have hlocks := B.notSynchronized
  have hl := lv_entry ([.ref h, .int a1, .int a2, .int a3]) (n := 9) (Nat.le_of_ble_eq_true rfl)
  rw [lg_entry_eq]
  generalize (lg_sl ([.ref h, .int a1, .int a2, .int a3]) ++ List.replicate (9 - (lg_sl ([.ref h, .int a1, .int a2, .int a3])).length) Slot.unset).toArray = ls at hl ⊢
  have hl : lv_has ls 9 [(0, .ref h), (1, .int a1), (2, .int a2), (3, .int a3)] := hl
  unfold m_X5_likely at hf
  refine lv_aload_n hx hb dX5_likely_0 rfl (lv_at hl 0 rfl) ?_
  refine lv_iload_n hx hb dX5_likely_1 rfl (lv_at hl 1 rfl) ?_
  obtain ⟨x1, hv_1, hf⟩ := ob1_some hf
  refine q_rVi (As := [.int a1]) (rest := []) (r := x1) ⟨hx, hb, hml, hown, hts⟩ (c_X5_isDeed l D cI cC cL cB h h_page h_laid h_draft h_now h_trial h_past h_sightings h_kept h_told h_laid_kinds h_laid_prices h_laid_persons h_laid_places h_laid_hours h_laid_weights h_laid_numbers a1 h_keptCount h_laid_pieces h_laid_roomsAtFirst h_laid_deeds h_laid_coins h_laid_law x1 hv_1) (cwV 1 hts gX5_likely_X5_isDeed rfl rfl rfl (by decide +kernel) ⟨Nat.le_of_ble_eq_true rfl, Nat.le_of_ble_eq_true rfl⟩) hK hP [0, 1] rfl (va_recv hK hP (ci := 5) (q0 := 0) rfl rfl) rfl hl.1 rfl (Nat.le_of_ble_eq_true rfl) dX5_likely_2 ⟨Nat.le_of_ble_eq_true rfl, Nat.le_of_ble_eq_true rfl⟩ ?_
  refine lv_if_eq (tgt := 27) hx hb dX5_likely_5 (by decide) (fun c_2 => ?_) (fun c_2 => ?_)
  · have hf := ip c_2 hf
    refine lv_iconst (v := (-1)) hx hb dX5_likely_27 (by decide) ?_
    cases hf
    exact W.iret hx hb hr (fun t ht hW => ⟨_, rfl, rfl, ht⟩) (fun _ h => by cases h) dX5_likely_28
  · have hf := im c_2 hf
    refine lv_iload_n hx hb dX5_likely_8 rfl (lv_at hl 2 rfl) ?_
    refine lv_iconst (v := 0) hx hb dX5_likely_9 (by decide) ?_
    refine lv_bipush (v := 10) hx hb dX5_likely_10 (by decide) ?_
    obtain ⟨x2, hv_3, hf⟩ := ob1_some hf
    refine q_rSi (As := [.int a2, .int 0, .int 10]) (rest := []) (r := x2) ⟨hx, hb, hml, hown, hts⟩ (c_X5_isWithin l D cI cC cL cB a2 ((0 : Int32)) ((10 : Int32)) x2 hv_3) (va_cwS 3 hts gX5_likely_X5_isWithin rfl rfl rfl (by decide +kernel) ⟨Nat.le_of_ble_eq_true rfl, Nat.le_of_ble_eq_true rfl⟩) hK hP [] rfl rfl hl.1 rfl (Nat.le_of_ble_eq_true rfl) dX5_likely_12 ⟨Nat.le_of_ble_eq_true rfl, Nat.le_of_ble_eq_true rfl⟩ ?_
    refine lv_if_eq (tgt := 27) hx hb dX5_likely_15 (by decide) (fun c_4 => ?_) (fun c_4 => ?_)
    · have hf := ip c_4 hf
      refine lv_iconst (v := (-1)) hx hb dX5_likely_27 (by decide) ?_
      cases hf
      exact W.iret hx hb hr (fun t ht hW => ⟨_, rfl, rfl, ht⟩) (fun _ h => by cases h) dX5_likely_28
    · have hf := im c_4 hf
      refine lv_iload_n hx hb dX5_likely_18 rfl (lv_at hl 3 rfl) ?_
      refine lv_iconst (v := 0) hx hb dX5_likely_19 (by decide) ?_
      refine lv_iconst (v := 1) hx hb dX5_likely_20 (by decide) ?_
      obtain ⟨x3, hv_5, hf⟩ := ob1_some hf
      refine q_rSi (As := [.int a3, .int 0, .int 1]) (rest := []) (r := x3) ⟨hx, hb, hml, hown, hts⟩ (c_X5_isWithin l D cI cC cL cB a3 ((0 : Int32)) ((1 : Int32)) x3 hv_5) (va_cwS 3 hts gX5_likely_X5_isWithin rfl rfl rfl (by decide +kernel) ⟨Nat.le_of_ble_eq_true rfl, Nat.le_of_ble_eq_true rfl⟩) hK hP [] rfl rfl hl.1 rfl (Nat.le_of_ble_eq_true rfl) dX5_likely_21 ⟨Nat.le_of_ble_eq_true rfl, Nat.le_of_ble_eq_true rfl⟩ ?_
      refine lv_if_ne (tgt := 29) hx hb dX5_likely_24 (by decide) (fun c_6 => ?_) (fun c_6 => ?_)
      · have hf := im c_6 hf
        refine lv_aload_n hx hb dX5_likely_29 rfl (lv_at hl 0 rfl) ?_
        refine lv_iload_n hx hb dX5_likely_30 rfl (lv_at hl 1 rfl) ?_
        obtain ⟨x4, hv_7, hf⟩ := ob1_some hf
        refine q_rVi (As := [.int a1]) (rest := []) (r := x4) ⟨hx, hb, hml, hown, hts⟩ (c_X5_hasComeOut l D cI cC cL cB h h_page h_laid h_draft h_now h_trial h_past h_sightings h_kept h_told a1 h_keptCount h_now_rooms h_now_bought h_now_spoken h_now_out h_now_coins x4 hv_7) (cwV 1 hts gX5_likely_X5_hasComeOut rfl rfl rfl (by decide +kernel) ⟨Nat.le_of_ble_eq_true rfl, Nat.le_of_ble_eq_true rfl⟩) hK hP [0, 2] rfl (va_recv hK hP (ci := 5) (q0 := 0) rfl rfl) rfl hl.1 rfl (Nat.le_of_ble_eq_true rfl) dX5_likely_31 ⟨Nat.le_of_ble_eq_true rfl, Nat.le_of_ble_eq_true rfl⟩ ?_
        refine lv_if_eq (tgt := 39) hx hb dX5_likely_34 (by decide) (fun c_8 => ?_) (fun c_8 => ?_)
        · have hf := ip c_8 hf
          refine lv_iconst (v := 1) hx hb dX5_likely_39 (by decide) ?_
          refine lv_istore (lv' := [(4, .int 1), (0, .ref h), (1, .int a1), (2, .int a2), (3, .int a3)]) hx hb dX5_likely_40 hl (by decide) rfl (fun ls hl => ?_)
          refine lv_iconst (v := 1) hx hb dX5_likely_42 (by decide) ?_
          refine lv_istore (lv' := [(5, .int 1), (4, .int 1), (0, .ref h), (1, .int a1), (2, .int a2), (3, .int a3)]) hx hb dX5_likely_43 hl (by decide) rfl (fun ls hl => ?_)
          refine lv_aload_n hx hb dX5_likely_45 rfl (lv_at hl 2 rfl) ?_
          refine lv_iconst (v := 1) hx hb dX5_likely_46 (by decide) ?_
          refine lv_iload_n hx hb dX5_likely_47 rfl (lv_at hl 3 rfl) ?_
          refine lv_ishl hx hb dX5_likely_48 ?_
          obtain ⟨x5, hv_9, hf⟩ := ob1_some hf
          refine q_rVi (As := [.int ((1 : Int32) <<< (a1 &&& 31))]) (rest := []) (r := x5) ⟨hx, hb, hml, hown, hts⟩ (c_X5_looseTellers l D cI cC cL cB h h_page h_laid h_draft h_now h_trial h_past h_sightings h_kept h_told h_laid_kinds h_laid_prices h_laid_persons h_laid_places h_laid_hours h_laid_weights h_laid_numbers (((1 : Int32) <<< (a1 &&& 31))) h_keptCount h_laid_pieces h_laid_roomsAtFirst h_laid_deeds h_laid_coins h_laid_law h_now_rooms h_now_bought h_now_spoken h_now_out h_now_coins h_laid_kinds_c h_laid_places_c h_laid_hours_c h_laid_weights_c x5 hv_9) (cwV 1 hts gX5_likely_X5_looseTellers rfl rfl rfl (by decide +kernel) ⟨Nat.le_of_ble_eq_true rfl, Nat.le_of_ble_eq_true rfl⟩) hK hP [0, 1, 2, 3, 4, 5, 6] rfl (va_recv hK hP (ci := 5) (q0 := 0) rfl rfl) rfl hl.1 rfl (Nat.le_of_ble_eq_true rfl) dX5_likely_49 ⟨Nat.le_of_ble_eq_true rfl, Nat.le_of_ble_eq_true rfl⟩ ?_
          obtain ⟨x6, hv_10, hf⟩ := ob1_some hf
          refine q_rSi (As := [.int x5]) (rest := []) (r := x6) ⟨hx, hb, hml, hown, hts⟩ (c_J6_bitCount_0f7a4 l D cI cC cL cB x5 x6 hv_10) (va_cwS 1 hts gX5_likely_J6_bitCount_0f7a4 rfl rfl rfl (by decide +kernel) ⟨Nat.le_of_ble_eq_true rfl, Nat.le_of_ble_eq_true rfl⟩) hK hP [] rfl rfl hl.1 rfl (Nat.le_of_ble_eq_true rfl) dX5_likely_52 ⟨Nat.le_of_ble_eq_true rfl, Nat.le_of_ble_eq_true rfl⟩ ?_
          refine lv_istore (lv' := [(6, .int x6), (5, .int 1), (4, .int 1), (0, .ref h), (1, .int a1), (2, .int a2), (3, .int a3)]) hx hb dX5_likely_55 hl (by decide) rfl (fun ls hl => ?_)
          refine lv_iconst (v := 0) hx hb dX5_likely_57 (by decide) ?_
          refine lv_istore (lv' := [(7, .int 0), (6, .int x6), (5, .int 1), (4, .int 1), (0, .ref h), (1, .int a1), (2, .int a2), (3, .int a3)]) hx hb dX5_likely_58 hl (by decide) rfl (fun ls hl => ?_)
          have loop60 : ∀ (n : Nat) (x7 : Int32) (x8 : Int32) (x9 : Int32), ∀ (ls : Array Slot), lv_has ls 9 [(2, .int a2), (3, .int a3), (4, .int x7), (5, .int x8), (6, .int x6), (7, .int x9)] → ∀ (x10 : Int32) (x11 : Int32), L_X5_likely_60 x6 a2 n x7 x8 x9 = some (x10, x11) → (∀ (ls : Array Slot), lv_has ls 9 [(3, .int a3), (4, .int x10), (5, .int x11), (6, .int x6)] → W p l e (headSpec wsX5_likely ({ frames := 4, cells := 0, slots := 0, locals := 98 })).room s m ([.ref h, .int a1, .int a2, .int a3] : List Value).toArray below meth c s.heap [] 0 0 (MQ below (vp_Si (fun r' => r' = r)) ([.ref h, .int a1, .int a2, .int a3] : List Value).toArray s 0 0 (fun _ => False)) (F0 m 89 ls [])) → W p l e (headSpec wsX5_likely ({ frames := 4, cells := 0, slots := 0, locals := 98 })).room s m ([.ref h, .int a1, .int a2, .int a3] : List Value).toArray below meth c s.heap [] 0 0 (MQ below (vp_Si (fun r' => r' = r)) ([.ref h, .int a1, .int a2, .int a3] : List Value).toArray s 0 0 (fun _ => False)) (F0 m 60 ls []) := by
            intro n
            induction n with
            | zero =>
              intro x7 x8 x9 ls hl x10 x11 hf KX
              rw [L_X5_likely_60] at hf
              cases hf
            | succ n ih =>
              intro x7 x8 x9 ls hl x10 x11 hf KX
              rw [L_X5_likely_60] at hf
              refine lv_iload hx hb dX5_likely_60 (lv_at hl 5 rfl) ?_
              refine lv_iload hx hb dX5_likely_62 (lv_at hl 4 rfl) ?_
              refine lv_icmp_ge (tgt := 89) hx hb dX5_likely_64 (by decide) (fun c_13 => ?_) (fun c_13 => ?_)
              · have hf := ip c_13 hf
                cases hf
                exact KX ls (lv_sub hl [1, 2, 3, 4] rfl)
              · have hf := im c_13 hf
                refine lv_iload hx hb dX5_likely_67 (lv_at hl 2 rfl) ?_
                refine lv_bipush (v := 10) hx hb dX5_likely_69 (by decide) ?_
                refine lv_iload_n hx hb dX5_likely_71 rfl (lv_at hl 0 rfl) ?_
                refine lv_isub hx hb dX5_likely_72 ?_
                refine lv_imul hx hb dX5_likely_73 ?_
                refine lv_topi (fun x12 ex12 => ?_)
                have hf := pv_eq ex12 hf
                refine lv_istore (lv' := [(4, .int x12), (2, .int a2), (3, .int a3), (5, .int x8), (6, .int x6), (7, .int x9)]) hx hb dX5_likely_74 hl (by decide) rfl (fun ls hl => ?_)
                refine lv_iload hx hb dX5_likely_76 (lv_at hl 3 rfl) ?_
                refine lv_bipush (v := 10) hx hb dX5_likely_78 (by decide) ?_
                refine lv_imul hx hb dX5_likely_80 ?_
                refine lv_topi (fun x13 ex13 => ?_)
                have hf := pv_eq ex13 hf
                refine lv_istore (lv' := [(5, .int x13), (4, .int x12), (2, .int a2), (3, .int a3), (6, .int x6), (7, .int x9)]) hx hb dX5_likely_81 hl (by decide) rfl (fun ls hl => ?_)
                obtain ⟨x14, ex14⟩ : ∃ y : Int32, y = (x9 + 1) := ⟨_, rfl⟩
                have hf := pv_eq ex14 hf
                refine lv_iinc (v := x14) (lv' := [(7, .int x14), (5, .int x13), (4, .int x12), (2, .int a2), (3, .int a3), (6, .int x6)]) hx hb dX5_likely_83 hl (k := 5) rfl (by rw [ex14]; rfl) (by decide) rfl (fun ls hl => ?_)
                refine lv_goto (tgt := 60) hx hb dX5_likely_86 (by decide) ?_
                exact ih _ _ _ ls (lv_sub hl [3, 4, 2, 1, 5, 0] rfl) _ _ hf KX
          obtain ⟨x10, x11, hr60, hf⟩ := ob2_some hf
          refine loop60 300 _ _ _ ls (lv_sub hl [6, 7, 3, 2, 1, 0] rfl) _ _ hr60 (fun ls hl => ?_)
          refine lv_iload hx hb dX5_likely_89 (lv_at hl 2 rfl) ?_
          refine lv_iload hx hb dX5_likely_91 (lv_at hl 1 rfl) ?_
          refine lv_isub hx hb dX5_likely_93 ?_
          refine lv_topi (fun x15 ex15 => ?_)
          have hf := pv_eq ex15 hf
          refine lv_istore (lv' := [(7, .int x15), (3, .int a3), (4, .int x10), (5, .int x11), (6, .int x6)]) hx hb dX5_likely_94 hl (by decide) rfl (fun ls hl => ?_)
          refine lv_iconst (v := 0) hx hb dX5_likely_96 (by decide) ?_
          refine lv_istore (lv' := [(8, .int 0), (7, .int x15), (3, .int a3), (4, .int x10), (5, .int x11), (6, .int x6)]) hx hb dX5_likely_97 hl (by decide) rfl (fun ls hl => ?_)
          have loop99 : ∀ (n : Nat) (x16 : Int32) (x17 : Int32) (x18 : Int32), ∀ (ls : Array Slot), lv_has ls 9 [(3, .int a3), (5, .int x16), (6, .int x6), (7, .int x17), (8, .int x18)] → ∀ (x19 : Int32) (x20 : Int32), L_X5_likely_99 x6 n x16 x17 x18 = some (x19, x20) → (∀ (ls : Array Slot), lv_has ls 9 [(3, .int a3), (5, .int x19), (7, .int x20)] → W p l e (headSpec wsX5_likely ({ frames := 4, cells := 0, slots := 0, locals := 98 })).room s m ([.ref h, .int a1, .int a2, .int a3] : List Value).toArray below meth c s.heap [] 0 0 (MQ below (vp_Si (fun r' => r' = r)) ([.ref h, .int a1, .int a2, .int a3] : List Value).toArray s 0 0 (fun _ => False)) (F0 m 164 ls [])) → W p l e (headSpec wsX5_likely ({ frames := 4, cells := 0, slots := 0, locals := 98 })).room s m ([.ref h, .int a1, .int a2, .int a3] : List Value).toArray below meth c s.heap [] 0 0 (MQ below (vp_Si (fun r' => r' = r)) ([.ref h, .int a1, .int a2, .int a3] : List Value).toArray s 0 0 (fun _ => False)) (F0 m 99 ls []) := by
            intro n
            induction n with
            | zero =>
              intro x16 x17 x18 ls hl x19 x20 hf KX
              rw [L_X5_likely_99] at hf
              cases hf
            | succ n ih =>
              intro x16 x17 x18 ls hl x19 x20 hf KX
              rw [L_X5_likely_99] at hf
              refine lv_iload hx hb dX5_likely_99 (lv_at hl 4 rfl) ?_
              refine lv_iload hx hb dX5_likely_101 (lv_at hl 2 rfl) ?_
              refine lv_icmp_ge (tgt := 164) hx hb dX5_likely_103 (by decide) (fun c_26 => ?_) (fun c_26 => ?_)
              · have hf := ip c_26 hf
                cases hf
                exact KX ls (lv_sub hl [0, 1, 3] rfl)
              · have hf := im c_26 hf
                refine lv_iload hx hb dX5_likely_106 (lv_at hl 3 rfl) ?_
                refine lv_iconst (v := 2) hx hb dX5_likely_108 (by decide) ?_
                refine lv_irem hx hb dX5_likely_109 (by decide) ?_
                obtain ⟨x21, x22, hr132, hf⟩ := ob2_some hf
                refine q_jn (pcJ := 132) (nL := 9) (vs := [(3, .int a3), (5, .int x21), (6, .int x6), (7, .int x22), (8, .int x18)]) (st := []) (fun ls hl => ?_) (fun J132 => ?_)
                · clear hr132
                  refine lv_iload hx hb dX5_likely_132 (lv_at hl 3 rfl) ?_
                  refine lv_iconst (v := 5) hx hb dX5_likely_134 (by decide) ?_
                  refine lv_irem hx hb dX5_likely_135 (by decide) ?_
                  refine lv_if_ne (tgt := 158) hx hb dX5_likely_136 (by decide) (fun c_29 => ?_) (fun c_29 => ?_)
                  · have hf := im c_29 hf
                    obtain ⟨x23, ex23⟩ : ∃ y : Int32, y = (x18 + 1) := ⟨_, rfl⟩
                    have hf := pv_eq ex23 hf
                    refine lv_iinc (v := x23) (lv' := [(8, .int x23), (3, .int a3), (5, .int x21), (6, .int x6), (7, .int x22)]) hx hb dX5_likely_158 hl (k := 4) rfl (by rw [ex23]; rfl) (by decide) rfl (fun ls hl => ?_)
                    refine lv_goto (tgt := 99) hx hb dX5_likely_161 (by decide) ?_
                    exact ih _ _ _ ls (lv_sub hl [1, 2, 3, 4, 0] rfl) _ _ hf KX
                  · have hf := ip c_29 hf
                    refine lv_iload hx hb dX5_likely_139 (lv_at hl 1 rfl) ?_
                    refine lv_iconst (v := 5) hx hb dX5_likely_141 (by decide) ?_
                    refine lv_irem hx hb dX5_likely_142 (by decide) ?_
                    refine lv_if_ne (tgt := 158) hx hb dX5_likely_143 (by decide) (fun c_30 => ?_) (fun c_30 => ?_)
                    · have hf := im c_30 hf
                      obtain ⟨x24, ex24⟩ : ∃ y : Int32, y = (x18 + 1) := ⟨_, rfl⟩
                      have hf := pv_eq ex24 hf
                      refine lv_iinc (v := x24) (lv' := [(8, .int x24), (3, .int a3), (5, .int x21), (6, .int x6), (7, .int x22)]) hx hb dX5_likely_158 hl (k := 4) rfl (by rw [ex24]; rfl) (by decide) rfl (fun ls hl => ?_)
                      refine lv_goto (tgt := 99) hx hb dX5_likely_161 (by decide) ?_
                      exact ih _ _ _ ls (lv_sub hl [1, 2, 3, 4, 0] rfl) _ _ hf KX
                    · have hf := ip c_30 hf
                      refine lv_iload hx hb dX5_likely_146 (lv_at hl 3 rfl) ?_
                      refine lv_iconst (v := 5) hx hb dX5_likely_148 (by decide) ?_
                      refine lv_idiv hx hb dX5_likely_149 (by decide) ?_
                      refine lv_topi (fun x25 ex25 => ?_)
                      have hf := pv_eq ex25 hf
                      refine lv_istore (lv' := [(7, .int x25), (3, .int a3), (5, .int x21), (6, .int x6), (8, .int x18)]) hx hb dX5_likely_150 hl (by decide) rfl (fun ls hl => ?_)
                      refine lv_iload hx hb dX5_likely_152 (lv_at hl 2 rfl) ?_
                      refine lv_iconst (v := 5) hx hb dX5_likely_154 (by decide) ?_
                      refine lv_idiv hx hb dX5_likely_155 (by decide) ?_
                      refine lv_topi (fun x26 ex26 => ?_)
                      have hf := pv_eq ex26 hf
                      refine lv_istore (lv' := [(5, .int x26), (7, .int x25), (3, .int a3), (6, .int x6), (8, .int x18)]) hx hb dX5_likely_156 hl (by decide) rfl (fun ls hl => ?_)
                      obtain ⟨x27, ex27⟩ : ∃ y : Int32, y = (x18 + 1) := ⟨_, rfl⟩
                      have hf := pv_eq ex27 hf
                      refine lv_iinc (v := x27) (lv' := [(8, .int x27), (5, .int x26), (7, .int x25), (3, .int a3), (6, .int x6)]) hx hb dX5_likely_158 hl (k := 4) rfl (by rw [ex27]; rfl) (by decide) rfl (fun ls hl => ?_)
                      refine lv_goto (tgt := 99) hx hb dX5_likely_161 (by decide) ?_
                      exact ih _ _ _ ls (lv_sub hl [3, 1, 4, 2, 0] rfl) _ _ hf KX
                · replace hf := hr132
                  refine lv_if_ne (tgt := 132) hx hb dX5_likely_110 (by decide) (fun c_27 => ?_) (fun c_27 => ?_)
                  · have hf := im c_27 hf
                    cases hf
                    exact J132 ls (lv_sub hl [0, 1, 2, 3, 4] rfl)
                  · have hf := ip c_27 hf
                    refine lv_iload hx hb dX5_likely_113 (lv_at hl 1 rfl) ?_
                    refine lv_iconst (v := 2) hx hb dX5_likely_115 (by decide) ?_
                    refine lv_irem hx hb dX5_likely_116 (by decide) ?_
                    refine lv_if_ne (tgt := 132) hx hb dX5_likely_117 (by decide) (fun c_31 => ?_) (fun c_31 => ?_)
                    · have hf := im c_31 hf
                      cases hf
                      exact J132 ls (lv_sub hl [0, 1, 2, 3, 4] rfl)
                    · have hf := ip c_31 hf
                      refine lv_iload hx hb dX5_likely_120 (lv_at hl 3 rfl) ?_
                      refine lv_iconst (v := 2) hx hb dX5_likely_122 (by decide) ?_
                      refine lv_idiv hx hb dX5_likely_123 (by decide) ?_
                      refine lv_topi (fun x28 ex28 => ?_)
                      have hf := pv_eq ex28 hf
                      refine lv_istore (lv' := [(7, .int x28), (3, .int a3), (5, .int x16), (6, .int x6), (8, .int x18)]) hx hb dX5_likely_124 hl (by decide) rfl (fun ls hl => ?_)
                      refine lv_iload hx hb dX5_likely_126 (lv_at hl 2 rfl) ?_
                      refine lv_iconst (v := 2) hx hb dX5_likely_128 (by decide) ?_
                      refine lv_idiv hx hb dX5_likely_129 (by decide) ?_
                      refine lv_topi (fun x29 ex29 => ?_)
                      have hf := pv_eq ex29 hf
                      refine lv_istore (lv' := [(5, .int x29), (7, .int x28), (3, .int a3), (6, .int x6), (8, .int x18)]) hx hb dX5_likely_130 hl (by decide) rfl (fun ls hl => ?_)
                      cases hf
                      exact J132 ls (lv_sub hl [2, 0, 3, 1, 4] rfl)
          obtain ⟨x19, x20, hr99, hf⟩ := ob2_some hf
          refine loop99 300 _ _ _ ls (lv_sub hl [2, 4, 5, 1, 0] rfl) _ _ hr99 (fun ls hl => ?_)
          refine lv_iload_n hx hb dX5_likely_164 rfl (lv_at hl 0 rfl) ?_
          refine lv_if_ne (tgt := 173) hx hb dX5_likely_165 (by decide) (fun c_32 => ?_) (fun c_32 => ?_)
          · have hf := im c_32 hf
            refine lv_iload hx hb dX5_likely_173 (lv_at hl 1 rfl) ?_
            cases hf
            exact W.iret hx hb hr (fun t ht hW => ⟨_, rfl, rfl, ht⟩) (fun _ h => by cases h) dX5_likely_175
          · have hf := ip c_32 hf
            refine lv_iload hx hb dX5_likely_168 (lv_at hl 2 rfl) ?_
            refine lv_goto (tgt := 175) hx hb dX5_likely_170 (by decide) ?_
            cases hf
            exact W.iret hx hb hr (fun t ht hW => ⟨_, rfl, rfl, ht⟩) (fun _ h => by cases h) dX5_likely_175
        · have hf := im c_8 hf
          refine lv_iconst (v := 1) hx hb dX5_likely_37 (by decide) ?_
          cases hf
          exact W.iret hx hb hr (fun t ht hW => ⟨_, rfl, rfl, ht⟩) (fun _ h => by cases h) dX5_likely_38
      · have hf := ip c_6 hf
        refine lv_iconst (v := (-1)) hx hb dX5_likely_27 (by decide) ?_
        cases hf
        exact W.iret hx hb hr (fun t ht hW => ⟨_, rfl, rfl, ht⟩) (fun _ h => by cases h) dX5_likely_28
set_option maxHeartbeats 4000000 in
set_option maxRecDepth 100000 in
theorem c_X5_drawOf (l : Launch) (D : va_G) (cI cC cL cB : ClassId) (a1 : Int32) (a2 : Int32) (r : Int32) (hf : m_X5_drawOf a1 a2 = some r) : Met l yX5_drawOf wsX5_drawOf ({ frames := 0, cells := 0, slots := 0, locals := 0 }) (va_Pc [.int a1, .int a2] (q_R D vwCl (tyL cI cC cL cB) [])) (vp_Si (fun r' => r' = r)) 0 0 (fun _ => False) := by
  refine Met.ofW (cc := cX5_drawOf) (maxL := 4) (ret := (some .int)) (by decide) rfl ?_
  intro p e s m args below meth c s₁ B hml hv
  obtain ⟨rfl, hP, hK⟩ := hv
  have hx := B.exec
  have hb := B.bytes
  have hr := B.returns
  have hts := atoms_spec (ws := wsX5_drawOf) B.pre
  have hown : s.vm.findClass RX5 = some m.cls := findClass_of_methodNamed B.named
  have hlocks := B.notSynchronized
  have hl := lv_entry ([.int a1, .int a2]) (n := 4) (Nat.le_of_ble_eq_true rfl)
  rw [lg_entry_eq]
  generalize (lg_sl ([.int a1, .int a2]) ++ List.replicate (4 - (lg_sl ([.int a1, .int a2])).length) Slot.unset).toArray = ls at hl ⊢
  have hl : lv_has ls 4 [(0, .int a1), (1, .int a2)] := hl
  unfold m_X5_drawOf at hf
  refine lv_ldc2 (v := 7919) hx hb hown (hts (.constantLong RX5 270 (7919)) (List.mem_of_getElem? (i := 1) rfl)) dX5_drawOf_0 ?_
  refine lv_iload_n hx hb dX5_drawOf_3 rfl (lv_at hl 0 rfl) ?_
  refine lv_i2l hx hb dX5_drawOf_4 rfl ?_
  refine lv_lmul hx hb dX5_drawOf_5 ?_
  refine lv_ldc2 (v := 6151) hx hb hown (hts (.constantLong RX5 272 (6151)) (List.mem_of_getElem? (i := 2) rfl)) dX5_drawOf_6 ?_
  refine lv_iload_n hx hb dX5_drawOf_9 rfl (lv_at hl 1 rfl) ?_
  refine lv_i2l hx hb dX5_drawOf_10 rfl ?_
  refine lv_lmul hx hb dX5_drawOf_11 ?_
  refine lv_ladd hx hb dX5_drawOf_12 ?_
  refine lv_lconst (v := 1) hx hb dX5_drawOf_13 (by decide) ?_
  refine lv_ladd hx hb dX5_drawOf_14 ?_
  refine lv_topl (fun x1 ex1 => ?_)
  have hf := pv_eq ex1 hf
  refine lv_lstore_n (lv' := [(2, .long x1), (0, .int a1), (1, .int a2)]) hx hb dX5_drawOf_15 rfl hl (by decide) rfl (fun ls hl => ?_)
  refine lv_lload_n hx hb dX5_drawOf_16 rfl (lv_at hl 0 rfl) ?_
  refine lv_lload_n hx hb dX5_drawOf_17 rfl (lv_at hl 0 rfl) ?_
  refine lv_lmul hx hb dX5_drawOf_18 ?_
  refine lv_ldc2 (v := 65521) hx hb hown (hts (.constantLong RX5 274 (65521)) (List.mem_of_getElem? (i := 3) rfl)) dX5_drawOf_19 ?_
  refine lv_lrem hx hb dX5_drawOf_22 (by decide) ?_
  refine lv_ldc2 (v := 2) hx hb hown (hts (.constantLong RX5 276 (2)) (List.mem_of_getElem? (i := 4) rfl)) dX5_drawOf_23 ?_
  refine lv_ldiv hx hb dX5_drawOf_26 (by decide) ?_
  refine lv_l2i hx hb dX5_drawOf_27 rfl ?_
  cases hf
  exact W.iret hx hb hr (fun t ht hW => ⟨_, rfl, rfl, ht⟩) (fun _ h => by cases h) dX5_drawOf_28
theorem uX5_dealOnce_X0 : ∀ w ∈ wsX00, w ∈ wsX5_dealOnce := fun w h => List.mem_cons_of_mem _ (List.mem_append_left _ (List.mem_append_right _ h))
theorem uX5_dealOnce_X5 : ∀ w ∈ wsX50, w ∈ wsX5_dealOnce := fun w h => List.mem_cons_of_mem _ (List.mem_append_left _ (List.mem_append_left _ (List.mem_append_right _ h)))
set_option maxHeartbeats 4000000 in
set_option maxRecDepth 100000 in
theorem c_X5_dealOnce (l : Launch) (D : va_G) (cI cC cL cB : ClassId) (sz : Nat) (h : Nat) (h_page : Nat) (h_laid : Nat) (h_draft : Nat) (h_now : Nat) (h_trial : Nat) (h_past : Nat) (h_sightings : Nat) (h_kept : Nat) (h_told : Nat) (h_laid_kinds : Nat) (h_laid_prices : Nat) (h_laid_persons : Nat) (h_laid_places : Nat) (h_laid_hours : Nat) (h_laid_weights : Nat) (h_laid_numbers : Nat) (a1 : Int32) (h_keptCount : Int32) (h_laid_pieces : Int32) (h_laid_roomsAtFirst : Int32) (h_laid_deeds : Int32) (h_laid_coins : Int32) (h_laid_law : Int32) (h_trial_rooms : Int32) (h_trial_bought : Int32) (h_trial_spoken : Int32) (h_trial_out : Int32) (h_trial_coins : Int32) (h_laid_kinds_c : Nat → Int32) (h_laid_places_c : Nat → Int32) (h_laid_hours_c : Nat → Int32) (h_laid_weights_c : Nat → Int32) (h_laid_prices_c : Nat → Int32) (o0 : Int32) (o1 : Int32) (o2 : Int32) (o3 : Int32) (o4 : Int32) (hf : m_X5_dealOnce a1 h_laid_pieces h_laid_deeds h_laid_law h_trial_rooms h_trial_bought h_trial_spoken h_trial_out h_trial_coins h_laid_kinds_c h_laid_places_c h_laid_hours_c h_laid_weights_c h_laid_prices_c = some (o0, o1, o2, o3, o4)) : Met l yX5_dealOnce wsX5_dealOnce ({ frames := 3, cells := 0, slots := 0, locals := 75 }) (va_Pc [.ref h, .int a1] (q_W D vwCl (tyL cI cC cL cB) [(h, .inr (5, [.ref h_page, .ref h_laid, .ref h_draft, .ref h_now, .ref h_trial, .ref h_past, .ref h_sightings, .ref h_kept, .int h_keptCount, .ref h_told])), (h_laid, .inr (0, [.int h_laid_pieces, .ref h_laid_kinds, .ref h_laid_prices, .int h_laid_roomsAtFirst, .int h_laid_deeds, .ref h_laid_persons, .ref h_laid_places, .ref h_laid_hours, .ref h_laid_weights, .int h_laid_coins, .int h_laid_law, .ref h_laid_numbers])), (h_trial, .inr (4, [.int h_trial_rooms, .int h_trial_bought, .int h_trial_spoken, .int h_trial_out, .int h_trial_coins])), (h_laid_kinds, .inl (cI, 8, .inl h_laid_kinds_c)), (h_laid_places, .inl (cI, 9, .inl h_laid_places_c)), (h_laid_hours, .inl (cI, 9, .inl h_laid_hours_c)), (h_laid_weights, .inl (cI, 9, .inl h_laid_weights_c)), (h_laid_prices, .inl (cI, 8, .inl h_laid_prices_c))] sz)) (va_Qv (fun _ : Unit => True) (q_E D vwCl (tyL cI cC cL cB) (va_A [(h, .inr (5, [.ref h_page, .ref h_laid, .ref h_draft, .ref h_now, .ref h_trial, .ref h_past, .ref h_sightings, .ref h_kept, .int h_keptCount, .ref h_told])), (h_laid, .inr (0, [.int h_laid_pieces, .ref h_laid_kinds, .ref h_laid_prices, .int h_laid_roomsAtFirst, .int h_laid_deeds, .ref h_laid_persons, .ref h_laid_places, .ref h_laid_hours, .ref h_laid_weights, .int h_laid_coins, .int h_laid_law, .ref h_laid_numbers])), (h_trial, .inr (4, [.int h_trial_rooms, .int h_trial_bought, .int h_trial_spoken, .int h_trial_out, .int h_trial_coins])), (h_laid_kinds, .inl (cI, 8, .inl h_laid_kinds_c)), (h_laid_places, .inl (cI, 9, .inl h_laid_places_c)), (h_laid_hours, .inl (cI, 9, .inl h_laid_hours_c)), (h_laid_weights, .inl (cI, 9, .inl h_laid_weights_c)), (h_laid_prices, .inl (cI, 8, .inl h_laid_prices_c))] sz) [(h, .inr (5, [.ref h_page, .ref h_laid, .ref h_draft, .ref h_now, .ref h_trial, .ref h_past, .ref h_sightings, .ref h_kept, .int h_keptCount, .ref h_told])), (h_laid, .inr (0, [.int h_laid_pieces, .ref h_laid_kinds, .ref h_laid_prices, .int h_laid_roomsAtFirst, .int h_laid_deeds, .ref h_laid_persons, .ref h_laid_places, .ref h_laid_hours, .ref h_laid_weights, .int h_laid_coins, .int h_laid_law, .ref h_laid_numbers])), (h_trial, .inr (4, [.int o0, .int o1, .int o2, .int o3, .int o4])), (h_laid_kinds, .inl (cI, 8, .inl h_laid_kinds_c)), (h_laid_places, .inl (cI, 9, .inl h_laid_places_c)), (h_laid_hours, .inl (cI, 9, .inl h_laid_hours_c)), (h_laid_weights, .inl (cI, 9, .inl h_laid_weights_c)), (h_laid_prices, .inl (cI, 8, .inl h_laid_prices_c))]) (va_A [(h, .inr (5, [.ref h_page, .ref h_laid, .ref h_draft, .ref h_now, .ref h_trial, .ref h_past, .ref h_sightings, .ref h_kept, .int h_keptCount, .ref h_told])), (h_laid, .inr (0, [.int h_laid_pieces, .ref h_laid_kinds, .ref h_laid_prices, .int h_laid_roomsAtFirst, .int h_laid_deeds, .ref h_laid_persons, .ref h_laid_places, .ref h_laid_hours, .ref h_laid_weights, .int h_laid_coins, .int h_laid_law, .ref h_laid_numbers])), (h_trial, .inr (4, [.int h_trial_rooms, .int h_trial_bought, .int h_trial_spoken, .int h_trial_out, .int h_trial_coins])), (h_laid_kinds, .inl (cI, 8, .inl h_laid_kinds_c)), (h_laid_places, .inl (cI, 9, .inl h_laid_places_c)), (h_laid_hours, .inl (cI, 9, .inl h_laid_hours_c)), (h_laid_weights, .inl (cI, 9, .inl h_laid_weights_c)), (h_laid_prices, .inl (cI, 8, .inl h_laid_prices_c))] sz)) 0 0 (va_A [(h, .inr (5, [.ref h_page, .ref h_laid, .ref h_draft, .ref h_now, .ref h_trial, .ref h_past, .ref h_sightings, .ref h_kept, .int h_keptCount, .ref h_told])), (h_laid, .inr (0, [.int h_laid_pieces, .ref h_laid_kinds, .ref h_laid_prices, .int h_laid_roomsAtFirst, .int h_laid_deeds, .ref h_laid_persons, .ref h_laid_places, .ref h_laid_hours, .ref h_laid_weights, .int h_laid_coins, .int h_laid_law, .ref h_laid_numbers])), (h_trial, .inr (4, [.int h_trial_rooms, .int h_trial_bought, .int h_trial_spoken, .int h_trial_out, .int h_trial_coins])), (h_laid_kinds, .inl (cI, 8, .inl h_laid_kinds_c)), (h_laid_places, .inl (cI, 9, .inl h_laid_places_c)), (h_laid_hours, .inl (cI, 9, .inl h_laid_hours_c)), (h_laid_weights, .inl (cI, 9, .inl h_laid_weights_c)), (h_laid_prices, .inl (cI, 8, .inl h_laid_prices_c))] sz) := by
  refine Met.ofW (cc := cX5_dealOnce) (maxL := 4) (ret := none) (by decide) rfl ?_
  intro p e s m args below meth c s₁ B hml hv
  obtain ⟨rfl, hsz, hP, hK, hD0⟩ := hv
  have hx := B.exec
  have hb := B.bytes
  have hr := B.returns
  have hts := atoms_spec (ws := wsX5_dealOnce) B.pre
  have hown : s.vm.findClass RX5 = some m.cls := findClass_of_methodNamed B.named
  have hlocks := B.notSynchronized
  subst hsz
  have hD := hD0.self (sz := s.heap.size)
  generalize hAe : va_A [(h, .inr (5, [.ref h_page, .ref h_laid, .ref h_draft, .ref h_now, .ref h_trial, .ref h_past, .ref h_sightings, .ref h_kept, .int h_keptCount, .ref h_told])), (h_laid, .inr (0, [.int h_laid_pieces, .ref h_laid_kinds, .ref h_laid_prices, .int h_laid_roomsAtFirst, .int h_laid_deeds, .ref h_laid_persons, .ref h_laid_places, .ref h_laid_hours, .ref h_laid_weights, .int h_laid_coins, .int h_laid_law, .ref h_laid_numbers])), (h_trial, .inr (4, [.int h_trial_rooms, .int h_trial_bought, .int h_trial_spoken, .int h_trial_out, .int h_trial_coins])), (h_laid_kinds, .inl (cI, 8, .inl h_laid_kinds_c)), (h_laid_places, .inl (cI, 9, .inl h_laid_places_c)), (h_laid_hours, .inl (cI, 9, .inl h_laid_hours_c)), (h_laid_weights, .inl (cI, 9, .inl h_laid_weights_c)), (h_laid_prices, .inl (cI, 8, .inl h_laid_prices_c))] s.heap.size = A at hD ⊢
  have hA : ∀ q : Nat, s.heap.size ≤ q → A q := fun q h => by rw [← hAe]; exact Or.inr h
  have hS : va_S A s.heap s.heap [] := va_S.rf
  have hP : va_P D vwCl [(h, .inr (5, [.ref h_page, .ref h_laid, .ref h_draft, .ref h_now, .ref h_trial, .ref h_past, .ref h_sightings, .ref h_kept, .int h_keptCount, .ref h_told])), (h_laid, .inr (0, [.int h_laid_pieces, .ref h_laid_kinds, .ref h_laid_prices, .int h_laid_roomsAtFirst, .int h_laid_deeds, .ref h_laid_persons, .ref h_laid_places, .ref h_laid_hours, .ref h_laid_weights, .int h_laid_coins, .int h_laid_law, .ref h_laid_numbers])), (h_trial, .inr (4, [.int h_trial_rooms, .int h_trial_bought, .int h_trial_spoken, .int h_trial_out, .int h_trial_coins])), (h_laid_kinds, .inl (cI, 8, .inl h_laid_kinds_c)), (h_laid_places, .inl (cI, 9, .inl h_laid_places_c)), (h_laid_hours, .inl (cI, 9, .inl h_laid_hours_c)), (h_laid_weights, .inl (cI, 9, .inl h_laid_weights_c)), (h_laid_prices, .inl (cI, 8, .inl h_laid_prices_c))] s.heap := hP
  have hl := lv_entry ([.ref h, .int a1]) (n := 4) (Nat.le_of_ble_eq_true rfl)
  rw [lg_entry_eq]
  generalize (lg_sl ([.ref h, .int a1]) ++ List.replicate (4 - (lg_sl ([.ref h, .int a1])).length) Slot.unset).toArray = ls at hl ⊢
  have hl : lv_has ls 4 [(0, .ref h), (1, .int a1)] := hl
  unfold m_X5_dealOnce at hf
  refine lv_aload_n hx hb dX5_dealOnce_0 rfl (lv_at hl 0 rfl) ?_
  refine va_get (D := D) (ci := 5) (v := .ref h_laid) (C := RX5) (T := TX5) (N := 10) hx hb hts uX5_dealOnce_X5 hown hK hP 0 rfl rfl 1 (by decide) (hts (.fieldLink RX5 19 "SpeaksForTheChair" "laid" "LSpeaksForTheChair$House;") (List.mem_of_getElem? (i := 1) rfl)) (fun _ h9 => h9) rfl dX5_dealOnce_1 ?_
  refine va_get (D := D) (ci := 0) (v := .int h_laid_pieces) (C := RX0) (T := TX0) (N := 12) hx hb hts uX5_dealOnce_X0 hown hK hP 1 rfl rfl 0 (by decide) (hts (.fieldLink RX5 91 "SpeaksForTheChair$House" "pieces" "I") (List.mem_of_getElem? (i := 2) rfl)) (fun _ h9 => h9) rfl dX5_dealOnce_4 ?_
  refine lv_iconst (v := 1) hx hb dX5_dealOnce_7 (by decide) ?_
  refine lv_icmp_ge (tgt := 12) hx hb dX5_dealOnce_8 (by decide) (fun c_1 => ?_) (fun c_1 => ?_)
  · have hf := ip c_1 hf
    refine lv_iload_n hx hb dX5_dealOnce_12 rfl (lv_at hl 1 rfl) ?_
    refine lv_aload_n hx hb dX5_dealOnce_13 rfl (lv_at hl 0 rfl) ?_
    refine va_get (D := D) (ci := 5) (v := .ref h_laid) (C := RX5) (T := TX5) (N := 10) hx hb hts uX5_dealOnce_X5 hown hK hP 0 rfl rfl 1 (by decide) (hts (.fieldLink RX5 19 "SpeaksForTheChair" "laid" "LSpeaksForTheChair$House;") (List.mem_of_getElem? (i := 1) rfl)) (fun _ h9 => h9) rfl dX5_dealOnce_14 ?_
    refine va_get (D := D) (ci := 0) (v := .int h_laid_pieces) (C := RX0) (T := TX0) (N := 12) hx hb hts uX5_dealOnce_X0 hown hK hP 1 rfl rfl 0 (by decide) (hts (.fieldLink RX5 91 "SpeaksForTheChair$House" "pieces" "I") (List.mem_of_getElem? (i := 2) rfl)) (fun _ h9 => h9) rfl dX5_dealOnce_17 ?_
    obtain ⟨g_2, hf⟩ := gu_ne hf
    refine lv_irem hx hb dX5_dealOnce_20 g_2 ?_
    refine lv_topi (fun x1 ex1 => ?_)
    have hf := pv_eq ex1 hf
    refine lv_istore_n (lv' := [(2, .int x1), (0, .ref h), (1, .int a1)]) hx hb dX5_dealOnce_21 rfl hl (by decide) rfl (fun ls hl => ?_)
    refine lv_iload_n hx hb dX5_dealOnce_22 rfl (lv_at hl 2 rfl) ?_
    refine lv_bipush (v := 8) hx hb dX5_dealOnce_23 (by decide) ?_
    refine lv_idiv hx hb dX5_dealOnce_25 (by decide) ?_
    refine lv_iconst (v := 3) hx hb dX5_dealOnce_26 (by decide) ?_
    refine lv_irem hx hb dX5_dealOnce_27 (by decide) ?_
    refine lv_topi (fun x2 ex2 => ?_)
    have hf := pv_eq ex2 hf
    refine lv_istore_n (lv' := [(3, .int x2), (2, .int x1), (0, .ref h), (1, .int a1)]) hx hb dX5_dealOnce_28 rfl hl (by decide) rfl (fun ls hl => ?_)
    refine lv_iload_n hx hb dX5_dealOnce_29 rfl (lv_at hl 0 rfl) ?_
    obtain ⟨x3, x4, hr70, hf⟩ := ob2_some hf
    refine q_jnH (D := D) (cl := vwCl) (A := A) (H0 := s.heap) (pcJ := 70) (nL := 4) (vs := [(0, .ref h), (1, .int a1), (2, .int x1), (3, .int x2)]) (st := []) [(h, .inr (5, [.ref h_page, .ref h_laid, .ref h_draft, .ref h_now, .ref h_trial, .ref h_past, .ref h_sightings, .ref h_kept, .int h_keptCount, .ref h_told])), (h_laid, .inr (0, [.int h_laid_pieces, .ref h_laid_kinds, .ref h_laid_prices, .int h_laid_roomsAtFirst, .int h_laid_deeds, .ref h_laid_persons, .ref h_laid_places, .ref h_laid_hours, .ref h_laid_weights, .int h_laid_coins, .int h_laid_law, .ref h_laid_numbers])), (h_trial, .inr (4, [.int h_trial_rooms, .int h_trial_bought, .int x3, .int x4, .int h_trial_coins])), (h_laid_kinds, .inl (cI, 8, .inl h_laid_kinds_c)), (h_laid_places, .inl (cI, 9, .inl h_laid_places_c)), (h_laid_hours, .inl (cI, 9, .inl h_laid_hours_c)), (h_laid_weights, .inl (cI, 9, .inl h_laid_weights_c)), (h_laid_prices, .inl (cI, 8, .inl h_laid_prices_c))] (fun H locs hP hD hS ls hl => ?_) (fun J70 => ?_)
    · clear hr70
      refine lv_iload_n hx hb dX5_dealOnce_70 rfl (lv_at hl 3 rfl) ?_
      refine lv_iconst (v := 1) hx hb dX5_dealOnce_71 (by decide) ?_
      obtain ⟨x5, x6, hr104, hf⟩ := ob2_some hf
      refine q_jnH (D := D) (cl := vwCl) (A := A) (H0 := s.heap) (pcJ := 104) (nL := 4) (vs := [(0, .ref h), (1, .int a1), (2, .int x1), (3, .int x2)]) (st := []) [(h, .inr (5, [.ref h_page, .ref h_laid, .ref h_draft, .ref h_now, .ref h_trial, .ref h_past, .ref h_sightings, .ref h_kept, .int h_keptCount, .ref h_told])), (h_laid, .inr (0, [.int h_laid_pieces, .ref h_laid_kinds, .ref h_laid_prices, .int h_laid_roomsAtFirst, .int h_laid_deeds, .ref h_laid_persons, .ref h_laid_places, .ref h_laid_hours, .ref h_laid_weights, .int h_laid_coins, .int h_laid_law, .ref h_laid_numbers])), (h_trial, .inr (4, [.int h_trial_rooms, .int x5, .int x3, .int x4, .int x6])), (h_laid_kinds, .inl (cI, 8, .inl h_laid_kinds_c)), (h_laid_places, .inl (cI, 9, .inl h_laid_places_c)), (h_laid_hours, .inl (cI, 9, .inl h_laid_hours_c)), (h_laid_weights, .inl (cI, 9, .inl h_laid_weights_c)), (h_laid_prices, .inl (cI, 8, .inl h_laid_prices_c))] (fun H locs hP hD hS ls hl => ?_) (fun J104 => ?_)
      · clear hr104
        refine lv_iload_n hx hb dX5_dealOnce_104 rfl (lv_at hl 3 rfl) ?_
        refine lv_iconst (v := 2) hx hb dX5_dealOnce_105 (by decide) ?_
        refine lv_icmp_ne (tgt := 135) hx hb dX5_dealOnce_106 (by decide) (fun c_14 => ?_) (fun c_14 => ?_)
        · have hf := im c_14 hf
          cases hf
          exact W.vret hx hb hr (fun t ht hW => ⟨⟨(), rfl, trivial, by rw [ht]; exact hP, va_K.moved hW.alike hK, hD⟩, hS.F ht⟩) hS.2.2 dX5_dealOnce_135
        · have hf := ip c_14 hf
          refine lv_aload_n hx hb dX5_dealOnce_109 rfl (lv_at hl 0 rfl) ?_
          refine va_get (D := D) (ci := 5) (v := .ref h_trial) (C := RX5) (T := TX5) (N := 10) hx hb hts uX5_dealOnce_X5 hown hK hP 0 rfl rfl 4 (by decide) (hts (.fieldLink RX5 33 "SpeaksForTheChair" "trial" "LSpeaksForTheChair$Standing;") (List.mem_of_getElem? (i := 3) rfl)) (fun _ h9 => h9) rfl dX5_dealOnce_110 ?_
          refine lv_iload_n hx hb dX5_dealOnce_113 rfl (lv_at hl 2 rfl) ?_
          obtain ⟨x7, hv_15, hf⟩ := ob1_some hf
          refine q_rVi (As := [.int x1]) (rest := []) (r := x7) ⟨hx, hb, hml, hown, hts⟩ (c_X4_howIs l D cI cC cL cB h_trial x1 h_trial_rooms x5 x3 x4 x6 x7 hv_15) (cwV 1 hts gX5_dealOnce_X4_howIs rfl rfl rfl (by decide +kernel) ⟨Nat.le_of_ble_eq_true rfl, Nat.le_of_ble_eq_true rfl⟩) hK hP [2] rfl (va_recv hK hP (ci := 4) (q0 := 2) rfl rfl) rfl hl.1 rfl (Nat.le_of_ble_eq_true rfl) dX5_dealOnce_114 ⟨Nat.le_of_ble_eq_true rfl, Nat.le_of_ble_eq_true rfl⟩ ?_
          refine lv_iconst (v := 2) hx hb dX5_dealOnce_117 (by decide) ?_
          refine lv_icmp_eq (tgt := 135) hx hb dX5_dealOnce_118 (by decide) (fun c_16 => ?_) (fun c_16 => ?_)
          · have hf := ip c_16 hf
            cases hf
            exact W.vret hx hb hr (fun t ht hW => ⟨⟨(), rfl, trivial, by rw [ht]; exact hP, va_K.moved hW.alike hK, hD⟩, hS.F ht⟩) hS.2.2 dX5_dealOnce_135
          · have hf := im c_16 hf
            refine lv_aload_n hx hb dX5_dealOnce_121 rfl (lv_at hl 0 rfl) ?_
            refine va_get (D := D) (ci := 5) (v := .ref h_trial) (C := RX5) (T := TX5) (N := 10) hx hb hts uX5_dealOnce_X5 hown hK hP 0 rfl rfl 4 (by decide) (hts (.fieldLink RX5 33 "SpeaksForTheChair" "trial" "LSpeaksForTheChair$Standing;") (List.mem_of_getElem? (i := 3) rfl)) (fun _ h9 => h9) rfl dX5_dealOnce_122 ?_
            refine lv_iload_n hx hb dX5_dealOnce_125 rfl (lv_at hl 2 rfl) ?_
            refine lv_iload_n hx hb dX5_dealOnce_126 rfl (lv_at hl 1 rfl) ?_
            refine lv_bipush (v := 32) hx hb dX5_dealOnce_127 (by decide) ?_
            refine lv_idiv hx hb dX5_dealOnce_129 (by decide) ?_
            refine lv_iconst (v := 4) hx hb dX5_dealOnce_130 (by decide) ?_
            refine lv_irem hx hb dX5_dealOnce_131 (by decide) ?_
            obtain ⟨f8, hv_17, hf⟩ := ob1_some hf
            refine q_wVv (As := [.int x1, .int ((a1 / 32) - (a1 / 32) / 4 * 4)]) (rest := []) (w1 := [(h_trial, .inr (4, [.int f8, .int x5, .int x3, .int x4, .int x6]))]) (wr := [(h, .inr (5, [.ref h_page, .ref h_laid, .ref h_draft, .ref h_now, .ref h_trial, .ref h_past, .ref h_sightings, .ref h_kept, .int h_keptCount, .ref h_told])), (h_laid, .inr (0, [.int h_laid_pieces, .ref h_laid_kinds, .ref h_laid_prices, .int h_laid_roomsAtFirst, .int h_laid_deeds, .ref h_laid_persons, .ref h_laid_places, .ref h_laid_hours, .ref h_laid_weights, .int h_laid_coins, .int h_laid_law, .ref h_laid_numbers])), (h_laid_kinds, .inl (cI, 8, .inl h_laid_kinds_c)), (h_laid_places, .inl (cI, 9, .inl h_laid_places_c)), (h_laid_hours, .inl (cI, 9, .inl h_laid_hours_c)), (h_laid_weights, .inl (cI, 9, .inl h_laid_weights_c)), (h_laid_prices, .inl (cI, 8, .inl h_laid_prices_c))]) (w2 := [(h, .inr (5, [.ref h_page, .ref h_laid, .ref h_draft, .ref h_now, .ref h_trial, .ref h_past, .ref h_sightings, .ref h_kept, .int h_keptCount, .ref h_told])), (h_laid, .inr (0, [.int h_laid_pieces, .ref h_laid_kinds, .ref h_laid_prices, .int h_laid_roomsAtFirst, .int h_laid_deeds, .ref h_laid_persons, .ref h_laid_places, .ref h_laid_hours, .ref h_laid_weights, .int h_laid_coins, .int h_laid_law, .ref h_laid_numbers])), (h_trial, .inr (4, [.int f8, .int x5, .int x3, .int x4, .int x6])), (h_laid_kinds, .inl (cI, 8, .inl h_laid_kinds_c)), (h_laid_places, .inl (cI, 9, .inl h_laid_places_c)), (h_laid_hours, .inl (cI, 9, .inl h_laid_hours_c)), (h_laid_weights, .inl (cI, 9, .inl h_laid_weights_c)), (h_laid_prices, .inl (cI, 8, .inl h_laid_prices_c))]) ⟨hx, hb, hml, hown, hts⟩ (c_X4_move l D cI cC cL cB H.size h_trial x1 (((a1 / 32) - (a1 / 32) / 4 * 4)) h_trial_rooms x5 x3 x4 x6 f8 hv_17) (cwV 2 hts gX5_dealOnce_X4_move rfl rfl rfl (by decide +kernel) ⟨Nat.le_of_ble_eq_true rfl, Nat.le_of_ble_eq_true rfl⟩) hK hP hD hS hA [2] rfl (by decide) [0, 1, 3, 4, 5, 6, 7] rfl (by decide) (by decide) [0, 1, 7, 2, 3, 4, 5, 6] rfl (by decide) (va_recv hK hP (ci := 4) (q0 := 2) rfl rfl) rfl hl.1 rfl (Nat.le_of_ble_eq_true rfl) dX5_dealOnce_132 ⟨Nat.le_of_ble_eq_true rfl, Nat.le_of_ble_eq_true rfl⟩ (fun H locs hP hD hS => ?_)
            have hP : va_P D vwCl [(h, .inr (5, [.ref h_page, .ref h_laid, .ref h_draft, .ref h_now, .ref h_trial, .ref h_past, .ref h_sightings, .ref h_kept, .int h_keptCount, .ref h_told])), (h_laid, .inr (0, [.int h_laid_pieces, .ref h_laid_kinds, .ref h_laid_prices, .int h_laid_roomsAtFirst, .int h_laid_deeds, .ref h_laid_persons, .ref h_laid_places, .ref h_laid_hours, .ref h_laid_weights, .int h_laid_coins, .int h_laid_law, .ref h_laid_numbers])), (h_trial, .inr (4, [.int f8, .int x5, .int x3, .int x4, .int x6])), (h_laid_kinds, .inl (cI, 8, .inl h_laid_kinds_c)), (h_laid_places, .inl (cI, 9, .inl h_laid_places_c)), (h_laid_hours, .inl (cI, 9, .inl h_laid_hours_c)), (h_laid_weights, .inl (cI, 9, .inl h_laid_weights_c)), (h_laid_prices, .inl (cI, 8, .inl h_laid_prices_c))] H := hP
            have hD : va_D A [(h, .inr (5, [.ref h_page, .ref h_laid, .ref h_draft, .ref h_now, .ref h_trial, .ref h_past, .ref h_sightings, .ref h_kept, .int h_keptCount, .ref h_told])), (h_laid, .inr (0, [.int h_laid_pieces, .ref h_laid_kinds, .ref h_laid_prices, .int h_laid_roomsAtFirst, .int h_laid_deeds, .ref h_laid_persons, .ref h_laid_places, .ref h_laid_hours, .ref h_laid_weights, .int h_laid_coins, .int h_laid_law, .ref h_laid_numbers])), (h_trial, .inr (4, [.int f8, .int x5, .int x3, .int x4, .int x6])), (h_laid_kinds, .inl (cI, 8, .inl h_laid_kinds_c)), (h_laid_places, .inl (cI, 9, .inl h_laid_places_c)), (h_laid_hours, .inl (cI, 9, .inl h_laid_hours_c)), (h_laid_weights, .inl (cI, 9, .inl h_laid_weights_c)), (h_laid_prices, .inl (cI, 8, .inl h_laid_prices_c))] := hD
            cases hf
            exact W.vret hx hb hr (fun t ht hW => ⟨⟨(), rfl, trivial, by rw [ht]; exact hP, va_K.moved hW.alike hK, hD⟩, hS.F ht⟩) hS.2.2 dX5_dealOnce_135
      · replace hf := hr104
        refine lv_icmp_ne (tgt := 104) hx hb dX5_dealOnce_72 (by decide) (fun c_9 => ?_) (fun c_9 => ?_)
        · have hf := im c_9 hf
          cases hf
          exact J104 _ _ hP hD hS ls (lv_sub hl [0, 1, 2, 3] rfl)
        · have hf := ip c_9 hf
          refine lv_aload_n hx hb dX5_dealOnce_75 rfl (lv_at hl 0 rfl) ?_
          refine lv_aload_n hx hb dX5_dealOnce_76 rfl (lv_at hl 0 rfl) ?_
          refine va_get (D := D) (ci := 5) (v := .ref h_trial) (C := RX5) (T := TX5) (N := 10) hx hb hts uX5_dealOnce_X5 hown hK hP 0 rfl rfl 4 (by decide) (hts (.fieldLink RX5 33 "SpeaksForTheChair" "trial" "LSpeaksForTheChair$Standing;") (List.mem_of_getElem? (i := 3) rfl)) (fun _ h9 => h9) rfl dX5_dealOnce_77 ?_
          refine lv_iload_n hx hb dX5_dealOnce_80 rfl (lv_at hl 2 rfl) ?_
          obtain ⟨x9, hv_18, hf⟩ := ob1_some hf
          refine q_rVi (As := [.ref h_trial, .int x1]) (rest := []) (r := x9) ⟨hx, hb, hml, hown, hts⟩ (c_X5_canBeBought l D cI cC cL cB h h_trial h_page h_laid h_draft h_now h_trial h_past h_sightings h_kept h_told h_laid_kinds h_laid_prices h_laid_persons h_laid_places h_laid_hours h_laid_weights h_laid_numbers x1 h_trial_rooms h_trial_bought x3 x4 h_trial_coins h_keptCount h_laid_pieces h_laid_roomsAtFirst h_laid_deeds h_laid_coins h_laid_law h_laid_prices_c x9 hv_18) (cwV 2 hts gX5_dealOnce_X5_canBeBought rfl rfl rfl (by decide +kernel) ⟨Nat.le_of_ble_eq_true rfl, Nat.le_of_ble_eq_true rfl⟩) hK hP [2, 0, 1, 7] rfl (va_recv hK hP (ci := 5) (q0 := 0) rfl rfl) rfl hl.1 rfl (Nat.le_of_ble_eq_true rfl) dX5_dealOnce_81 ⟨Nat.le_of_ble_eq_true rfl, Nat.le_of_ble_eq_true rfl⟩ ?_
          refine lv_if_eq (tgt := 104) hx hb dX5_dealOnce_84 (by decide) (fun c_19 => ?_) (fun c_19 => ?_)
          · have hf := ip c_19 hf
            cases hf
            exact J104 _ _ hP hD hS ls (lv_sub hl [0, 1, 2, 3] rfl)
          · have hf := im c_19 hf
            refine lv_aload_n hx hb dX5_dealOnce_87 rfl (lv_at hl 0 rfl) ?_
            refine va_get (D := D) (ci := 5) (v := .ref h_trial) (C := RX5) (T := TX5) (N := 10) hx hb hts uX5_dealOnce_X5 hown hK hP 0 rfl rfl 4 (by decide) (hts (.fieldLink RX5 33 "SpeaksForTheChair" "trial" "LSpeaksForTheChair$Standing;") (List.mem_of_getElem? (i := 3) rfl)) (fun _ h9 => h9) rfl dX5_dealOnce_88 ?_
            refine lv_iload_n hx hb dX5_dealOnce_91 rfl (lv_at hl 2 rfl) ?_
            refine lv_aload_n hx hb dX5_dealOnce_92 rfl (lv_at hl 0 rfl) ?_
            refine va_get (D := D) (ci := 5) (v := .ref h_laid) (C := RX5) (T := TX5) (N := 10) hx hb hts uX5_dealOnce_X5 hown hK hP 0 rfl rfl 1 (by decide) (hts (.fieldLink RX5 19 "SpeaksForTheChair" "laid" "LSpeaksForTheChair$House;") (List.mem_of_getElem? (i := 1) rfl)) (fun _ h9 => h9) rfl dX5_dealOnce_93 ?_
            refine va_get (D := D) (ci := 0) (v := .ref h_laid_prices) (C := RX0) (T := TX0) (N := 12) hx hb hts uX5_dealOnce_X0 hown hK hP 1 rfl rfl 2 (by decide) (hts (.fieldLink RX5 120 "SpeaksForTheChair$House" "prices" "[I") (List.mem_of_getElem? (i := 4) rfl)) (fun _ h9 => h9) rfl dX5_dealOnce_96 ?_
            refine lv_iload_n hx hb dX5_dealOnce_99 rfl (lv_at hl 2 rfl) ?_
            obtain ⟨g_20, hf⟩ := gu_in hf
            refine va_iald hx hb hK hP 7 0 rfl rfl g_20 dX5_dealOnce_100 ?_
            obtain ⟨f10, f11, hv_21, hf⟩ := ob2_some hf
            refine q_wVv (As := [.int x1, .int (h_laid_prices_c x1.toNatClampNeg)]) (rest := []) (w1 := [(h_trial, .inr (4, [.int h_trial_rooms, .int f10, .int x3, .int x4, .int f11]))]) (wr := [(h, .inr (5, [.ref h_page, .ref h_laid, .ref h_draft, .ref h_now, .ref h_trial, .ref h_past, .ref h_sightings, .ref h_kept, .int h_keptCount, .ref h_told])), (h_laid, .inr (0, [.int h_laid_pieces, .ref h_laid_kinds, .ref h_laid_prices, .int h_laid_roomsAtFirst, .int h_laid_deeds, .ref h_laid_persons, .ref h_laid_places, .ref h_laid_hours, .ref h_laid_weights, .int h_laid_coins, .int h_laid_law, .ref h_laid_numbers])), (h_laid_kinds, .inl (cI, 8, .inl h_laid_kinds_c)), (h_laid_places, .inl (cI, 9, .inl h_laid_places_c)), (h_laid_hours, .inl (cI, 9, .inl h_laid_hours_c)), (h_laid_weights, .inl (cI, 9, .inl h_laid_weights_c)), (h_laid_prices, .inl (cI, 8, .inl h_laid_prices_c))]) (w2 := [(h, .inr (5, [.ref h_page, .ref h_laid, .ref h_draft, .ref h_now, .ref h_trial, .ref h_past, .ref h_sightings, .ref h_kept, .int h_keptCount, .ref h_told])), (h_laid, .inr (0, [.int h_laid_pieces, .ref h_laid_kinds, .ref h_laid_prices, .int h_laid_roomsAtFirst, .int h_laid_deeds, .ref h_laid_persons, .ref h_laid_places, .ref h_laid_hours, .ref h_laid_weights, .int h_laid_coins, .int h_laid_law, .ref h_laid_numbers])), (h_trial, .inr (4, [.int h_trial_rooms, .int f10, .int x3, .int x4, .int f11])), (h_laid_kinds, .inl (cI, 8, .inl h_laid_kinds_c)), (h_laid_places, .inl (cI, 9, .inl h_laid_places_c)), (h_laid_hours, .inl (cI, 9, .inl h_laid_hours_c)), (h_laid_weights, .inl (cI, 9, .inl h_laid_weights_c)), (h_laid_prices, .inl (cI, 8, .inl h_laid_prices_c))]) ⟨hx, hb, hml, hown, hts⟩ (c_X4_sell l D cI cC cL cB H.size h_trial x1 ((h_laid_prices_c x1.toNatClampNeg)) h_trial_rooms h_trial_bought x3 x4 h_trial_coins f10 f11 hv_21) (cwV 2 hts gX5_dealOnce_X4_sell rfl rfl rfl (by decide +kernel) ⟨Nat.le_of_ble_eq_true rfl, Nat.le_of_ble_eq_true rfl⟩) hK hP hD hS hA [2] rfl (by decide) [0, 1, 3, 4, 5, 6, 7] rfl (by decide) (by decide) [0, 1, 7, 2, 3, 4, 5, 6] rfl (by decide) (va_recv hK hP (ci := 4) (q0 := 2) rfl rfl) rfl hl.1 rfl (Nat.le_of_ble_eq_true rfl) dX5_dealOnce_101 ⟨Nat.le_of_ble_eq_true rfl, Nat.le_of_ble_eq_true rfl⟩ (fun H locs hP hD hS => ?_)
            have hP : va_P D vwCl [(h, .inr (5, [.ref h_page, .ref h_laid, .ref h_draft, .ref h_now, .ref h_trial, .ref h_past, .ref h_sightings, .ref h_kept, .int h_keptCount, .ref h_told])), (h_laid, .inr (0, [.int h_laid_pieces, .ref h_laid_kinds, .ref h_laid_prices, .int h_laid_roomsAtFirst, .int h_laid_deeds, .ref h_laid_persons, .ref h_laid_places, .ref h_laid_hours, .ref h_laid_weights, .int h_laid_coins, .int h_laid_law, .ref h_laid_numbers])), (h_trial, .inr (4, [.int h_trial_rooms, .int f10, .int x3, .int x4, .int f11])), (h_laid_kinds, .inl (cI, 8, .inl h_laid_kinds_c)), (h_laid_places, .inl (cI, 9, .inl h_laid_places_c)), (h_laid_hours, .inl (cI, 9, .inl h_laid_hours_c)), (h_laid_weights, .inl (cI, 9, .inl h_laid_weights_c)), (h_laid_prices, .inl (cI, 8, .inl h_laid_prices_c))] H := hP
            have hD : va_D A [(h, .inr (5, [.ref h_page, .ref h_laid, .ref h_draft, .ref h_now, .ref h_trial, .ref h_past, .ref h_sightings, .ref h_kept, .int h_keptCount, .ref h_told])), (h_laid, .inr (0, [.int h_laid_pieces, .ref h_laid_kinds, .ref h_laid_prices, .int h_laid_roomsAtFirst, .int h_laid_deeds, .ref h_laid_persons, .ref h_laid_places, .ref h_laid_hours, .ref h_laid_weights, .int h_laid_coins, .int h_laid_law, .ref h_laid_numbers])), (h_trial, .inr (4, [.int h_trial_rooms, .int f10, .int x3, .int x4, .int f11])), (h_laid_kinds, .inl (cI, 8, .inl h_laid_kinds_c)), (h_laid_places, .inl (cI, 9, .inl h_laid_places_c)), (h_laid_hours, .inl (cI, 9, .inl h_laid_hours_c)), (h_laid_weights, .inl (cI, 9, .inl h_laid_weights_c)), (h_laid_prices, .inl (cI, 8, .inl h_laid_prices_c))] := hD
            cases hf
            exact J104 _ _ hP hD hS ls (lv_sub hl [0, 1, 2, 3] rfl)
    · replace hf := hr70
      refine lv_if_ne (tgt := 70) hx hb dX5_dealOnce_30 (by decide) (fun c_3 => ?_) (fun c_3 => ?_)
      · have hf := im c_3 hf
        cases hf
        exact J70 _ _ hP hD hS ls (lv_sub hl [2, 3, 1, 0] rfl)
      · have hf := ip c_3 hf
        refine lv_aload_n hx hb dX5_dealOnce_33 rfl (lv_at hl 2 rfl) ?_
        refine lv_aload_n hx hb dX5_dealOnce_34 rfl (lv_at hl 2 rfl) ?_
        refine va_get (D := D) (ci := 5) (v := .ref h_trial) (C := RX5) (T := TX5) (N := 10) hx hb hts uX5_dealOnce_X5 hown hK hP 0 rfl rfl 4 (by decide) (hts (.fieldLink RX5 33 "SpeaksForTheChair" "trial" "LSpeaksForTheChair$Standing;") (List.mem_of_getElem? (i := 3) rfl)) (fun _ h9 => h9) rfl dX5_dealOnce_35 ?_
        refine lv_iload_n hx hb dX5_dealOnce_38 rfl (lv_at hl 1 rfl) ?_
        obtain ⟨x12, hv_22, hf⟩ := ob1_some hf
        refine q_rVi (As := [.ref h_trial, .int x1]) (rest := []) (r := x12) ⟨hx, hb, hml, hown, hts⟩ (c_X5_isLoose l D cI cC cL cB h h_trial h_page h_laid h_draft h_now h_trial h_past h_sightings h_kept h_told h_laid_kinds h_laid_prices h_laid_persons h_laid_places h_laid_hours h_laid_weights h_laid_numbers x1 h_trial_rooms h_trial_bought h_trial_spoken h_trial_out h_trial_coins h_keptCount h_laid_pieces h_laid_roomsAtFirst h_laid_deeds h_laid_coins h_laid_law h_laid_kinds_c x12 hv_22) (cwV 2 hts gX5_dealOnce_X5_isLoose rfl rfl rfl (by decide +kernel) ⟨Nat.le_of_ble_eq_true rfl, Nat.le_of_ble_eq_true rfl⟩) hK hP [2, 0, 1, 3] rfl (va_recv hK hP (ci := 5) (q0 := 0) rfl rfl) rfl hl.1 rfl (Nat.le_of_ble_eq_true rfl) dX5_dealOnce_39 ⟨Nat.le_of_ble_eq_true rfl, Nat.le_of_ble_eq_true rfl⟩ ?_
        refine lv_if_eq (tgt := 70) hx hb dX5_dealOnce_42 (by decide) (fun c_23 => ?_) (fun c_23 => ?_)
        · have hf := ip c_23 hf
          cases hf
          exact J70 _ _ hP hD hS ls (lv_sub hl [2, 3, 1, 0] rfl)
        · have hf := im c_23 hf
          refine lv_aload_n hx hb dX5_dealOnce_45 rfl (lv_at hl 2 rfl) ?_
          refine va_get (D := D) (ci := 5) (v := .ref h_trial) (C := RX5) (T := TX5) (N := 10) hx hb hts uX5_dealOnce_X5 hown hK hP 0 rfl rfl 4 (by decide) (hts (.fieldLink RX5 33 "SpeaksForTheChair" "trial" "LSpeaksForTheChair$Standing;") (List.mem_of_getElem? (i := 3) rfl)) (fun _ h9 => h9) rfl dX5_dealOnce_46 ?_
          refine lv_iload_n hx hb dX5_dealOnce_49 rfl (lv_at hl 1 rfl) ?_
          refine lv_aload_n hx hb dX5_dealOnce_50 rfl (lv_at hl 2 rfl) ?_
          refine va_get (D := D) (ci := 5) (v := .ref h_laid) (C := RX5) (T := TX5) (N := 10) hx hb hts uX5_dealOnce_X5 hown hK hP 0 rfl rfl 1 (by decide) (hts (.fieldLink RX5 19 "SpeaksForTheChair" "laid" "LSpeaksForTheChair$House;") (List.mem_of_getElem? (i := 1) rfl)) (fun _ h9 => h9) rfl dX5_dealOnce_51 ?_
          refine lv_iload_n hx hb dX5_dealOnce_54 rfl (lv_at hl 1 rfl) ?_
          refine lv_aload_n hx hb dX5_dealOnce_55 rfl (lv_at hl 2 rfl) ?_
          refine va_get (D := D) (ci := 5) (v := .ref h_trial) (C := RX5) (T := TX5) (N := 10) hx hb hts uX5_dealOnce_X5 hown hK hP 0 rfl rfl 4 (by decide) (hts (.fieldLink RX5 33 "SpeaksForTheChair" "trial" "LSpeaksForTheChair$Standing;") (List.mem_of_getElem? (i := 3) rfl)) (fun _ h9 => h9) rfl dX5_dealOnce_56 ?_
          refine lv_iload_n hx hb dX5_dealOnce_59 rfl (lv_at hl 1 rfl) ?_
          obtain ⟨x13, hv_24, hf⟩ := ob1_some hf
          refine q_rVi (As := [.int x1]) (rest := [.int x1, .ref h_laid, .int x1, .ref h_trial]) (r := x13) ⟨hx, hb, hml, hown, hts⟩ (c_X4_roomOf l D cI cC cL cB h_trial x1 h_trial_rooms h_trial_bought h_trial_spoken h_trial_out h_trial_coins x13 hv_24) (cwV 1 hts gX5_dealOnce_X4_roomOf rfl rfl rfl (by decide +kernel) ⟨Nat.le_of_ble_eq_true rfl, Nat.le_of_ble_eq_true rfl⟩) hK hP [2] rfl (va_recv hK hP (ci := 4) (q0 := 2) rfl rfl) rfl hl.1 rfl (Nat.le_of_ble_eq_true rfl) dX5_dealOnce_60 ⟨Nat.le_of_ble_eq_true rfl, Nat.le_of_ble_eq_true rfl⟩ ?_
          obtain ⟨x14, hv_25, hf⟩ := ob1_some hf
          refine q_rVi (As := [.int x1, .int x13]) (rest := [.int x1, .ref h_trial]) (r := x14) ⟨hx, hb, hml, hown, hts⟩ (c_X0_toldBy l D cI cC cL cB h_laid h_laid_kinds h_laid_prices h_laid_persons h_laid_places h_laid_hours h_laid_weights h_laid_numbers x1 x13 h_laid_pieces h_laid_roomsAtFirst h_laid_deeds h_laid_coins h_laid_law h_laid_places_c h_laid_kinds_c h_laid_hours_c h_laid_weights_c x14 hv_25) (cwV 2 hts gX5_dealOnce_X0_toldBy rfl rfl rfl (by decide +kernel) ⟨Nat.le_of_ble_eq_true rfl, Nat.le_of_ble_eq_true rfl⟩) hK hP [1, 4, 3, 5, 6] rfl (va_recv hK hP (ci := 0) (q0 := 1) rfl rfl) rfl hl.1 rfl (Nat.le_of_ble_eq_true rfl) dX5_dealOnce_63 ⟨Nat.le_of_ble_eq_true rfl, Nat.le_of_ble_eq_true rfl⟩ ?_
          obtain ⟨x15, f16, f17, hv_26, hf⟩ := ob3_some hf
          refine q_wVi (As := [.int x1, .int x14]) (rest := []) (r := x15) (w1 := [(h_trial, .inr (4, [.int h_trial_rooms, .int h_trial_bought, .int f16, .int f17, .int h_trial_coins]))]) (wr := [(h, .inr (5, [.ref h_page, .ref h_laid, .ref h_draft, .ref h_now, .ref h_trial, .ref h_past, .ref h_sightings, .ref h_kept, .int h_keptCount, .ref h_told])), (h_laid, .inr (0, [.int h_laid_pieces, .ref h_laid_kinds, .ref h_laid_prices, .int h_laid_roomsAtFirst, .int h_laid_deeds, .ref h_laid_persons, .ref h_laid_places, .ref h_laid_hours, .ref h_laid_weights, .int h_laid_coins, .int h_laid_law, .ref h_laid_numbers])), (h_laid_kinds, .inl (cI, 8, .inl h_laid_kinds_c)), (h_laid_places, .inl (cI, 9, .inl h_laid_places_c)), (h_laid_hours, .inl (cI, 9, .inl h_laid_hours_c)), (h_laid_weights, .inl (cI, 9, .inl h_laid_weights_c)), (h_laid_prices, .inl (cI, 8, .inl h_laid_prices_c))]) (w2 := [(h, .inr (5, [.ref h_page, .ref h_laid, .ref h_draft, .ref h_now, .ref h_trial, .ref h_past, .ref h_sightings, .ref h_kept, .int h_keptCount, .ref h_told])), (h_laid, .inr (0, [.int h_laid_pieces, .ref h_laid_kinds, .ref h_laid_prices, .int h_laid_roomsAtFirst, .int h_laid_deeds, .ref h_laid_persons, .ref h_laid_places, .ref h_laid_hours, .ref h_laid_weights, .int h_laid_coins, .int h_laid_law, .ref h_laid_numbers])), (h_trial, .inr (4, [.int h_trial_rooms, .int h_trial_bought, .int f16, .int f17, .int h_trial_coins])), (h_laid_kinds, .inl (cI, 8, .inl h_laid_kinds_c)), (h_laid_places, .inl (cI, 9, .inl h_laid_places_c)), (h_laid_hours, .inl (cI, 9, .inl h_laid_hours_c)), (h_laid_weights, .inl (cI, 9, .inl h_laid_weights_c)), (h_laid_prices, .inl (cI, 8, .inl h_laid_prices_c))]) ⟨hx, hb, hml, hown, hts⟩ (c_X4_letSpeak l D cI cC cL cB s.heap.size h_trial x1 x14 h_trial_rooms h_trial_bought h_trial_spoken h_trial_out h_trial_coins x15 f16 f17 hv_26) (cwV 2 hts gX5_dealOnce_X4_letSpeak rfl rfl rfl (by decide +kernel) ⟨Nat.le_of_ble_eq_true rfl, Nat.le_of_ble_eq_true rfl⟩) hK hP hD hS hA [2] rfl (by decide) [0, 1, 3, 4, 5, 6, 7] rfl (by decide) (by decide) [0, 1, 7, 2, 3, 4, 5, 6] rfl (by decide) (va_recv hK hP (ci := 4) (q0 := 2) rfl rfl) rfl hl.1 rfl (Nat.le_of_ble_eq_true rfl) dX5_dealOnce_66 ⟨Nat.le_of_ble_eq_true rfl, Nat.le_of_ble_eq_true rfl⟩ (fun H locs hP hD hS => ?_)
          have hP : va_P D vwCl [(h, .inr (5, [.ref h_page, .ref h_laid, .ref h_draft, .ref h_now, .ref h_trial, .ref h_past, .ref h_sightings, .ref h_kept, .int h_keptCount, .ref h_told])), (h_laid, .inr (0, [.int h_laid_pieces, .ref h_laid_kinds, .ref h_laid_prices, .int h_laid_roomsAtFirst, .int h_laid_deeds, .ref h_laid_persons, .ref h_laid_places, .ref h_laid_hours, .ref h_laid_weights, .int h_laid_coins, .int h_laid_law, .ref h_laid_numbers])), (h_trial, .inr (4, [.int h_trial_rooms, .int h_trial_bought, .int f16, .int f17, .int h_trial_coins])), (h_laid_kinds, .inl (cI, 8, .inl h_laid_kinds_c)), (h_laid_places, .inl (cI, 9, .inl h_laid_places_c)), (h_laid_hours, .inl (cI, 9, .inl h_laid_hours_c)), (h_laid_weights, .inl (cI, 9, .inl h_laid_weights_c)), (h_laid_prices, .inl (cI, 8, .inl h_laid_prices_c))] H := hP
          have hD : va_D A [(h, .inr (5, [.ref h_page, .ref h_laid, .ref h_draft, .ref h_now, .ref h_trial, .ref h_past, .ref h_sightings, .ref h_kept, .int h_keptCount, .ref h_told])), (h_laid, .inr (0, [.int h_laid_pieces, .ref h_laid_kinds, .ref h_laid_prices, .int h_laid_roomsAtFirst, .int h_laid_deeds, .ref h_laid_persons, .ref h_laid_places, .ref h_laid_hours, .ref h_laid_weights, .int h_laid_coins, .int h_laid_law, .ref h_laid_numbers])), (h_trial, .inr (4, [.int h_trial_rooms, .int h_trial_bought, .int f16, .int f17, .int h_trial_coins])), (h_laid_kinds, .inl (cI, 8, .inl h_laid_kinds_c)), (h_laid_places, .inl (cI, 9, .inl h_laid_places_c)), (h_laid_hours, .inl (cI, 9, .inl h_laid_hours_c)), (h_laid_weights, .inl (cI, 9, .inl h_laid_weights_c)), (h_laid_prices, .inl (cI, 8, .inl h_laid_prices_c))] := hD
          refine lv_pop hx hb dX5_dealOnce_69 rfl ?_
          cases hf
          exact J70 _ _ hP hD hS ls (lv_sub hl [2, 3, 1, 0] rfl)
  · have hf := im c_1 hf
    cases hf
    exact W.vret hx hb hr (fun t ht hW => ⟨⟨(), rfl, trivial, by rw [ht]; exact hP, va_K.moved hW.alike hK, hD⟩, hS.F ht⟩) hS.2.2 dX5_dealOnce_11
