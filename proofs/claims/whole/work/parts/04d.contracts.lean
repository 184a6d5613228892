/-! contracts: X5_hushOne, X5_fillTold, X5_looseOnes, X5_toldBySet, X0_weightOf, X5_weightLeft, X5_save, X5_together, X5_cover, X5_safe, X5_loudest, X5_dealer -/
theorem uX5_hushOne_X4 : ∀ w ∈ wsX40, w ∈ wsX5_hushOne := fun w h => List.mem_cons_of_mem _ (List.mem_append_left _ (List.mem_append_right _ h))
theorem uX5_hushOne_X5 : ∀ w ∈ wsX50, w ∈ wsX5_hushOne := fun w h => List.mem_cons_of_mem _ (List.mem_append_left _ (List.mem_append_left _ (List.mem_append_right _ h)))
set_option maxHeartbeats 4000000 in
set_option maxRecDepth 100000 in
theorem c_X5_hushOne (l : Launch) (D : va_G) (cI cC cL cB : ClassId) (h : Nat) (h_page : Nat) (h_laid : Nat) (h_draft : Nat) (h_now : Nat) (h_trial : Nat) (h_past : Nat) (h_sightings : Nat) (h_kept : Nat) (h_told : Nat) (h_laid_kinds : Nat) (h_laid_prices : Nat) (h_laid_persons : Nat) (h_laid_places : Nat) (h_laid_hours : Nat) (h_laid_weights : Nat) (h_laid_numbers : Nat) (a1 : Int32) (a2 : Int32) (h_keptCount : Int32) (h_laid_pieces : Int32) (h_laid_roomsAtFirst : Int32) (h_laid_deeds : Int32) (h_laid_coins : Int32) (h_laid_law : Int32) (h_laid_persons_c : Nat → Int32) (h_now_rooms : Int32) (h_now_bought : Int32) (h_now_spoken : Int32) (h_now_out : Int32) (h_now_coins : Int32) (h_laid_kinds_c : Nat → Int32) (h_laid_places_c : Nat → Int32) (h_laid_hours_c : Nat → Int32) (h_laid_weights_c : Nat → Int32) (h_laid_prices_c : Nat → Int32) (r : Int32) (hf : m_X5_hushOne a1 a2 h_laid_pieces h_laid_deeds h_laid_law h_laid_persons_c h_now_rooms h_now_bought h_now_spoken h_now_out h_laid_kinds_c h_laid_places_c h_laid_hours_c h_laid_weights_c h_laid_prices_c = some r) : Met l yX5_hushOne wsX5_hushOne ({ frames := 5, cells := 0, slots := 0, locals := 121 }) (va_Pc [.ref h, .int a1, .int a2] (q_R D vwCl (tyL cI cC cL cB) [(h, .inr (5, [.ref h_page, .ref h_laid, .ref h_draft, .ref h_now, .ref h_trial, .ref h_past, .ref h_sightings, .ref h_kept, .int h_keptCount, .ref h_told])), (h_laid, .inr (0, [.int h_laid_pieces, .ref h_laid_kinds, .ref h_laid_prices, .int h_laid_roomsAtFirst, .int h_laid_deeds, .ref h_laid_persons, .ref h_laid_places, .ref h_laid_hours, .ref h_laid_weights, .int h_laid_coins, .int h_laid_law, .ref h_laid_numbers])), (h_laid_persons, .inl (cI, 9, .inl h_laid_persons_c)), (h_now, .inr (4, [.int h_now_rooms, .int h_now_bought, .int h_now_spoken, .int h_now_out, .int h_now_coins])), (h_laid_kinds, .inl (cI, 8, .inl h_laid_kinds_c)), (h_laid_places, .inl (cI, 9, .inl h_laid_places_c)), (h_laid_hours, .inl (cI, 9, .inl h_laid_hours_c)), (h_laid_weights, .inl (cI, 9, .inl h_laid_weights_c)), (h_laid_prices, .inl (cI, 8, .inl h_laid_prices_c))])) (vp_Si (fun r' => r' = r)) 0 0 (fun _ => False) := by
  refine Met.ofW (cc := cX5_hushOne) (maxL := 3) (ret := (some .int)) (by decide) rfl ?_
  intro p e s m args below meth c s₁ B hml hv
  obtain ⟨rfl, hP, hK⟩ := hv
  have hx := B.exec
  have hb := B.bytes
  have hr := B.returns
  have hts := atoms_spec (ws := wsX5_hushOne) B.pre
  have hown : s.vm.findClass RX5 = some m.cls := findClass_of_methodNamed B.named
  have hlocks := B.notSynchronized
  have hl := lv_entry ([.ref h, .int a1, .int a2]) (n := 3) (Nat.le_of_ble_eq_true rfl)
  rw [lg_entry_eq]
  generalize (lg_sl ([.ref h, .int a1, .int a2]) ++ List.replicate (3 - (lg_sl ([.ref h, .int a1, .int a2])).length) Slot.unset).toArray = ls at hl ⊢
  have hl : lv_has ls 3 [(0, .ref h), (1, .int a1), (2, .int a2)] := hl
  unfold m_X5_hushOne at hf
  refine lv_iload_n hx hb dX5_hushOne_0 rfl (lv_at hl 1 rfl) ?_
  obtain ⟨x1, hv_1, hf⟩ := ob1_some hf
  refine q_rSi (As := [.int a1]) (rest := []) (r := x1) ⟨hx, hb, hml, hown, hts⟩ (c_X5_isPerson l D cI cC cL cB a1 x1 hv_1) (va_cwS 1 hts gX5_hushOne_X5_isPerson rfl rfl rfl (by decide +kernel) ⟨Nat.le_of_ble_eq_true rfl, Nat.le_of_ble_eq_true rfl⟩) hK hP [] rfl rfl hl.1 rfl (Nat.le_of_ble_eq_true rfl) dX5_hushOne_1 ⟨Nat.le_of_ble_eq_true rfl, Nat.le_of_ble_eq_true rfl⟩ ?_
  refine lv_if_eq (tgt := 16) hx hb dX5_hushOne_4 (by decide) (fun c_2 => ?_) (fun c_2 => ?_)
  · have hf := ip c_2 hf
    refine lv_iconst (v := (-1)) hx hb dX5_hushOne_16 (by decide) ?_
    cases hf
    exact W.iret hx hb hr (fun t ht hW => ⟨_, rfl, rfl, ht⟩) (fun _ h => by cases h) dX5_hushOne_17
  · have hf := im c_2 hf
    refine lv_iload_n hx hb dX5_hushOne_7 rfl (lv_at hl 2 rfl) ?_
    refine lv_iconst (v := 0) hx hb dX5_hushOne_8 (by decide) ?_
    refine lv_iconst (v := 1) hx hb dX5_hushOne_9 (by decide) ?_
    obtain ⟨x2, hv_3, hf⟩ := ob1_some hf
    refine q_rSi (As := [.int a2, .int 0, .int 1]) (rest := []) (r := x2) ⟨hx, hb, hml, hown, hts⟩ (c_X5_isWithin l D cI cC cL cB a2 ((0 : Int32)) ((1 : Int32)) x2 hv_3) (va_cwS 3 hts gX5_hushOne_X5_isWithin rfl rfl rfl (by decide +kernel) ⟨Nat.le_of_ble_eq_true rfl, Nat.le_of_ble_eq_true rfl⟩) hK hP [] rfl rfl hl.1 rfl (Nat.le_of_ble_eq_true rfl) dX5_hushOne_10 ⟨Nat.le_of_ble_eq_true rfl, Nat.le_of_ble_eq_true rfl⟩ ?_
    refine lv_if_ne (tgt := 18) hx hb dX5_hushOne_13 (by decide) (fun c_4 => ?_) (fun c_4 => ?_)
    · have hf := im c_4 hf
      refine lv_aload_n hx hb dX5_hushOne_18 rfl (lv_at hl 0 rfl) ?_
      refine lv_aload_n hx hb dX5_hushOne_19 rfl (lv_at hl 0 rfl) ?_
      refine va_get (D := D) (ci := 5) (v := .ref h_laid) (C := RX5) (T := TX5) (N := 10) hx hb hts uX5_hushOne_X5 hown hK hP 0 rfl rfl 1 (by decide) (hts (.fieldLink RX5 19 "SpeaksForTheChair" "laid" "LSpeaksForTheChair$House;") (List.mem_of_getElem? (i := 1) rfl)) (fun _ h9 => h9) rfl dX5_hushOne_20 ?_
      refine lv_iload_n hx hb dX5_hushOne_23 rfl (lv_at hl 1 rfl) ?_
      obtain ⟨x3, hv_5, hf⟩ := ob1_some hf
      refine q_rVi (As := [.int a1]) (rest := [.ref h]) (r := x3) ⟨hx, hb, hml, hown, hts⟩ (c_X0_deedsOf l D cI cC cL cB h_laid h_laid_kinds h_laid_prices h_laid_persons h_laid_places h_laid_hours h_laid_weights h_laid_numbers a1 h_laid_pieces h_laid_roomsAtFirst h_laid_deeds h_laid_coins h_laid_law h_laid_persons_c x3 hv_5) (cwV 1 hts gX5_hushOne_X0_deedsOf rfl rfl rfl (by decide +kernel) ⟨Nat.le_of_ble_eq_true rfl, Nat.le_of_ble_eq_true rfl⟩) hK hP [1, 2] rfl (va_recv hK hP (ci := 0) (q0 := 1) rfl rfl) rfl hl.1 rfl (Nat.le_of_ble_eq_true rfl) dX5_hushOne_24 ⟨Nat.le_of_ble_eq_true rfl, Nat.le_of_ble_eq_true rfl⟩ ?_
      refine lv_aload_n hx hb dX5_hushOne_27 rfl (lv_at hl 0 rfl) ?_
      refine va_get (D := D) (ci := 5) (v := .ref h_now) (C := RX5) (T := TX5) (N := 10) hx hb hts uX5_hushOne_X5 hown hK hP 0 rfl rfl 3 (by decide) (hts (.fieldLink RX5 29 "SpeaksForTheChair" "now" "LSpeaksForTheChair$Standing;") (List.mem_of_getElem? (i := 2) rfl)) (fun _ h9 => h9) rfl dX5_hushOne_28 ?_
      refine va_get (D := D) (ci := 4) (v := .int h_now_out) (C := RX4) (T := TX4) (N := 5) hx hb hts uX5_hushOne_X4 hown hK hP 3 rfl rfl 3 (by decide) (hts (.fieldLink RX5 191 "SpeaksForTheChair$Standing" "out" "I") (List.mem_of_getElem? (i := 3) rfl)) (fun _ h9 => h9) rfl dX5_hushOne_31 ?_
      refine lv_iconst (v := (-1)) hx hb dX5_hushOne_34 (by decide) ?_
      refine lv_ixor hx hb dX5_hushOne_35 ?_
      refine lv_iand hx hb dX5_hushOne_36 ?_
      refine lv_iload_n hx hb dX5_hushOne_37 rfl (lv_at hl 2 rfl) ?_
      obtain ⟨x4, hv_6, hf⟩ := ob1_some hf
      refine q_rVi (As := [.int (x3 &&& (h_now_out ^^^ (-1))), .int a2]) (rest := []) (r := x4) ⟨hx, hb, hml, hown, hts⟩ (c_X5_silence l D cI cC cL cB h h_page h_laid h_draft h_now h_trial h_past h_sightings h_kept h_told h_laid_kinds h_laid_prices h_laid_persons h_laid_places h_laid_hours h_laid_weights h_laid_numbers ((x3 &&& (h_now_out ^^^ (-1)))) a2 h_keptCount h_laid_pieces h_laid_roomsAtFirst h_laid_deeds h_laid_coins h_laid_law h_now_rooms h_now_bought h_now_spoken h_now_out h_now_coins h_laid_kinds_c h_laid_places_c h_laid_hours_c h_laid_weights_c h_laid_prices_c x4 hv_6) (cwV 2 hts gX5_hushOne_X5_silence rfl rfl rfl (by decide +kernel) ⟨Nat.le_of_ble_eq_true rfl, Nat.le_of_ble_eq_true rfl⟩) hK hP [0, 1, 3, 4, 5, 6, 7, 8] rfl (va_recv hK hP (ci := 5) (q0 := 0) rfl rfl) rfl hl.1 rfl (Nat.le_of_ble_eq_true rfl) dX5_hushOne_38 ⟨Nat.le_of_ble_eq_true rfl, Nat.le_of_ble_eq_true rfl⟩ ?_
      cases hf
      exact W.iret hx hb hr (fun t ht hW => ⟨_, rfl, rfl, ht⟩) (fun _ h => by cases h) dX5_hushOne_41
    · have hf := ip c_4 hf
      refine lv_iconst (v := (-1)) hx hb dX5_hushOne_16 (by decide) ?_
      cases hf
      exact W.iret hx hb hr (fun t ht hW => ⟨_, rfl, rfl, ht⟩) (fun _ h => by cases h) dX5_hushOne_17
theorem uX5_fillTold_X0 : ∀ w ∈ wsX00, w ∈ wsX5_fillTold := fun w h => List.mem_cons_of_mem _ (List.mem_append_left _ (List.mem_append_right _ h))
theorem uX5_fillTold_X5 : ∀ w ∈ wsX50, w ∈ wsX5_fillTold := fun w h => List.mem_cons_of_mem _ (List.mem_append_left _ (List.mem_append_left _ (List.mem_append_right _ h)))
set_option maxHeartbeats 4000000 in
set_option maxRecDepth 100000 in
theorem c_X5_fillTold (l : Launch) (D : va_G) (cI cC cL cB : ClassId) (sz : Nat) (h : Nat) (h_page : Nat) (h_laid : Nat) (h_draft : Nat) (h_now : Nat) (h_trial : Nat) (h_past : Nat) (h_sightings : Nat) (h_kept : Nat) (h_told : Nat) (h_laid_kinds : Nat) (h_laid_prices : Nat) (h_laid_persons : Nat) (h_laid_places : Nat) (h_laid_hours : Nat) (h_laid_weights : Nat) (h_laid_numbers : Nat) (h_keptCount : Int32) (h_laid_pieces : Int32) (h_laid_roomsAtFirst : Int32) (h_laid_deeds : Int32) (h_laid_coins : Int32) (h_laid_law : Int32) (h_now_rooms : Int32) (h_now_bought : Int32) (h_now_spoken : Int32) (h_now_out : Int32) (h_now_coins : Int32) (h_laid_places_c : Nat → Int32) (h_laid_kinds_c : Nat → Int32) (h_laid_hours_c : Nat → Int32) (h_laid_weights_c : Nat → Int32) (h_told_c : Nat → Int32) (o0 : Nat → Int32) (hf : m_X5_fillTold h_laid_pieces h_laid_deeds h_now_rooms h_laid_places_c h_laid_kinds_c h_laid_hours_c h_laid_weights_c h_told_c = some o0) : Met l yX5_fillTold wsX5_fillTold ({ frames := 3, cells := 0, slots := 0, locals := 75 }) (va_Pc [.ref h] (q_W D vwCl (tyL cI cC cL cB) [(h, .inr (5, [.ref h_page, .ref h_laid, .ref h_draft, .ref h_now, .ref h_trial, .ref h_past, .ref h_sightings, .ref h_kept, .int h_keptCount, .ref h_told])), (h_laid, .inr (0, [.int h_laid_pieces, .ref h_laid_kinds, .ref h_laid_prices, .int h_laid_roomsAtFirst, .int h_laid_deeds, .ref h_laid_persons, .ref h_laid_places, .ref h_laid_hours, .ref h_laid_weights, .int h_laid_coins, .int h_laid_law, .ref h_laid_numbers])), (h_now, .inr (4, [.int h_now_rooms, .int h_now_bought, .int h_now_spoken, .int h_now_out, .int h_now_coins])), (h_laid_places, .inl (cI, 9, .inl h_laid_places_c)), (h_laid_kinds, .inl (cI, 8, .inl h_laid_kinds_c)), (h_laid_hours, .inl (cI, 9, .inl h_laid_hours_c)), (h_laid_weights, .inl (cI, 9, .inl h_laid_weights_c)), (h_told, .inl (cI, 8, .inl h_told_c))] sz)) (va_Qv (fun _ : Unit => True) (q_E D vwCl (tyL cI cC cL cB) (va_A [(h, .inr (5, [.ref h_page, .ref h_laid, .ref h_draft, .ref h_now, .ref h_trial, .ref h_past, .ref h_sightings, .ref h_kept, .int h_keptCount, .ref h_told])), (h_laid, .inr (0, [.int h_laid_pieces, .ref h_laid_kinds, .ref h_laid_prices, .int h_laid_roomsAtFirst, .int h_laid_deeds, .ref h_laid_persons, .ref h_laid_places, .ref h_laid_hours, .ref h_laid_weights, .int h_laid_coins, .int h_laid_law, .ref h_laid_numbers])), (h_now, .inr (4, [.int h_now_rooms, .int h_now_bought, .int h_now_spoken, .int h_now_out, .int h_now_coins])), (h_laid_places, .inl (cI, 9, .inl h_laid_places_c)), (h_laid_kinds, .inl (cI, 8, .inl h_laid_kinds_c)), (h_laid_hours, .inl (cI, 9, .inl h_laid_hours_c)), (h_laid_weights, .inl (cI, 9, .inl h_laid_weights_c)), (h_told, .inl (cI, 8, .inl h_told_c))] sz) [(h, .inr (5, [.ref h_page, .ref h_laid, .ref h_draft, .ref h_now, .ref h_trial, .ref h_past, .ref h_sightings, .ref h_kept, .int h_keptCount, .ref h_told])), (h_laid, .inr (0, [.int h_laid_pieces, .ref h_laid_kinds, .ref h_laid_prices, .int h_laid_roomsAtFirst, .int h_laid_deeds, .ref h_laid_persons, .ref h_laid_places, .ref h_laid_hours, .ref h_laid_weights, .int h_laid_coins, .int h_laid_law, .ref h_laid_numbers])), (h_now, .inr (4, [.int h_now_rooms, .int h_now_bought, .int h_now_spoken, .int h_now_out, .int h_now_coins])), (h_laid_places, .inl (cI, 9, .inl h_laid_places_c)), (h_laid_kinds, .inl (cI, 8, .inl h_laid_kinds_c)), (h_laid_hours, .inl (cI, 9, .inl h_laid_hours_c)), (h_laid_weights, .inl (cI, 9, .inl h_laid_weights_c)), (h_told, .inl (cI, 8, .inl o0))]) (va_A [(h, .inr (5, [.ref h_page, .ref h_laid, .ref h_draft, .ref h_now, .ref h_trial, .ref h_past, .ref h_sightings, .ref h_kept, .int h_keptCount, .ref h_told])), (h_laid, .inr (0, [.int h_laid_pieces, .ref h_laid_kinds, .ref h_laid_prices, .int h_laid_roomsAtFirst, .int h_laid_deeds, .ref h_laid_persons, .ref h_laid_places, .ref h_laid_hours, .ref h_laid_weights, .int h_laid_coins, .int h_laid_law, .ref h_laid_numbers])), (h_now, .inr (4, [.int h_now_rooms, .int h_now_bought, .int h_now_spoken, .int h_now_out, .int h_now_coins])), (h_laid_places, .inl (cI, 9, .inl h_laid_places_c)), (h_laid_kinds, .inl (cI, 8, .inl h_laid_kinds_c)), (h_laid_hours, .inl (cI, 9, .inl h_laid_hours_c)), (h_laid_weights, .inl (cI, 9, .inl h_laid_weights_c)), (h_told, .inl (cI, 8, .inl h_told_c))] sz)) 0 0 (va_A [(h, .inr (5, [.ref h_page, .ref h_laid, .ref h_draft, .ref h_now, .ref h_trial, .ref h_past, .ref h_sightings, .ref h_kept, .int h_keptCount, .ref h_told])), (h_laid, .inr (0, [.int h_laid_pieces, .ref h_laid_kinds, .ref h_laid_prices, .int h_laid_roomsAtFirst, .int h_laid_deeds, .ref h_laid_persons, .ref h_laid_places, .ref h_laid_hours, .ref h_laid_weights, .int h_laid_coins, .int h_laid_law, .ref h_laid_numbers])), (h_now, .inr (4, [.int h_now_rooms, .int h_now_bought, .int h_now_spoken, .int h_now_out, .int h_now_coins])), (h_laid_places, .inl (cI, 9, .inl h_laid_places_c)), (h_laid_kinds, .inl (cI, 8, .inl h_laid_kinds_c)), (h_laid_hours, .inl (cI, 9, .inl h_laid_hours_c)), (h_laid_weights, .inl (cI, 9, .inl h_laid_weights_c)), (h_told, .inl (cI, 8, .inl h_told_c))] sz) := by
  refine Met.ofW (cc := cX5_fillTold) (maxL := 2) (ret := none) (by decide) rfl ?_
  intro p e s m args below meth c s₁ B hml hv
  obtain ⟨rfl, hsz, hP, hK, hD0⟩ := hv
  have hx := B.exec
  have hb := B.bytes
  have hr := B.returns
  have hts := atoms_spec (ws := wsX5_fillTold) B.pre
  have hown : s.vm.findClass RX5 = some m.cls := findClass_of_methodNamed B.named
  have hlocks := B.notSynchronized
  subst hsz
  have hD := hD0.self (sz := s.heap.size)
  generalize hAe : va_A [(h, .inr (5, [.ref h_page, .ref h_laid, .ref h_draft, .ref h_now, .ref h_trial, .ref h_past, .ref h_sightings, .ref h_kept, .int h_keptCount, .ref h_told])), (h_laid, .inr (0, [.int h_laid_pieces, .ref h_laid_kinds, .ref h_laid_prices, .int h_laid_roomsAtFirst, .int h_laid_deeds, .ref h_laid_persons, .ref h_laid_places, .ref h_laid_hours, .ref h_laid_weights, .int h_laid_coins, .int h_laid_law, .ref h_laid_numbers])), (h_now, .inr (4, [.int h_now_rooms, .int h_now_bought, .int h_now_spoken, .int h_now_out, .int h_now_coins])), (h_laid_places, .inl (cI, 9, .inl h_laid_places_c)), (h_laid_kinds, .inl (cI, 8, .inl h_laid_kinds_c)), (h_laid_hours, .inl (cI, 9, .inl h_laid_hours_c)), (h_laid_weights, .inl (cI, 9, .inl h_laid_weights_c)), (h_told, .inl (cI, 8, .inl h_told_c))] s.heap.size = A at hD ⊢
  have hA : ∀ q : Nat, s.heap.size ≤ q → A q := fun q h => by rw [← hAe]; exact Or.inr h
  have hS : va_S A s.heap s.heap [] := va_S.rf
  have hP : va_P D vwCl [(h, .inr (5, [.ref h_page, .ref h_laid, .ref h_draft, .ref h_now, .ref h_trial, .ref h_past, .ref h_sightings, .ref h_kept, .int h_keptCount, .ref h_told])), (h_laid, .inr (0, [.int h_laid_pieces, .ref h_laid_kinds, .ref h_laid_prices, .int h_laid_roomsAtFirst, .int h_laid_deeds, .ref h_laid_persons, .ref h_laid_places, .ref h_laid_hours, .ref h_laid_weights, .int h_laid_coins, .int h_laid_law, .ref h_laid_numbers])), (h_now, .inr (4, [.int h_now_rooms, .int h_now_bought, .int h_now_spoken, .int h_now_out, .int h_now_coins])), (h_laid_places, .inl (cI, 9, .inl h_laid_places_c)), (h_laid_kinds, .inl (cI, 8, .inl h_laid_kinds_c)), (h_laid_hours, .inl (cI, 9, .inl h_laid_hours_c)), (h_laid_weights, .inl (cI, 9, .inl h_laid_weights_c)), (h_told, .inl (cI, 8, .inl h_told_c))] s.heap := hP
  have hl := lv_entry ([.ref h]) (n := 2) (Nat.le_of_ble_eq_true rfl)
  rw [lg_entry_eq]
  generalize (lg_sl ([.ref h]) ++ List.replicate (2 - (lg_sl ([.ref h])).length) Slot.unset).toArray = ls at hl ⊢
  have hl : lv_has ls 2 [(0, .ref h)] := hl
  unfold m_X5_fillTold at hf
  refine lv_iconst (v := 0) hx hb dX5_fillTold_0 (by decide) ?_
  refine lv_istore_n (lv' := [(1, .int 0), (0, .ref h)]) hx hb dX5_fillTold_1 rfl hl (by decide) rfl (fun ls hl => ?_)
  have loop2 : ∀ (n : Nat) (c1 : Nat → Int32) (x2 : Int32), ∀ (H : Heap) (locs : List Loc), va_P D vwCl [(h, .inr (5, [.ref h_page, .ref h_laid, .ref h_draft, .ref h_now, .ref h_trial, .ref h_past, .ref h_sightings, .ref h_kept, .int h_keptCount, .ref h_told])), (h_laid, .inr (0, [.int h_laid_pieces, .ref h_laid_kinds, .ref h_laid_prices, .int h_laid_roomsAtFirst, .int h_laid_deeds, .ref h_laid_persons, .ref h_laid_places, .ref h_laid_hours, .ref h_laid_weights, .int h_laid_coins, .int h_laid_law, .ref h_laid_numbers])), (h_now, .inr (4, [.int h_now_rooms, .int h_now_bought, .int h_now_spoken, .int h_now_out, .int h_now_coins])), (h_laid_places, .inl (cI, 9, .inl h_laid_places_c)), (h_laid_kinds, .inl (cI, 8, .inl h_laid_kinds_c)), (h_laid_hours, .inl (cI, 9, .inl h_laid_hours_c)), (h_laid_weights, .inl (cI, 9, .inl h_laid_weights_c)), (h_told, .inl (cI, 8, .inl c1))] H → va_D A [(h, .inr (5, [.ref h_page, .ref h_laid, .ref h_draft, .ref h_now, .ref h_trial, .ref h_past, .ref h_sightings, .ref h_kept, .int h_keptCount, .ref h_told])), (h_laid, .inr (0, [.int h_laid_pieces, .ref h_laid_kinds, .ref h_laid_prices, .int h_laid_roomsAtFirst, .int h_laid_deeds, .ref h_laid_persons, .ref h_laid_places, .ref h_laid_hours, .ref h_laid_weights, .int h_laid_coins, .int h_laid_law, .ref h_laid_numbers])), (h_now, .inr (4, [.int h_now_rooms, .int h_now_bought, .int h_now_spoken, .int h_now_out, .int h_now_coins])), (h_laid_places, .inl (cI, 9, .inl h_laid_places_c)), (h_laid_kinds, .inl (cI, 8, .inl h_laid_kinds_c)), (h_laid_hours, .inl (cI, 9, .inl h_laid_hours_c)), (h_laid_weights, .inl (cI, 9, .inl h_laid_weights_c)), (h_told, .inl (cI, 8, .inl c1))] → va_S A s.heap H locs → ∀ (ls : Array Slot), lv_has ls 2 [(0, .ref h), (1, .int x2)] → ∀ (c3 : Nat → Int32), L_X5_fillTold_2 h_laid_pieces h_now_rooms h_laid_deeds h_laid_places_c h_laid_kinds_c h_laid_hours_c h_laid_weights_c n c1 x2 = some c3 → (∀ (H : Heap) (locs : List Loc), va_P D vwCl [(h, .inr (5, [.ref h_page, .ref h_laid, .ref h_draft, .ref h_now, .ref h_trial, .ref h_past, .ref h_sightings, .ref h_kept, .int h_keptCount, .ref h_told])), (h_laid, .inr (0, [.int h_laid_pieces, .ref h_laid_kinds, .ref h_laid_prices, .int h_laid_roomsAtFirst, .int h_laid_deeds, .ref h_laid_persons, .ref h_laid_places, .ref h_laid_hours, .ref h_laid_weights, .int h_laid_coins, .int h_laid_law, .ref h_laid_numbers])), (h_now, .inr (4, [.int h_now_rooms, .int h_now_bought, .int h_now_spoken, .int h_now_out, .int h_now_coins])), (h_laid_places, .inl (cI, 9, .inl h_laid_places_c)), (h_laid_kinds, .inl (cI, 8, .inl h_laid_kinds_c)), (h_laid_hours, .inl (cI, 9, .inl h_laid_hours_c)), (h_laid_weights, .inl (cI, 9, .inl h_laid_weights_c)), (h_told, .inl (cI, 8, .inl c3))] H → va_D A [(h, .inr (5, [.ref h_page, .ref h_laid, .ref h_draft, .ref h_now, .ref h_trial, .ref h_past, .ref h_sightings, .ref h_kept, .int h_keptCount, .ref h_told])), (h_laid, .inr (0, [.int h_laid_pieces, .ref h_laid_kinds, .ref h_laid_prices, .int h_laid_roomsAtFirst, .int h_laid_deeds, .ref h_laid_persons, .ref h_laid_places, .ref h_laid_hours, .ref h_laid_weights, .int h_laid_coins, .int h_laid_law, .ref h_laid_numbers])), (h_now, .inr (4, [.int h_now_rooms, .int h_now_bought, .int h_now_spoken, .int h_now_out, .int h_now_coins])), (h_laid_places, .inl (cI, 9, .inl h_laid_places_c)), (h_laid_kinds, .inl (cI, 8, .inl h_laid_kinds_c)), (h_laid_hours, .inl (cI, 9, .inl h_laid_hours_c)), (h_laid_weights, .inl (cI, 9, .inl h_laid_weights_c)), (h_told, .inl (cI, 8, .inl c3))] → va_S A s.heap H locs → ∀ (ls : Array Slot), lv_has ls 2 [] → W p l e (headSpec wsX5_fillTold ({ frames := 3, cells := 0, slots := 0, locals := 75 })).room s m ([.ref h] : List Value).toArray below meth c H locs 0 0 (MQ below (va_Qv (fun _ : Unit => True) (q_E D vwCl (tyL cI cC cL cB) A [(h, .inr (5, [.ref h_page, .ref h_laid, .ref h_draft, .ref h_now, .ref h_trial, .ref h_past, .ref h_sightings, .ref h_kept, .int h_keptCount, .ref h_told])), (h_laid, .inr (0, [.int h_laid_pieces, .ref h_laid_kinds, .ref h_laid_prices, .int h_laid_roomsAtFirst, .int h_laid_deeds, .ref h_laid_persons, .ref h_laid_places, .ref h_laid_hours, .ref h_laid_weights, .int h_laid_coins, .int h_laid_law, .ref h_laid_numbers])), (h_now, .inr (4, [.int h_now_rooms, .int h_now_bought, .int h_now_spoken, .int h_now_out, .int h_now_coins])), (h_laid_places, .inl (cI, 9, .inl h_laid_places_c)), (h_laid_kinds, .inl (cI, 8, .inl h_laid_kinds_c)), (h_laid_hours, .inl (cI, 9, .inl h_laid_hours_c)), (h_laid_weights, .inl (cI, 9, .inl h_laid_weights_c)), (h_told, .inl (cI, 8, .inl o0))]) A) ([.ref h] : List Value).toArray s 0 0 A) (F0 m 41 ls [])) → W p l e (headSpec wsX5_fillTold ({ frames := 3, cells := 0, slots := 0, locals := 75 })).room s m ([.ref h] : List Value).toArray below meth c H locs 0 0 (MQ below (va_Qv (fun _ : Unit => True) (q_E D vwCl (tyL cI cC cL cB) A [(h, .inr (5, [.ref h_page, .ref h_laid, .ref h_draft, .ref h_now, .ref h_trial, .ref h_past, .ref h_sightings, .ref h_kept, .int h_keptCount, .ref h_told])), (h_laid, .inr (0, [.int h_laid_pieces, .ref h_laid_kinds, .ref h_laid_prices, .int h_laid_roomsAtFirst, .int h_laid_deeds, .ref h_laid_persons, .ref h_laid_places, .ref h_laid_hours, .ref h_laid_weights, .int h_laid_coins, .int h_laid_law, .ref h_laid_numbers])), (h_now, .inr (4, [.int h_now_rooms, .int h_now_bought, .int h_now_spoken, .int h_now_out, .int h_now_coins])), (h_laid_places, .inl (cI, 9, .inl h_laid_places_c)), (h_laid_kinds, .inl (cI, 8, .inl h_laid_kinds_c)), (h_laid_hours, .inl (cI, 9, .inl h_laid_hours_c)), (h_laid_weights, .inl (cI, 9, .inl h_laid_weights_c)), (h_told, .inl (cI, 8, .inl o0))]) A) ([.ref h] : List Value).toArray s 0 0 A) (F0 m 2 ls []) := by
    intro n
    induction n with
    | zero =>
      intro c1 x2 H locs hP hD hS ls hl c3 hf KX
      rw [L_X5_fillTold_2] at hf
      cases hf
    | succ n ih =>
      intro c1 x2 H locs hP hD hS ls hl c3 hf KX
      rw [L_X5_fillTold_2] at hf
      refine lv_iload_n hx hb dX5_fillTold_2 rfl (lv_at hl 1 rfl) ?_
      refine lv_aload_n hx hb dX5_fillTold_3 rfl (lv_at hl 0 rfl) ?_
      refine va_get (D := D) (ci := 5) (v := .ref h_laid) (C := RX5) (T := TX5) (N := 10) hx hb hts uX5_fillTold_X5 hown hK hP 0 rfl rfl 1 (by decide) (hts (.fieldLink RX5 19 "SpeaksForTheChair" "laid" "LSpeaksForTheChair$House;") (List.mem_of_getElem? (i := 1) rfl)) (fun _ h9 => h9) rfl dX5_fillTold_4 ?_
      refine va_get (D := D) (ci := 0) (v := .int h_laid_pieces) (C := RX0) (T := TX0) (N := 12) hx hb hts uX5_fillTold_X0 hown hK hP 1 rfl rfl 0 (by decide) (hts (.fieldLink RX5 91 "SpeaksForTheChair$House" "pieces" "I") (List.mem_of_getElem? (i := 2) rfl)) (fun _ h9 => h9) rfl dX5_fillTold_7 ?_
      refine lv_icmp_ge (tgt := 41) hx hb dX5_fillTold_10 (by decide) (fun c_8 => ?_) (fun c_8 => ?_)
      · have hf := ip c_8 hf
        cases hf
        exact KX _ _ hP hD hS ls (lv_sub hl [] rfl)
      · have hf := im c_8 hf
        refine lv_aload_n hx hb dX5_fillTold_13 rfl (lv_at hl 0 rfl) ?_
        refine va_get (D := D) (ci := 5) (v := .ref h_told) (C := RX5) (T := TX5) (N := 10) hx hb hts uX5_fillTold_X5 hown hK hP 0 rfl rfl 9 (by decide) (hts (.fieldLink RX5 54 "SpeaksForTheChair" "told" "[I") (List.mem_of_getElem? (i := 3) rfl)) (fun _ h9 => h9) rfl dX5_fillTold_14 ?_
        refine lv_iload_n hx hb dX5_fillTold_17 rfl (lv_at hl 1 rfl) ?_
        refine lv_aload_n hx hb dX5_fillTold_18 rfl (lv_at hl 0 rfl) ?_
        refine va_get (D := D) (ci := 5) (v := .ref h_laid) (C := RX5) (T := TX5) (N := 10) hx hb hts uX5_fillTold_X5 hown hK hP 0 rfl rfl 1 (by decide) (hts (.fieldLink RX5 19 "SpeaksForTheChair" "laid" "LSpeaksForTheChair$House;") (List.mem_of_getElem? (i := 1) rfl)) (fun _ h9 => h9) rfl dX5_fillTold_19 ?_
        refine lv_iload_n hx hb dX5_fillTold_22 rfl (lv_at hl 1 rfl) ?_
        refine lv_aload_n hx hb dX5_fillTold_23 rfl (lv_at hl 0 rfl) ?_
        refine va_get (D := D) (ci := 5) (v := .ref h_now) (C := RX5) (T := TX5) (N := 10) hx hb hts uX5_fillTold_X5 hown hK hP 0 rfl rfl 3 (by decide) (hts (.fieldLink RX5 29 "SpeaksForTheChair" "now" "LSpeaksForTheChair$Standing;") (List.mem_of_getElem? (i := 4) rfl)) (fun _ h9 => h9) rfl dX5_fillTold_24 ?_
        refine lv_iload_n hx hb dX5_fillTold_27 rfl (lv_at hl 1 rfl) ?_
        obtain ⟨x4, hv_9, hf⟩ := ob1_some hf
        refine q_rVi (As := [.int x2]) (rest := [.int x2, .ref h_laid, .int x2, .ref h_told]) (r := x4) ⟨hx, hb, hml, hown, hts⟩ (c_X4_roomOf l D cI cC cL cB h_now x2 h_now_rooms h_now_bought h_now_spoken h_now_out h_now_coins x4 hv_9) (cwV 1 hts gX5_fillTold_X4_roomOf rfl rfl rfl (by decide +kernel) ⟨Nat.le_of_ble_eq_true rfl, Nat.le_of_ble_eq_true rfl⟩) hK hP [2] rfl (va_recv hK hP (ci := 4) (q0 := 2) rfl rfl) rfl hl.1 rfl (Nat.le_of_ble_eq_true rfl) dX5_fillTold_28 ⟨Nat.le_of_ble_eq_true rfl, Nat.le_of_ble_eq_true rfl⟩ ?_
        obtain ⟨x5, hv_10, hf⟩ := ob1_some hf
        refine q_rVi (As := [.int x2, .int x4]) (rest := [.int x2, .ref h_told]) (r := x5) ⟨hx, hb, hml, hown, hts⟩ (c_X0_toldBy l D cI cC cL cB h_laid h_laid_kinds h_laid_prices h_laid_persons h_laid_places h_laid_hours h_laid_weights h_laid_numbers x2 x4 h_laid_pieces h_laid_roomsAtFirst h_laid_deeds h_laid_coins h_laid_law h_laid_places_c h_laid_kinds_c h_laid_hours_c h_laid_weights_c x5 hv_10) (cwV 2 hts gX5_fillTold_X0_toldBy rfl rfl rfl (by decide +kernel) ⟨Nat.le_of_ble_eq_true rfl, Nat.le_of_ble_eq_true rfl⟩) hK hP [1, 3, 4, 5, 6] rfl (va_recv hK hP (ci := 0) (q0 := 1) rfl rfl) rfl hl.1 rfl (Nat.le_of_ble_eq_true rfl) dX5_fillTold_31 ⟨Nat.le_of_ble_eq_true rfl, Nat.le_of_ble_eq_true rfl⟩ ?_
        obtain ⟨g_11, hf⟩ := gu_in hf
        refine va_iast hx hb hK hP hD hS 7 0 rfl rfl g_11 dX5_fillTold_34 (fun H locs hP hD hS => ?_)
        obtain ⟨c6, ec6⟩ : ∃ y : Nat → Int32, y = (upd c1 x2.toNatClampNeg x5) := ⟨_, rfl⟩
        have hf := pv_eq ec6 hf
        rw [← ec6] at hP hD
        have hP : va_P D vwCl [(h, .inr (5, [.ref h_page, .ref h_laid, .ref h_draft, .ref h_now, .ref h_trial, .ref h_past, .ref h_sightings, .ref h_kept, .int h_keptCount, .ref h_told])), (h_laid, .inr (0, [.int h_laid_pieces, .ref h_laid_kinds, .ref h_laid_prices, .int h_laid_roomsAtFirst, .int h_laid_deeds, .ref h_laid_persons, .ref h_laid_places, .ref h_laid_hours, .ref h_laid_weights, .int h_laid_coins, .int h_laid_law, .ref h_laid_numbers])), (h_now, .inr (4, [.int h_now_rooms, .int h_now_bought, .int h_now_spoken, .int h_now_out, .int h_now_coins])), (h_laid_places, .inl (cI, 9, .inl h_laid_places_c)), (h_laid_kinds, .inl (cI, 8, .inl h_laid_kinds_c)), (h_laid_hours, .inl (cI, 9, .inl h_laid_hours_c)), (h_laid_weights, .inl (cI, 9, .inl h_laid_weights_c)), (h_told, .inl (cI, 8, .inl c6))] H := hP
        have hD : va_D A [(h, .inr (5, [.ref h_page, .ref h_laid, .ref h_draft, .ref h_now, .ref h_trial, .ref h_past, .ref h_sightings, .ref h_kept, .int h_keptCount, .ref h_told])), (h_laid, .inr (0, [.int h_laid_pieces, .ref h_laid_kinds, .ref h_laid_prices, .int h_laid_roomsAtFirst, .int h_laid_deeds, .ref h_laid_persons, .ref h_laid_places, .ref h_laid_hours, .ref h_laid_weights, .int h_laid_coins, .int h_laid_law, .ref h_laid_numbers])), (h_now, .inr (4, [.int h_now_rooms, .int h_now_bought, .int h_now_spoken, .int h_now_out, .int h_now_coins])), (h_laid_places, .inl (cI, 9, .inl h_laid_places_c)), (h_laid_kinds, .inl (cI, 8, .inl h_laid_kinds_c)), (h_laid_hours, .inl (cI, 9, .inl h_laid_hours_c)), (h_laid_weights, .inl (cI, 9, .inl h_laid_weights_c)), (h_told, .inl (cI, 8, .inl c6))] := hD
        obtain ⟨x7, ex7⟩ : ∃ y : Int32, y = (x2 + 1) := ⟨_, rfl⟩
        have hf := pv_eq ex7 hf
        refine lv_iinc (v := x7) (lv' := [(1, .int x7), (0, .ref h)]) hx hb dX5_fillTold_35 hl (k := 1) rfl (by rw [ex7]; rfl) (by decide) rfl (fun ls hl => ?_)
        refine lv_goto (tgt := 2) hx hb dX5_fillTold_38 (by decide) ?_
        exact ih _ _ _ _ hP hD hS ls (lv_sub hl [1, 0] rfl) _ hf KX
  obtain ⟨c3, hr2, hf⟩ := ob1_some hf
  refine loop2 300 _ _ _ _ hP hD hS ls (lv_sub hl [1, 0] rfl) _ hr2 (fun H locs hP hD hS ls hl => ?_)
  cases hf
  exact W.vret hx hb hr (fun t ht hW => ⟨⟨(), rfl, trivial, by rw [ht]; exact hP, va_K.moved hW.alike hK, hD⟩, hS.F ht⟩) hS.2.2 dX5_fillTold_41
theorem uX5_looseOnes_X0 : ∀ w ∈ wsX00, w ∈ wsX5_looseOnes := fun w h => List.mem_cons_of_mem _ (List.mem_append_left _ (List.mem_append_right _ h))
theorem uX5_looseOnes_X5 : ∀ w ∈ wsX50, w ∈ wsX5_looseOnes := fun w h => List.mem_cons_of_mem _ (List.mem_append_left _ (List.mem_append_left _ (List.mem_append_right _ h)))
set_option maxHeartbeats 4000000 in
set_option maxRecDepth 100000 in
theorem c_X5_looseOnes (l : Launch) (D : va_G) (cI cC cL cB : ClassId) (h : Nat) (h_page : Nat) (h_laid : Nat) (h_draft : Nat) (h_now : Nat) (h_trial : Nat) (h_past : Nat) (h_sightings : Nat) (h_kept : Nat) (h_told : Nat) (h_laid_kinds : Nat) (h_laid_prices : Nat) (h_laid_persons : Nat) (h_laid_places : Nat) (h_laid_hours : Nat) (h_laid_weights : Nat) (h_laid_numbers : Nat) (h_keptCount : Int32) (h_laid_pieces : Int32) (h_laid_roomsAtFirst : Int32) (h_laid_deeds : Int32) (h_laid_coins : Int32) (h_laid_law : Int32) (h_now_rooms : Int32) (h_now_bought : Int32) (h_now_spoken : Int32) (h_now_out : Int32) (h_now_coins : Int32) (h_laid_kinds_c : Nat → Int32) (r : Int32) (hf : m_X5_looseOnes h_laid_pieces h_laid_law h_now_bought h_now_spoken h_laid_kinds_c = some r) : Met l yX5_looseOnes wsX5_looseOnes ({ frames := 2, cells := 0, slots := 0, locals := 43 }) (va_Pc [.ref h] (q_R D vwCl (tyL cI cC cL cB) [(h, .inr (5, [.ref h_page, .ref h_laid, .ref h_draft, .ref h_now, .ref h_trial, .ref h_past, .ref h_sightings, .ref h_kept, .int h_keptCount, .ref h_told])), (h_laid, .inr (0, [.int h_laid_pieces, .ref h_laid_kinds, .ref h_laid_prices, .int h_laid_roomsAtFirst, .int h_laid_deeds, .ref h_laid_persons, .ref h_laid_places, .ref h_laid_hours, .ref h_laid_weights, .int h_laid_coins, .int h_laid_law, .ref h_laid_numbers])), (h_now, .inr (4, [.int h_now_rooms, .int h_now_bought, .int h_now_spoken, .int h_now_out, .int h_now_coins])), (h_laid_kinds, .inl (cI, 8, .inl h_laid_kinds_c))])) (vp_Si (fun r' => r' = r)) 0 0 (fun _ => False) := by
  refine Met.ofW (cc := cX5_looseOnes) (maxL := 3) (ret := (some .int)) (by decide) rfl ?_
  intro p e s m args below meth c s₁ B hml hv
  obtain ⟨rfl, hP, hK⟩ := hv
  have hx := B.exec
  have hb := B.bytes
  have hr := B.returns
  have hts := atoms_spec (ws := wsX5_looseOnes) B.pre
  have hown : s.vm.findClass RX5 = some m.cls := findClass_of_methodNamed B.named
  have hlocks := B.notSynchronized
  have hl := lv_entry ([.ref h]) (n := 3) (Nat.le_of_ble_eq_true rfl)
  rw [lg_entry_eq]
  generalize (lg_sl ([.ref h]) ++ List.replicate (3 - (lg_sl ([.ref h])).length) Slot.unset).toArray = ls at hl ⊢
  have hl : lv_has ls 3 [(0, .ref h)] := hl
  unfold m_X5_looseOnes at hf
  refine lv_iconst (v := 0) hx hb dX5_looseOnes_0 (by decide) ?_
  refine lv_istore_n (lv' := [(1, .int 0), (0, .ref h)]) hx hb dX5_looseOnes_1 rfl hl (by decide) rfl (fun ls hl => ?_)
  refine lv_iconst (v := 0) hx hb dX5_looseOnes_2 (by decide) ?_
  refine lv_istore_n (lv' := [(2, .int 0), (1, .int 0), (0, .ref h)]) hx hb dX5_looseOnes_3 rfl hl (by decide) rfl (fun ls hl => ?_)
  have loop4 : ∀ (n : Nat) (x1 : Int32) (x2 : Int32), ∀ (ls : Array Slot), lv_has ls 3 [(0, .ref h), (1, .int x1), (2, .int x2)] → ∀ (x3 : Int32), L_X5_looseOnes_4 h_laid_pieces h_now_bought h_now_spoken h_laid_law h_laid_kinds_c n x1 x2 = some x3 → (∀ (ls : Array Slot), lv_has ls 3 [(1, .int x3)] → W p l e (headSpec wsX5_looseOnes ({ frames := 2, cells := 0, slots := 0, locals := 43 })).room s m ([.ref h] : List Value).toArray below meth c s.heap [] 0 0 (MQ below (vp_Si (fun r' => r' = r)) ([.ref h] : List Value).toArray s 0 0 (fun _ => False)) (F0 m 39 ls [])) → W p l e (headSpec wsX5_looseOnes ({ frames := 2, cells := 0, slots := 0, locals := 43 })).room s m ([.ref h] : List Value).toArray below meth c s.heap [] 0 0 (MQ below (vp_Si (fun r' => r' = r)) ([.ref h] : List Value).toArray s 0 0 (fun _ => False)) (F0 m 4 ls []) := by
    intro n
    induction n with
    | zero =>
      intro x1 x2 ls hl x3 hf KX
      rw [L_X5_looseOnes_4] at hf
      cases hf
    | succ n ih =>
      intro x1 x2 ls hl x3 hf KX
      rw [L_X5_looseOnes_4] at hf
      refine lv_iload_n hx hb dX5_looseOnes_4 rfl (lv_at hl 2 rfl) ?_
      refine lv_aload_n hx hb dX5_looseOnes_5 rfl (lv_at hl 0 rfl) ?_
      refine va_get (D := D) (ci := 5) (v := .ref h_laid) (C := RX5) (T := TX5) (N := 10) hx hb hts uX5_looseOnes_X5 hown hK hP 0 rfl rfl 1 (by decide) (hts (.fieldLink RX5 19 "SpeaksForTheChair" "laid" "LSpeaksForTheChair$House;") (List.mem_of_getElem? (i := 1) rfl)) (fun _ h9 => h9) rfl dX5_looseOnes_6 ?_
      refine va_get (D := D) (ci := 0) (v := .int h_laid_pieces) (C := RX0) (T := TX0) (N := 12) hx hb hts uX5_looseOnes_X0 hown hK hP 1 rfl rfl 0 (by decide) (hts (.fieldLink RX5 91 "SpeaksForTheChair$House" "pieces" "I") (List.mem_of_getElem? (i := 2) rfl)) (fun _ h9 => h9) rfl dX5_looseOnes_9 ?_
      refine lv_icmp_ge (tgt := 39) hx hb dX5_looseOnes_12 (by decide) (fun c_7 => ?_) (fun c_7 => ?_)
      · have hf := ip c_7 hf
        cases hf
        exact KX ls (lv_sub hl [1] rfl)
      · have hf := im c_7 hf
        refine lv_aload_n hx hb dX5_looseOnes_15 rfl (lv_at hl 0 rfl) ?_
        refine lv_aload_n hx hb dX5_looseOnes_16 rfl (lv_at hl 0 rfl) ?_
        refine va_get (D := D) (ci := 5) (v := .ref h_now) (C := RX5) (T := TX5) (N := 10) hx hb hts uX5_looseOnes_X5 hown hK hP 0 rfl rfl 3 (by decide) (hts (.fieldLink RX5 29 "SpeaksForTheChair" "now" "LSpeaksForTheChair$Standing;") (List.mem_of_getElem? (i := 3) rfl)) (fun _ h9 => h9) rfl dX5_looseOnes_17 ?_
        refine lv_iload_n hx hb dX5_looseOnes_20 rfl (lv_at hl 2 rfl) ?_
        obtain ⟨x4, hv_8, hf⟩ := ob1_some hf
        refine q_rVi (As := [.ref h_now, .int x2]) (rest := []) (r := x4) ⟨hx, hb, hml, hown, hts⟩ (c_X5_isLoose l D cI cC cL cB h h_now h_page h_laid h_draft h_now h_trial h_past h_sightings h_kept h_told h_laid_kinds h_laid_prices h_laid_persons h_laid_places h_laid_hours h_laid_weights h_laid_numbers x2 h_now_rooms h_now_bought h_now_spoken h_now_out h_now_coins h_keptCount h_laid_pieces h_laid_roomsAtFirst h_laid_deeds h_laid_coins h_laid_law h_laid_kinds_c x4 hv_8) (cwV 2 hts gX5_looseOnes_X5_isLoose rfl rfl rfl (by decide +kernel) ⟨Nat.le_of_ble_eq_true rfl, Nat.le_of_ble_eq_true rfl⟩) hK hP [2, 0, 1, 3] rfl (va_recv hK hP (ci := 5) (q0 := 0) rfl rfl) rfl hl.1 rfl (Nat.le_of_ble_eq_true rfl) dX5_looseOnes_21 ⟨Nat.le_of_ble_eq_true rfl, Nat.le_of_ble_eq_true rfl⟩ ?_
        refine lv_if_eq (tgt := 33) hx hb dX5_looseOnes_24 (by decide) (fun c_9 => ?_) (fun c_9 => ?_)
        · have hf := ip c_9 hf
          obtain ⟨x5, ex5⟩ : ∃ y : Int32, y = (x2 + 1) := ⟨_, rfl⟩
          have hf := pv_eq ex5 hf
          refine lv_iinc (v := x5) (lv' := [(2, .int x5), (0, .ref h), (1, .int x1)]) hx hb dX5_looseOnes_33 hl (k := 2) rfl (by rw [ex5]; rfl) (by decide) rfl (fun ls hl => ?_)
          refine lv_goto (tgt := 4) hx hb dX5_looseOnes_36 (by decide) ?_
          exact ih _ _ ls (lv_sub hl [1, 2, 0] rfl) _ hf KX
        · have hf := im c_9 hf
          refine lv_iload_n hx hb dX5_looseOnes_27 rfl (lv_at hl 1 rfl) ?_
          refine lv_iconst (v := 1) hx hb dX5_looseOnes_28 (by decide) ?_
          refine lv_iload_n hx hb dX5_looseOnes_29 rfl (lv_at hl 2 rfl) ?_
          refine lv_ishl hx hb dX5_looseOnes_30 ?_
          refine lv_ior hx hb dX5_looseOnes_31 ?_
          refine lv_topi (fun x6 ex6 => ?_)
          have hf := pv_eq ex6 hf
          refine lv_istore_n (lv' := [(1, .int x6), (0, .ref h), (2, .int x2)]) hx hb dX5_looseOnes_32 rfl hl (by decide) rfl (fun ls hl => ?_)
          obtain ⟨x7, ex7⟩ : ∃ y : Int32, y = (x2 + 1) := ⟨_, rfl⟩
          have hf := pv_eq ex7 hf
          refine lv_iinc (v := x7) (lv' := [(2, .int x7), (1, .int x6), (0, .ref h)]) hx hb dX5_looseOnes_33 hl (k := 2) rfl (by rw [ex7]; rfl) (by decide) rfl (fun ls hl => ?_)
          refine lv_goto (tgt := 4) hx hb dX5_looseOnes_36 (by decide) ?_
          exact ih _ _ ls (lv_sub hl [2, 1, 0] rfl) _ hf KX
  obtain ⟨x3, hr4, hf⟩ := ob1_some hf
  refine loop4 300 _ _ ls (lv_sub hl [2, 1, 0] rfl) _ hr4 (fun ls hl => ?_)
  refine lv_iload_n hx hb dX5_looseOnes_39 rfl (lv_at hl 0 rfl) ?_
  cases hf
  exact W.iret hx hb hr (fun t ht hW => ⟨_, rfl, rfl, ht⟩) (fun _ h => by cases h) dX5_looseOnes_40
theorem uX5_toldBySet_X0 : ∀ w ∈ wsX00, w ∈ wsX5_toldBySet := fun w h => List.mem_cons_of_mem _ (List.mem_append_right _ h)
theorem uX5_toldBySet_X5 : ∀ w ∈ wsX50, w ∈ wsX5_toldBySet := fun w h => List.mem_cons_of_mem _ (List.mem_append_left _ (List.mem_append_right _ h))
set_option maxHeartbeats 4000000 in
set_option maxRecDepth 100000 in
theorem c_X5_toldBySet (l : Launch) (D : va_G) (cI cC cL cB : ClassId) (h : Nat) (h_page : Nat) (h_laid : Nat) (h_draft : Nat) (h_now : Nat) (h_trial : Nat) (h_past : Nat) (h_sightings : Nat) (h_kept : Nat) (h_told : Nat) (h_laid_kinds : Nat) (h_laid_prices : Nat) (h_laid_persons : Nat) (h_laid_places : Nat) (h_laid_hours : Nat) (h_laid_weights : Nat) (h_laid_numbers : Nat) (a1 : Int32) (h_keptCount : Int32) (h_laid_pieces : Int32) (h_laid_roomsAtFirst : Int32) (h_laid_deeds : Int32) (h_laid_coins : Int32) (h_laid_law : Int32) (h_told_c : Nat → Int32) (r : Int32) (hf : m_X5_toldBySet a1 h_laid_pieces h_told_c = some r) : Met l yX5_toldBySet wsX5_toldBySet ({ frames := 0, cells := 0, slots := 0, locals := 0 }) (va_Pc [.ref h, .int a1] (q_R D vwCl (tyL cI cC cL cB) [(h, .inr (5, [.ref h_page, .ref h_laid, .ref h_draft, .ref h_now, .ref h_trial, .ref h_past, .ref h_sightings, .ref h_kept, .int h_keptCount, .ref h_told])), (h_laid, .inr (0, [.int h_laid_pieces, .ref h_laid_kinds, .ref h_laid_prices, .int h_laid_roomsAtFirst, .int h_laid_deeds, .ref h_laid_persons, .ref h_laid_places, .ref h_laid_hours, .ref h_laid_weights, .int h_laid_coins, .int h_laid_law, .ref h_laid_numbers])), (h_told, .inl (cI, 8, .inl h_told_c))])) (vp_Si (fun r' => r' = r)) 0 0 (fun _ => False) := by
  refine Met.ofW (cc := cX5_toldBySet) (maxL := 4) (ret := (some .int)) (by decide) rfl ?_
  intro p e s m args below meth c s₁ B hml hv
  obtain ⟨rfl, hP, hK⟩ := hv
  have hx := B.exec
  have hb := B.bytes
  have hr := B.returns
  have hts := atoms_spec (ws := wsX5_toldBySet) B.pre
  have hown : s.vm.findClass RX5 = some m.cls := findClass_of_methodNamed B.named
  have hlocks := B.notSynchronized
  have hl := lv_entry ([.ref h, .int a1]) (n := 4) (Nat.le_of_ble_eq_true rfl)
  rw [lg_entry_eq]
  generalize (lg_sl ([.ref h, .int a1]) ++ List.replicate (4 - (lg_sl ([.ref h, .int a1])).length) Slot.unset).toArray = ls at hl ⊢
  have hl : lv_has ls 4 [(0, .ref h), (1, .int a1)] := hl
  unfold m_X5_toldBySet at hf
  refine lv_iconst (v := 0) hx hb dX5_toldBySet_0 (by decide) ?_
  refine lv_istore_n (lv' := [(2, .int 0), (0, .ref h), (1, .int a1)]) hx hb dX5_toldBySet_1 rfl hl (by decide) rfl (fun ls hl => ?_)
  refine lv_iconst (v := 0) hx hb dX5_toldBySet_2 (by decide) ?_
  refine lv_istore_n (lv' := [(3, .int 0), (2, .int 0), (0, .ref h), (1, .int a1)]) hx hb dX5_toldBySet_3 rfl hl (by decide) rfl (fun ls hl => ?_)
  have loop4 : ∀ (n : Nat) (x1 : Int32) (x2 : Int32), ∀ (ls : Array Slot), lv_has ls 4 [(0, .ref h), (1, .int a1), (2, .int x1), (3, .int x2)] → ∀ (x3 : Int32), L_X5_toldBySet_4 h_laid_pieces a1 h_told_c n x1 x2 = some x3 → (∀ (ls : Array Slot), lv_has ls 4 [(2, .int x3)] → W p l e (headSpec wsX5_toldBySet ({ frames := 0, cells := 0, slots := 0, locals := 0 })).room s m ([.ref h, .int a1] : List Value).toArray below meth c s.heap [] 0 0 (MQ below (vp_Si (fun r' => r' = r)) ([.ref h, .int a1] : List Value).toArray s 0 0 (fun _ => False)) (F0 m 39 ls [])) → W p l e (headSpec wsX5_toldBySet ({ frames := 0, cells := 0, slots := 0, locals := 0 })).room s m ([.ref h, .int a1] : List Value).toArray below meth c s.heap [] 0 0 (MQ below (vp_Si (fun r' => r' = r)) ([.ref h, .int a1] : List Value).toArray s 0 0 (fun _ => False)) (F0 m 4 ls []) := by
    intro n
    induction n with
    | zero =>
      intro x1 x2 ls hl x3 hf KX
      rw [L_X5_toldBySet_4] at hf
      cases hf
    | succ n ih =>
      intro x1 x2 ls hl x3 hf KX
      rw [L_X5_toldBySet_4] at hf
      refine lv_iload_n hx hb dX5_toldBySet_4 rfl (lv_at hl 3 rfl) ?_
      refine lv_aload_n hx hb dX5_toldBySet_5 rfl (lv_at hl 0 rfl) ?_
      refine va_get (D := D) (ci := 5) (v := .ref h_laid) (C := RX5) (T := TX5) (N := 10) hx hb hts uX5_toldBySet_X5 hown hK hP 0 rfl rfl 1 (by decide) (hts (.fieldLink RX5 19 "SpeaksForTheChair" "laid" "LSpeaksForTheChair$House;") (List.mem_of_getElem? (i := 1) rfl)) (fun _ h9 => h9) rfl dX5_toldBySet_6 ?_
      refine va_get (D := D) (ci := 0) (v := .int h_laid_pieces) (C := RX0) (T := TX0) (N := 12) hx hb hts uX5_toldBySet_X0 hown hK hP 1 rfl rfl 0 (by decide) (hts (.fieldLink RX5 91 "SpeaksForTheChair$House" "pieces" "I") (List.mem_of_getElem? (i := 2) rfl)) (fun _ h9 => h9) rfl dX5_toldBySet_9 ?_
      refine lv_icmp_ge (tgt := 39) hx hb dX5_toldBySet_12 (by decide) (fun c_6 => ?_) (fun c_6 => ?_)
      · have hf := ip c_6 hf
        cases hf
        exact KX ls (lv_sub hl [2] rfl)
      · have hf := im c_6 hf
        refine lv_iload_n hx hb dX5_toldBySet_15 rfl (lv_at hl 1 rfl) ?_
        refine lv_iload_n hx hb dX5_toldBySet_16 rfl (lv_at hl 3 rfl) ?_
        refine lv_ishr hx hb dX5_toldBySet_17 ?_
        refine lv_iconst (v := 1) hx hb dX5_toldBySet_18 (by decide) ?_
        refine lv_iand hx hb dX5_toldBySet_19 ?_
        refine lv_iconst (v := 1) hx hb dX5_toldBySet_20 (by decide) ?_
        refine lv_icmp_ne (tgt := 33) hx hb dX5_toldBySet_21 (by decide) (fun c_7 => ?_) (fun c_7 => ?_)
        · have hf := im c_7 hf
          obtain ⟨x4, ex4⟩ : ∃ y : Int32, y = (x2 + 1) := ⟨_, rfl⟩
          have hf := pv_eq ex4 hf
          refine lv_iinc (v := x4) (lv' := [(3, .int x4), (0, .ref h), (1, .int a1), (2, .int x1)]) hx hb dX5_toldBySet_33 hl (k := 3) rfl (by rw [ex4]; rfl) (by decide) rfl (fun ls hl => ?_)
          refine lv_goto (tgt := 4) hx hb dX5_toldBySet_36 (by decide) ?_
          exact ih _ _ ls (lv_sub hl [1, 2, 3, 0] rfl) _ hf KX
        · have hf := ip c_7 hf
          refine lv_iload_n hx hb dX5_toldBySet_24 rfl (lv_at hl 2 rfl) ?_
          refine lv_aload_n hx hb dX5_toldBySet_25 rfl (lv_at hl 0 rfl) ?_
          refine va_get (D := D) (ci := 5) (v := .ref h_told) (C := RX5) (T := TX5) (N := 10) hx hb hts uX5_toldBySet_X5 hown hK hP 0 rfl rfl 9 (by decide) (hts (.fieldLink RX5 54 "SpeaksForTheChair" "told" "[I") (List.mem_of_getElem? (i := 3) rfl)) (fun _ h9 => h9) rfl dX5_toldBySet_26 ?_
          refine lv_iload_n hx hb dX5_toldBySet_29 rfl (lv_at hl 3 rfl) ?_
          obtain ⟨g_8, hf⟩ := gu_in hf
          refine va_iald hx hb hK hP 2 0 rfl rfl g_8 dX5_toldBySet_30 ?_
          refine lv_ior hx hb dX5_toldBySet_31 ?_
          refine lv_topi (fun x5 ex5 => ?_)
          have hf := pv_eq ex5 hf
          refine lv_istore_n (lv' := [(2, .int x5), (0, .ref h), (1, .int a1), (3, .int x2)]) hx hb dX5_toldBySet_32 rfl hl (by decide) rfl (fun ls hl => ?_)
          obtain ⟨x6, ex6⟩ : ∃ y : Int32, y = (x2 + 1) := ⟨_, rfl⟩
          have hf := pv_eq ex6 hf
          refine lv_iinc (v := x6) (lv' := [(3, .int x6), (2, .int x5), (0, .ref h), (1, .int a1)]) hx hb dX5_toldBySet_33 hl (k := 3) rfl (by rw [ex6]; rfl) (by decide) rfl (fun ls hl => ?_)
          refine lv_goto (tgt := 4) hx hb dX5_toldBySet_36 (by decide) ?_
          exact ih _ _ ls (lv_sub hl [2, 3, 1, 0] rfl) _ hf KX
  obtain ⟨x3, hr4, hf⟩ := ob1_some hf
  refine loop4 300 _ _ ls (lv_sub hl [2, 3, 1, 0] rfl) _ hr4 (fun ls hl => ?_)
  refine lv_iload_n hx hb dX5_toldBySet_39 rfl (lv_at hl 0 rfl) ?_
  cases hf
  exact W.iret hx hb hr (fun t ht hW => ⟨_, rfl, rfl, ht⟩) (fun _ h => by cases h) dX5_toldBySet_40
theorem uX0_weightOf_X0 : ∀ w ∈ wsX00, w ∈ wsX0_weightOf := fun w h => List.mem_cons_of_mem _ (List.mem_append_right _ h)
set_option maxHeartbeats 4000000 in
set_option maxRecDepth 100000 in
theorem c_X0_weightOf (l : Launch) (D : va_G) (cI cC cL cB : ClassId) (h : Nat) (h_kinds : Nat) (h_prices : Nat) (h_persons : Nat) (h_places : Nat) (h_hours : Nat) (h_weights : Nat) (h_numbers : Nat) (a1 : Int32) (h_pieces : Int32) (h_roomsAtFirst : Int32) (h_deeds : Int32) (h_coins : Int32) (h_law : Int32) (h_weights_c : Nat → Int32) (r : Int32) (hf : m_X0_weightOf a1 h_deeds h_weights_c = some r) : Met l yX0_weightOf wsX0_weightOf ({ frames := 0, cells := 0, slots := 0, locals := 0 }) (va_Pc [.ref h, .int a1] (q_R D vwCl (tyL cI cC cL cB) [(h, .inr (0, [.int h_pieces, .ref h_kinds, .ref h_prices, .int h_roomsAtFirst, .int h_deeds, .ref h_persons, .ref h_places, .ref h_hours, .ref h_weights, .int h_coins, .int h_law, .ref h_numbers])), (h_weights, .inl (cI, 9, .inl h_weights_c))])) (vp_Si (fun r' => r' = r)) 0 0 (fun _ => False) := by
  refine Met.ofW (cc := cX0_weightOf) (maxL := 4) (ret := (some .int)) (by decide) rfl ?_
  intro p e s m args below meth c s₁ B hml hv
  obtain ⟨rfl, hP, hK⟩ := hv
  have hx := B.exec
  have hb := B.bytes
  have hr := B.returns
  have hts := atoms_spec (ws := wsX0_weightOf) B.pre
  have hown : s.vm.findClass RX0 = some m.cls := findClass_of_methodNamed B.named
  have hlocks := B.notSynchronized
  have hl := lv_entry ([.ref h, .int a1]) (n := 4) (Nat.le_of_ble_eq_true rfl)
  rw [lg_entry_eq]
  generalize (lg_sl ([.ref h, .int a1]) ++ List.replicate (4 - (lg_sl ([.ref h, .int a1])).length) Slot.unset).toArray = ls at hl ⊢
  have hl : lv_has ls 4 [(0, .ref h), (1, .int a1)] := hl
  unfold m_X0_weightOf at hf
  refine lv_iconst (v := 0) hx hb dX0_weightOf_0 (by decide) ?_
  refine lv_istore_n (lv' := [(2, .int 0), (0, .ref h), (1, .int a1)]) hx hb dX0_weightOf_1 rfl hl (by decide) rfl (fun ls hl => ?_)
  refine lv_iconst (v := 0) hx hb dX0_weightOf_2 (by decide) ?_
  refine lv_istore_n (lv' := [(3, .int 0), (2, .int 0), (0, .ref h), (1, .int a1)]) hx hb dX0_weightOf_3 rfl hl (by decide) rfl (fun ls hl => ?_)
  have loop4 : ∀ (n : Nat) (x1 : Int32) (x2 : Int32), ∀ (ls : Array Slot), lv_has ls 4 [(0, .ref h), (1, .int a1), (2, .int x1), (3, .int x2)] → ∀ (x3 : Int32), L_X0_weightOf_4 h_deeds a1 h_weights_c n x1 x2 = some x3 → (∀ (ls : Array Slot), lv_has ls 4 [(2, .int x3)] → W p l e (headSpec wsX0_weightOf ({ frames := 0, cells := 0, slots := 0, locals := 0 })).room s m ([.ref h, .int a1] : List Value).toArray below meth c s.heap [] 0 0 (MQ below (vp_Si (fun r' => r' = r)) ([.ref h, .int a1] : List Value).toArray s 0 0 (fun _ => False)) (F0 m 36 ls [])) → W p l e (headSpec wsX0_weightOf ({ frames := 0, cells := 0, slots := 0, locals := 0 })).room s m ([.ref h, .int a1] : List Value).toArray below meth c s.heap [] 0 0 (MQ below (vp_Si (fun r' => r' = r)) ([.ref h, .int a1] : List Value).toArray s 0 0 (fun _ => False)) (F0 m 4 ls []) := by
    intro n
    induction n with
    | zero =>
      intro x1 x2 ls hl x3 hf KX
      rw [L_X0_weightOf_4] at hf
      cases hf
    | succ n ih =>
      intro x1 x2 ls hl x3 hf KX
      rw [L_X0_weightOf_4] at hf
      refine lv_iload_n hx hb dX0_weightOf_4 rfl (lv_at hl 3 rfl) ?_
      refine lv_aload_n hx hb dX0_weightOf_5 rfl (lv_at hl 0 rfl) ?_
      refine va_get (D := D) (ci := 0) (v := .int h_deeds) (C := RX0) (T := TX0) (N := 12) hx hb hts uX0_weightOf_X0 hown hK hP 0 rfl rfl 4 (by decide) (hts (.fieldLink RX0 37 "SpeaksForTheChair$House" "deeds" "I") (List.mem_of_getElem? (i := 1) rfl)) (fun _ h9 => h9) rfl dX0_weightOf_6 ?_
      refine lv_icmp_ge (tgt := 36) hx hb dX0_weightOf_9 (by decide) (fun c_6 => ?_) (fun c_6 => ?_)
      · have hf := ip c_6 hf
        cases hf
        exact KX ls (lv_sub hl [2] rfl)
      · have hf := im c_6 hf
        refine lv_iload_n hx hb dX0_weightOf_12 rfl (lv_at hl 1 rfl) ?_
        refine lv_iload_n hx hb dX0_weightOf_13 rfl (lv_at hl 3 rfl) ?_
        refine lv_ishr hx hb dX0_weightOf_14 ?_
        refine lv_iconst (v := 1) hx hb dX0_weightOf_15 (by decide) ?_
        refine lv_iand hx hb dX0_weightOf_16 ?_
        refine lv_iconst (v := 1) hx hb dX0_weightOf_17 (by decide) ?_
        refine lv_icmp_ne (tgt := 30) hx hb dX0_weightOf_18 (by decide) (fun c_7 => ?_) (fun c_7 => ?_)
        · have hf := im c_7 hf
          obtain ⟨x4, ex4⟩ : ∃ y : Int32, y = (x2 + 1) := ⟨_, rfl⟩
          have hf := pv_eq ex4 hf
          refine lv_iinc (v := x4) (lv' := [(3, .int x4), (0, .ref h), (1, .int a1), (2, .int x1)]) hx hb dX0_weightOf_30 hl (k := 3) rfl (by rw [ex4]; rfl) (by decide) rfl (fun ls hl => ?_)
          refine lv_goto (tgt := 4) hx hb dX0_weightOf_33 (by decide) ?_
          exact ih _ _ ls (lv_sub hl [1, 2, 3, 0] rfl) _ hf KX
        · have hf := ip c_7 hf
          refine lv_iload_n hx hb dX0_weightOf_21 rfl (lv_at hl 2 rfl) ?_
          refine lv_aload_n hx hb dX0_weightOf_22 rfl (lv_at hl 0 rfl) ?_
          refine va_get (D := D) (ci := 0) (v := .ref h_weights) (C := RX0) (T := TX0) (N := 12) hx hb hts uX0_weightOf_X0 hown hK hP 0 rfl rfl 8 (by decide) (hts (.fieldLink RX0 27 "SpeaksForTheChair$House" "weights" "[I") (List.mem_of_getElem? (i := 2) rfl)) (fun _ h9 => h9) rfl dX0_weightOf_23 ?_
          refine lv_iload_n hx hb dX0_weightOf_26 rfl (lv_at hl 3 rfl) ?_
          obtain ⟨g_8, hf⟩ := gu_in hf
          refine va_iald hx hb hK hP 1 0 rfl rfl g_8 dX0_weightOf_27 ?_
          refine lv_iadd hx hb dX0_weightOf_28 ?_
          refine lv_topi (fun x5 ex5 => ?_)
          have hf := pv_eq ex5 hf
          refine lv_istore_n (lv' := [(2, .int x5), (0, .ref h), (1, .int a1), (3, .int x2)]) hx hb dX0_weightOf_29 rfl hl (by decide) rfl (fun ls hl => ?_)
          obtain ⟨x6, ex6⟩ : ∃ y : Int32, y = (x2 + 1) := ⟨_, rfl⟩
          have hf := pv_eq ex6 hf
          refine lv_iinc (v := x6) (lv' := [(3, .int x6), (2, .int x5), (0, .ref h), (1, .int a1)]) hx hb dX0_weightOf_30 hl (k := 3) rfl (by rw [ex6]; rfl) (by decide) rfl (fun ls hl => ?_)
          refine lv_goto (tgt := 4) hx hb dX0_weightOf_33 (by decide) ?_
          exact ih _ _ ls (lv_sub hl [2, 3, 1, 0] rfl) _ hf KX
  obtain ⟨x3, hr4, hf⟩ := ob1_some hf
  refine loop4 300 _ _ ls (lv_sub hl [2, 3, 1, 0] rfl) _ hr4 (fun ls hl => ?_)
  refine lv_iload_n hx hb dX0_weightOf_36 rfl (lv_at hl 0 rfl) ?_
  cases hf
  exact W.iret hx hb hr (fun t ht hW => ⟨_, rfl, rfl, ht⟩) (fun _ h => by cases h) dX0_weightOf_37
theorem uX5_weightLeft_X4 : ∀ w ∈ wsX40, w ∈ wsX5_weightLeft := fun w h => List.mem_cons_of_mem _ (List.mem_append_left _ (List.mem_append_right _ h))
theorem uX5_weightLeft_X5 : ∀ w ∈ wsX50, w ∈ wsX5_weightLeft := fun w h => List.mem_cons_of_mem _ (List.mem_append_left _ (List.mem_append_left _ (List.mem_append_right _ h)))
set_option maxHeartbeats 4000000 in
set_option maxRecDepth 100000 in
theorem c_X5_weightLeft (l : Launch) (D : va_G) (cI cC cL cB : ClassId) (h : Nat) (h_page : Nat) (h_laid : Nat) (h_draft : Nat) (h_now : Nat) (h_trial : Nat) (h_past : Nat) (h_sightings : Nat) (h_kept : Nat) (h_told : Nat) (h_laid_kinds : Nat) (h_laid_prices : Nat) (h_laid_persons : Nat) (h_laid_places : Nat) (h_laid_hours : Nat) (h_laid_weights : Nat) (h_laid_numbers : Nat) (a1 : Int32) (h_keptCount : Int32) (h_laid_pieces : Int32) (h_laid_roomsAtFirst : Int32) (h_laid_deeds : Int32) (h_laid_coins : Int32) (h_laid_law : Int32) (h_told_c : Nat → Int32) (h_now_rooms : Int32) (h_now_bought : Int32) (h_now_spoken : Int32) (h_now_out : Int32) (h_now_coins : Int32) (h_laid_weights_c : Nat → Int32) (r : Int32) (hf : m_X5_weightLeft a1 h_laid_pieces h_laid_deeds h_told_c h_now_out h_laid_weights_c = some r) : Met l yX5_weightLeft wsX5_weightLeft ({ frames := 1, cells := 0, slots := 0, locals := 23 }) (va_Pc [.ref h, .int a1] (q_R D vwCl (tyL cI cC cL cB) [(h, .inr (5, [.ref h_page, .ref h_laid, .ref h_draft, .ref h_now, .ref h_trial, .ref h_past, .ref h_sightings, .ref h_kept, .int h_keptCount, .ref h_told])), (h_laid, .inr (0, [.int h_laid_pieces, .ref h_laid_kinds, .ref h_laid_prices, .int h_laid_roomsAtFirst, .int h_laid_deeds, .ref h_laid_persons, .ref h_laid_places, .ref h_laid_hours, .ref h_laid_weights, .int h_laid_coins, .int h_laid_law, .ref h_laid_numbers])), (h_told, .inl (cI, 8, .inl h_told_c)), (h_now, .inr (4, [.int h_now_rooms, .int h_now_bought, .int h_now_spoken, .int h_now_out, .int h_now_coins])), (h_laid_weights, .inl (cI, 9, .inl h_laid_weights_c))])) (vp_Si (fun r' => r' = r)) 0 0 (fun _ => False) := by
  refine Met.ofW (cc := cX5_weightLeft) (maxL := 2) (ret := (some .int)) (by decide) rfl ?_
  intro p e s m args below meth c s₁ B hml hv
  obtain ⟨rfl, hP, hK⟩ := hv
  have hx := B.exec
  have hb := B.bytes
  have hr := B.returns
  have hts := atoms_spec (ws := wsX5_weightLeft) B.pre
  have hown : s.vm.findClass RX5 = some m.cls := findClass_of_methodNamed B.named
  have hlocks := B.notSynchronized
  have hl := lv_entry ([.ref h, .int a1]) (n := 2) (Nat.le_of_ble_eq_true rfl)
  rw [lg_entry_eq]
  generalize (lg_sl ([.ref h, .int a1]) ++ List.replicate (2 - (lg_sl ([.ref h, .int a1])).length) Slot.unset).toArray = ls at hl ⊢
  have hl : lv_has ls 2 [(0, .ref h), (1, .int a1)] := hl
  unfold m_X5_weightLeft at hf
  refine lv_aload_n hx hb dX5_weightLeft_0 rfl (lv_at hl 0 rfl) ?_
  refine va_get (D := D) (ci := 5) (v := .ref h_laid) (C := RX5) (T := TX5) (N := 10) hx hb hts uX5_weightLeft_X5 hown hK hP 0 rfl rfl 1 (by decide) (hts (.fieldLink RX5 19 "SpeaksForTheChair" "laid" "LSpeaksForTheChair$House;") (List.mem_of_getElem? (i := 1) rfl)) (fun _ h9 => h9) rfl dX5_weightLeft_1 ?_
  refine lv_aload_n hx hb dX5_weightLeft_4 rfl (lv_at hl 0 rfl) ?_
  refine lv_iload_n hx hb dX5_weightLeft_5 rfl (lv_at hl 1 rfl) ?_
  obtain ⟨x1, hv_1, hf⟩ := ob1_some hf
  refine q_rVi (As := [.int a1]) (rest := [.ref h_laid]) (r := x1) ⟨hx, hb, hml, hown, hts⟩ (c_X5_toldBySet l D cI cC cL cB h h_page h_laid h_draft h_now h_trial h_past h_sightings h_kept h_told h_laid_kinds h_laid_prices h_laid_persons h_laid_places h_laid_hours h_laid_weights h_laid_numbers a1 h_keptCount h_laid_pieces h_laid_roomsAtFirst h_laid_deeds h_laid_coins h_laid_law h_told_c x1 hv_1) (cwV 1 hts gX5_weightLeft_X5_toldBySet rfl rfl rfl (by decide +kernel) ⟨Nat.le_of_ble_eq_true rfl, Nat.le_of_ble_eq_true rfl⟩) hK hP [0, 1, 2] rfl (va_recv hK hP (ci := 5) (q0 := 0) rfl rfl) rfl hl.1 rfl (Nat.le_of_ble_eq_true rfl) dX5_weightLeft_6 ⟨Nat.le_of_ble_eq_true rfl, Nat.le_of_ble_eq_true rfl⟩ ?_
  refine lv_aload_n hx hb dX5_weightLeft_9 rfl (lv_at hl 0 rfl) ?_
  refine va_get (D := D) (ci := 5) (v := .ref h_now) (C := RX5) (T := TX5) (N := 10) hx hb hts uX5_weightLeft_X5 hown hK hP 0 rfl rfl 3 (by decide) (hts (.fieldLink RX5 29 "SpeaksForTheChair" "now" "LSpeaksForTheChair$Standing;") (List.mem_of_getElem? (i := 2) rfl)) (fun _ h9 => h9) rfl dX5_weightLeft_10 ?_
  refine va_get (D := D) (ci := 4) (v := .int h_now_out) (C := RX4) (T := TX4) (N := 5) hx hb hts uX5_weightLeft_X4 hown hK hP 3 rfl rfl 3 (by decide) (hts (.fieldLink RX5 191 "SpeaksForTheChair$Standing" "out" "I") (List.mem_of_getElem? (i := 3) rfl)) (fun _ h9 => h9) rfl dX5_weightLeft_13 ?_
  refine lv_iconst (v := (-1)) hx hb dX5_weightLeft_16 (by decide) ?_
  refine lv_ixor hx hb dX5_weightLeft_17 ?_
  refine lv_iand hx hb dX5_weightLeft_18 ?_
  obtain ⟨x2, hv_2, hf⟩ := ob1_some hf
  refine q_rVi (As := [.int (x1 &&& (h_now_out ^^^ (-1)))]) (rest := []) (r := x2) ⟨hx, hb, hml, hown, hts⟩ (c_X0_weightOf l D cI cC cL cB h_laid h_laid_kinds h_laid_prices h_laid_persons h_laid_places h_laid_hours h_laid_weights h_laid_numbers ((x1 &&& (h_now_out ^^^ (-1)))) h_laid_pieces h_laid_roomsAtFirst h_laid_deeds h_laid_coins h_laid_law h_laid_weights_c x2 hv_2) (cwV 1 hts gX5_weightLeft_X0_weightOf rfl rfl rfl (by decide +kernel) ⟨Nat.le_of_ble_eq_true rfl, Nat.le_of_ble_eq_true rfl⟩) hK hP [1, 4] rfl (va_recv hK hP (ci := 0) (q0 := 1) rfl rfl) rfl hl.1 rfl (Nat.le_of_ble_eq_true rfl) dX5_weightLeft_19 ⟨Nat.le_of_ble_eq_true rfl, Nat.le_of_ble_eq_true rfl⟩ ?_
  cases hf
  exact W.iret hx hb hr (fun t ht hW => ⟨_, rfl, rfl, ht⟩) (fun _ h => by cases h) dX5_weightLeft_22
theorem uX5_save_X0 : ∀ w ∈ wsX00, w ∈ wsX5_save := fun w h => List.mem_cons_of_mem _ (List.mem_append_left _ (List.mem_append_right _ h))
theorem uX5_save_X4 : ∀ w ∈ wsX40, w ∈ wsX5_save := fun w h => List.mem_cons_of_mem _ (List.mem_append_right _ h)
theorem uX5_save_X5 : ∀ w ∈ wsX50, w ∈ wsX5_save := fun w h => List.mem_cons_of_mem _ (List.mem_append_left _ (List.mem_append_left _ (List.mem_append_right _ h)))
set_option maxHeartbeats 4000000 in
set_option maxRecDepth 100000 in
theorem c_X5_save (l : Launch) (D : va_G) (cI cC cL cB : ClassId) (sz : Nat) (h : Nat) (h_page : Nat) (h_laid : Nat) (h_draft : Nat) (h_now : Nat) (h_trial : Nat) (h_past : Nat) (h_sightings : Nat) (h_kept : Nat) (h_told : Nat) (h_laid_kinds : Nat) (h_laid_prices : Nat) (h_laid_persons : Nat) (h_laid_places : Nat) (h_laid_hours : Nat) (h_laid_weights : Nat) (h_laid_numbers : Nat) (a1 : Int32) (h_keptCount : Int32) (h_laid_pieces : Int32) (h_laid_roomsAtFirst : Int32) (h_laid_deeds : Int32) (h_laid_coins : Int32) (h_laid_law : Int32) (h_now_rooms : Int32) (h_now_bought : Int32) (h_now_spoken : Int32) (h_now_out : Int32) (h_now_coins : Int32) (h_laid_places_c : Nat → Int32) (h_laid_kinds_c : Nat → Int32) (h_laid_hours_c : Nat → Int32) (h_laid_weights_c : Nat → Int32) (h_told_c : Nat → Int32) (h_laid_prices_c : Nat → Int32) (r : Int32) (o0 : Nat → Int32) (hf : m_X5_save a1 h_laid_pieces h_laid_deeds h_laid_law h_now_rooms h_now_bought h_now_spoken h_now_out h_now_coins h_laid_places_c h_laid_kinds_c h_laid_hours_c h_laid_weights_c h_told_c h_laid_prices_c = some (r, o0)) : Met l yX5_save wsX5_save ({ frames := 4, cells := 0, slots := 0, locals := 96 }) (va_Pc [.ref h, .int a1] (q_W D vwCl (tyL cI cC cL cB) [(h, .inr (5, [.ref h_page, .ref h_laid, .ref h_draft, .ref h_now, .ref h_trial, .ref h_past, .ref h_sightings, .ref h_kept, .int h_keptCount, .ref h_told])), (h_laid, .inr (0, [.int h_laid_pieces, .ref h_laid_kinds, .ref h_laid_prices, .int h_laid_roomsAtFirst, .int h_laid_deeds, .ref h_laid_persons, .ref h_laid_places, .ref h_laid_hours, .ref h_laid_weights, .int h_laid_coins, .int h_laid_law, .ref h_laid_numbers])), (h_now, .inr (4, [.int h_now_rooms, .int h_now_bought, .int h_now_spoken, .int h_now_out, .int h_now_coins])), (h_laid_places, .inl (cI, 9, .inl h_laid_places_c)), (h_laid_kinds, .inl (cI, 8, .inl h_laid_kinds_c)), (h_laid_hours, .inl (cI, 9, .inl h_laid_hours_c)), (h_laid_weights, .inl (cI, 9, .inl h_laid_weights_c)), (h_told, .inl (cI, 8, .inl h_told_c)), (h_laid_prices, .inl (cI, 8, .inl h_laid_prices_c))] sz)) (va_Qi (fun r' _ => r' = r) (q_E D vwCl (tyL cI cC cL cB) (va_A [(h, .inr (5, [.ref h_page, .ref h_laid, .ref h_draft, .ref h_now, .ref h_trial, .ref h_past, .ref h_sightings, .ref h_kept, .int h_keptCount, .ref h_told])), (h_laid, .inr (0, [.int h_laid_pieces, .ref h_laid_kinds, .ref h_laid_prices, .int h_laid_roomsAtFirst, .int h_laid_deeds, .ref h_laid_persons, .ref h_laid_places, .ref h_laid_hours, .ref h_laid_weights, .int h_laid_coins, .int h_laid_law, .ref h_laid_numbers])), (h_now, .inr (4, [.int h_now_rooms, .int h_now_bought, .int h_now_spoken, .int h_now_out, .int h_now_coins])), (h_laid_places, .inl (cI, 9, .inl h_laid_places_c)), (h_laid_kinds, .inl (cI, 8, .inl h_laid_kinds_c)), (h_laid_hours, .inl (cI, 9, .inl h_laid_hours_c)), (h_laid_weights, .inl (cI, 9, .inl h_laid_weights_c)), (h_told, .inl (cI, 8, .inl h_told_c)), (h_laid_prices, .inl (cI, 8, .inl h_laid_prices_c))] sz) [(h, .inr (5, [.ref h_page, .ref h_laid, .ref h_draft, .ref h_now, .ref h_trial, .ref h_past, .ref h_sightings, .ref h_kept, .int h_keptCount, .ref h_told])), (h_laid, .inr (0, [.int h_laid_pieces, .ref h_laid_kinds, .ref h_laid_prices, .int h_laid_roomsAtFirst, .int h_laid_deeds, .ref h_laid_persons, .ref h_laid_places, .ref h_laid_hours, .ref h_laid_weights, .int h_laid_coins, .int h_laid_law, .ref h_laid_numbers])), (h_now, .inr (4, [.int h_now_rooms, .int h_now_bought, .int h_now_spoken, .int h_now_out, .int h_now_coins])), (h_laid_places, .inl (cI, 9, .inl h_laid_places_c)), (h_laid_kinds, .inl (cI, 8, .inl h_laid_kinds_c)), (h_laid_hours, .inl (cI, 9, .inl h_laid_hours_c)), (h_laid_weights, .inl (cI, 9, .inl h_laid_weights_c)), (h_told, .inl (cI, 8, .inl o0)), (h_laid_prices, .inl (cI, 8, .inl h_laid_prices_c))]) (va_A [(h, .inr (5, [.ref h_page, .ref h_laid, .ref h_draft, .ref h_now, .ref h_trial, .ref h_past, .ref h_sightings, .ref h_kept, .int h_keptCount, .ref h_told])), (h_laid, .inr (0, [.int h_laid_pieces, .ref h_laid_kinds, .ref h_laid_prices, .int h_laid_roomsAtFirst, .int h_laid_deeds, .ref h_laid_persons, .ref h_laid_places, .ref h_laid_hours, .ref h_laid_weights, .int h_laid_coins, .int h_laid_law, .ref h_laid_numbers])), (h_now, .inr (4, [.int h_now_rooms, .int h_now_bought, .int h_now_spoken, .int h_now_out, .int h_now_coins])), (h_laid_places, .inl (cI, 9, .inl h_laid_places_c)), (h_laid_kinds, .inl (cI, 8, .inl h_laid_kinds_c)), (h_laid_hours, .inl (cI, 9, .inl h_laid_hours_c)), (h_laid_weights, .inl (cI, 9, .inl h_laid_weights_c)), (h_told, .inl (cI, 8, .inl h_told_c)), (h_laid_prices, .inl (cI, 8, .inl h_laid_prices_c))] sz)) 0 0 (va_A [(h, .inr (5, [.ref h_page, .ref h_laid, .ref h_draft, .ref h_now, .ref h_trial, .ref h_past, .ref h_sightings, .ref h_kept, .int h_keptCount, .ref h_told])), (h_laid, .inr (0, [.int h_laid_pieces, .ref h_laid_kinds, .ref h_laid_prices, .int h_laid_roomsAtFirst, .int h_laid_deeds, .ref h_laid_persons, .ref h_laid_places, .ref h_laid_hours, .ref h_laid_weights, .int h_laid_coins, .int h_laid_law, .ref h_laid_numbers])), (h_now, .inr (4, [.int h_now_rooms, .int h_now_bought, .int h_now_spoken, .int h_now_out, .int h_now_coins])), (h_laid_places, .inl (cI, 9, .inl h_laid_places_c)), (h_laid_kinds, .inl (cI, 8, .inl h_laid_kinds_c)), (h_laid_hours, .inl (cI, 9, .inl h_laid_hours_c)), (h_laid_weights, .inl (cI, 9, .inl h_laid_weights_c)), (h_told, .inl (cI, 8, .inl h_told_c)), (h_laid_prices, .inl (cI, 8, .inl h_laid_prices_c))] sz) := by
  refine Met.ofW (cc := cX5_save) (maxL := 7) (ret := (some .int)) (by decide) rfl ?_
  intro p e s m args below meth c s₁ B hml hv
  obtain ⟨rfl, hsz, hP, hK, hD0⟩ := hv
  have hx := B.exec
  have hb := B.bytes
  have hr := B.returns
  have hts := atoms_spec (ws := wsX5_save) B.pre
  have hown : s.vm.findClass RX5 = some m.cls := findClass_of_methodNamed B.named
  have hlocks := B.notSynchronized
  subst hsz
  have hD := hD0.self (sz := s.heap.size)
  generalize hAe : va_A [(h, .inr (5, [.ref h_page, .ref h_laid, .ref h_draft, .ref h_now, .ref h_trial, .ref h_past, .ref h_sightings, .ref h_kept, .int h_keptCount, .ref h_told])), (h_laid, .inr (0, [.int h_laid_pieces, .ref h_laid_kinds, .ref h_laid_prices, .int h_laid_roomsAtFirst, .int h_laid_deeds, .ref h_laid_persons, .ref h_laid_places, .ref h_laid_hours, .ref h_laid_weights, .int h_laid_coins, .int h_laid_law, .ref h_laid_numbers])), (h_now, .inr (4, [.int h_now_rooms, .int h_now_bought, .int h_now_spoken, .int h_now_out, .int h_now_coins])), (h_laid_places, .inl (cI, 9, .inl h_laid_places_c)), (h_laid_kinds, .inl (cI, 8, .inl h_laid_kinds_c)), (h_laid_hours, .inl (cI, 9, .inl h_laid_hours_c)), (h_laid_weights, .inl (cI, 9, .inl h_laid_weights_c)), (h_told, .inl (cI, 8, .inl h_told_c)), (h_laid_prices, .inl (cI, 8, .inl h_laid_prices_c))] s.heap.size = A at hD ⊢
  have hA : ∀ q : Nat, s.heap.size ≤ q → A q := fun q h => by rw [← hAe]; exact Or.inr h
  have hS : va_S A s.heap s.heap [] := va_S.rf
  have hP : va_P D vwCl [(h, .inr (5, [.ref h_page, .ref h_laid, .ref h_draft, .ref h_now, .ref h_trial, .ref h_past, .ref h_sightings, .ref h_kept, .int h_keptCount, .ref h_told])), (h_laid, .inr (0, [.int h_laid_pieces, .ref h_laid_kinds, .ref h_laid_prices, .int h_laid_roomsAtFirst, .int h_laid_deeds, .ref h_laid_persons, .ref h_laid_places, .ref h_laid_hours, .ref h_laid_weights, .int h_laid_coins, .int h_laid_law, .ref h_laid_numbers])), (h_now, .inr (4, [.int h_now_rooms, .int h_now_bought, .int h_now_spoken, .int h_now_out, .int h_now_coins])), (h_laid_places, .inl (cI, 9, .inl h_laid_places_c)), (h_laid_kinds, .inl (cI, 8, .inl h_laid_kinds_c)), (h_laid_hours, .inl (cI, 9, .inl h_laid_hours_c)), (h_laid_weights, .inl (cI, 9, .inl h_laid_weights_c)), (h_told, .inl (cI, 8, .inl h_told_c)), (h_laid_prices, .inl (cI, 8, .inl h_laid_prices_c))] s.heap := hP
  have hl := lv_entry ([.ref h, .int a1]) (n := 7) (Nat.le_of_ble_eq_true rfl)
  rw [lg_entry_eq]
  generalize (lg_sl ([.ref h, .int a1]) ++ List.replicate (7 - (lg_sl ([.ref h, .int a1])).length) Slot.unset).toArray = ls at hl ⊢
  have hl : lv_has ls 7 [(0, .ref h), (1, .int a1)] := hl
  unfold m_X5_save at hf
  refine lv_iload_n hx hb dX5_save_0 rfl (lv_at hl 1 rfl) ?_
  refine lv_iconst (v := 0) hx hb dX5_save_1 (by decide) ?_
  refine lv_iconst (v := 1) hx hb dX5_save_2 (by decide) ?_
  obtain ⟨x1, hv_1, hf⟩ := ob1_some hf
  refine q_rSi (As := [.int a1, .int 0, .int 1]) (rest := []) (r := x1) ⟨hx, hb, hml, hown, hts⟩ (c_X5_isWithin l D cI cC cL cB a1 ((0 : Int32)) ((1 : Int32)) x1 hv_1) (va_cwS 3 hts gX5_save_X5_isWithin rfl rfl rfl (by decide +kernel) ⟨Nat.le_of_ble_eq_true rfl, Nat.le_of_ble_eq_true rfl⟩) hK hP [] rfl rfl hl.1 rfl (Nat.le_of_ble_eq_true rfl) dX5_save_3 ⟨Nat.le_of_ble_eq_true rfl, Nat.le_of_ble_eq_true rfl⟩ ?_
  refine lv_if_ne (tgt := 11) hx hb dX5_save_6 (by decide) (fun c_2 => ?_) (fun c_2 => ?_)
  · have hf := im c_2 hf
    refine lv_aload_n hx hb dX5_save_11 rfl (lv_at hl 0 rfl) ?_
    obtain ⟨c2, hv_3, hf⟩ := ob1_some hf
    refine q_wVv (As := []) (rest := []) (w1 := [(h, .inr (5, [.ref h_page, .ref h_laid, .ref h_draft, .ref h_now, .ref h_trial, .ref h_past, .ref h_sightings, .ref h_kept, .int h_keptCount, .ref h_told])), (h_laid, .inr (0, [.int h_laid_pieces, .ref h_laid_kinds, .ref h_laid_prices, .int h_laid_roomsAtFirst, .int h_laid_deeds, .ref h_laid_persons, .ref h_laid_places, .ref h_laid_hours, .ref h_laid_weights, .int h_laid_coins, .int h_laid_law, .ref h_laid_numbers])), (h_now, .inr (4, [.int h_now_rooms, .int h_now_bought, .int h_now_spoken, .int h_now_out, .int h_now_coins])), (h_laid_places, .inl (cI, 9, .inl h_laid_places_c)), (h_laid_kinds, .inl (cI, 8, .inl h_laid_kinds_c)), (h_laid_hours, .inl (cI, 9, .inl h_laid_hours_c)), (h_laid_weights, .inl (cI, 9, .inl h_laid_weights_c)), (h_told, .inl (cI, 8, .inl c2))]) (wr := [(h_laid_prices, .inl (cI, 8, .inl h_laid_prices_c))]) (w2 := [(h, .inr (5, [.ref h_page, .ref h_laid, .ref h_draft, .ref h_now, .ref h_trial, .ref h_past, .ref h_sightings, .ref h_kept, .int h_keptCount, .ref h_told])), (h_laid, .inr (0, [.int h_laid_pieces, .ref h_laid_kinds, .ref h_laid_prices, .int h_laid_roomsAtFirst, .int h_laid_deeds, .ref h_laid_persons, .ref h_laid_places, .ref h_laid_hours, .ref h_laid_weights, .int h_laid_coins, .int h_laid_law, .ref h_laid_numbers])), (h_now, .inr (4, [.int h_now_rooms, .int h_now_bought, .int h_now_spoken, .int h_now_out, .int h_now_coins])), (h_laid_places, .inl (cI, 9, .inl h_laid_places_c)), (h_laid_kinds, .inl (cI, 8, .inl h_laid_kinds_c)), (h_laid_hours, .inl (cI, 9, .inl h_laid_hours_c)), (h_laid_weights, .inl (cI, 9, .inl h_laid_weights_c)), (h_told, .inl (cI, 8, .inl c2)), (h_laid_prices, .inl (cI, 8, .inl h_laid_prices_c))]) ⟨hx, hb, hml, hown, hts⟩ (c_X5_fillTold l D cI cC cL cB s.heap.size h h_page h_laid h_draft h_now h_trial h_past h_sightings h_kept h_told h_laid_kinds h_laid_prices h_laid_persons h_laid_places h_laid_hours h_laid_weights h_laid_numbers h_keptCount h_laid_pieces h_laid_roomsAtFirst h_laid_deeds h_laid_coins h_laid_law h_now_rooms h_now_bought h_now_spoken h_now_out h_now_coins h_laid_places_c h_laid_kinds_c h_laid_hours_c h_laid_weights_c h_told_c c2 hv_3) (cwV 0 hts gX5_save_X5_fillTold rfl rfl rfl (by decide +kernel) ⟨Nat.le_of_ble_eq_true rfl, Nat.le_of_ble_eq_true rfl⟩) hK hP hD hS hA [0, 1, 2, 3, 4, 5, 6, 7] rfl (by decide) [8] rfl (by decide) (by decide) [1, 2, 3, 4, 5, 6, 7, 8, 0] rfl (by decide) (va_recv hK hP (ci := 5) (q0 := 0) rfl rfl) rfl hl.1 rfl (Nat.le_of_ble_eq_true rfl) dX5_save_12 ⟨Nat.le_of_ble_eq_true rfl, Nat.le_of_ble_eq_true rfl⟩ (fun H locs hP hD hS => ?_)
    have hP : va_P D vwCl [(h, .inr (5, [.ref h_page, .ref h_laid, .ref h_draft, .ref h_now, .ref h_trial, .ref h_past, .ref h_sightings, .ref h_kept, .int h_keptCount, .ref h_told])), (h_laid, .inr (0, [.int h_laid_pieces, .ref h_laid_kinds, .ref h_laid_prices, .int h_laid_roomsAtFirst, .int h_laid_deeds, .ref h_laid_persons, .ref h_laid_places, .ref h_laid_hours, .ref h_laid_weights, .int h_laid_coins, .int h_laid_law, .ref h_laid_numbers])), (h_now, .inr (4, [.int h_now_rooms, .int h_now_bought, .int h_now_spoken, .int h_now_out, .int h_now_coins])), (h_laid_places, .inl (cI, 9, .inl h_laid_places_c)), (h_laid_kinds, .inl (cI, 8, .inl h_laid_kinds_c)), (h_laid_hours, .inl (cI, 9, .inl h_laid_hours_c)), (h_laid_weights, .inl (cI, 9, .inl h_laid_weights_c)), (h_told, .inl (cI, 8, .inl c2)), (h_laid_prices, .inl (cI, 8, .inl h_laid_prices_c))] H := hP
    have hD : va_D A [(h, .inr (5, [.ref h_page, .ref h_laid, .ref h_draft, .ref h_now, .ref h_trial, .ref h_past, .ref h_sightings, .ref h_kept, .int h_keptCount, .ref h_told])), (h_laid, .inr (0, [.int h_laid_pieces, .ref h_laid_kinds, .ref h_laid_prices, .int h_laid_roomsAtFirst, .int h_laid_deeds, .ref h_laid_persons, .ref h_laid_places, .ref h_laid_hours, .ref h_laid_weights, .int h_laid_coins, .int h_laid_law, .ref h_laid_numbers])), (h_now, .inr (4, [.int h_now_rooms, .int h_now_bought, .int h_now_spoken, .int h_now_out, .int h_now_coins])), (h_laid_places, .inl (cI, 9, .inl h_laid_places_c)), (h_laid_kinds, .inl (cI, 8, .inl h_laid_kinds_c)), (h_laid_hours, .inl (cI, 9, .inl h_laid_hours_c)), (h_laid_weights, .inl (cI, 9, .inl h_laid_weights_c)), (h_told, .inl (cI, 8, .inl c2)), (h_laid_prices, .inl (cI, 8, .inl h_laid_prices_c))] := hD
    refine lv_aload_n hx hb dX5_save_15 rfl (lv_at hl 0 rfl) ?_
    obtain ⟨x3, hv_4, hf⟩ := ob1_some hf
    refine q_rVi (As := []) (rest := []) (r := x3) ⟨hx, hb, hml, hown, hts⟩ (c_X5_looseOnes l D cI cC cL cB h h_page h_laid h_draft h_now h_trial h_past h_sightings h_kept h_told h_laid_kinds h_laid_prices h_laid_persons h_laid_places h_laid_hours h_laid_weights h_laid_numbers h_keptCount h_laid_pieces h_laid_roomsAtFirst h_laid_deeds h_laid_coins h_laid_law h_now_rooms h_now_bought h_now_spoken h_now_out h_now_coins h_laid_kinds_c x3 hv_4) (cwV 0 hts gX5_save_X5_looseOnes rfl rfl rfl (by decide +kernel) ⟨Nat.le_of_ble_eq_true rfl, Nat.le_of_ble_eq_true rfl⟩) hK hP [0, 1, 2, 4] rfl (va_recv hK hP (ci := 5) (q0 := 0) rfl rfl) rfl hl.1 rfl (Nat.le_of_ble_eq_true rfl) dX5_save_16 ⟨Nat.le_of_ble_eq_true rfl, Nat.le_of_ble_eq_true rfl⟩ ?_
    refine lv_istore_n (lv' := [(2, .int x3), (0, .ref h), (1, .int a1)]) hx hb dX5_save_19 rfl hl (by decide) rfl (fun ls hl => ?_)
    refine lv_iconst (v := 0) hx hb dX5_save_20 (by decide) ?_
    refine lv_istore_n (lv' := [(3, .int 0), (2, .int x3), (0, .ref h), (1, .int a1)]) hx hb dX5_save_21 rfl hl (by decide) rfl (fun ls hl => ?_)
    refine lv_aload_n hx hb dX5_save_22 rfl (lv_at hl 2 rfl) ?_
    refine lv_iload_n hx hb dX5_save_23 rfl (lv_at hl 1 rfl) ?_
    obtain ⟨x4, hv_5, hf⟩ := ob1_some hf
    refine q_rVi (As := [.int x3]) (rest := []) (r := x4) ⟨hx, hb, hml, hown, hts⟩ (c_X5_weightLeft l D cI cC cL cB h h_page h_laid h_draft h_now h_trial h_past h_sightings h_kept h_told h_laid_kinds h_laid_prices h_laid_persons h_laid_places h_laid_hours h_laid_weights h_laid_numbers x3 h_keptCount h_laid_pieces h_laid_roomsAtFirst h_laid_deeds h_laid_coins h_laid_law c2 h_now_rooms h_now_bought h_now_spoken h_now_out h_now_coins h_laid_weights_c x4 hv_5) (cwV 1 hts gX5_save_X5_weightLeft rfl rfl rfl (by decide +kernel) ⟨Nat.le_of_ble_eq_true rfl, Nat.le_of_ble_eq_true rfl⟩) hK hP [0, 1, 7, 2, 6] rfl (va_recv hK hP (ci := 5) (q0 := 0) rfl rfl) rfl hl.1 rfl (Nat.le_of_ble_eq_true rfl) dX5_save_24 ⟨Nat.le_of_ble_eq_true rfl, Nat.le_of_ble_eq_true rfl⟩ ?_
    refine lv_istore (lv' := [(4, .int x4), (3, .int 0), (2, .int x3), (0, .ref h), (1, .int a1)]) hx hb dX5_save_27 hl (by decide) rfl (fun ls hl => ?_)
    refine lv_iconst (v := 1) hx hb dX5_save_29 (by decide) ?_
    refine lv_istore (lv' := [(5, .int 1), (4, .int x4), (3, .int 0), (2, .int x3), (0, .ref h), (1, .int a1)]) hx hb dX5_save_30 hl (by decide) rfl (fun ls hl => ?_)
    have loop32 : ∀ (n : Nat) (x5 : Int32) (x6 : Int32) (x7 : Int32), ∀ (ls : Array Slot), lv_has ls 7 [(0, .ref h), (1, .int a1), (2, .int x3), (3, .int x5), (4, .int x6), (5, .int x7)] → ∀ (x8 : Int32) (x9 : Int32), L_X5_save_32 h_laid_pieces x3 h_laid_prices_c h_now_coins h_laid_deeds c2 h_now_out h_laid_weights_c n x5 x6 x7 = some (x8, x9) → (∀ (ls : Array Slot), lv_has ls 7 [(1, .int a1), (3, .int x8), (4, .int x9)] → W p l e (headSpec wsX5_save ({ frames := 4, cells := 0, slots := 0, locals := 96 })).room s m ([.ref h, .int a1] : List Value).toArray below meth c H locs 0 0 (MQ below (va_Qi (fun r' _ => r' = r) (q_E D vwCl (tyL cI cC cL cB) A [(h, .inr (5, [.ref h_page, .ref h_laid, .ref h_draft, .ref h_now, .ref h_trial, .ref h_past, .ref h_sightings, .ref h_kept, .int h_keptCount, .ref h_told])), (h_laid, .inr (0, [.int h_laid_pieces, .ref h_laid_kinds, .ref h_laid_prices, .int h_laid_roomsAtFirst, .int h_laid_deeds, .ref h_laid_persons, .ref h_laid_places, .ref h_laid_hours, .ref h_laid_weights, .int h_laid_coins, .int h_laid_law, .ref h_laid_numbers])), (h_now, .inr (4, [.int h_now_rooms, .int h_now_bought, .int h_now_spoken, .int h_now_out, .int h_now_coins])), (h_laid_places, .inl (cI, 9, .inl h_laid_places_c)), (h_laid_kinds, .inl (cI, 8, .inl h_laid_kinds_c)), (h_laid_hours, .inl (cI, 9, .inl h_laid_hours_c)), (h_laid_weights, .inl (cI, 9, .inl h_laid_weights_c)), (h_told, .inl (cI, 8, .inl o0)), (h_laid_prices, .inl (cI, 8, .inl h_laid_prices_c))]) A) ([.ref h, .int a1] : List Value).toArray s 0 0 A) (F0 m 109 ls [])) → W p l e (headSpec wsX5_save ({ frames := 4, cells := 0, slots := 0, locals := 96 })).room s m ([.ref h, .int a1] : List Value).toArray below meth c H locs 0 0 (MQ below (va_Qi (fun r' _ => r' = r) (q_E D vwCl (tyL cI cC cL cB) A [(h, .inr (5, [.ref h_page, .ref h_laid, .ref h_draft, .ref h_now, .ref h_trial, .ref h_past, .ref h_sightings, .ref h_kept, .int h_keptCount, .ref h_told])), (h_laid, .inr (0, [.int h_laid_pieces, .ref h_laid_kinds, .ref h_laid_prices, .int h_laid_roomsAtFirst, .int h_laid_deeds, .ref h_laid_persons, .ref h_laid_places, .ref h_laid_hours, .ref h_laid_weights, .int h_laid_coins, .int h_laid_law, .ref h_laid_numbers])), (h_now, .inr (4, [.int h_now_rooms, .int h_now_bought, .int h_now_spoken, .int h_now_out, .int h_now_coins])), (h_laid_places, .inl (cI, 9, .inl h_laid_places_c)), (h_laid_kinds, .inl (cI, 8, .inl h_laid_kinds_c)), (h_laid_hours, .inl (cI, 9, .inl h_laid_hours_c)), (h_laid_weights, .inl (cI, 9, .inl h_laid_weights_c)), (h_told, .inl (cI, 8, .inl o0)), (h_laid_prices, .inl (cI, 8, .inl h_laid_prices_c))]) A) ([.ref h, .int a1] : List Value).toArray s 0 0 A) (F0 m 32 ls []) := by
      intro n
      induction n with
      | zero =>
        intro x5 x6 x7 ls hl x8 x9 hf KX
        rw [L_X5_save_32] at hf
        cases hf
      | succ n ih =>
        intro x5 x6 x7 ls hl x8 x9 hf KX
        rw [L_X5_save_32] at hf
        refine lv_iload hx hb dX5_save_32 (lv_at hl 5 rfl) ?_
        refine lv_iconst (v := 1) hx hb dX5_save_34 (by decide) ?_
        refine lv_aload_n hx hb dX5_save_35 rfl (lv_at hl 0 rfl) ?_
        refine va_get (D := D) (ci := 5) (v := .ref h_laid) (C := RX5) (T := TX5) (N := 10) hx hb hts uX5_save_X5 hown hK hP 0 rfl rfl 1 (by decide) (hts (.fieldLink RX5 19 "SpeaksForTheChair" "laid" "LSpeaksForTheChair$House;") (List.mem_of_getElem? (i := 1) rfl)) (fun _ h9 => h9) rfl dX5_save_36 ?_
        refine va_get (D := D) (ci := 0) (v := .int h_laid_pieces) (C := RX0) (T := TX0) (N := 12) hx hb hts uX5_save_X0 hown hK hP 1 rfl rfl 0 (by decide) (hts (.fieldLink RX5 91 "SpeaksForTheChair$House" "pieces" "I") (List.mem_of_getElem? (i := 2) rfl)) (fun _ h9 => h9) rfl dX5_save_39 ?_
        refine lv_ishl hx hb dX5_save_42 ?_
        refine lv_icmp_ge (tgt := 109) hx hb dX5_save_43 (by decide) (fun c_18 => ?_) (fun c_18 => ?_)
        · have hf := ip c_18 hf
          cases hf
          exact KX ls (lv_sub hl [1, 3, 4] rfl)
        · have hf := im c_18 hf
          refine lv_iload hx hb dX5_save_46 (lv_at hl 5 rfl) ?_
          refine lv_iload_n hx hb dX5_save_48 rfl (lv_at hl 2 rfl) ?_
          refine lv_iconst (v := (-1)) hx hb dX5_save_49 (by decide) ?_
          refine lv_ixor hx hb dX5_save_50 ?_
          refine lv_iand hx hb dX5_save_51 ?_
          refine lv_if_ne (tgt := 103) hx hb dX5_save_52 (by decide) (fun c_19 => ?_) (fun c_19 => ?_)
          · have hf := im c_19 hf
            obtain ⟨x10, ex10⟩ : ∃ y : Int32, y = (x7 + 1) := ⟨_, rfl⟩
            have hf := pv_eq ex10 hf
            refine lv_iinc (v := x10) (lv' := [(5, .int x10), (0, .ref h), (1, .int a1), (2, .int x3), (3, .int x5), (4, .int x6)]) hx hb dX5_save_103 hl (k := 5) rfl (by rw [ex10]; rfl) (by decide) rfl (fun ls hl => ?_)
            refine lv_goto (tgt := 32) hx hb dX5_save_106 (by decide) ?_
            exact ih _ _ _ ls (lv_sub hl [1, 2, 3, 4, 5, 0] rfl) _ _ hf KX
          · have hf := ip c_19 hf
            refine lv_aload_n hx hb dX5_save_55 rfl (lv_at hl 0 rfl) ?_
            refine va_get (D := D) (ci := 5) (v := .ref h_laid) (C := RX5) (T := TX5) (N := 10) hx hb hts uX5_save_X5 hown hK hP 0 rfl rfl 1 (by decide) (hts (.fieldLink RX5 19 "SpeaksForTheChair" "laid" "LSpeaksForTheChair$House;") (List.mem_of_getElem? (i := 1) rfl)) (fun _ h9 => h9) rfl dX5_save_56 ?_
            refine lv_iload hx hb dX5_save_59 (lv_at hl 5 rfl) ?_
            obtain ⟨x11, hv_20, hf⟩ := ob1_some hf
            refine q_rVi (As := [.int x7]) (rest := []) (r := x11) ⟨hx, hb, hml, hown, hts⟩ (c_X0_priceOf l D cI cC cL cB h_laid h_laid_kinds h_laid_prices h_laid_persons h_laid_places h_laid_hours h_laid_weights h_laid_numbers x7 h_laid_pieces h_laid_roomsAtFirst h_laid_deeds h_laid_coins h_laid_law h_laid_prices_c x11 hv_20) (cwV 1 hts gX5_save_X0_priceOf rfl rfl rfl (by decide +kernel) ⟨Nat.le_of_ble_eq_true rfl, Nat.le_of_ble_eq_true rfl⟩) hK hP [1, 8] rfl (va_recv hK hP (ci := 0) (q0 := 1) rfl rfl) rfl hl.1 rfl (Nat.le_of_ble_eq_true rfl) dX5_save_61 ⟨Nat.le_of_ble_eq_true rfl, Nat.le_of_ble_eq_true rfl⟩ ?_
            refine lv_aload_n hx hb dX5_save_64 rfl (lv_at hl 0 rfl) ?_
            refine va_get (D := D) (ci := 5) (v := .ref h_now) (C := RX5) (T := TX5) (N := 10) hx hb hts uX5_save_X5 hown hK hP 0 rfl rfl 3 (by decide) (hts (.fieldLink RX5 29 "SpeaksForTheChair" "now" "LSpeaksForTheChair$Standing;") (List.mem_of_getElem? (i := 3) rfl)) (fun _ h9 => h9) rfl dX5_save_65 ?_
            refine va_get (D := D) (ci := 4) (v := .int h_now_coins) (C := RX4) (T := TX4) (N := 5) hx hb hts uX5_save_X4 hown hK hP 2 rfl rfl 4 (by decide) (hts (.fieldLink RX5 172 "SpeaksForTheChair$Standing" "coins" "I") (List.mem_of_getElem? (i := 4) rfl)) (fun _ h9 => h9) rfl dX5_save_68 ?_
            refine lv_icmp_le (tgt := 77) hx hb dX5_save_71 (by decide) (fun c_21 => ?_) (fun c_21 => ?_)
            · have hf := ip c_21 hf
              refine lv_aload_n hx hb dX5_save_77 rfl (lv_at hl 0 rfl) ?_
              refine lv_iload_n hx hb dX5_save_78 rfl (lv_at hl 2 rfl) ?_
              refine lv_iload hx hb dX5_save_79 (lv_at hl 5 rfl) ?_
              refine lv_iconst (v := (-1)) hx hb dX5_save_81 (by decide) ?_
              refine lv_ixor hx hb dX5_save_82 ?_
              refine lv_iand hx hb dX5_save_83 ?_
              obtain ⟨x12, hv_22, hf⟩ := ob1_some hf
              refine q_rVi (As := [.int (x3 &&& (x7 ^^^ (-1)))]) (rest := []) (r := x12) ⟨hx, hb, hml, hown, hts⟩ (c_X5_weightLeft l D cI cC cL cB h h_page h_laid h_draft h_now h_trial h_past h_sightings h_kept h_told h_laid_kinds h_laid_prices h_laid_persons h_laid_places h_laid_hours h_laid_weights h_laid_numbers ((x3 &&& (x7 ^^^ (-1)))) h_keptCount h_laid_pieces h_laid_roomsAtFirst h_laid_deeds h_laid_coins h_laid_law c2 h_now_rooms h_now_bought h_now_spoken h_now_out h_now_coins h_laid_weights_c x12 hv_22) (cwV 1 hts gX5_save_X5_weightLeft rfl rfl rfl (by decide +kernel) ⟨Nat.le_of_ble_eq_true rfl, Nat.le_of_ble_eq_true rfl⟩) hK hP [0, 1, 7, 2, 6] rfl (va_recv hK hP (ci := 5) (q0 := 0) rfl rfl) rfl hl.1 rfl (Nat.le_of_ble_eq_true rfl) dX5_save_84 ⟨Nat.le_of_ble_eq_true rfl, Nat.le_of_ble_eq_true rfl⟩ ?_
              refine lv_istore (lv' := [(6, .int x12), (0, .ref h), (1, .int a1), (2, .int x3), (3, .int x5), (4, .int x6), (5, .int x7)]) hx hb dX5_save_87 hl (by decide) rfl (fun ls hl => ?_)
              refine lv_iload hx hb dX5_save_89 (lv_at hl 0 rfl) ?_
              refine lv_iload hx hb dX5_save_91 (lv_at hl 5 rfl) ?_
              refine lv_icmp_ge (tgt := 103) hx hb dX5_save_93 (by decide) (fun c_23 => ?_) (fun c_23 => ?_)
              · have hf := ip c_23 hf
                obtain ⟨x13, ex13⟩ : ∃ y : Int32, y = (x7 + 1) := ⟨_, rfl⟩
                have hf := pv_eq ex13 hf
                refine lv_iinc (v := x13) (lv' := [(5, .int x13), (6, .int x12), (0, .ref h), (1, .int a1), (2, .int x3), (3, .int x5), (4, .int x6)]) hx hb dX5_save_103 hl (k := 6) rfl (by rw [ex13]; rfl) (by decide) rfl (fun ls hl => ?_)
                refine lv_goto (tgt := 32) hx hb dX5_save_106 (by decide) ?_
                exact ih _ _ _ ls (lv_sub hl [2, 3, 4, 5, 6, 0] rfl) _ _ hf KX
              · have hf := im c_23 hf
                refine lv_iload hx hb dX5_save_96 (lv_at hl 0 rfl) ?_
                refine lv_istore (lv' := [(4, .int x12), (6, .int x12), (0, .ref h), (1, .int a1), (2, .int x3), (3, .int x5), (5, .int x7)]) hx hb dX5_save_98 hl (by decide) rfl (fun ls hl => ?_)
                refine lv_iload hx hb dX5_save_100 (lv_at hl 6 rfl) ?_
                refine lv_istore_n (lv' := [(3, .int x7), (4, .int x12), (6, .int x12), (0, .ref h), (1, .int a1), (2, .int x3), (5, .int x7)]) hx hb dX5_save_102 rfl hl (by decide) rfl (fun ls hl => ?_)
                obtain ⟨x14, ex14⟩ : ∃ y : Int32, y = (x7 + 1) := ⟨_, rfl⟩
                have hf := pv_eq ex14 hf
                refine lv_iinc (v := x14) (lv' := [(5, .int x14), (3, .int x7), (4, .int x12), (6, .int x12), (0, .ref h), (1, .int a1), (2, .int x3)]) hx hb dX5_save_103 hl (k := 6) rfl (by rw [ex14]; rfl) (by decide) rfl (fun ls hl => ?_)
                refine lv_goto (tgt := 32) hx hb dX5_save_106 (by decide) ?_
                exact ih _ _ _ ls (lv_sub hl [4, 5, 6, 1, 2, 0] rfl) _ _ hf KX
            · have hf := im c_21 hf
              refine lv_goto (tgt := 103) hx hb dX5_save_74 (by decide) ?_
              obtain ⟨x15, ex15⟩ : ∃ y : Int32, y = (x7 + 1) := ⟨_, rfl⟩
              have hf := pv_eq ex15 hf
              refine lv_iinc (v := x15) (lv' := [(5, .int x15), (0, .ref h), (1, .int a1), (2, .int x3), (3, .int x5), (4, .int x6)]) hx hb dX5_save_103 hl (k := 5) rfl (by rw [ex15]; rfl) (by decide) rfl (fun ls hl => ?_)
              refine lv_goto (tgt := 32) hx hb dX5_save_106 (by decide) ?_
              exact ih _ _ _ ls (lv_sub hl [1, 2, 3, 4, 5, 0] rfl) _ _ hf KX
    obtain ⟨x8, x9, hr32, hf⟩ := ob2_some hf
    refine loop32 300 _ _ _ ls (lv_sub hl [4, 5, 3, 2, 1, 0] rfl) _ _ hr32 (fun ls hl => ?_)
    refine lv_iload_n hx hb dX5_save_109 rfl (lv_at hl 0 rfl) ?_
    refine lv_if_ne (tgt := 118) hx hb dX5_save_110 (by decide) (fun c_24 => ?_) (fun c_24 => ?_)
    · have hf := im c_24 hf
      refine lv_iload_n hx hb dX5_save_118 rfl (lv_at hl 1 rfl) ?_
      cases hf
      exact W.iret hx hb hr (fun t ht hW => ⟨⟨_, (), rfl, rfl, by rw [ht]; exact hP, va_K.moved hW.alike hK, hD⟩, hS.F ht⟩) hS.2.2 dX5_save_119
    · have hf := ip c_24 hf
      refine lv_iload hx hb dX5_save_113 (lv_at hl 2 rfl) ?_
      refine lv_goto (tgt := 119) hx hb dX5_save_115 (by decide) ?_
      cases hf
      exact W.iret hx hb hr (fun t ht hW => ⟨⟨_, (), rfl, rfl, by rw [ht]; exact hP, va_K.moved hW.alike hK, hD⟩, hS.F ht⟩) hS.2.2 dX5_save_119
  · have hf := ip c_2 hf
    refine lv_iconst (v := (-1)) hx hb dX5_save_9 (by decide) ?_
    cases hf
    exact W.iret hx hb hr (fun t ht hW => ⟨⟨_, (), rfl, rfl, by rw [ht]; exact hP, va_K.moved hW.alike hK, hD⟩, hS.F ht⟩) hS.2.2 dX5_save_10
theorem uX5_together_X5 : ∀ w ∈ wsX50, w ∈ wsX5_together := fun w h => List.mem_cons_of_mem _ (List.mem_append_left _ (List.mem_append_left _ (List.mem_append_right _ h)))
set_option maxHeartbeats 4000000 in
set_option maxRecDepth 100000 in
theorem c_X5_together (l : Launch) (D : va_G) (cI cC cL cB : ClassId) (h : Nat) (h_page : Nat) (h_laid : Nat) (h_draft : Nat) (h_now : Nat) (h_trial : Nat) (h_past : Nat) (h_sightings : Nat) (h_kept : Nat) (h_told : Nat) (h_laid_kinds : Nat) (h_laid_prices : Nat) (h_laid_persons : Nat) (h_laid_places : Nat) (h_laid_hours : Nat) (h_laid_weights : Nat) (h_laid_numbers : Nat) (a1 : Int32) (a2 : Int32) (h_keptCount : Int32) (h_laid_pieces : Int32) (h_laid_roomsAtFirst : Int32) (h_laid_deeds : Int32) (h_laid_coins : Int32) (h_laid_law : Int32) (h_now_rooms : Int32) (h_now_bought : Int32) (h_now_spoken : Int32) (h_now_out : Int32) (h_now_coins : Int32) (h_laid_places_c : Nat → Int32) (h_laid_kinds_c : Nat → Int32) (h_laid_hours_c : Nat → Int32) (h_laid_weights_c : Nat → Int32) (r : Int32) (hf : m_X5_together a1 a2 h_laid_pieces h_laid_deeds h_now_rooms h_laid_places_c h_laid_kinds_c h_laid_hours_c h_laid_weights_c = some r) : Met l yX5_together wsX5_together ({ frames := 3, cells := 0, slots := 0, locals := 75 }) (va_Pc [.ref h, .int a1, .int a2] (q_R D vwCl (tyL cI cC cL cB) [(h, .inr (5, [.ref h_page, .ref h_laid, .ref h_draft, .ref h_now, .ref h_trial, .ref h_past, .ref h_sightings, .ref h_kept, .int h_keptCount, .ref h_told])), (h_laid, .inr (0, [.int h_laid_pieces, .ref h_laid_kinds, .ref h_laid_prices, .int h_laid_roomsAtFirst, .int h_laid_deeds, .ref h_laid_persons, .ref h_laid_places, .ref h_laid_hours, .ref h_laid_weights, .int h_laid_coins, .int h_laid_law, .ref h_laid_numbers])), (h_now, .inr (4, [.int h_now_rooms, .int h_now_bought, .int h_now_spoken, .int h_now_out, .int h_now_coins])), (h_laid_places, .inl (cI, 9, .inl h_laid_places_c)), (h_laid_kinds, .inl (cI, 8, .inl h_laid_kinds_c)), (h_laid_hours, .inl (cI, 9, .inl h_laid_hours_c)), (h_laid_weights, .inl (cI, 9, .inl h_laid_weights_c))])) (vp_Si (fun r' => r' = r)) 0 0 (fun _ => False) := by
  refine Met.ofW (cc := cX5_together) (maxL := 3) (ret := (some .int)) (by decide) rfl ?_
  intro p e s m args below meth c s₁ B hml hv
  obtain ⟨rfl, hP, hK⟩ := hv
  have hx := B.exec
  have hb := B.bytes
  have hr := B.returns
  have hts := atoms_spec (ws := wsX5_together) B.pre
  have hown : s.vm.findClass RX5 = some m.cls := findClass_of_methodNamed B.named
  have hlocks := B.notSynchronized
  have hl := lv_entry ([.ref h, .int a1, .int a2]) (n := 3) (Nat.le_of_ble_eq_true rfl)
  rw [lg_entry_eq]
  generalize (lg_sl ([.ref h, .int a1, .int a2]) ++ List.replicate (3 - (lg_sl ([.ref h, .int a1, .int a2])).length) Slot.unset).toArray = ls at hl ⊢
  have hl : lv_has ls 3 [(0, .ref h), (1, .int a1), (2, .int a2)] := hl
  unfold m_X5_together at hf
  refine lv_aload_n hx hb dX5_together_0 rfl (lv_at hl 0 rfl) ?_
  refine lv_iload_n hx hb dX5_together_1 rfl (lv_at hl 1 rfl) ?_
  obtain ⟨x1, hv_1, hf⟩ := ob1_some hf
  refine q_rVi (As := [.int a1]) (rest := []) (r := x1) ⟨hx, hb, hml, hown, hts⟩ (c_X5_isPiece l D cI cC cL cB h h_page h_laid h_draft h_now h_trial h_past h_sightings h_kept h_told h_laid_kinds h_laid_prices h_laid_persons h_laid_places h_laid_hours h_laid_weights h_laid_numbers a1 h_keptCount h_laid_pieces h_laid_roomsAtFirst h_laid_deeds h_laid_coins h_laid_law x1 hv_1) (cwV 1 hts gX5_together_X5_isPiece rfl rfl rfl (by decide +kernel) ⟨Nat.le_of_ble_eq_true rfl, Nat.le_of_ble_eq_true rfl⟩) hK hP [0, 1] rfl (va_recv hK hP (ci := 5) (q0 := 0) rfl rfl) rfl hl.1 rfl (Nat.le_of_ble_eq_true rfl) dX5_together_2 ⟨Nat.le_of_ble_eq_true rfl, Nat.le_of_ble_eq_true rfl⟩ ?_
  refine lv_if_eq (tgt := 21) hx hb dX5_together_5 (by decide) (fun c_2 => ?_) (fun c_2 => ?_)
  · have hf := ip c_2 hf
    refine lv_iconst (v := (-1)) hx hb dX5_together_21 (by decide) ?_
    cases hf
    exact W.iret hx hb hr (fun t ht hW => ⟨_, rfl, rfl, ht⟩) (fun _ h => by cases h) dX5_together_22
  · have hf := im c_2 hf
    refine lv_aload_n hx hb dX5_together_8 rfl (lv_at hl 0 rfl) ?_
    refine lv_iload_n hx hb dX5_together_9 rfl (lv_at hl 2 rfl) ?_
    obtain ⟨x2, hv_3, hf⟩ := ob1_some hf
    refine q_rVi (As := [.int a2]) (rest := []) (r := x2) ⟨hx, hb, hml, hown, hts⟩ (c_X5_isPiece l D cI cC cL cB h h_page h_laid h_draft h_now h_trial h_past h_sightings h_kept h_told h_laid_kinds h_laid_prices h_laid_persons h_laid_places h_laid_hours h_laid_weights h_laid_numbers a2 h_keptCount h_laid_pieces h_laid_roomsAtFirst h_laid_deeds h_laid_coins h_laid_law x2 hv_3) (cwV 1 hts gX5_together_X5_isPiece rfl rfl rfl (by decide +kernel) ⟨Nat.le_of_ble_eq_true rfl, Nat.le_of_ble_eq_true rfl⟩) hK hP [0, 1] rfl (va_recv hK hP (ci := 5) (q0 := 0) rfl rfl) rfl hl.1 rfl (Nat.le_of_ble_eq_true rfl) dX5_together_10 ⟨Nat.le_of_ble_eq_true rfl, Nat.le_of_ble_eq_true rfl⟩ ?_
    refine lv_if_eq (tgt := 21) hx hb dX5_together_13 (by decide) (fun c_4 => ?_) (fun c_4 => ?_)
    · have hf := ip c_4 hf
      refine lv_iconst (v := (-1)) hx hb dX5_together_21 (by decide) ?_
      cases hf
      exact W.iret hx hb hr (fun t ht hW => ⟨_, rfl, rfl, ht⟩) (fun _ h => by cases h) dX5_together_22
    · have hf := im c_4 hf
      refine lv_iload_n hx hb dX5_together_16 rfl (lv_at hl 1 rfl) ?_
      refine lv_iload_n hx hb dX5_together_17 rfl (lv_at hl 2 rfl) ?_
      refine lv_icmp_ne (tgt := 23) hx hb dX5_together_18 (by decide) (fun c_5 => ?_) (fun c_5 => ?_)
      · have hf := im c_5 hf
        refine lv_aload_n hx hb dX5_together_23 rfl (lv_at hl 0 rfl) ?_
        refine va_get (D := D) (ci := 5) (v := .ref h_laid) (C := RX5) (T := TX5) (N := 10) hx hb hts uX5_together_X5 hown hK hP 0 rfl rfl 1 (by decide) (hts (.fieldLink RX5 19 "SpeaksForTheChair" "laid" "LSpeaksForTheChair$House;") (List.mem_of_getElem? (i := 1) rfl)) (fun _ h9 => h9) rfl dX5_together_24 ?_
        refine lv_iload_n hx hb dX5_together_27 rfl (lv_at hl 1 rfl) ?_
        refine lv_aload_n hx hb dX5_together_28 rfl (lv_at hl 0 rfl) ?_
        refine va_get (D := D) (ci := 5) (v := .ref h_now) (C := RX5) (T := TX5) (N := 10) hx hb hts uX5_together_X5 hown hK hP 0 rfl rfl 3 (by decide) (hts (.fieldLink RX5 29 "SpeaksForTheChair" "now" "LSpeaksForTheChair$Standing;") (List.mem_of_getElem? (i := 2) rfl)) (fun _ h9 => h9) rfl dX5_together_29 ?_
        refine lv_iload_n hx hb dX5_together_32 rfl (lv_at hl 1 rfl) ?_
        obtain ⟨x3, hv_6, hf⟩ := ob1_some hf
        refine q_rVi (As := [.int a1]) (rest := [.int a1, .ref h_laid]) (r := x3) ⟨hx, hb, hml, hown, hts⟩ (c_X4_roomOf l D cI cC cL cB h_now a1 h_now_rooms h_now_bought h_now_spoken h_now_out h_now_coins x3 hv_6) (cwV 1 hts gX5_together_X4_roomOf rfl rfl rfl (by decide +kernel) ⟨Nat.le_of_ble_eq_true rfl, Nat.le_of_ble_eq_true rfl⟩) hK hP [2] rfl (va_recv hK hP (ci := 4) (q0 := 2) rfl rfl) rfl hl.1 rfl (Nat.le_of_ble_eq_true rfl) dX5_together_33 ⟨Nat.le_of_ble_eq_true rfl, Nat.le_of_ble_eq_true rfl⟩ ?_
        obtain ⟨x4, hv_7, hf⟩ := ob1_some hf
        refine q_rVi (As := [.int a1, .int x3]) (rest := []) (r := x4) ⟨hx, hb, hml, hown, hts⟩ (c_X0_toldBy l D cI cC cL cB h_laid h_laid_kinds h_laid_prices h_laid_persons h_laid_places h_laid_hours h_laid_weights h_laid_numbers a1 x3 h_laid_pieces h_laid_roomsAtFirst h_laid_deeds h_laid_coins h_laid_law h_laid_places_c h_laid_kinds_c h_laid_hours_c h_laid_weights_c x4 hv_7) (cwV 2 hts gX5_together_X0_toldBy rfl rfl rfl (by decide +kernel) ⟨Nat.le_of_ble_eq_true rfl, Nat.le_of_ble_eq_true rfl⟩) hK hP [1, 3, 4, 5, 6] rfl (va_recv hK hP (ci := 0) (q0 := 1) rfl rfl) rfl hl.1 rfl (Nat.le_of_ble_eq_true rfl) dX5_together_36 ⟨Nat.le_of_ble_eq_true rfl, Nat.le_of_ble_eq_true rfl⟩ ?_
        refine lv_aload_n hx hb dX5_together_39 rfl (lv_at hl 0 rfl) ?_
        refine va_get (D := D) (ci := 5) (v := .ref h_laid) (C := RX5) (T := TX5) (N := 10) hx hb hts uX5_together_X5 hown hK hP 0 rfl rfl 1 (by decide) (hts (.fieldLink RX5 19 "SpeaksForTheChair" "laid" "LSpeaksForTheChair$House;") (List.mem_of_getElem? (i := 1) rfl)) (fun _ h9 => h9) rfl dX5_together_40 ?_
        refine lv_iload_n hx hb dX5_together_43 rfl (lv_at hl 2 rfl) ?_
        refine lv_aload_n hx hb dX5_together_44 rfl (lv_at hl 0 rfl) ?_
        refine va_get (D := D) (ci := 5) (v := .ref h_now) (C := RX5) (T := TX5) (N := 10) hx hb hts uX5_together_X5 hown hK hP 0 rfl rfl 3 (by decide) (hts (.fieldLink RX5 29 "SpeaksForTheChair" "now" "LSpeaksForTheChair$Standing;") (List.mem_of_getElem? (i := 2) rfl)) (fun _ h9 => h9) rfl dX5_together_45 ?_
        refine lv_iload_n hx hb dX5_together_48 rfl (lv_at hl 2 rfl) ?_
        obtain ⟨x5, hv_8, hf⟩ := ob1_some hf
        refine q_rVi (As := [.int a2]) (rest := [.int a2, .ref h_laid, .int x4]) (r := x5) ⟨hx, hb, hml, hown, hts⟩ (c_X4_roomOf l D cI cC cL cB h_now a2 h_now_rooms h_now_bought h_now_spoken h_now_out h_now_coins x5 hv_8) (cwV 1 hts gX5_together_X4_roomOf rfl rfl rfl (by decide +kernel) ⟨Nat.le_of_ble_eq_true rfl, Nat.le_of_ble_eq_true rfl⟩) hK hP [2] rfl (va_recv hK hP (ci := 4) (q0 := 2) rfl rfl) rfl hl.1 rfl (Nat.le_of_ble_eq_true rfl) dX5_together_49 ⟨Nat.le_of_ble_eq_true rfl, Nat.le_of_ble_eq_true rfl⟩ ?_
        obtain ⟨x6, hv_9, hf⟩ := ob1_some hf
        refine q_rVi (As := [.int a2, .int x5]) (rest := [.int x4]) (r := x6) ⟨hx, hb, hml, hown, hts⟩ (c_X0_toldBy l D cI cC cL cB h_laid h_laid_kinds h_laid_prices h_laid_persons h_laid_places h_laid_hours h_laid_weights h_laid_numbers a2 x5 h_laid_pieces h_laid_roomsAtFirst h_laid_deeds h_laid_coins h_laid_law h_laid_places_c h_laid_kinds_c h_laid_hours_c h_laid_weights_c x6 hv_9) (cwV 2 hts gX5_together_X0_toldBy rfl rfl rfl (by decide +kernel) ⟨Nat.le_of_ble_eq_true rfl, Nat.le_of_ble_eq_true rfl⟩) hK hP [1, 3, 4, 5, 6] rfl (va_recv hK hP (ci := 0) (q0 := 1) rfl rfl) rfl hl.1 rfl (Nat.le_of_ble_eq_true rfl) dX5_together_52 ⟨Nat.le_of_ble_eq_true rfl, Nat.le_of_ble_eq_true rfl⟩ ?_
        refine lv_iand hx hb dX5_together_55 ?_
        cases hf
        exact W.iret hx hb hr (fun t ht hW => ⟨_, rfl, rfl, ht⟩) (fun _ h => by cases h) dX5_together_56
      · have hf := ip c_5 hf
        refine lv_iconst (v := (-1)) hx hb dX5_together_21 (by decide) ?_
        cases hf
        exact W.iret hx hb hr (fun t ht hW => ⟨_, rfl, rfl, ht⟩) (fun _ h => by cases h) dX5_together_22
theorem uX5_cover_X0 : ∀ w ∈ wsX00, w ∈ wsX5_cover := fun w h => List.mem_cons_of_mem _ (List.mem_append_left _ (List.mem_append_right _ h))
theorem uX5_cover_X5 : ∀ w ∈ wsX50, w ∈ wsX5_cover := fun w h => List.mem_cons_of_mem _ (List.mem_append_left _ (List.mem_append_left _ (List.mem_append_right _ h)))
set_option maxHeartbeats 4000000 in
set_option maxRecDepth 100000 in
theorem c_X5_cover (l : Launch) (D : va_G) (cI cC cL cB : ClassId) (sz : Nat) (h : Nat) (h_page : Nat) (h_laid : Nat) (h_draft : Nat) (h_now : Nat) (h_trial : Nat) (h_past : Nat) (h_sightings : Nat) (h_kept : Nat) (h_told : Nat) (h_laid_kinds : Nat) (h_laid_prices : Nat) (h_laid_persons : Nat) (h_laid_places : Nat) (h_laid_hours : Nat) (h_laid_weights : Nat) (h_laid_numbers : Nat) (a1 : Int32) (h_keptCount : Int32) (h_laid_pieces : Int32) (h_laid_roomsAtFirst : Int32) (h_laid_deeds : Int32) (h_laid_coins : Int32) (h_laid_law : Int32) (h_now_rooms : Int32) (h_now_bought : Int32) (h_now_spoken : Int32) (h_now_out : Int32) (h_now_coins : Int32) (h_laid_places_c : Nat → Int32) (h_laid_kinds_c : Nat → Int32) (h_laid_hours_c : Nat → Int32) (h_laid_weights_c : Nat → Int32) (h_told_c : Nat → Int32) (r : Int32) (o0 : Nat → Int32) (hf : m_X5_cover a1 h_laid_pieces h_laid_deeds h_laid_law h_now_rooms h_now_bought h_now_spoken h_laid_places_c h_laid_kinds_c h_laid_hours_c h_laid_weights_c h_told_c = some (r, o0)) : Met l yX5_cover wsX5_cover ({ frames := 4, cells := 0, slots := 0, locals := 96 }) (va_Pc [.ref h, .int a1] (q_W D vwCl (tyL cI cC cL cB) [(h, .inr (5, [.ref h_page, .ref h_laid, .ref h_draft, .ref h_now, .ref h_trial, .ref h_past, .ref h_sightings, .ref h_kept, .int h_keptCount, .ref h_told])), (h_laid, .inr (0, [.int h_laid_pieces, .ref h_laid_kinds, .ref h_laid_prices, .int h_laid_roomsAtFirst, .int h_laid_deeds, .ref h_laid_persons, .ref h_laid_places, .ref h_laid_hours, .ref h_laid_weights, .int h_laid_coins, .int h_laid_law, .ref h_laid_numbers])), (h_now, .inr (4, [.int h_now_rooms, .int h_now_bought, .int h_now_spoken, .int h_now_out, .int h_now_coins])), (h_laid_places, .inl (cI, 9, .inl h_laid_places_c)), (h_laid_kinds, .inl (cI, 8, .inl h_laid_kinds_c)), (h_laid_hours, .inl (cI, 9, .inl h_laid_hours_c)), (h_laid_weights, .inl (cI, 9, .inl h_laid_weights_c)), (h_told, .inl (cI, 8, .inl h_told_c))] sz)) (va_Qi (fun r' _ => r' = r) (q_E D vwCl (tyL cI cC cL cB) (va_A [(h, .inr (5, [.ref h_page, .ref h_laid, .ref h_draft, .ref h_now, .ref h_trial, .ref h_past, .ref h_sightings, .ref h_kept, .int h_keptCount, .ref h_told])), (h_laid, .inr (0, [.int h_laid_pieces, .ref h_laid_kinds, .ref h_laid_prices, .int h_laid_roomsAtFirst, .int h_laid_deeds, .ref h_laid_persons, .ref h_laid_places, .ref h_laid_hours, .ref h_laid_weights, .int h_laid_coins, .int h_laid_law, .ref h_laid_numbers])), (h_now, .inr (4, [.int h_now_rooms, .int h_now_bought, .int h_now_spoken, .int h_now_out, .int h_now_coins])), (h_laid_places, .inl (cI, 9, .inl h_laid_places_c)), (h_laid_kinds, .inl (cI, 8, .inl h_laid_kinds_c)), (h_laid_hours, .inl (cI, 9, .inl h_laid_hours_c)), (h_laid_weights, .inl (cI, 9, .inl h_laid_weights_c)), (h_told, .inl (cI, 8, .inl h_told_c))] sz) [(h, .inr (5, [.ref h_page, .ref h_laid, .ref h_draft, .ref h_now, .ref h_trial, .ref h_past, .ref h_sightings, .ref h_kept, .int h_keptCount, .ref h_told])), (h_laid, .inr (0, [.int h_laid_pieces, .ref h_laid_kinds, .ref h_laid_prices, .int h_laid_roomsAtFirst, .int h_laid_deeds, .ref h_laid_persons, .ref h_laid_places, .ref h_laid_hours, .ref h_laid_weights, .int h_laid_coins, .int h_laid_law, .ref h_laid_numbers])), (h_now, .inr (4, [.int h_now_rooms, .int h_now_bought, .int h_now_spoken, .int h_now_out, .int h_now_coins])), (h_laid_places, .inl (cI, 9, .inl h_laid_places_c)), (h_laid_kinds, .inl (cI, 8, .inl h_laid_kinds_c)), (h_laid_hours, .inl (cI, 9, .inl h_laid_hours_c)), (h_laid_weights, .inl (cI, 9, .inl h_laid_weights_c)), (h_told, .inl (cI, 8, .inl o0))]) (va_A [(h, .inr (5, [.ref h_page, .ref h_laid, .ref h_draft, .ref h_now, .ref h_trial, .ref h_past, .ref h_sightings, .ref h_kept, .int h_keptCount, .ref h_told])), (h_laid, .inr (0, [.int h_laid_pieces, .ref h_laid_kinds, .ref h_laid_prices, .int h_laid_roomsAtFirst, .int h_laid_deeds, .ref h_laid_persons, .ref h_laid_places, .ref h_laid_hours, .ref h_laid_weights, .int h_laid_coins, .int h_laid_law, .ref h_laid_numbers])), (h_now, .inr (4, [.int h_now_rooms, .int h_now_bought, .int h_now_spoken, .int h_now_out, .int h_now_coins])), (h_laid_places, .inl (cI, 9, .inl h_laid_places_c)), (h_laid_kinds, .inl (cI, 8, .inl h_laid_kinds_c)), (h_laid_hours, .inl (cI, 9, .inl h_laid_hours_c)), (h_laid_weights, .inl (cI, 9, .inl h_laid_weights_c)), (h_told, .inl (cI, 8, .inl h_told_c))] sz)) 0 0 (va_A [(h, .inr (5, [.ref h_page, .ref h_laid, .ref h_draft, .ref h_now, .ref h_trial, .ref h_past, .ref h_sightings, .ref h_kept, .int h_keptCount, .ref h_told])), (h_laid, .inr (0, [.int h_laid_pieces, .ref h_laid_kinds, .ref h_laid_prices, .int h_laid_roomsAtFirst, .int h_laid_deeds, .ref h_laid_persons, .ref h_laid_places, .ref h_laid_hours, .ref h_laid_weights, .int h_laid_coins, .int h_laid_law, .ref h_laid_numbers])), (h_now, .inr (4, [.int h_now_rooms, .int h_now_bought, .int h_now_spoken, .int h_now_out, .int h_now_coins])), (h_laid_places, .inl (cI, 9, .inl h_laid_places_c)), (h_laid_kinds, .inl (cI, 8, .inl h_laid_kinds_c)), (h_laid_hours, .inl (cI, 9, .inl h_laid_hours_c)), (h_laid_weights, .inl (cI, 9, .inl h_laid_weights_c)), (h_told, .inl (cI, 8, .inl h_told_c))] sz) := by
  refine Met.ofW (cc := cX5_cover) (maxL := 8) (ret := (some .int)) (by decide) rfl ?_
  intro p e s m args below meth c s₁ B hml hv
  obtain ⟨rfl, hsz, hP, hK, hD0⟩ := hv
  have hx := B.exec
  have hb := B.bytes
  have hr := B.returns
  have hts := atoms_spec (ws := wsX5_cover) B.pre
  have hown : s.vm.findClass RX5 = some m.cls := findClass_of_methodNamed B.named
  have hlocks := B.notSynchronized
  subst hsz
  have hD := hD0.self (sz := s.heap.size)
  generalize hAe : va_A [(h, .inr (5, [.ref h_page, .ref h_laid, .ref h_draft, .ref h_now, .ref h_trial, .ref h_past, .ref h_sightings, .ref h_kept, .int h_keptCount, .ref h_told])), (h_laid, .inr (0, [.int h_laid_pieces, .ref h_laid_kinds, .ref h_laid_prices, .int h_laid_roomsAtFirst, .int h_laid_deeds, .ref h_laid_persons, .ref h_laid_places, .ref h_laid_hours, .ref h_laid_weights, .int h_laid_coins, .int h_laid_law, .ref h_laid_numbers])), (h_now, .inr (4, [.int h_now_rooms, .int h_now_bought, .int h_now_spoken, .int h_now_out, .int h_now_coins])), (h_laid_places, .inl (cI, 9, .inl h_laid_places_c)), (h_laid_kinds, .inl (cI, 8, .inl h_laid_kinds_c)), (h_laid_hours, .inl (cI, 9, .inl h_laid_hours_c)), (h_laid_weights, .inl (cI, 9, .inl h_laid_weights_c)), (h_told, .inl (cI, 8, .inl h_told_c))] s.heap.size = A at hD ⊢
  have hA : ∀ q : Nat, s.heap.size ≤ q → A q := fun q h => by rw [← hAe]; exact Or.inr h
  have hS : va_S A s.heap s.heap [] := va_S.rf
  have hP : va_P D vwCl [(h, .inr (5, [.ref h_page, .ref h_laid, .ref h_draft, .ref h_now, .ref h_trial, .ref h_past, .ref h_sightings, .ref h_kept, .int h_keptCount, .ref h_told])), (h_laid, .inr (0, [.int h_laid_pieces, .ref h_laid_kinds, .ref h_laid_prices, .int h_laid_roomsAtFirst, .int h_laid_deeds, .ref h_laid_persons, .ref h_laid_places, .ref h_laid_hours, .ref h_laid_weights, .int h_laid_coins, .int h_laid_law, .ref h_laid_numbers])), (h_now, .inr (4, [.int h_now_rooms, .int h_now_bought, .int h_now_spoken, .int h_now_out, .int h_now_coins])), (h_laid_places, .inl (cI, 9, .inl h_laid_places_c)), (h_laid_kinds, .inl (cI, 8, .inl h_laid_kinds_c)), (h_laid_hours, .inl (cI, 9, .inl h_laid_hours_c)), (h_laid_weights, .inl (cI, 9, .inl h_laid_weights_c)), (h_told, .inl (cI, 8, .inl h_told_c))] s.heap := hP
  have hl := lv_entry ([.ref h, .int a1]) (n := 8) (Nat.le_of_ble_eq_true rfl)
  rw [lg_entry_eq]
  generalize (lg_sl ([.ref h, .int a1]) ++ List.replicate (8 - (lg_sl ([.ref h, .int a1])).length) Slot.unset).toArray = ls at hl ⊢
  have hl : lv_has ls 8 [(0, .ref h), (1, .int a1)] := hl
  unfold m_X5_cover at hf
  refine lv_iload_n hx hb dX5_cover_0 rfl (lv_at hl 1 rfl) ?_
  refine lv_iconst (v := 0) hx hb dX5_cover_1 (by decide) ?_
  refine lv_iconst (v := 1) hx hb dX5_cover_2 (by decide) ?_
  obtain ⟨x1, hv_1, hf⟩ := ob1_some hf
  refine q_rSi (As := [.int a1, .int 0, .int 1]) (rest := []) (r := x1) ⟨hx, hb, hml, hown, hts⟩ (c_X5_isWithin l D cI cC cL cB a1 ((0 : Int32)) ((1 : Int32)) x1 hv_1) (va_cwS 3 hts gX5_cover_X5_isWithin rfl rfl rfl (by decide +kernel) ⟨Nat.le_of_ble_eq_true rfl, Nat.le_of_ble_eq_true rfl⟩) hK hP [] rfl rfl hl.1 rfl (Nat.le_of_ble_eq_true rfl) dX5_cover_3 ⟨Nat.le_of_ble_eq_true rfl, Nat.le_of_ble_eq_true rfl⟩ ?_
  refine lv_if_ne (tgt := 11) hx hb dX5_cover_6 (by decide) (fun c_2 => ?_) (fun c_2 => ?_)
  · have hf := im c_2 hf
    refine lv_aload_n hx hb dX5_cover_11 rfl (lv_at hl 0 rfl) ?_
    obtain ⟨c2, hv_3, hf⟩ := ob1_some hf
    refine q_wVv (As := []) (rest := []) (w1 := [(h, .inr (5, [.ref h_page, .ref h_laid, .ref h_draft, .ref h_now, .ref h_trial, .ref h_past, .ref h_sightings, .ref h_kept, .int h_keptCount, .ref h_told])), (h_laid, .inr (0, [.int h_laid_pieces, .ref h_laid_kinds, .ref h_laid_prices, .int h_laid_roomsAtFirst, .int h_laid_deeds, .ref h_laid_persons, .ref h_laid_places, .ref h_laid_hours, .ref h_laid_weights, .int h_laid_coins, .int h_laid_law, .ref h_laid_numbers])), (h_now, .inr (4, [.int h_now_rooms, .int h_now_bought, .int h_now_spoken, .int h_now_out, .int h_now_coins])), (h_laid_places, .inl (cI, 9, .inl h_laid_places_c)), (h_laid_kinds, .inl (cI, 8, .inl h_laid_kinds_c)), (h_laid_hours, .inl (cI, 9, .inl h_laid_hours_c)), (h_laid_weights, .inl (cI, 9, .inl h_laid_weights_c)), (h_told, .inl (cI, 8, .inl c2))]) (wr := []) (w2 := [(h, .inr (5, [.ref h_page, .ref h_laid, .ref h_draft, .ref h_now, .ref h_trial, .ref h_past, .ref h_sightings, .ref h_kept, .int h_keptCount, .ref h_told])), (h_laid, .inr (0, [.int h_laid_pieces, .ref h_laid_kinds, .ref h_laid_prices, .int h_laid_roomsAtFirst, .int h_laid_deeds, .ref h_laid_persons, .ref h_laid_places, .ref h_laid_hours, .ref h_laid_weights, .int h_laid_coins, .int h_laid_law, .ref h_laid_numbers])), (h_now, .inr (4, [.int h_now_rooms, .int h_now_bought, .int h_now_spoken, .int h_now_out, .int h_now_coins])), (h_laid_places, .inl (cI, 9, .inl h_laid_places_c)), (h_laid_kinds, .inl (cI, 8, .inl h_laid_kinds_c)), (h_laid_hours, .inl (cI, 9, .inl h_laid_hours_c)), (h_laid_weights, .inl (cI, 9, .inl h_laid_weights_c)), (h_told, .inl (cI, 8, .inl c2))]) ⟨hx, hb, hml, hown, hts⟩ (c_X5_fillTold l D cI cC cL cB s.heap.size h h_page h_laid h_draft h_now h_trial h_past h_sightings h_kept h_told h_laid_kinds h_laid_prices h_laid_persons h_laid_places h_laid_hours h_laid_weights h_laid_numbers h_keptCount h_laid_pieces h_laid_roomsAtFirst h_laid_deeds h_laid_coins h_laid_law h_now_rooms h_now_bought h_now_spoken h_now_out h_now_coins h_laid_places_c h_laid_kinds_c h_laid_hours_c h_laid_weights_c h_told_c c2 hv_3) (cwV 0 hts gX5_cover_X5_fillTold rfl rfl rfl (by decide +kernel) ⟨Nat.le_of_ble_eq_true rfl, Nat.le_of_ble_eq_true rfl⟩) hK hP hD hS hA [0, 1, 2, 3, 4, 5, 6, 7] rfl (by decide) [] rfl (by decide) (by decide) [0, 1, 2, 3, 4, 5, 6, 7] rfl (by decide) (va_recv hK hP (ci := 5) (q0 := 0) rfl rfl) rfl hl.1 rfl (Nat.le_of_ble_eq_true rfl) dX5_cover_12 ⟨Nat.le_of_ble_eq_true rfl, Nat.le_of_ble_eq_true rfl⟩ (fun H locs hP hD hS => ?_)
    have hP : va_P D vwCl [(h, .inr (5, [.ref h_page, .ref h_laid, .ref h_draft, .ref h_now, .ref h_trial, .ref h_past, .ref h_sightings, .ref h_kept, .int h_keptCount, .ref h_told])), (h_laid, .inr (0, [.int h_laid_pieces, .ref h_laid_kinds, .ref h_laid_prices, .int h_laid_roomsAtFirst, .int h_laid_deeds, .ref h_laid_persons, .ref h_laid_places, .ref h_laid_hours, .ref h_laid_weights, .int h_laid_coins, .int h_laid_law, .ref h_laid_numbers])), (h_now, .inr (4, [.int h_now_rooms, .int h_now_bought, .int h_now_spoken, .int h_now_out, .int h_now_coins])), (h_laid_places, .inl (cI, 9, .inl h_laid_places_c)), (h_laid_kinds, .inl (cI, 8, .inl h_laid_kinds_c)), (h_laid_hours, .inl (cI, 9, .inl h_laid_hours_c)), (h_laid_weights, .inl (cI, 9, .inl h_laid_weights_c)), (h_told, .inl (cI, 8, .inl c2))] H := hP
    have hD : va_D A [(h, .inr (5, [.ref h_page, .ref h_laid, .ref h_draft, .ref h_now, .ref h_trial, .ref h_past, .ref h_sightings, .ref h_kept, .int h_keptCount, .ref h_told])), (h_laid, .inr (0, [.int h_laid_pieces, .ref h_laid_kinds, .ref h_laid_prices, .int h_laid_roomsAtFirst, .int h_laid_deeds, .ref h_laid_persons, .ref h_laid_places, .ref h_laid_hours, .ref h_laid_weights, .int h_laid_coins, .int h_laid_law, .ref h_laid_numbers])), (h_now, .inr (4, [.int h_now_rooms, .int h_now_bought, .int h_now_spoken, .int h_now_out, .int h_now_coins])), (h_laid_places, .inl (cI, 9, .inl h_laid_places_c)), (h_laid_kinds, .inl (cI, 8, .inl h_laid_kinds_c)), (h_laid_hours, .inl (cI, 9, .inl h_laid_hours_c)), (h_laid_weights, .inl (cI, 9, .inl h_laid_weights_c)), (h_told, .inl (cI, 8, .inl c2))] := hD
    refine lv_aload_n hx hb dX5_cover_15 rfl (lv_at hl 0 rfl) ?_
    obtain ⟨x3, hv_4, hf⟩ := ob1_some hf
    refine q_rVi (As := []) (rest := []) (r := x3) ⟨hx, hb, hml, hown, hts⟩ (c_X5_looseOnes l D cI cC cL cB h h_page h_laid h_draft h_now h_trial h_past h_sightings h_kept h_told h_laid_kinds h_laid_prices h_laid_persons h_laid_places h_laid_hours h_laid_weights h_laid_numbers h_keptCount h_laid_pieces h_laid_roomsAtFirst h_laid_deeds h_laid_coins h_laid_law h_now_rooms h_now_bought h_now_spoken h_now_out h_now_coins h_laid_kinds_c x3 hv_4) (cwV 0 hts gX5_cover_X5_looseOnes rfl rfl rfl (by decide +kernel) ⟨Nat.le_of_ble_eq_true rfl, Nat.le_of_ble_eq_true rfl⟩) hK hP [0, 1, 2, 4] rfl (va_recv hK hP (ci := 5) (q0 := 0) rfl rfl) rfl hl.1 rfl (Nat.le_of_ble_eq_true rfl) dX5_cover_16 ⟨Nat.le_of_ble_eq_true rfl, Nat.le_of_ble_eq_true rfl⟩ ?_
    refine lv_istore_n (lv' := [(2, .int x3), (0, .ref h), (1, .int a1)]) hx hb dX5_cover_19 rfl hl (by decide) rfl (fun ls hl => ?_)
    refine lv_aload_n hx hb dX5_cover_20 rfl (lv_at hl 1 rfl) ?_
    refine lv_iload_n hx hb dX5_cover_21 rfl (lv_at hl 0 rfl) ?_
    obtain ⟨x4, hv_5, hf⟩ := ob1_some hf
    refine q_rVi (As := [.int x3]) (rest := []) (r := x4) ⟨hx, hb, hml, hown, hts⟩ (c_X5_toldBySet l D cI cC cL cB h h_page h_laid h_draft h_now h_trial h_past h_sightings h_kept h_told h_laid_kinds h_laid_prices h_laid_persons h_laid_places h_laid_hours h_laid_weights h_laid_numbers x3 h_keptCount h_laid_pieces h_laid_roomsAtFirst h_laid_deeds h_laid_coins h_laid_law c2 x4 hv_5) (cwV 1 hts gX5_cover_X5_toldBySet rfl rfl rfl (by decide +kernel) ⟨Nat.le_of_ble_eq_true rfl, Nat.le_of_ble_eq_true rfl⟩) hK hP [0, 1, 7] rfl (va_recv hK hP (ci := 5) (q0 := 0) rfl rfl) rfl hl.1 rfl (Nat.le_of_ble_eq_true rfl) dX5_cover_22 ⟨Nat.le_of_ble_eq_true rfl, Nat.le_of_ble_eq_true rfl⟩ ?_
    refine lv_istore_n (lv' := [(3, .int x4), (2, .int x3), (0, .ref h), (1, .int a1)]) hx hb dX5_cover_25 rfl hl (by decide) rfl (fun ls hl => ?_)
    refine lv_iload_n hx hb dX5_cover_26 rfl (lv_at hl 1 rfl) ?_
    refine lv_istore (lv' := [(4, .int x3), (3, .int x4), (2, .int x3), (0, .ref h), (1, .int a1)]) hx hb dX5_cover_27 hl (by decide) rfl (fun ls hl => ?_)
    refine lv_bipush (v := 9) hx hb dX5_cover_29 (by decide) ?_
    refine lv_istore (lv' := [(5, .int 9), (4, .int x3), (3, .int x4), (2, .int x3), (0, .ref h), (1, .int a1)]) hx hb dX5_cover_31 hl (by decide) rfl (fun ls hl => ?_)
    refine lv_iconst (v := 0) hx hb dX5_cover_33 (by decide) ?_
    refine lv_istore (lv' := [(6, .int 0), (5, .int 9), (4, .int x3), (3, .int x4), (2, .int x3), (0, .ref h), (1, .int a1)]) hx hb dX5_cover_34 hl (by decide) rfl (fun ls hl => ?_)
    have loop36 : ∀ (n : Nat) (x5 : Int32) (x6 : Int32) (x7 : Int32), ∀ (ls : Array Slot), lv_has ls 8 [(0, .ref h), (1, .int a1), (2, .int x3), (3, .int x4), (4, .int x5), (5, .int x6), (6, .int x7)] → ∀ (x8 : Int32), L_X5_cover_36 h_laid_pieces x3 c2 x4 n x5 x6 x7 = some x8 → (∀ (ls : Array Slot), lv_has ls 8 [(1, .int a1), (4, .int x8)] → W p l e (headSpec wsX5_cover ({ frames := 4, cells := 0, slots := 0, locals := 96 })).room s m ([.ref h, .int a1] : List Value).toArray below meth c H locs 0 0 (MQ below (va_Qi (fun r' _ => r' = r) (q_E D vwCl (tyL cI cC cL cB) A [(h, .inr (5, [.ref h_page, .ref h_laid, .ref h_draft, .ref h_now, .ref h_trial, .ref h_past, .ref h_sightings, .ref h_kept, .int h_keptCount, .ref h_told])), (h_laid, .inr (0, [.int h_laid_pieces, .ref h_laid_kinds, .ref h_laid_prices, .int h_laid_roomsAtFirst, .int h_laid_deeds, .ref h_laid_persons, .ref h_laid_places, .ref h_laid_hours, .ref h_laid_weights, .int h_laid_coins, .int h_laid_law, .ref h_laid_numbers])), (h_now, .inr (4, [.int h_now_rooms, .int h_now_bought, .int h_now_spoken, .int h_now_out, .int h_now_coins])), (h_laid_places, .inl (cI, 9, .inl h_laid_places_c)), (h_laid_kinds, .inl (cI, 8, .inl h_laid_kinds_c)), (h_laid_hours, .inl (cI, 9, .inl h_laid_hours_c)), (h_laid_weights, .inl (cI, 9, .inl h_laid_weights_c)), (h_told, .inl (cI, 8, .inl o0))]) A) ([.ref h, .int a1] : List Value).toArray s 0 0 A) (F0 m 97 ls [])) → W p l e (headSpec wsX5_cover ({ frames := 4, cells := 0, slots := 0, locals := 96 })).room s m ([.ref h, .int a1] : List Value).toArray below meth c H locs 0 0 (MQ below (va_Qi (fun r' _ => r' = r) (q_E D vwCl (tyL cI cC cL cB) A [(h, .inr (5, [.ref h_page, .ref h_laid, .ref h_draft, .ref h_now, .ref h_trial, .ref h_past, .ref h_sightings, .ref h_kept, .int h_keptCount, .ref h_told])), (h_laid, .inr (0, [.int h_laid_pieces, .ref h_laid_kinds, .ref h_laid_prices, .int h_laid_roomsAtFirst, .int h_laid_deeds, .ref h_laid_persons, .ref h_laid_places, .ref h_laid_hours, .ref h_laid_weights, .int h_laid_coins, .int h_laid_law, .ref h_laid_numbers])), (h_now, .inr (4, [.int h_now_rooms, .int h_now_bought, .int h_now_spoken, .int h_now_out, .int h_now_coins])), (h_laid_places, .inl (cI, 9, .inl h_laid_places_c)), (h_laid_kinds, .inl (cI, 8, .inl h_laid_kinds_c)), (h_laid_hours, .inl (cI, 9, .inl h_laid_hours_c)), (h_laid_weights, .inl (cI, 9, .inl h_laid_weights_c)), (h_told, .inl (cI, 8, .inl o0))]) A) ([.ref h, .int a1] : List Value).toArray s 0 0 A) (F0 m 36 ls []) := by
      intro n
      induction n with
      | zero =>
        intro x5 x6 x7 ls hl x8 hf KX
        rw [L_X5_cover_36] at hf
        cases hf
      | succ n ih =>
        intro x5 x6 x7 ls hl x8 hf KX
        rw [L_X5_cover_36] at hf
        refine lv_iload hx hb dX5_cover_36 (lv_at hl 6 rfl) ?_
        refine lv_iconst (v := 1) hx hb dX5_cover_38 (by decide) ?_
        refine lv_aload_n hx hb dX5_cover_39 rfl (lv_at hl 0 rfl) ?_
        refine va_get (D := D) (ci := 5) (v := .ref h_laid) (C := RX5) (T := TX5) (N := 10) hx hb hts uX5_cover_X5 hown hK hP 0 rfl rfl 1 (by decide) (hts (.fieldLink RX5 19 "SpeaksForTheChair" "laid" "LSpeaksForTheChair$House;") (List.mem_of_getElem? (i := 1) rfl)) (fun _ h9 => h9) rfl dX5_cover_40 ?_
        refine va_get (D := D) (ci := 0) (v := .int h_laid_pieces) (C := RX0) (T := TX0) (N := 12) hx hb hts uX5_cover_X0 hown hK hP 1 rfl rfl 0 (by decide) (hts (.fieldLink RX5 91 "SpeaksForTheChair$House" "pieces" "I") (List.mem_of_getElem? (i := 2) rfl)) (fun _ h9 => h9) rfl dX5_cover_43 ?_
        refine lv_ishl hx hb dX5_cover_46 ?_
        refine lv_icmp_ge (tgt := 97) hx hb dX5_cover_47 (by decide) (fun c_18 => ?_) (fun c_18 => ?_)
        · have hf := ip c_18 hf
          cases hf
          exact KX ls (lv_sub hl [1, 4] rfl)
        · have hf := im c_18 hf
          refine lv_iload hx hb dX5_cover_50 (lv_at hl 6 rfl) ?_
          obtain ⟨x9, hv_19, hf⟩ := ob1_some hf
          refine q_rSi (As := [.int x7]) (rest := []) (r := x9) ⟨hx, hb, hml, hown, hts⟩ (c_J6_bitCount_0f7a4 l D cI cC cL cB x7 x9 hv_19) (va_cwS 1 hts gX5_cover_J6_bitCount_0f7a4 rfl rfl rfl (by decide +kernel) ⟨Nat.le_of_ble_eq_true rfl, Nat.le_of_ble_eq_true rfl⟩) hK hP [] rfl rfl hl.1 rfl (Nat.le_of_ble_eq_true rfl) dX5_cover_52 ⟨Nat.le_of_ble_eq_true rfl, Nat.le_of_ble_eq_true rfl⟩ ?_
          refine lv_istore (lv' := [(7, .int x9), (0, .ref h), (1, .int a1), (2, .int x3), (3, .int x4), (4, .int x5), (5, .int x6), (6, .int x7)]) hx hb dX5_cover_55 hl (by decide) rfl (fun ls hl => ?_)
          refine lv_iload hx hb dX5_cover_57 (lv_at hl 7 rfl) ?_
          refine lv_iload_n hx hb dX5_cover_59 rfl (lv_at hl 3 rfl) ?_
          refine lv_iconst (v := (-1)) hx hb dX5_cover_60 (by decide) ?_
          refine lv_ixor hx hb dX5_cover_61 ?_
          refine lv_iand hx hb dX5_cover_62 ?_
          refine lv_if_ne (tgt := 91) hx hb dX5_cover_63 (by decide) (fun c_20 => ?_) (fun c_20 => ?_)
          · have hf := im c_20 hf
            obtain ⟨x10, ex10⟩ : ∃ y : Int32, y = (x7 + 1) := ⟨_, rfl⟩
            have hf := pv_eq ex10 hf
            refine lv_iinc (v := x10) (lv' := [(6, .int x10), (7, .int x9), (0, .ref h), (1, .int a1), (2, .int x3), (3, .int x4), (4, .int x5), (5, .int x6)]) hx hb dX5_cover_91 hl (k := 7) rfl (by rw [ex10]; rfl) (by decide) rfl (fun ls hl => ?_)
            refine lv_goto (tgt := 36) hx hb dX5_cover_94 (by decide) ?_
            exact ih _ _ _ ls (lv_sub hl [2, 3, 4, 5, 6, 7, 0] rfl) _ hf KX
          · have hf := ip c_20 hf
            refine lv_iload hx hb dX5_cover_66 (lv_at hl 0 rfl) ?_
            refine lv_iload hx hb dX5_cover_68 (lv_at hl 6 rfl) ?_
            refine lv_icmp_ge (tgt := 91) hx hb dX5_cover_70 (by decide) (fun c_21 => ?_) (fun c_21 => ?_)
            · have hf := ip c_21 hf
              obtain ⟨x11, ex11⟩ : ∃ y : Int32, y = (x7 + 1) := ⟨_, rfl⟩
              have hf := pv_eq ex11 hf
              refine lv_iinc (v := x11) (lv' := [(6, .int x11), (7, .int x9), (0, .ref h), (1, .int a1), (2, .int x3), (3, .int x4), (4, .int x5), (5, .int x6)]) hx hb dX5_cover_91 hl (k := 7) rfl (by rw [ex11]; rfl) (by decide) rfl (fun ls hl => ?_)
              refine lv_goto (tgt := 36) hx hb dX5_cover_94 (by decide) ?_
              exact ih _ _ _ ls (lv_sub hl [2, 3, 4, 5, 6, 7, 0] rfl) _ hf KX
            · have hf := im c_21 hf
              refine lv_aload_n hx hb dX5_cover_73 rfl (lv_at hl 1 rfl) ?_
              refine lv_iload hx hb dX5_cover_74 (lv_at hl 7 rfl) ?_
              obtain ⟨x12, hv_22, hf⟩ := ob1_some hf
              refine q_rVi (As := [.int x7]) (rest := []) (r := x12) ⟨hx, hb, hml, hown, hts⟩ (c_X5_toldBySet l D cI cC cL cB h h_page h_laid h_draft h_now h_trial h_past h_sightings h_kept h_told h_laid_kinds h_laid_prices h_laid_persons h_laid_places h_laid_hours h_laid_weights h_laid_numbers x7 h_keptCount h_laid_pieces h_laid_roomsAtFirst h_laid_deeds h_laid_coins h_laid_law c2 x12 hv_22) (cwV 1 hts gX5_cover_X5_toldBySet rfl rfl rfl (by decide +kernel) ⟨Nat.le_of_ble_eq_true rfl, Nat.le_of_ble_eq_true rfl⟩) hK hP [0, 1, 7] rfl (va_recv hK hP (ci := 5) (q0 := 0) rfl rfl) rfl hl.1 rfl (Nat.le_of_ble_eq_true rfl) dX5_cover_76 ⟨Nat.le_of_ble_eq_true rfl, Nat.le_of_ble_eq_true rfl⟩ ?_
              refine lv_iload_n hx hb dX5_cover_79 rfl (lv_at hl 4 rfl) ?_
              refine lv_icmp_ne (tgt := 91) hx hb dX5_cover_80 (by decide) (fun c_23 => ?_) (fun c_23 => ?_)
              · have hf := im c_23 hf
                obtain ⟨x13, ex13⟩ : ∃ y : Int32, y = (x7 + 1) := ⟨_, rfl⟩
                have hf := pv_eq ex13 hf
                refine lv_iinc (v := x13) (lv' := [(6, .int x13), (7, .int x9), (0, .ref h), (1, .int a1), (2, .int x3), (3, .int x4), (4, .int x5), (5, .int x6)]) hx hb dX5_cover_91 hl (k := 7) rfl (by rw [ex13]; rfl) (by decide) rfl (fun ls hl => ?_)
                refine lv_goto (tgt := 36) hx hb dX5_cover_94 (by decide) ?_
                exact ih _ _ _ ls (lv_sub hl [2, 3, 4, 5, 6, 7, 0] rfl) _ hf KX
              · have hf := ip c_23 hf
                refine lv_iload hx hb dX5_cover_83 (lv_at hl 0 rfl) ?_
                refine lv_istore (lv' := [(5, .int x9), (7, .int x9), (0, .ref h), (1, .int a1), (2, .int x3), (3, .int x4), (4, .int x5), (6, .int x7)]) hx hb dX5_cover_85 hl (by decide) rfl (fun ls hl => ?_)
                refine lv_iload hx hb dX5_cover_87 (lv_at hl 7 rfl) ?_
                refine lv_istore (lv' := [(4, .int x7), (5, .int x9), (7, .int x9), (0, .ref h), (1, .int a1), (2, .int x3), (3, .int x4), (6, .int x7)]) hx hb dX5_cover_89 hl (by decide) rfl (fun ls hl => ?_)
                obtain ⟨x14, ex14⟩ : ∃ y : Int32, y = (x7 + 1) := ⟨_, rfl⟩
                have hf := pv_eq ex14 hf
                refine lv_iinc (v := x14) (lv' := [(6, .int x14), (4, .int x7), (5, .int x9), (7, .int x9), (0, .ref h), (1, .int a1), (2, .int x3), (3, .int x4)]) hx hb dX5_cover_91 hl (k := 7) rfl (by rw [ex14]; rfl) (by decide) rfl (fun ls hl => ?_)
                refine lv_goto (tgt := 36) hx hb dX5_cover_94 (by decide) ?_
                exact ih _ _ _ ls (lv_sub hl [4, 5, 6, 7, 1, 2, 0] rfl) _ hf KX
    obtain ⟨x8, hr36, hf⟩ := ob1_some hf
    refine loop36 300 _ _ _ ls (lv_sub hl [5, 6, 4, 3, 2, 1, 0] rfl) _ hr36 (fun ls hl => ?_)
    refine lv_iload_n hx hb dX5_cover_97 rfl (lv_at hl 0 rfl) ?_
    refine lv_if_ne (tgt := 109) hx hb dX5_cover_98 (by decide) (fun c_24 => ?_) (fun c_24 => ?_)
    · have hf := im c_24 hf
      refine lv_iload hx hb dX5_cover_109 (lv_at hl 1 rfl) ?_
      cases hf
      exact W.iret hx hb hr (fun t ht hW => ⟨⟨_, (), rfl, rfl, by rw [ht]; exact hP, va_K.moved hW.alike hK, hD⟩, hS.F ht⟩) hS.2.2 dX5_cover_111
    · have hf := ip c_24 hf
      refine lv_iload hx hb dX5_cover_101 (lv_at hl 1 rfl) ?_
      obtain ⟨x15, hv_25, hf⟩ := ob1_some hf
      refine q_rSi (As := [.int x8]) (rest := []) (r := x15) ⟨hx, hb, hml, hown, hts⟩ (c_J6_bitCount_0f7a4 l D cI cC cL cB x8 x15 hv_25) (va_cwS 1 hts gX5_cover_J6_bitCount_0f7a4 rfl rfl rfl (by decide +kernel) ⟨Nat.le_of_ble_eq_true rfl, Nat.le_of_ble_eq_true rfl⟩) hK hP [] rfl rfl hl.1 rfl (Nat.le_of_ble_eq_true rfl) dX5_cover_103 ⟨Nat.le_of_ble_eq_true rfl, Nat.le_of_ble_eq_true rfl⟩ ?_
      refine lv_goto (tgt := 111) hx hb dX5_cover_106 (by decide) ?_
      cases hf
      exact W.iret hx hb hr (fun t ht hW => ⟨⟨_, (), rfl, rfl, by rw [ht]; exact hP, va_K.moved hW.alike hK, hD⟩, hS.F ht⟩) hS.2.2 dX5_cover_111
  · have hf := ip c_2 hf
    refine lv_iconst (v := (-1)) hx hb dX5_cover_9 (by decide) ?_
    cases hf
    exact W.iret hx hb hr (fun t ht hW => ⟨⟨_, (), rfl, rfl, by rw [ht]; exact hP, va_K.moved hW.alike hK, hD⟩, hS.F ht⟩) hS.2.2 dX5_cover_10
theorem uX5_safe_X0 : ∀ w ∈ wsX00, w ∈ wsX5_safe := fun w h => List.mem_cons_of_mem _ (List.mem_append_left _ (List.mem_append_right _ h))
theorem uX5_safe_X5 : ∀ w ∈ wsX50, w ∈ wsX5_safe := fun w h => List.mem_cons_of_mem _ (List.mem_append_left _ (List.mem_append_left _ (List.mem_append_right _ h)))
set_option maxHeartbeats 4000000 in
set_option maxRecDepth 100000 in
theorem c_X5_safe (l : Launch) (D : va_G) (cI cC cL cB : ClassId) (h : Nat) (h_page : Nat) (h_laid : Nat) (h_draft : Nat) (h_now : Nat) (h_trial : Nat) (h_past : Nat) (h_sightings : Nat) (h_kept : Nat) (h_told : Nat) (h_laid_kinds : Nat) (h_laid_prices : Nat) (h_laid_persons : Nat) (h_laid_places : Nat) (h_laid_hours : Nat) (h_laid_weights : Nat) (h_laid_numbers : Nat) (a1 : Int32) (a2 : Int32) (h_keptCount : Int32) (h_laid_pieces : Int32) (h_laid_roomsAtFirst : Int32) (h_laid_deeds : Int32) (h_laid_coins : Int32) (h_laid_law : Int32) (h_now_rooms : Int32) (h_now_bought : Int32) (h_now_spoken : Int32) (h_now_out : Int32) (h_now_coins : Int32) (h_laid_kinds_c : Nat → Int32) (h_laid_hours_c : Nat → Int32) (h_laid_places_c : Nat → Int32) (r : Int32) (hf : m_X5_safe a1 a2 h_laid_pieces h_laid_deeds h_laid_law h_now_rooms h_now_bought h_now_spoken h_laid_kinds_c h_laid_hours_c h_laid_places_c = some r) : Met l yX5_safe wsX5_safe ({ frames := 2, cells := 0, slots := 0, locals := 51 }) (va_Pc [.ref h, .int a1, .int a2] (q_R D vwCl (tyL cI cC cL cB) [(h, .inr (5, [.ref h_page, .ref h_laid, .ref h_draft, .ref h_now, .ref h_trial, .ref h_past, .ref h_sightings, .ref h_kept, .int h_keptCount, .ref h_told])), (h_laid, .inr (0, [.int h_laid_pieces, .ref h_laid_kinds, .ref h_laid_prices, .int h_laid_roomsAtFirst, .int h_laid_deeds, .ref h_laid_persons, .ref h_laid_places, .ref h_laid_hours, .ref h_laid_weights, .int h_laid_coins, .int h_laid_law, .ref h_laid_numbers])), (h_now, .inr (4, [.int h_now_rooms, .int h_now_bought, .int h_now_spoken, .int h_now_out, .int h_now_coins])), (h_laid_kinds, .inl (cI, 8, .inl h_laid_kinds_c)), (h_laid_hours, .inl (cI, 9, .inl h_laid_hours_c)), (h_laid_places, .inl (cI, 9, .inl h_laid_places_c))])) (vp_Si (fun r' => r' = r)) 0 0 (fun _ => False) := by
  refine Met.ofW (cc := cX5_safe) (maxL := 6) (ret := (some .int)) (by decide) rfl ?_
  intro p e s m args below meth c s₁ B hml hv
  obtain ⟨rfl, hP, hK⟩ := hv
  have hx := B.exec
  have hb := B.bytes
  have hr := B.returns
  have hts := atoms_spec (ws := wsX5_safe) B.pre
  have hown : s.vm.findClass RX5 = some m.cls := findClass_of_methodNamed B.named
  have hlocks := B.notSynchronized
  have hl := lv_entry ([.ref h, .int a1, .int a2]) (n := 6) (Nat.le_of_ble_eq_true rfl)
  rw [lg_entry_eq]
  generalize (lg_sl ([.ref h, .int a1, .int a2]) ++ List.replicate (6 - (lg_sl ([.ref h, .int a1, .int a2])).length) Slot.unset).toArray = ls at hl ⊢
  have hl : lv_has ls 6 [(0, .ref h), (1, .int a1), (2, .int a2)] := hl
  unfold m_X5_safe at hf
  refine lv_iload_n hx hb dX5_safe_0 rfl (lv_at hl 1 rfl) ?_
  refine lv_iconst (v := 0) hx hb dX5_safe_1 (by decide) ?_
  refine lv_bipush (v := 23) hx hb dX5_safe_2 (by decide) ?_
  obtain ⟨x1, hv_1, hf⟩ := ob1_some hf
  refine q_rSi (As := [.int a1, .int 0, .int 23]) (rest := []) (r := x1) ⟨hx, hb, hml, hown, hts⟩ (c_X5_isWithin l D cI cC cL cB a1 ((0 : Int32)) ((23 : Int32)) x1 hv_1) (va_cwS 3 hts gX5_safe_X5_isWithin rfl rfl rfl (by decide +kernel) ⟨Nat.le_of_ble_eq_true rfl, Nat.le_of_ble_eq_true rfl⟩) hK hP [] rfl rfl hl.1 rfl (Nat.le_of_ble_eq_true rfl) dX5_safe_4 ⟨Nat.le_of_ble_eq_true rfl, Nat.le_of_ble_eq_true rfl⟩ ?_
  refine lv_if_eq (tgt := 20) hx hb dX5_safe_7 (by decide) (fun c_2 => ?_) (fun c_2 => ?_)
  · have hf := ip c_2 hf
    refine lv_iconst (v := (-1)) hx hb dX5_safe_20 (by decide) ?_
    cases hf
    exact W.iret hx hb hr (fun t ht hW => ⟨_, rfl, rfl, ht⟩) (fun _ h => by cases h) dX5_safe_21
  · have hf := im c_2 hf
    refine lv_iload_n hx hb dX5_safe_10 rfl (lv_at hl 2 rfl) ?_
    refine lv_iconst (v := 1) hx hb dX5_safe_11 (by decide) ?_
    refine lv_bipush (v := 30) hx hb dX5_safe_12 (by decide) ?_
    obtain ⟨x2, hv_3, hf⟩ := ob1_some hf
    refine q_rSi (As := [.int a2, .int 1, .int 30]) (rest := []) (r := x2) ⟨hx, hb, hml, hown, hts⟩ (c_X5_isWithin l D cI cC cL cB a2 ((1 : Int32)) ((30 : Int32)) x2 hv_3) (va_cwS 3 hts gX5_safe_X5_isWithin rfl rfl rfl (by decide +kernel) ⟨Nat.le_of_ble_eq_true rfl, Nat.le_of_ble_eq_true rfl⟩) hK hP [] rfl rfl hl.1 rfl (Nat.le_of_ble_eq_true rfl) dX5_safe_14 ⟨Nat.le_of_ble_eq_true rfl, Nat.le_of_ble_eq_true rfl⟩ ?_
    refine lv_if_ne (tgt := 22) hx hb dX5_safe_17 (by decide) (fun c_4 => ?_) (fun c_4 => ?_)
    · have hf := im c_4 hf
      refine lv_bipush (v := 15) hx hb dX5_safe_22 (by decide) ?_
      refine lv_istore_n (lv' := [(3, .int 15), (0, .ref h), (1, .int a1), (2, .int a2)]) hx hb dX5_safe_24 rfl hl (by decide) rfl (fun ls hl => ?_)
      refine lv_iconst (v := 0) hx hb dX5_safe_25 (by decide) ?_
      refine lv_istore (lv' := [(4, .int 0), (3, .int 15), (0, .ref h), (1, .int a1), (2, .int a2)]) hx hb dX5_safe_26 hl (by decide) rfl (fun ls hl => ?_)
      have loop28 : ∀ (n : Nat) (x3 : Int32) (x4 : Int32), ∀ (ls : Array Slot), lv_has ls 6 [(0, .ref h), (1, .int a1), (2, .int a2), (3, .int x3), (4, .int x4)] → ∀ (x5 : Int32), L_X5_safe_28 h_laid_pieces h_now_rooms h_now_bought h_now_spoken h_laid_law h_laid_kinds_c h_laid_deeds a1 a2 h_laid_hours_c h_laid_places_c n x3 x4 = some x5 → (∀ (ls : Array Slot), lv_has ls 6 [(3, .int x5)] → W p l e (headSpec wsX5_safe ({ frames := 2, cells := 0, slots := 0, locals := 51 })).room s m ([.ref h, .int a1, .int a2] : List Value).toArray below meth c s.heap [] 0 0 (MQ below (vp_Si (fun r' => r' = r)) ([.ref h, .int a1, .int a2] : List Value).toArray s 0 0 (fun _ => False)) (F0 m 110 ls [])) → W p l e (headSpec wsX5_safe ({ frames := 2, cells := 0, slots := 0, locals := 51 })).room s m ([.ref h, .int a1, .int a2] : List Value).toArray below meth c s.heap [] 0 0 (MQ below (vp_Si (fun r' => r' = r)) ([.ref h, .int a1, .int a2] : List Value).toArray s 0 0 (fun _ => False)) (F0 m 28 ls []) := by
        intro n
        induction n with
        | zero =>
          intro x3 x4 ls hl x5 hf KX
          rw [L_X5_safe_28] at hf
          cases hf
        | succ n ih =>
          intro x3 x4 ls hl x5 hf KX
          rw [L_X5_safe_28] at hf
          refine lv_iload hx hb dX5_safe_28 (lv_at hl 4 rfl) ?_
          refine lv_aload_n hx hb dX5_safe_30 rfl (lv_at hl 0 rfl) ?_
          refine va_get (D := D) (ci := 5) (v := .ref h_laid) (C := RX5) (T := TX5) (N := 10) hx hb hts uX5_safe_X5 hown hK hP 0 rfl rfl 1 (by decide) (hts (.fieldLink RX5 19 "SpeaksForTheChair" "laid" "LSpeaksForTheChair$House;") (List.mem_of_getElem? (i := 1) rfl)) (fun _ h9 => h9) rfl dX5_safe_31 ?_
          refine va_get (D := D) (ci := 0) (v := .int h_laid_pieces) (C := RX0) (T := TX0) (N := 12) hx hb hts uX5_safe_X0 hown hK hP 1 rfl rfl 0 (by decide) (hts (.fieldLink RX5 91 "SpeaksForTheChair$House" "pieces" "I") (List.mem_of_getElem? (i := 2) rfl)) (fun _ h9 => h9) rfl dX5_safe_34 ?_
          refine lv_icmp_ge (tgt := 110) hx hb dX5_safe_37 (by decide) (fun c_18 => ?_) (fun c_18 => ?_)
          · have hf := ip c_18 hf
            cases hf
            exact KX ls (lv_sub hl [3] rfl)
          · have hf := im c_18 hf
            refine lv_aload_n hx hb dX5_safe_40 rfl (lv_at hl 0 rfl) ?_
            refine va_get (D := D) (ci := 5) (v := .ref h_now) (C := RX5) (T := TX5) (N := 10) hx hb hts uX5_safe_X5 hown hK hP 0 rfl rfl 3 (by decide) (hts (.fieldLink RX5 29 "SpeaksForTheChair" "now" "LSpeaksForTheChair$Standing;") (List.mem_of_getElem? (i := 3) rfl)) (fun _ h9 => h9) rfl dX5_safe_41 ?_
            refine lv_iload hx hb dX5_safe_44 (lv_at hl 4 rfl) ?_
            obtain ⟨x6, hv_19, hf⟩ := ob1_some hf
            refine q_rVi (As := [.int x4]) (rest := []) (r := x6) ⟨hx, hb, hml, hown, hts⟩ (c_X4_roomOf l D cI cC cL cB h_now x4 h_now_rooms h_now_bought h_now_spoken h_now_out h_now_coins x6 hv_19) (cwV 1 hts gX5_safe_X4_roomOf rfl rfl rfl (by decide +kernel) ⟨Nat.le_of_ble_eq_true rfl, Nat.le_of_ble_eq_true rfl⟩) hK hP [2] rfl (va_recv hK hP (ci := 4) (q0 := 2) rfl rfl) rfl hl.1 rfl (Nat.le_of_ble_eq_true rfl) dX5_safe_46 ⟨Nat.le_of_ble_eq_true rfl, Nat.le_of_ble_eq_true rfl⟩ ?_
            refine lv_istore (lv' := [(5, .int x6), (0, .ref h), (1, .int a1), (2, .int a2), (3, .int x3), (4, .int x4)]) hx hb dX5_safe_49 hl (by decide) rfl (fun ls hl => ?_)
            refine lv_aload_n hx hb dX5_safe_51 rfl (lv_at hl 1 rfl) ?_
            refine lv_aload_n hx hb dX5_safe_52 rfl (lv_at hl 1 rfl) ?_
            refine va_get (D := D) (ci := 5) (v := .ref h_now) (C := RX5) (T := TX5) (N := 10) hx hb hts uX5_safe_X5 hown hK hP 0 rfl rfl 3 (by decide) (hts (.fieldLink RX5 29 "SpeaksForTheChair" "now" "LSpeaksForTheChair$Standing;") (List.mem_of_getElem? (i := 3) rfl)) (fun _ h9 => h9) rfl dX5_safe_53 ?_
            refine lv_iload hx hb dX5_safe_56 (lv_at hl 5 rfl) ?_
            obtain ⟨x7, hv_20, hf⟩ := ob1_some hf
            refine q_rVi (As := [.ref h_now, .int x4]) (rest := []) (r := x7) ⟨hx, hb, hml, hown, hts⟩ (c_X5_isLoose l D cI cC cL cB h h_now h_page h_laid h_draft h_now h_trial h_past h_sightings h_kept h_told h_laid_kinds h_laid_prices h_laid_persons h_laid_places h_laid_hours h_laid_weights h_laid_numbers x4 h_now_rooms h_now_bought h_now_spoken h_now_out h_now_coins h_keptCount h_laid_pieces h_laid_roomsAtFirst h_laid_deeds h_laid_coins h_laid_law h_laid_kinds_c x7 hv_20) (cwV 2 hts gX5_safe_X5_isLoose rfl rfl rfl (by decide +kernel) ⟨Nat.le_of_ble_eq_true rfl, Nat.le_of_ble_eq_true rfl⟩) hK hP [2, 0, 1, 3] rfl (va_recv hK hP (ci := 5) (q0 := 0) rfl rfl) rfl hl.1 rfl (Nat.le_of_ble_eq_true rfl) dX5_safe_58 ⟨Nat.le_of_ble_eq_true rfl, Nat.le_of_ble_eq_true rfl⟩ ?_
            refine lv_if_eq (tgt := 104) hx hb dX5_safe_61 (by decide) (fun c_21 => ?_) (fun c_21 => ?_)
            · have hf := ip c_21 hf
              obtain ⟨x8, ex8⟩ : ∃ y : Int32, y = (x4 + 1) := ⟨_, rfl⟩
              have hf := pv_eq ex8 hf
              refine lv_iinc (v := x8) (lv' := [(4, .int x8), (5, .int x6), (0, .ref h), (1, .int a1), (2, .int a2), (3, .int x3)]) hx hb dX5_safe_104 hl (k := 5) rfl (by rw [ex8]; rfl) (by decide) rfl (fun ls hl => ?_)
              refine lv_goto (tgt := 28) hx hb dX5_safe_107 (by decide) ?_
              exact ih _ _ ls (lv_sub hl [2, 3, 4, 5, 0] rfl) _ hf KX
            · have hf := im c_21 hf
              refine lv_aload_n hx hb dX5_safe_64 rfl (lv_at hl 1 rfl) ?_
              refine va_get (D := D) (ci := 5) (v := .ref h_laid) (C := RX5) (T := TX5) (N := 10) hx hb hts uX5_safe_X5 hown hK hP 0 rfl rfl 1 (by decide) (hts (.fieldLink RX5 19 "SpeaksForTheChair" "laid" "LSpeaksForTheChair$House;") (List.mem_of_getElem? (i := 1) rfl)) (fun _ h9 => h9) rfl dX5_safe_65 ?_
              refine lv_aload_n hx hb dX5_safe_68 rfl (lv_at hl 1 rfl) ?_
              refine va_get (D := D) (ci := 5) (v := .ref h_laid) (C := RX5) (T := TX5) (N := 10) hx hb hts uX5_safe_X5 hown hK hP 0 rfl rfl 1 (by decide) (hts (.fieldLink RX5 19 "SpeaksForTheChair" "laid" "LSpeaksForTheChair$House;") (List.mem_of_getElem? (i := 1) rfl)) (fun _ h9 => h9) rfl dX5_safe_69 ?_
              refine va_get (D := D) (ci := 0) (v := .ref h_laid_kinds) (C := RX0) (T := TX0) (N := 12) hx hb hts uX5_safe_X0 hown hK hP 1 rfl rfl 1 (by decide) (hts (.fieldLink RX5 113 "SpeaksForTheChair$House" "kinds" "[I") (List.mem_of_getElem? (i := 4) rfl)) (fun _ h9 => h9) rfl dX5_safe_72 ?_
              refine lv_iload hx hb dX5_safe_75 (lv_at hl 5 rfl) ?_
              obtain ⟨g_22, hf⟩ := gu_in hf
              refine va_iald hx hb hK hP 3 0 rfl rfl g_22 dX5_safe_77 ?_
              refine lv_iload hx hb dX5_safe_78 (lv_at hl 0 rfl) ?_
              refine lv_aload_n hx hb dX5_safe_80 rfl (lv_at hl 1 rfl) ?_
              refine va_get (D := D) (ci := 5) (v := .ref h_laid) (C := RX5) (T := TX5) (N := 10) hx hb hts uX5_safe_X5 hown hK hP 0 rfl rfl 1 (by decide) (hts (.fieldLink RX5 19 "SpeaksForTheChair" "laid" "LSpeaksForTheChair$House;") (List.mem_of_getElem? (i := 1) rfl)) (fun _ h9 => h9) rfl dX5_safe_81 ?_
              refine va_get (D := D) (ci := 0) (v := .int h_laid_deeds) (C := RX0) (T := TX0) (N := 12) hx hb hts uX5_safe_X0 hown hK hP 1 rfl rfl 4 (by decide) (hts (.fieldLink RX5 220 "SpeaksForTheChair$House" "deeds" "I") (List.mem_of_getElem? (i := 5) rfl)) (fun _ h9 => h9) rfl dX5_safe_84 ?_
              refine lv_iload_n hx hb dX5_safe_87 rfl (lv_at hl 2 rfl) ?_
              refine lv_iload_n hx hb dX5_safe_88 rfl (lv_at hl 3 rfl) ?_
              obtain ⟨x9, hv_23, hf⟩ := ob1_some hf
              refine q_rVi (As := [.int (h_laid_kinds_c x4.toNatClampNeg), .int x6, .int h_laid_deeds, .int a1, .int a2]) (rest := []) (r := x9) ⟨hx, hb, hml, hown, hts⟩ (c_X0_wouldTell l D cI cC cL cB h_laid h_laid_kinds h_laid_prices h_laid_persons h_laid_places h_laid_hours h_laid_weights h_laid_numbers ((h_laid_kinds_c x4.toNatClampNeg)) x6 h_laid_deeds a1 a2 h_laid_pieces h_laid_roomsAtFirst h_laid_deeds h_laid_coins h_laid_law h_laid_hours_c h_laid_places_c x9 hv_23) (cwV 5 hts gX5_safe_X0_wouldTell rfl rfl rfl (by decide +kernel) ⟨Nat.le_of_ble_eq_true rfl, Nat.le_of_ble_eq_true rfl⟩) hK hP [1, 4, 5] rfl (va_recv hK hP (ci := 0) (q0 := 1) rfl rfl) rfl hl.1 rfl (Nat.le_of_ble_eq_true rfl) dX5_safe_89 ⟨Nat.le_of_ble_eq_true rfl, Nat.le_of_ble_eq_true rfl⟩ ?_
              refine lv_if_eq (tgt := 104) hx hb dX5_safe_92 (by decide) (fun c_24 => ?_) (fun c_24 => ?_)
              · have hf := ip c_24 hf
                obtain ⟨x10, ex10⟩ : ∃ y : Int32, y = (x4 + 1) := ⟨_, rfl⟩
                have hf := pv_eq ex10 hf
                refine lv_iinc (v := x10) (lv' := [(4, .int x10), (5, .int x6), (0, .ref h), (1, .int a1), (2, .int a2), (3, .int x3)]) hx hb dX5_safe_104 hl (k := 5) rfl (by rw [ex10]; rfl) (by decide) rfl (fun ls hl => ?_)
                refine lv_goto (tgt := 28) hx hb dX5_safe_107 (by decide) ?_
                exact ih _ _ ls (lv_sub hl [2, 3, 4, 5, 0] rfl) _ hf KX
              · have hf := im c_24 hf
                refine lv_iload_n hx hb dX5_safe_95 rfl (lv_at hl 4 rfl) ?_
                refine lv_iconst (v := 1) hx hb dX5_safe_96 (by decide) ?_
                refine lv_iload hx hb dX5_safe_97 (lv_at hl 0 rfl) ?_
                refine lv_ishl hx hb dX5_safe_99 ?_
                refine lv_iconst (v := (-1)) hx hb dX5_safe_100 (by decide) ?_
                refine lv_ixor hx hb dX5_safe_101 ?_
                refine lv_iand hx hb dX5_safe_102 ?_
                refine lv_topi (fun x11 ex11 => ?_)
                have hf := pv_eq ex11 hf
                refine lv_istore_n (lv' := [(3, .int x11), (5, .int x6), (0, .ref h), (1, .int a1), (2, .int a2), (4, .int x4)]) hx hb dX5_safe_103 rfl hl (by decide) rfl (fun ls hl => ?_)
                obtain ⟨x12, ex12⟩ : ∃ y : Int32, y = (x4 + 1) := ⟨_, rfl⟩
                have hf := pv_eq ex12 hf
                refine lv_iinc (v := x12) (lv' := [(4, .int x12), (3, .int x11), (5, .int x6), (0, .ref h), (1, .int a1), (2, .int a2)]) hx hb dX5_safe_104 hl (k := 5) rfl (by rw [ex12]; rfl) (by decide) rfl (fun ls hl => ?_)
                refine lv_goto (tgt := 28) hx hb dX5_safe_107 (by decide) ?_
                exact ih _ _ ls (lv_sub hl [3, 4, 5, 1, 0] rfl) _ hf KX
      obtain ⟨x5, hr28, hf⟩ := ob1_some hf
      refine loop28 300 _ _ ls (lv_sub hl [2, 3, 4, 1, 0] rfl) _ hr28 (fun ls hl => ?_)
      refine lv_iload_n hx hb dX5_safe_110 rfl (lv_at hl 0 rfl) ?_
      cases hf
      exact W.iret hx hb hr (fun t ht hW => ⟨_, rfl, rfl, ht⟩) (fun _ h => by cases h) dX5_safe_111
    · have hf := ip c_4 hf
      refine lv_iconst (v := (-1)) hx hb dX5_safe_20 (by decide) ?_
      cases hf
      exact W.iret hx hb hr (fun t ht hW => ⟨_, rfl, rfl, ht⟩) (fun _ h => by cases h) dX5_safe_21
theorem uX5_loudest_X0 : ∀ w ∈ wsX00, w ∈ wsX5_loudest := fun w h => List.mem_cons_of_mem _ (List.mem_append_right _ h)
theorem uX5_loudest_X5 : ∀ w ∈ wsX50, w ∈ wsX5_loudest := fun w h => List.mem_cons_of_mem _ (List.mem_append_left _ (List.mem_append_right _ h))
set_option maxHeartbeats 4000000 in
set_option maxRecDepth 100000 in
theorem c_X5_loudest (l : Launch) (D : va_G) (cI cC cL cB : ClassId) (h : Nat) (h_page : Nat) (h_laid : Nat) (h_draft : Nat) (h_now : Nat) (h_trial : Nat) (h_past : Nat) (h_sightings : Nat) (h_kept : Nat) (h_told : Nat) (h_laid_kinds : Nat) (h_laid_prices : Nat) (h_laid_persons : Nat) (h_laid_places : Nat) (h_laid_hours : Nat) (h_laid_weights : Nat) (h_laid_numbers : Nat) (a1 : Int32) (a2 : Int32) (h_keptCount : Int32) (h_laid_pieces : Int32) (h_laid_roomsAtFirst : Int32) (h_laid_deeds : Int32) (h_laid_coins : Int32) (h_laid_law : Int32) (h_told_c : Nat → Int32) (h_laid_weights_c : Nat → Int32) (r : Int32) (hf : m_X5_loudest a1 a2 h_laid_pieces h_laid_deeds h_told_c h_laid_weights_c = some r) : Met l yX5_loudest wsX5_loudest ({ frames := 1, cells := 0, slots := 0, locals := 23 }) (va_Pc [.ref h, .int a1, .int a2] (q_R D vwCl (tyL cI cC cL cB) [(h, .inr (5, [.ref h_page, .ref h_laid, .ref h_draft, .ref h_now, .ref h_trial, .ref h_past, .ref h_sightings, .ref h_kept, .int h_keptCount, .ref h_told])), (h_laid, .inr (0, [.int h_laid_pieces, .ref h_laid_kinds, .ref h_laid_prices, .int h_laid_roomsAtFirst, .int h_laid_deeds, .ref h_laid_persons, .ref h_laid_places, .ref h_laid_hours, .ref h_laid_weights, .int h_laid_coins, .int h_laid_law, .ref h_laid_numbers])), (h_told, .inl (cI, 8, .inl h_told_c)), (h_laid_weights, .inl (cI, 9, .inl h_laid_weights_c))])) (vp_Si (fun r' => r' = r)) 0 0 (fun _ => False) := by
  refine Met.ofW (cc := cX5_loudest) (maxL := 7) (ret := (some .int)) (by decide) rfl ?_
  intro p e s m args below meth c s₁ B hml hv
  obtain ⟨rfl, hP, hK⟩ := hv
  have hx := B.exec
  have hb := B.bytes
  have hr := B.returns
  have hts := atoms_spec (ws := wsX5_loudest) B.pre
  have hown : s.vm.findClass RX5 = some m.cls := findClass_of_methodNamed B.named
  have hlocks := B.notSynchronized
  have hl := lv_entry ([.ref h, .int a1, .int a2]) (n := 7) (Nat.le_of_ble_eq_true rfl)
  rw [lg_entry_eq]
  generalize (lg_sl ([.ref h, .int a1, .int a2]) ++ List.replicate (7 - (lg_sl ([.ref h, .int a1, .int a2])).length) Slot.unset).toArray = ls at hl ⊢
  have hl : lv_has ls 7 [(0, .ref h), (1, .int a1), (2, .int a2)] := hl
  unfold m_X5_loudest at hf
  refine lv_iconst (v := (-1)) hx hb dX5_loudest_0 (by decide) ?_
  refine lv_istore_n (lv' := [(3, .int (-1)), (0, .ref h), (1, .int a1), (2, .int a2)]) hx hb dX5_loudest_1 rfl hl (by decide) rfl (fun ls hl => ?_)
  refine lv_iconst (v := 0) hx hb dX5_loudest_2 (by decide) ?_
  refine lv_istore (lv' := [(4, .int 0), (3, .int (-1)), (0, .ref h), (1, .int a1), (2, .int a2)]) hx hb dX5_loudest_3 hl (by decide) rfl (fun ls hl => ?_)
  refine lv_iconst (v := 0) hx hb dX5_loudest_5 (by decide) ?_
  refine lv_istore (lv' := [(5, .int 0), (4, .int 0), (3, .int (-1)), (0, .ref h), (1, .int a1), (2, .int a2)]) hx hb dX5_loudest_6 hl (by decide) rfl (fun ls hl => ?_)
  have loop8 : ∀ (n : Nat) (x1 : Int32) (x2 : Int32) (x3 : Int32), ∀ (ls : Array Slot), lv_has ls 7 [(0, .ref h), (1, .int a1), (2, .int a2), (3, .int x1), (4, .int x2), (5, .int x3)] → ∀ (x4 : Int32), L_X5_loudest_8 h_laid_pieces h_told_c a2 h_laid_deeds h_laid_weights_c a1 n x1 x2 x3 = some x4 → (∀ (ls : Array Slot), lv_has ls 7 [(3, .int x4)] → W p l e (headSpec wsX5_loudest ({ frames := 1, cells := 0, slots := 0, locals := 23 })).room s m ([.ref h, .int a1, .int a2] : List Value).toArray below meth c s.heap [] 0 0 (MQ below (vp_Si (fun r' => r' = r)) ([.ref h, .int a1, .int a2] : List Value).toArray s 0 0 (fun _ => False)) (F0 m 70 ls [])) → W p l e (headSpec wsX5_loudest ({ frames := 1, cells := 0, slots := 0, locals := 23 })).room s m ([.ref h, .int a1, .int a2] : List Value).toArray below meth c s.heap [] 0 0 (MQ below (vp_Si (fun r' => r' = r)) ([.ref h, .int a1, .int a2] : List Value).toArray s 0 0 (fun _ => False)) (F0 m 8 ls []) := by
    intro n
    induction n with
    | zero =>
      intro x1 x2 x3 ls hl x4 hf KX
      rw [L_X5_loudest_8] at hf
      cases hf
    | succ n ih =>
      intro x1 x2 x3 ls hl x4 hf KX
      rw [L_X5_loudest_8] at hf
      refine lv_iload hx hb dX5_loudest_8 (lv_at hl 5 rfl) ?_
      refine lv_aload_n hx hb dX5_loudest_10 rfl (lv_at hl 0 rfl) ?_
      refine va_get (D := D) (ci := 5) (v := .ref h_laid) (C := RX5) (T := TX5) (N := 10) hx hb hts uX5_loudest_X5 hown hK hP 0 rfl rfl 1 (by decide) (hts (.fieldLink RX5 19 "SpeaksForTheChair" "laid" "LSpeaksForTheChair$House;") (List.mem_of_getElem? (i := 1) rfl)) (fun _ h9 => h9) rfl dX5_loudest_11 ?_
      refine va_get (D := D) (ci := 0) (v := .int h_laid_pieces) (C := RX0) (T := TX0) (N := 12) hx hb hts uX5_loudest_X0 hown hK hP 1 rfl rfl 0 (by decide) (hts (.fieldLink RX5 91 "SpeaksForTheChair$House" "pieces" "I") (List.mem_of_getElem? (i := 2) rfl)) (fun _ h9 => h9) rfl dX5_loudest_14 ?_
      refine lv_icmp_ge (tgt := 70) hx hb dX5_loudest_17 (by decide) (fun c_10 => ?_) (fun c_10 => ?_)
      · have hf := ip c_10 hf
        cases hf
        exact KX ls (lv_sub hl [3] rfl)
      · have hf := im c_10 hf
        refine lv_aload_n hx hb dX5_loudest_20 rfl (lv_at hl 0 rfl) ?_
        refine va_get (D := D) (ci := 5) (v := .ref h_laid) (C := RX5) (T := TX5) (N := 10) hx hb hts uX5_loudest_X5 hown hK hP 0 rfl rfl 1 (by decide) (hts (.fieldLink RX5 19 "SpeaksForTheChair" "laid" "LSpeaksForTheChair$House;") (List.mem_of_getElem? (i := 1) rfl)) (fun _ h9 => h9) rfl dX5_loudest_21 ?_
        refine lv_aload_n hx hb dX5_loudest_24 rfl (lv_at hl 0 rfl) ?_
        refine va_get (D := D) (ci := 5) (v := .ref h_told) (C := RX5) (T := TX5) (N := 10) hx hb hts uX5_loudest_X5 hown hK hP 0 rfl rfl 9 (by decide) (hts (.fieldLink RX5 54 "SpeaksForTheChair" "told" "[I") (List.mem_of_getElem? (i := 3) rfl)) (fun _ h9 => h9) rfl dX5_loudest_25 ?_
        refine lv_iload hx hb dX5_loudest_28 (lv_at hl 5 rfl) ?_
        obtain ⟨g_11, hf⟩ := gu_in hf
        refine va_iald hx hb hK hP 2 0 rfl rfl g_11 dX5_loudest_30 ?_
        refine lv_iload_n hx hb dX5_loudest_31 rfl (lv_at hl 2 rfl) ?_
        refine lv_iconst (v := (-1)) hx hb dX5_loudest_32 (by decide) ?_
        refine lv_ixor hx hb dX5_loudest_33 ?_
        refine lv_iand hx hb dX5_loudest_34 ?_
        obtain ⟨x5, hv_12, hf⟩ := ob1_some hf
        refine q_rVi (As := [.int ((h_told_c x3.toNatClampNeg) &&& (a2 ^^^ (-1)))]) (rest := []) (r := x5) ⟨hx, hb, hml, hown, hts⟩ (c_X0_weightOf l D cI cC cL cB h_laid h_laid_kinds h_laid_prices h_laid_persons h_laid_places h_laid_hours h_laid_weights h_laid_numbers (((h_told_c x3.toNatClampNeg) &&& (a2 ^^^ (-1)))) h_laid_pieces h_laid_roomsAtFirst h_laid_deeds h_laid_coins h_laid_law h_laid_weights_c x5 hv_12) (cwV 1 hts gX5_loudest_X0_weightOf rfl rfl rfl (by decide +kernel) ⟨Nat.le_of_ble_eq_true rfl, Nat.le_of_ble_eq_true rfl⟩) hK hP [1, 3] rfl (va_recv hK hP (ci := 0) (q0 := 1) rfl rfl) rfl hl.1 rfl (Nat.le_of_ble_eq_true rfl) dX5_loudest_35 ⟨Nat.le_of_ble_eq_true rfl, Nat.le_of_ble_eq_true rfl⟩ ?_
        refine lv_istore (lv' := [(6, .int x5), (0, .ref h), (1, .int a1), (2, .int a2), (3, .int x1), (4, .int x2), (5, .int x3)]) hx hb dX5_loudest_38 hl (by decide) rfl (fun ls hl => ?_)
        refine lv_iload_n hx hb dX5_loudest_40 rfl (lv_at hl 2 rfl) ?_
        refine lv_iload hx hb dX5_loudest_41 (lv_at hl 6 rfl) ?_
        refine lv_ishr hx hb dX5_loudest_43 ?_
        refine lv_iconst (v := 1) hx hb dX5_loudest_44 (by decide) ?_
        refine lv_iand hx hb dX5_loudest_45 ?_
        refine lv_iconst (v := 1) hx hb dX5_loudest_46 (by decide) ?_
        refine lv_icmp_ne (tgt := 64) hx hb dX5_loudest_47 (by decide) (fun c_13 => ?_) (fun c_13 => ?_)
        · have hf := im c_13 hf
          obtain ⟨x6, ex6⟩ : ∃ y : Int32, y = (x3 + 1) := ⟨_, rfl⟩
          have hf := pv_eq ex6 hf
          refine lv_iinc (v := x6) (lv' := [(5, .int x6), (6, .int x5), (0, .ref h), (1, .int a1), (2, .int a2), (3, .int x1), (4, .int x2)]) hx hb dX5_loudest_64 hl (k := 6) rfl (by rw [ex6]; rfl) (by decide) rfl (fun ls hl => ?_)
          refine lv_goto (tgt := 8) hx hb dX5_loudest_67 (by decide) ?_
          exact ih _ _ _ ls (lv_sub hl [2, 3, 4, 5, 6, 0] rfl) _ hf KX
        · have hf := ip c_13 hf
          refine lv_iload hx hb dX5_loudest_50 (lv_at hl 0 rfl) ?_
          refine lv_iload hx hb dX5_loudest_52 (lv_at hl 5 rfl) ?_
          refine lv_icmp_le (tgt := 64) hx hb dX5_loudest_54 (by decide) (fun c_14 => ?_) (fun c_14 => ?_)
          · have hf := ip c_14 hf
            obtain ⟨x7, ex7⟩ : ∃ y : Int32, y = (x3 + 1) := ⟨_, rfl⟩
            have hf := pv_eq ex7 hf
            refine lv_iinc (v := x7) (lv' := [(5, .int x7), (6, .int x5), (0, .ref h), (1, .int a1), (2, .int a2), (3, .int x1), (4, .int x2)]) hx hb dX5_loudest_64 hl (k := 6) rfl (by rw [ex7]; rfl) (by decide) rfl (fun ls hl => ?_)
            refine lv_goto (tgt := 8) hx hb dX5_loudest_67 (by decide) ?_
            exact ih _ _ _ ls (lv_sub hl [2, 3, 4, 5, 6, 0] rfl) _ hf KX
          · have hf := im c_14 hf
            refine lv_iload hx hb dX5_loudest_57 (lv_at hl 0 rfl) ?_
            refine lv_istore (lv' := [(4, .int x5), (6, .int x5), (0, .ref h), (1, .int a1), (2, .int a2), (3, .int x1), (5, .int x3)]) hx hb dX5_loudest_59 hl (by decide) rfl (fun ls hl => ?_)
            refine lv_iload hx hb dX5_loudest_61 (lv_at hl 6 rfl) ?_
            refine lv_istore_n (lv' := [(3, .int x3), (4, .int x5), (6, .int x5), (0, .ref h), (1, .int a1), (2, .int a2), (5, .int x3)]) hx hb dX5_loudest_63 rfl hl (by decide) rfl (fun ls hl => ?_)
            obtain ⟨x8, ex8⟩ : ∃ y : Int32, y = (x3 + 1) := ⟨_, rfl⟩
            have hf := pv_eq ex8 hf
            refine lv_iinc (v := x8) (lv' := [(5, .int x8), (3, .int x3), (4, .int x5), (6, .int x5), (0, .ref h), (1, .int a1), (2, .int a2)]) hx hb dX5_loudest_64 hl (k := 6) rfl (by rw [ex8]; rfl) (by decide) rfl (fun ls hl => ?_)
            refine lv_goto (tgt := 8) hx hb dX5_loudest_67 (by decide) ?_
            exact ih _ _ _ ls (lv_sub hl [4, 5, 6, 1, 2, 0] rfl) _ hf KX
  obtain ⟨x4, hr8, hf⟩ := ob1_some hf
  refine loop8 300 _ _ _ ls (lv_sub hl [3, 4, 5, 2, 1, 0] rfl) _ hr8 (fun ls hl => ?_)
  refine lv_iload_n hx hb dX5_loudest_70 rfl (lv_at hl 0 rfl) ?_
  cases hf
  exact W.iret hx hb hr (fun t ht hW => ⟨_, rfl, rfl, ht⟩) (fun _ h => by cases h) dX5_loudest_71
theorem uX5_dealer_X0 : ∀ w ∈ wsX00, w ∈ wsX5_dealer := fun w h => List.mem_cons_of_mem _ (List.mem_append_right _ h)
theorem uX5_dealer_X4 : ∀ w ∈ wsX40, w ∈ wsX5_dealer := fun w h => List.mem_cons_of_mem _ (List.mem_append_left _ (List.mem_append_right _ h))
theorem uX5_dealer_X5 : ∀ w ∈ wsX50, w ∈ wsX5_dealer := fun w h => List.mem_cons_of_mem _ (List.mem_append_left _ (List.mem_append_left _ (List.mem_append_right _ h)))
set_option maxHeartbeats 4000000 in
set_option maxRecDepth 100000 in
theorem c_X5_dealer (l : Launch) (D : va_G) (cI cC cL cB : ClassId) (sz : Nat) (h : Nat) (h_page : Nat) (h_laid : Nat) (h_draft : Nat) (h_now : Nat) (h_trial : Nat) (h_past : Nat) (h_sightings : Nat) (h_kept : Nat) (h_told : Nat) (h_laid_kinds : Nat) (h_laid_prices : Nat) (h_laid_persons : Nat) (h_laid_places : Nat) (h_laid_hours : Nat) (h_laid_weights : Nat) (h_laid_numbers : Nat) (a1 : Int32) (h_keptCount : Int32) (h_laid_pieces : Int32) (h_laid_roomsAtFirst : Int32) (h_laid_deeds : Int32) (h_laid_coins : Int32) (h_laid_law : Int32) (h_now_rooms : Int32) (h_now_bought : Int32) (h_now_spoken : Int32) (h_now_out : Int32) (h_now_coins : Int32) (h_laid_places_c : Nat → Int32) (h_laid_kinds_c : Nat → Int32) (h_laid_hours_c : Nat → Int32) (h_laid_weights_c : Nat → Int32) (h_told_c : Nat → Int32) (r : Int32) (o0 : Nat → Int32) (hf : m_X5_dealer a1 h_laid_pieces h_laid_deeds h_laid_law h_now_rooms h_now_bought h_now_spoken h_now_out h_laid_places_c h_laid_kinds_c h_laid_hours_c h_laid_weights_c h_told_c = some (r, o0)) : Met l yX5_dealer wsX5_dealer ({ frames := 4, cells := 0, slots := 0, locals := 96 }) (va_Pc [.ref h, .int a1] (q_W D vwCl (tyL cI cC cL cB) [(h, .inr (5, [.ref h_page, .ref h_laid, .ref h_draft, .ref h_now, .ref h_trial, .ref h_past, .ref h_sightings, .ref h_kept, .int h_keptCount, .ref h_told])), (h_laid, .inr (0, [.int h_laid_pieces, .ref h_laid_kinds, .ref h_laid_prices, .int h_laid_roomsAtFirst, .int h_laid_deeds, .ref h_laid_persons, .ref h_laid_places, .ref h_laid_hours, .ref h_laid_weights, .int h_laid_coins, .int h_laid_law, .ref h_laid_numbers])), (h_now, .inr (4, [.int h_now_rooms, .int h_now_bought, .int h_now_spoken, .int h_now_out, .int h_now_coins])), (h_laid_places, .inl (cI, 9, .inl h_laid_places_c)), (h_laid_kinds, .inl (cI, 8, .inl h_laid_kinds_c)), (h_laid_hours, .inl (cI, 9, .inl h_laid_hours_c)), (h_laid_weights, .inl (cI, 9, .inl h_laid_weights_c)), (h_told, .inl (cI, 8, .inl h_told_c))] sz)) (va_Qi (fun r' _ => r' = r) (q_E D vwCl (tyL cI cC cL cB) (va_A [(h, .inr (5, [.ref h_page, .ref h_laid, .ref h_draft, .ref h_now, .ref h_trial, .ref h_past, .ref h_sightings, .ref h_kept, .int h_keptCount, .ref h_told])), (h_laid, .inr (0, [.int h_laid_pieces, .ref h_laid_kinds, .ref h_laid_prices, .int h_laid_roomsAtFirst, .int h_laid_deeds, .ref h_laid_persons, .ref h_laid_places, .ref h_laid_hours, .ref h_laid_weights, .int h_laid_coins, .int h_laid_law, .ref h_laid_numbers])), (h_now, .inr (4, [.int h_now_rooms, .int h_now_bought, .int h_now_spoken, .int h_now_out, .int h_now_coins])), (h_laid_places, .inl (cI, 9, .inl h_laid_places_c)), (h_laid_kinds, .inl (cI, 8, .inl h_laid_kinds_c)), (h_laid_hours, .inl (cI, 9, .inl h_laid_hours_c)), (h_laid_weights, .inl (cI, 9, .inl h_laid_weights_c)), (h_told, .inl (cI, 8, .inl h_told_c))] sz) [(h, .inr (5, [.ref h_page, .ref h_laid, .ref h_draft, .ref h_now, .ref h_trial, .ref h_past, .ref h_sightings, .ref h_kept, .int h_keptCount, .ref h_told])), (h_laid, .inr (0, [.int h_laid_pieces, .ref h_laid_kinds, .ref h_laid_prices, .int h_laid_roomsAtFirst, .int h_laid_deeds, .ref h_laid_persons, .ref h_laid_places, .ref h_laid_hours, .ref h_laid_weights, .int h_laid_coins, .int h_laid_law, .ref h_laid_numbers])), (h_now, .inr (4, [.int h_now_rooms, .int h_now_bought, .int h_now_spoken, .int h_now_out, .int h_now_coins])), (h_laid_places, .inl (cI, 9, .inl h_laid_places_c)), (h_laid_kinds, .inl (cI, 8, .inl h_laid_kinds_c)), (h_laid_hours, .inl (cI, 9, .inl h_laid_hours_c)), (h_laid_weights, .inl (cI, 9, .inl h_laid_weights_c)), (h_told, .inl (cI, 8, .inl o0))]) (va_A [(h, .inr (5, [.ref h_page, .ref h_laid, .ref h_draft, .ref h_now, .ref h_trial, .ref h_past, .ref h_sightings, .ref h_kept, .int h_keptCount, .ref h_told])), (h_laid, .inr (0, [.int h_laid_pieces, .ref h_laid_kinds, .ref h_laid_prices, .int h_laid_roomsAtFirst, .int h_laid_deeds, .ref h_laid_persons, .ref h_laid_places, .ref h_laid_hours, .ref h_laid_weights, .int h_laid_coins, .int h_laid_law, .ref h_laid_numbers])), (h_now, .inr (4, [.int h_now_rooms, .int h_now_bought, .int h_now_spoken, .int h_now_out, .int h_now_coins])), (h_laid_places, .inl (cI, 9, .inl h_laid_places_c)), (h_laid_kinds, .inl (cI, 8, .inl h_laid_kinds_c)), (h_laid_hours, .inl (cI, 9, .inl h_laid_hours_c)), (h_laid_weights, .inl (cI, 9, .inl h_laid_weights_c)), (h_told, .inl (cI, 8, .inl h_told_c))] sz)) 0 0 (va_A [(h, .inr (5, [.ref h_page, .ref h_laid, .ref h_draft, .ref h_now, .ref h_trial, .ref h_past, .ref h_sightings, .ref h_kept, .int h_keptCount, .ref h_told])), (h_laid, .inr (0, [.int h_laid_pieces, .ref h_laid_kinds, .ref h_laid_prices, .int h_laid_roomsAtFirst, .int h_laid_deeds, .ref h_laid_persons, .ref h_laid_places, .ref h_laid_hours, .ref h_laid_weights, .int h_laid_coins, .int h_laid_law, .ref h_laid_numbers])), (h_now, .inr (4, [.int h_now_rooms, .int h_now_bought, .int h_now_spoken, .int h_now_out, .int h_now_coins])), (h_laid_places, .inl (cI, 9, .inl h_laid_places_c)), (h_laid_kinds, .inl (cI, 8, .inl h_laid_kinds_c)), (h_laid_hours, .inl (cI, 9, .inl h_laid_hours_c)), (h_laid_weights, .inl (cI, 9, .inl h_laid_weights_c)), (h_told, .inl (cI, 8, .inl h_told_c))] sz) := by
  refine Met.ofW (cc := cX5_dealer) (maxL := 7) (ret := (some .int)) (by decide) rfl ?_
  intro p e s m args below meth c s₁ B hml hv
  obtain ⟨rfl, hsz, hP, hK, hD0⟩ := hv
  have hx := B.exec
  have hb := B.bytes
  have hr := B.returns
  have hts := atoms_spec (ws := wsX5_dealer) B.pre
  have hown : s.vm.findClass RX5 = some m.cls := findClass_of_methodNamed B.named
  have hlocks := B.notSynchronized
  subst hsz
  have hD := hD0.self (sz := s.heap.size)
  generalize hAe : va_A [(h, .inr (5, [.ref h_page, .ref h_laid, .ref h_draft, .ref h_now, .ref h_trial, .ref h_past, .ref h_sightings, .ref h_kept, .int h_keptCount, .ref h_told])), (h_laid, .inr (0, [.int h_laid_pieces, .ref h_laid_kinds, .ref h_laid_prices, .int h_laid_roomsAtFirst, .int h_laid_deeds, .ref h_laid_persons, .ref h_laid_places, .ref h_laid_hours, .ref h_laid_weights, .int h_laid_coins, .int h_laid_law, .ref h_laid_numbers])), (h_now, .inr (4, [.int h_now_rooms, .int h_now_bought, .int h_now_spoken, .int h_now_out, .int h_now_coins])), (h_laid_places, .inl (cI, 9, .inl h_laid_places_c)), (h_laid_kinds, .inl (cI, 8, .inl h_laid_kinds_c)), (h_laid_hours, .inl (cI, 9, .inl h_laid_hours_c)), (h_laid_weights, .inl (cI, 9, .inl h_laid_weights_c)), (h_told, .inl (cI, 8, .inl h_told_c))] s.heap.size = A at hD ⊢
  have hA : ∀ q : Nat, s.heap.size ≤ q → A q := fun q h => by rw [← hAe]; exact Or.inr h
  have hS : va_S A s.heap s.heap [] := va_S.rf
  have hP : va_P D vwCl [(h, .inr (5, [.ref h_page, .ref h_laid, .ref h_draft, .ref h_now, .ref h_trial, .ref h_past, .ref h_sightings, .ref h_kept, .int h_keptCount, .ref h_told])), (h_laid, .inr (0, [.int h_laid_pieces, .ref h_laid_kinds, .ref h_laid_prices, .int h_laid_roomsAtFirst, .int h_laid_deeds, .ref h_laid_persons, .ref h_laid_places, .ref h_laid_hours, .ref h_laid_weights, .int h_laid_coins, .int h_laid_law, .ref h_laid_numbers])), (h_now, .inr (4, [.int h_now_rooms, .int h_now_bought, .int h_now_spoken, .int h_now_out, .int h_now_coins])), (h_laid_places, .inl (cI, 9, .inl h_laid_places_c)), (h_laid_kinds, .inl (cI, 8, .inl h_laid_kinds_c)), (h_laid_hours, .inl (cI, 9, .inl h_laid_hours_c)), (h_laid_weights, .inl (cI, 9, .inl h_laid_weights_c)), (h_told, .inl (cI, 8, .inl h_told_c))] s.heap := hP
  have hl := lv_entry ([.ref h, .int a1]) (n := 7) (Nat.le_of_ble_eq_true rfl)
  rw [lg_entry_eq]
  generalize (lg_sl ([.ref h, .int a1]) ++ List.replicate (7 - (lg_sl ([.ref h, .int a1])).length) Slot.unset).toArray = ls at hl ⊢
  have hl : lv_has ls 7 [(0, .ref h), (1, .int a1)] := hl
  unfold m_X5_dealer at hf
  refine lv_iload_n hx hb dX5_dealer_0 rfl (lv_at hl 1 rfl) ?_
  refine lv_iconst (v := (-1)) hx hb dX5_dealer_1 (by decide) ?_
  refine lv_icmp_ge (tgt := 7) hx hb dX5_dealer_2 (by decide) (fun c_1 => ?_) (fun c_1 => ?_)
  · have hf := ip c_1 hf
    refine lv_aload_n hx hb dX5_dealer_7 rfl (lv_at hl 0 rfl) ?_
    obtain ⟨c1, hv_2, hf⟩ := ob1_some hf
    refine q_wVv (As := []) (rest := []) (w1 := [(h, .inr (5, [.ref h_page, .ref h_laid, .ref h_draft, .ref h_now, .ref h_trial, .ref h_past, .ref h_sightings, .ref h_kept, .int h_keptCount, .ref h_told])), (h_laid, .inr (0, [.int h_laid_pieces, .ref h_laid_kinds, .ref h_laid_prices, .int h_laid_roomsAtFirst, .int h_laid_deeds, .ref h_laid_persons, .ref h_laid_places, .ref h_laid_hours, .ref h_laid_weights, .int h_laid_coins, .int h_laid_law, .ref h_laid_numbers])), (h_now, .inr (4, [.int h_now_rooms, .int h_now_bought, .int h_now_spoken, .int h_now_out, .int h_now_coins])), (h_laid_places, .inl (cI, 9, .inl h_laid_places_c)), (h_laid_kinds, .inl (cI, 8, .inl h_laid_kinds_c)), (h_laid_hours, .inl (cI, 9, .inl h_laid_hours_c)), (h_laid_weights, .inl (cI, 9, .inl h_laid_weights_c)), (h_told, .inl (cI, 8, .inl c1))]) (wr := []) (w2 := [(h, .inr (5, [.ref h_page, .ref h_laid, .ref h_draft, .ref h_now, .ref h_trial, .ref h_past, .ref h_sightings, .ref h_kept, .int h_keptCount, .ref h_told])), (h_laid, .inr (0, [.int h_laid_pieces, .ref h_laid_kinds, .ref h_laid_prices, .int h_laid_roomsAtFirst, .int h_laid_deeds, .ref h_laid_persons, .ref h_laid_places, .ref h_laid_hours, .ref h_laid_weights, .int h_laid_coins, .int h_laid_law, .ref h_laid_numbers])), (h_now, .inr (4, [.int h_now_rooms, .int h_now_bought, .int h_now_spoken, .int h_now_out, .int h_now_coins])), (h_laid_places, .inl (cI, 9, .inl h_laid_places_c)), (h_laid_kinds, .inl (cI, 8, .inl h_laid_kinds_c)), (h_laid_hours, .inl (cI, 9, .inl h_laid_hours_c)), (h_laid_weights, .inl (cI, 9, .inl h_laid_weights_c)), (h_told, .inl (cI, 8, .inl c1))]) ⟨hx, hb, hml, hown, hts⟩ (c_X5_fillTold l D cI cC cL cB s.heap.size h h_page h_laid h_draft h_now h_trial h_past h_sightings h_kept h_told h_laid_kinds h_laid_prices h_laid_persons h_laid_places h_laid_hours h_laid_weights h_laid_numbers h_keptCount h_laid_pieces h_laid_roomsAtFirst h_laid_deeds h_laid_coins h_laid_law h_now_rooms h_now_bought h_now_spoken h_now_out h_now_coins h_laid_places_c h_laid_kinds_c h_laid_hours_c h_laid_weights_c h_told_c c1 hv_2) (cwV 0 hts gX5_dealer_X5_fillTold rfl rfl rfl (by decide +kernel) ⟨Nat.le_of_ble_eq_true rfl, Nat.le_of_ble_eq_true rfl⟩) hK hP hD hS hA [0, 1, 2, 3, 4, 5, 6, 7] rfl (by decide) [] rfl (by decide) (by decide) [0, 1, 2, 3, 4, 5, 6, 7] rfl (by decide) (va_recv hK hP (ci := 5) (q0 := 0) rfl rfl) rfl hl.1 rfl (Nat.le_of_ble_eq_true rfl) dX5_dealer_8 ⟨Nat.le_of_ble_eq_true rfl, Nat.le_of_ble_eq_true rfl⟩ (fun H locs hP hD hS => ?_)
    have hP : va_P D vwCl [(h, .inr (5, [.ref h_page, .ref h_laid, .ref h_draft, .ref h_now, .ref h_trial, .ref h_past, .ref h_sightings, .ref h_kept, .int h_keptCount, .ref h_told])), (h_laid, .inr (0, [.int h_laid_pieces, .ref h_laid_kinds, .ref h_laid_prices, .int h_laid_roomsAtFirst, .int h_laid_deeds, .ref h_laid_persons, .ref h_laid_places, .ref h_laid_hours, .ref h_laid_weights, .int h_laid_coins, .int h_laid_law, .ref h_laid_numbers])), (h_now, .inr (4, [.int h_now_rooms, .int h_now_bought, .int h_now_spoken, .int h_now_out, .int h_now_coins])), (h_laid_places, .inl (cI, 9, .inl h_laid_places_c)), (h_laid_kinds, .inl (cI, 8, .inl h_laid_kinds_c)), (h_laid_hours, .inl (cI, 9, .inl h_laid_hours_c)), (h_laid_weights, .inl (cI, 9, .inl h_laid_weights_c)), (h_told, .inl (cI, 8, .inl c1))] H := hP
    have hD : va_D A [(h, .inr (5, [.ref h_page, .ref h_laid, .ref h_draft, .ref h_now, .ref h_trial, .ref h_past, .ref h_sightings, .ref h_kept, .int h_keptCount, .ref h_told])), (h_laid, .inr (0, [.int h_laid_pieces, .ref h_laid_kinds, .ref h_laid_prices, .int h_laid_roomsAtFirst, .int h_laid_deeds, .ref h_laid_persons, .ref h_laid_places, .ref h_laid_hours, .ref h_laid_weights, .int h_laid_coins, .int h_laid_law, .ref h_laid_numbers])), (h_now, .inr (4, [.int h_now_rooms, .int h_now_bought, .int h_now_spoken, .int h_now_out, .int h_now_coins])), (h_laid_places, .inl (cI, 9, .inl h_laid_places_c)), (h_laid_kinds, .inl (cI, 8, .inl h_laid_kinds_c)), (h_laid_hours, .inl (cI, 9, .inl h_laid_hours_c)), (h_laid_weights, .inl (cI, 9, .inl h_laid_weights_c)), (h_told, .inl (cI, 8, .inl c1))] := hD
    refine lv_aload_n hx hb dX5_dealer_11 rfl (lv_at hl 0 rfl) ?_
    obtain ⟨x2, hv_3, hf⟩ := ob1_some hf
    refine q_rVi (As := []) (rest := []) (r := x2) ⟨hx, hb, hml, hown, hts⟩ (c_X5_looseOnes l D cI cC cL cB h h_page h_laid h_draft h_now h_trial h_past h_sightings h_kept h_told h_laid_kinds h_laid_prices h_laid_persons h_laid_places h_laid_hours h_laid_weights h_laid_numbers h_keptCount h_laid_pieces h_laid_roomsAtFirst h_laid_deeds h_laid_coins h_laid_law h_now_rooms h_now_bought h_now_spoken h_now_out h_now_coins h_laid_kinds_c x2 hv_3) (cwV 0 hts gX5_dealer_X5_looseOnes rfl rfl rfl (by decide +kernel) ⟨Nat.le_of_ble_eq_true rfl, Nat.le_of_ble_eq_true rfl⟩) hK hP [0, 1, 2, 4] rfl (va_recv hK hP (ci := 5) (q0 := 0) rfl rfl) rfl hl.1 rfl (Nat.le_of_ble_eq_true rfl) dX5_dealer_12 ⟨Nat.le_of_ble_eq_true rfl, Nat.le_of_ble_eq_true rfl⟩ ?_
    refine lv_istore_n (lv' := [(2, .int x2), (0, .ref h), (1, .int a1)]) hx hb dX5_dealer_15 rfl hl (by decide) rfl (fun ls hl => ?_)
    refine lv_aload_n hx hb dX5_dealer_16 rfl (lv_at hl 1 rfl) ?_
    refine va_get (D := D) (ci := 5) (v := .ref h_now) (C := RX5) (T := TX5) (N := 10) hx hb hts uX5_dealer_X5 hown hK hP 0 rfl rfl 3 (by decide) (hts (.fieldLink RX5 29 "SpeaksForTheChair" "now" "LSpeaksForTheChair$Standing;") (List.mem_of_getElem? (i := 1) rfl)) (fun _ h9 => h9) rfl dX5_dealer_17 ?_
    refine va_get (D := D) (ci := 4) (v := .int h_now_out) (C := RX4) (T := TX4) (N := 5) hx hb hts uX5_dealer_X4 hown hK hP 2 rfl rfl 3 (by decide) (hts (.fieldLink RX5 191 "SpeaksForTheChair$Standing" "out" "I") (List.mem_of_getElem? (i := 2) rfl)) (fun _ h9 => h9) rfl dX5_dealer_20 ?_
    refine lv_istore_n (lv' := [(3, .int h_now_out), (2, .int x2), (0, .ref h), (1, .int a1)]) hx hb dX5_dealer_23 rfl hl (by decide) rfl (fun ls hl => ?_)
    refine lv_iconst (v := 0) hx hb dX5_dealer_24 (by decide) ?_
    refine lv_istore (lv' := [(4, .int 0), (3, .int h_now_out), (2, .int x2), (0, .ref h), (1, .int a1)]) hx hb dX5_dealer_25 hl (by decide) rfl (fun ls hl => ?_)
    refine lv_iconst (v := 0) hx hb dX5_dealer_27 (by decide) ?_
    refine lv_istore (lv' := [(5, .int 0), (4, .int 0), (3, .int h_now_out), (2, .int x2), (0, .ref h), (1, .int a1)]) hx hb dX5_dealer_28 hl (by decide) rfl (fun ls hl => ?_)
    have loop30 : ∀ (n : Nat) (x3 : Int32) (x4 : Int32) (x5 : Int32), ∀ (ls : Array Slot), lv_has ls 7 [(0, .ref h), (1, .int a1), (2, .int x2), (3, .int x3), (4, .int x4), (5, .int x5)] → L_X5_dealer_30 h_laid_pieces a1 c1 x2 h_laid_deeds h_laid_weights_c n x3 x4 x5 = some (r, o0) → W p l e (headSpec wsX5_dealer ({ frames := 4, cells := 0, slots := 0, locals := 96 })).room s m ([.ref h, .int a1] : List Value).toArray below meth c H locs 0 0 (MQ below (va_Qi (fun r' _ => r' = r) (q_E D vwCl (tyL cI cC cL cB) A [(h, .inr (5, [.ref h_page, .ref h_laid, .ref h_draft, .ref h_now, .ref h_trial, .ref h_past, .ref h_sightings, .ref h_kept, .int h_keptCount, .ref h_told])), (h_laid, .inr (0, [.int h_laid_pieces, .ref h_laid_kinds, .ref h_laid_prices, .int h_laid_roomsAtFirst, .int h_laid_deeds, .ref h_laid_persons, .ref h_laid_places, .ref h_laid_hours, .ref h_laid_weights, .int h_laid_coins, .int h_laid_law, .ref h_laid_numbers])), (h_now, .inr (4, [.int h_now_rooms, .int h_now_bought, .int h_now_spoken, .int h_now_out, .int h_now_coins])), (h_laid_places, .inl (cI, 9, .inl h_laid_places_c)), (h_laid_kinds, .inl (cI, 8, .inl h_laid_kinds_c)), (h_laid_hours, .inl (cI, 9, .inl h_laid_hours_c)), (h_laid_weights, .inl (cI, 9, .inl h_laid_weights_c)), (h_told, .inl (cI, 8, .inl o0))]) A) ([.ref h, .int a1] : List Value).toArray s 0 0 A) (F0 m 30 ls []) := by
      intro n
      induction n with
      | zero =>
        intro x3 x4 x5 ls hl hf
        rw [L_X5_dealer_30] at hf
        cases hf
      | succ n ih =>
        intro x3 x4 x5 ls hl hf
        rw [L_X5_dealer_30] at hf
        refine lv_iload hx hb dX5_dealer_30 (lv_at hl 5 rfl) ?_
        refine lv_aload_n hx hb dX5_dealer_32 rfl (lv_at hl 0 rfl) ?_
        refine va_get (D := D) (ci := 5) (v := .ref h_laid) (C := RX5) (T := TX5) (N := 10) hx hb hts uX5_dealer_X5 hown hK hP 0 rfl rfl 1 (by decide) (hts (.fieldLink RX5 19 "SpeaksForTheChair" "laid" "LSpeaksForTheChair$House;") (List.mem_of_getElem? (i := 3) rfl)) (fun _ h9 => h9) rfl dX5_dealer_33 ?_
        refine va_get (D := D) (ci := 0) (v := .int h_laid_pieces) (C := RX0) (T := TX0) (N := 12) hx hb hts uX5_dealer_X0 hown hK hP 1 rfl rfl 0 (by decide) (hts (.fieldLink RX5 91 "SpeaksForTheChair$House" "pieces" "I") (List.mem_of_getElem? (i := 4) rfl)) (fun _ h9 => h9) rfl dX5_dealer_36 ?_
        refine lv_icmp_ge (tgt := 106) hx hb dX5_dealer_39 (by decide) (fun c_22 => ?_) (fun c_22 => ?_)
        · have hf := ip c_22 hf
          refine lv_iload_n hx hb dX5_dealer_106 rfl (lv_at hl 1 rfl) ?_
          refine lv_iconst (v := (-1)) hx hb dX5_dealer_107 (by decide) ?_
          refine lv_icmp_ne (tgt := 116) hx hb dX5_dealer_108 (by decide) (fun c_23 => ?_) (fun c_23 => ?_)
          · have hf := im c_23 hf
            refine lv_bipush (v := (-4)) hx hb dX5_dealer_116 (by decide) ?_
            cases hf
            exact W.iret hx hb hr (fun t ht hW => ⟨⟨_, (), rfl, rfl, by rw [ht]; exact hP, va_K.moved hW.alike hK, hD⟩, hS.F ht⟩) hS.2.2 dX5_dealer_118
          · have hf := ip c_23 hf
            refine lv_iload hx hb dX5_dealer_111 (lv_at hl 4 rfl) ?_
            refine lv_goto (tgt := 118) hx hb dX5_dealer_113 (by decide) ?_
            cases hf
            exact W.iret hx hb hr (fun t ht hW => ⟨⟨_, (), rfl, rfl, by rw [ht]; exact hP, va_K.moved hW.alike hK, hD⟩, hS.F ht⟩) hS.2.2 dX5_dealer_118
        · have hf := im c_22 hf
          refine lv_aload_n hx hb dX5_dealer_42 rfl (lv_at hl 0 rfl) ?_
          refine lv_iload_n hx hb dX5_dealer_43 rfl (lv_at hl 2 rfl) ?_
          refine lv_iload_n hx hb dX5_dealer_44 rfl (lv_at hl 3 rfl) ?_
          obtain ⟨x6, hv_24, hf⟩ := ob1_some hf
          refine q_rVi (As := [.int x2, .int x3]) (rest := []) (r := x6) ⟨hx, hb, hml, hown, hts⟩ (c_X5_loudest l D cI cC cL cB h h_page h_laid h_draft h_now h_trial h_past h_sightings h_kept h_told h_laid_kinds h_laid_prices h_laid_persons h_laid_places h_laid_hours h_laid_weights h_laid_numbers x2 x3 h_keptCount h_laid_pieces h_laid_roomsAtFirst h_laid_deeds h_laid_coins h_laid_law c1 h_laid_weights_c x6 hv_24) (cwV 2 hts gX5_dealer_X5_loudest rfl rfl rfl (by decide +kernel) ⟨Nat.le_of_ble_eq_true rfl, Nat.le_of_ble_eq_true rfl⟩) hK hP [0, 1, 7, 6] rfl (va_recv hK hP (ci := 5) (q0 := 0) rfl rfl) rfl hl.1 rfl (Nat.le_of_ble_eq_true rfl) dX5_dealer_45 ⟨Nat.le_of_ble_eq_true rfl, Nat.le_of_ble_eq_true rfl⟩ ?_
          refine lv_istore (lv' := [(6, .int x6), (0, .ref h), (1, .int a1), (2, .int x2), (3, .int x3), (4, .int x4), (5, .int x5)]) hx hb dX5_dealer_48 hl (by decide) rfl (fun ls hl => ?_)
          refine lv_iload hx hb dX5_dealer_50 (lv_at hl 0 rfl) ?_
          refine lv_if_ge (tgt := 58) hx hb dX5_dealer_52 (by decide) (fun c_25 => ?_) (fun c_25 => ?_)
          · have hf := ip c_25 hf
            refine lv_iload hx hb dX5_dealer_58 (lv_at hl 6 rfl) ?_
            refine lv_iload_n hx hb dX5_dealer_60 rfl (lv_at hl 2 rfl) ?_
            refine lv_icmp_ne (tgt := 67) hx hb dX5_dealer_61 (by decide) (fun c_26 => ?_) (fun c_26 => ?_)
            · have hf := im c_26 hf
              refine lv_iload hx hb dX5_dealer_67 (lv_at hl 5 rfl) ?_
              refine lv_aload_n hx hb dX5_dealer_69 rfl (lv_at hl 1 rfl) ?_
              refine va_get (D := D) (ci := 5) (v := .ref h_laid) (C := RX5) (T := TX5) (N := 10) hx hb hts uX5_dealer_X5 hown hK hP 0 rfl rfl 1 (by decide) (hts (.fieldLink RX5 19 "SpeaksForTheChair" "laid" "LSpeaksForTheChair$House;") (List.mem_of_getElem? (i := 3) rfl)) (fun _ h9 => h9) rfl dX5_dealer_70 ?_
              refine lv_aload_n hx hb dX5_dealer_73 rfl (lv_at hl 1 rfl) ?_
              refine va_get (D := D) (ci := 5) (v := .ref h_told) (C := RX5) (T := TX5) (N := 10) hx hb hts uX5_dealer_X5 hown hK hP 0 rfl rfl 9 (by decide) (hts (.fieldLink RX5 54 "SpeaksForTheChair" "told" "[I") (List.mem_of_getElem? (i := 5) rfl)) (fun _ h9 => h9) rfl dX5_dealer_74 ?_
              refine lv_iload hx hb dX5_dealer_77 (lv_at hl 0 rfl) ?_
              obtain ⟨g_27, hf⟩ := gu_in hf
              refine va_iald hx hb hK hP 7 0 rfl rfl g_27 dX5_dealer_79 ?_
              refine lv_iload_n hx hb dX5_dealer_80 rfl (lv_at hl 4 rfl) ?_
              refine lv_iconst (v := (-1)) hx hb dX5_dealer_81 (by decide) ?_
              refine lv_ixor hx hb dX5_dealer_82 ?_
              refine lv_iand hx hb dX5_dealer_83 ?_
              obtain ⟨x7, hv_28, hf⟩ := ob1_some hf
              refine q_rVi (As := [.int ((c1 x6.toNatClampNeg) &&& (x3 ^^^ (-1)))]) (rest := [.int x4]) (r := x7) ⟨hx, hb, hml, hown, hts⟩ (c_X0_weightOf l D cI cC cL cB h_laid h_laid_kinds h_laid_prices h_laid_persons h_laid_places h_laid_hours h_laid_weights h_laid_numbers (((c1 x6.toNatClampNeg) &&& (x3 ^^^ (-1)))) h_laid_pieces h_laid_roomsAtFirst h_laid_deeds h_laid_coins h_laid_law h_laid_weights_c x7 hv_28) (cwV 1 hts gX5_dealer_X0_weightOf rfl rfl rfl (by decide +kernel) ⟨Nat.le_of_ble_eq_true rfl, Nat.le_of_ble_eq_true rfl⟩) hK hP [1, 6] rfl (va_recv hK hP (ci := 0) (q0 := 1) rfl rfl) rfl hl.1 rfl (Nat.le_of_ble_eq_true rfl) dX5_dealer_84 ⟨Nat.le_of_ble_eq_true rfl, Nat.le_of_ble_eq_true rfl⟩ ?_
              refine lv_iadd hx hb dX5_dealer_87 ?_
              refine lv_topi (fun x8 ex8 => ?_)
              have hf := pv_eq ex8 hf
              refine lv_istore (lv' := [(4, .int x8), (6, .int x6), (0, .ref h), (1, .int a1), (2, .int x2), (3, .int x3), (5, .int x5)]) hx hb dX5_dealer_88 hl (by decide) rfl (fun ls hl => ?_)
              refine lv_iload_n hx hb dX5_dealer_90 rfl (lv_at hl 5 rfl) ?_
              refine lv_aload_n hx hb dX5_dealer_91 rfl (lv_at hl 2 rfl) ?_
              refine va_get (D := D) (ci := 5) (v := .ref h_told) (C := RX5) (T := TX5) (N := 10) hx hb hts uX5_dealer_X5 hown hK hP 0 rfl rfl 9 (by decide) (hts (.fieldLink RX5 54 "SpeaksForTheChair" "told" "[I") (List.mem_of_getElem? (i := 5) rfl)) (fun _ h9 => h9) rfl dX5_dealer_92 ?_
              refine lv_iload hx hb dX5_dealer_95 (lv_at hl 1 rfl) ?_
              obtain ⟨g_29, hf⟩ := gu_in hf
              refine va_iald hx hb hK hP 7 0 rfl rfl g_29 dX5_dealer_97 ?_
              refine lv_ior hx hb dX5_dealer_98 ?_
              refine lv_topi (fun x9 ex9 => ?_)
              have hf := pv_eq ex9 hf
              refine lv_istore_n (lv' := [(3, .int x9), (4, .int x8), (6, .int x6), (0, .ref h), (1, .int a1), (2, .int x2), (5, .int x5)]) hx hb dX5_dealer_99 rfl hl (by decide) rfl (fun ls hl => ?_)
              obtain ⟨x10, ex10⟩ : ∃ y : Int32, y = (x5 + 1) := ⟨_, rfl⟩
              have hf := pv_eq ex10 hf
              refine lv_iinc (v := x10) (lv' := [(5, .int x10), (3, .int x9), (4, .int x8), (6, .int x6), (0, .ref h), (1, .int a1), (2, .int x2)]) hx hb dX5_dealer_100 hl (k := 6) rfl (by rw [ex10]; rfl) (by decide) rfl (fun ls hl => ?_)
              refine lv_goto (tgt := 30) hx hb dX5_dealer_103 (by decide) ?_
              exact ih _ _ _ ls (lv_sub hl [4, 5, 6, 1, 2, 0] rfl) hf
            · have hf := ip c_26 hf
              refine lv_iload hx hb dX5_dealer_64 (lv_at hl 0 rfl) ?_
              cases hf
              exact W.iret hx hb hr (fun t ht hW => ⟨⟨_, (), rfl, rfl, by rw [ht]; exact hP, va_K.moved hW.alike hK, hD⟩, hS.F ht⟩) hS.2.2 dX5_dealer_66
          · have hf := im c_25 hf
            refine lv_goto (tgt := 106) hx hb dX5_dealer_55 (by decide) ?_
            refine lv_iload_n hx hb dX5_dealer_106 rfl (lv_at hl 2 rfl) ?_
            refine lv_iconst (v := (-1)) hx hb dX5_dealer_107 (by decide) ?_
            refine lv_icmp_ne (tgt := 116) hx hb dX5_dealer_108 (by decide) (fun c_30 => ?_) (fun c_30 => ?_)
            · have hf := im c_30 hf
              refine lv_bipush (v := (-4)) hx hb dX5_dealer_116 (by decide) ?_
              cases hf
              exact W.iret hx hb hr (fun t ht hW => ⟨⟨_, (), rfl, rfl, by rw [ht]; exact hP, va_K.moved hW.alike hK, hD⟩, hS.F ht⟩) hS.2.2 dX5_dealer_118
            · have hf := ip c_30 hf
              refine lv_iload hx hb dX5_dealer_111 (lv_at hl 5 rfl) ?_
              refine lv_goto (tgt := 118) hx hb dX5_dealer_113 (by decide) ?_
              cases hf
              exact W.iret hx hb hr (fun t ht hW => ⟨⟨_, (), rfl, rfl, by rw [ht]; exact hP, va_K.moved hW.alike hK, hD⟩, hS.F ht⟩) hS.2.2 dX5_dealer_118
    exact loop30 300 _ _ _ ls (lv_sub hl [4, 5, 3, 2, 1, 0] rfl) hf
  · have hf := im c_1 hf
    refine lv_iconst (v := (-1)) hx hb dX5_dealer_5 (by decide) ?_
    cases hf
    exact W.iret hx hb hr (fun t ht hW => ⟨⟨_, (), rfl, rfl, by rw [ht]; exact hP, va_K.moved hW.alike hK, hD⟩, hS.F ht⟩) hS.2.2 dX5_dealer_6
