/-! contracts: X5_sale, X5_keep, X5_back, X5_count, X6_tellsPiece, X6_tellsDeed, X6_in, X6_has, X6_bits, X6_isPiece, X6_isDeed, X6_write, X6_wipe, X6_letterAt, X6_isFigure, X6_readNumbers -/
theorem uX5_sale_X4 : ∀ w ∈ wsX40, w ∈ wsX5_sale := fun w h => List.mem_cons_of_mem _ (List.mem_append_left _ (List.mem_append_right _ h))
theorem uX5_sale_X5 : ∀ w ∈ wsX50, w ∈ wsX5_sale := fun w h => List.mem_cons_of_mem _ (List.mem_append_left _ (List.mem_append_left _ (List.mem_append_right _ h)))
set_option maxHeartbeats 4000000 in
set_option maxRecDepth 100000 in
theorem c_X5_sale (l : Launch) (D : va_G) (cI cC cL cB : ClassId) (sz : Nat) (h : Nat) (h_page : Nat) (h_laid : Nat) (h_draft : Nat) (h_now : Nat) (h_trial : Nat) (h_past : Nat) (h_sightings : Nat) (h_kept : Nat) (h_told : Nat) (h_laid_kinds : Nat) (h_laid_prices : Nat) (h_laid_persons : Nat) (h_laid_places : Nat) (h_laid_hours : Nat) (h_laid_weights : Nat) (h_laid_numbers : Nat) (a1 : Int32) (a2 : Int32) (a3 : Int32) (h_keptCount : Int32) (h_now_rooms : Int32) (h_now_bought : Int32) (h_now_spoken : Int32) (h_now_out : Int32) (h_now_coins : Int32) (h_trial_rooms : Int32) (h_trial_bought : Int32) (h_trial_spoken : Int32) (h_trial_out : Int32) (h_trial_coins : Int32) (h_laid_pieces : Int32) (h_laid_roomsAtFirst : Int32) (h_laid_deeds : Int32) (h_laid_coins : Int32) (h_laid_law : Int32) (h_laid_kinds_c : Nat → Int32) (h_laid_places_c : Nat → Int32) (h_laid_hours_c : Nat → Int32) (h_laid_weights_c : Nat → Int32) (h_laid_prices_c : Nat → Int32) (r : Int32) (o0 : Int32) (o1 : Int32) (o2 : Int32) (o3 : Int32) (o4 : Int32) (hf : m_X5_sale a1 a2 a3 h_now_rooms h_now_bought h_now_spoken h_now_out h_now_coins h_trial_rooms h_trial_bought h_trial_spoken h_trial_out h_trial_coins h_laid_pieces h_laid_deeds h_laid_law h_laid_kinds_c h_laid_places_c h_laid_hours_c h_laid_weights_c h_laid_prices_c = some (r, o0, o1, o2, o3, o4)) : Met l yX5_sale wsX5_sale ({ frames := 4, cells := 0, slots := 0, locals := 98 }) (va_Pc [.ref h, .int a1, .int a2, .int a3] (q_W D vwCl (tyL cI cC cL cB) [(h, .inr (5, [.ref h_page, .ref h_laid, .ref h_draft, .ref h_now, .ref h_trial, .ref h_past, .ref h_sightings, .ref h_kept, .int h_keptCount, .ref h_told])), (h_now, .inr (4, [.int h_now_rooms, .int h_now_bought, .int h_now_spoken, .int h_now_out, .int h_now_coins])), (h_trial, .inr (4, [.int h_trial_rooms, .int h_trial_bought, .int h_trial_spoken, .int h_trial_out, .int h_trial_coins])), (h_laid, .inr (0, [.int h_laid_pieces, .ref h_laid_kinds, .ref h_laid_prices, .int h_laid_roomsAtFirst, .int h_laid_deeds, .ref h_laid_persons, .ref h_laid_places, .ref h_laid_hours, .ref h_laid_weights, .int h_laid_coins, .int h_laid_law, .ref h_laid_numbers])), (h_laid_kinds, .inl (cI, 8, .inl h_laid_kinds_c)), (h_laid_places, .inl (cI, 9, .inl h_laid_places_c)), (h_laid_hours, .inl (cI, 9, .inl h_laid_hours_c)), (h_laid_weights, .inl (cI, 9, .inl h_laid_weights_c)), (h_laid_prices, .inl (cI, 8, .inl h_laid_prices_c))] sz)) (va_Qi (fun r' _ => r' = r) (q_E D vwCl (tyL cI cC cL cB) (va_A [(h, .inr (5, [.ref h_page, .ref h_laid, .ref h_draft, .ref h_now, .ref h_trial, .ref h_past, .ref h_sightings, .ref h_kept, .int h_keptCount, .ref h_told])), (h_now, .inr (4, [.int h_now_rooms, .int h_now_bought, .int h_now_spoken, .int h_now_out, .int h_now_coins])), (h_trial, .inr (4, [.int h_trial_rooms, .int h_trial_bought, .int h_trial_spoken, .int h_trial_out, .int h_trial_coins])), (h_laid, .inr (0, [.int h_laid_pieces, .ref h_laid_kinds, .ref h_laid_prices, .int h_laid_roomsAtFirst, .int h_laid_deeds, .ref h_laid_persons, .ref h_laid_places, .ref h_laid_hours, .ref h_laid_weights, .int h_laid_coins, .int h_laid_law, .ref h_laid_numbers])), (h_laid_kinds, .inl (cI, 8, .inl h_laid_kinds_c)), (h_laid_places, .inl (cI, 9, .inl h_laid_places_c)), (h_laid_hours, .inl (cI, 9, .inl h_laid_hours_c)), (h_laid_weights, .inl (cI, 9, .inl h_laid_weights_c)), (h_laid_prices, .inl (cI, 8, .inl h_laid_prices_c))] sz) [(h, .inr (5, [.ref h_page, .ref h_laid, .ref h_draft, .ref h_now, .ref h_trial, .ref h_past, .ref h_sightings, .ref h_kept, .int h_keptCount, .ref h_told])), (h_now, .inr (4, [.int h_now_rooms, .int h_now_bought, .int h_now_spoken, .int h_now_out, .int h_now_coins])), (h_trial, .inr (4, [.int o0, .int o1, .int o2, .int o3, .int o4])), (h_laid, .inr (0, [.int h_laid_pieces, .ref h_laid_kinds, .ref h_laid_prices, .int h_laid_roomsAtFirst, .int h_laid_deeds, .ref h_laid_persons, .ref h_laid_places, .ref h_laid_hours, .ref h_laid_weights, .int h_laid_coins, .int h_laid_law, .ref h_laid_numbers])), (h_laid_kinds, .inl (cI, 8, .inl h_laid_kinds_c)), (h_laid_places, .inl (cI, 9, .inl h_laid_places_c)), (h_laid_hours, .inl (cI, 9, .inl h_laid_hours_c)), (h_laid_weights, .inl (cI, 9, .inl h_laid_weights_c)), (h_laid_prices, .inl (cI, 8, .inl h_laid_prices_c))]) (va_A [(h, .inr (5, [.ref h_page, .ref h_laid, .ref h_draft, .ref h_now, .ref h_trial, .ref h_past, .ref h_sightings, .ref h_kept, .int h_keptCount, .ref h_told])), (h_now, .inr (4, [.int h_now_rooms, .int h_now_bought, .int h_now_spoken, .int h_now_out, .int h_now_coins])), (h_trial, .inr (4, [.int h_trial_rooms, .int h_trial_bought, .int h_trial_spoken, .int h_trial_out, .int h_trial_coins])), (h_laid, .inr (0, [.int h_laid_pieces, .ref h_laid_kinds, .ref h_laid_prices, .int h_laid_roomsAtFirst, .int h_laid_deeds, .ref h_laid_persons, .ref h_laid_places, .ref h_laid_hours, .ref h_laid_weights, .int h_laid_coins, .int h_laid_law, .ref h_laid_numbers])), (h_laid_kinds, .inl (cI, 8, .inl h_laid_kinds_c)), (h_laid_places, .inl (cI, 9, .inl h_laid_places_c)), (h_laid_hours, .inl (cI, 9, .inl h_laid_hours_c)), (h_laid_weights, .inl (cI, 9, .inl h_laid_weights_c)), (h_laid_prices, .inl (cI, 8, .inl h_laid_prices_c))] sz)) 0 0 (va_A [(h, .inr (5, [.ref h_page, .ref h_laid, .ref h_draft, .ref h_now, .ref h_trial, .ref h_past, .ref h_sightings, .ref h_kept, .int h_keptCount, .ref h_told])), (h_now, .inr (4, [.int h_now_rooms, .int h_now_bought, .int h_now_spoken, .int h_now_out, .int h_now_coins])), (h_trial, .inr (4, [.int h_trial_rooms, .int h_trial_bought, .int h_trial_spoken, .int h_trial_out, .int h_trial_coins])), (h_laid, .inr (0, [.int h_laid_pieces, .ref h_laid_kinds, .ref h_laid_prices, .int h_laid_roomsAtFirst, .int h_laid_deeds, .ref h_laid_persons, .ref h_laid_places, .ref h_laid_hours, .ref h_laid_weights, .int h_laid_coins, .int h_laid_law, .ref h_laid_numbers])), (h_laid_kinds, .inl (cI, 8, .inl h_laid_kinds_c)), (h_laid_places, .inl (cI, 9, .inl h_laid_places_c)), (h_laid_hours, .inl (cI, 9, .inl h_laid_hours_c)), (h_laid_weights, .inl (cI, 9, .inl h_laid_weights_c)), (h_laid_prices, .inl (cI, 8, .inl h_laid_prices_c))] sz) := by
  refine Met.ofW (cc := cX5_sale) (maxL := 5) (ret := (some .int)) (by decide) rfl ?_
  intro p e s m args below meth c s₁ B hml hv
  obtain ⟨rfl, hsz, hP, hK, hD0⟩ := hv
  have hx := B.exec
  have hb := B.bytes
  have hr := B.returns
  have hts := atoms_spec (ws := wsX5_sale) B.pre
  have hown : s.vm.findClass RX5 = some m.cls := findClass_of_methodNamed B.named
  have hlocks := B.notSynchronized
  subst hsz
  have hD := hD0.self (sz := s.heap.size)
  generalize hAe : va_A [(h, .inr (5, [.ref h_page, .ref h_laid, .ref h_draft, .ref h_now, .ref h_trial, .ref h_past, .ref h_sightings, .ref h_kept, .int h_keptCount, .ref h_told])), (h_now, .inr (4, [.int h_now_rooms, .int h_now_bought, .int h_now_spoken, .int h_now_out, .int h_now_coins])), (h_trial, .inr (4, [.int h_trial_rooms, .int h_trial_bought, .int h_trial_spoken, .int h_trial_out, .int h_trial_coins])), (h_laid, .inr (0, [.int h_laid_pieces, .ref h_laid_kinds, .ref h_laid_prices, .int h_laid_roomsAtFirst, .int h_laid_deeds, .ref h_laid_persons, .ref h_laid_places, .ref h_laid_hours, .ref h_laid_weights, .int h_laid_coins, .int h_laid_law, .ref h_laid_numbers])), (h_laid_kinds, .inl (cI, 8, .inl h_laid_kinds_c)), (h_laid_places, .inl (cI, 9, .inl h_laid_places_c)), (h_laid_hours, .inl (cI, 9, .inl h_laid_hours_c)), (h_laid_weights, .inl (cI, 9, .inl h_laid_weights_c)), (h_laid_prices, .inl (cI, 8, .inl h_laid_prices_c))] s.heap.size = A at hD ⊢
  have hA : ∀ q : Nat, s.heap.size ≤ q → A q := fun q h => by rw [← hAe]; exact Or.inr h
  have hS : va_S A s.heap s.heap [] := va_S.rf
  have hP : va_P D vwCl [(h, .inr (5, [.ref h_page, .ref h_laid, .ref h_draft, .ref h_now, .ref h_trial, .ref h_past, .ref h_sightings, .ref h_kept, .int h_keptCount, .ref h_told])), (h_now, .inr (4, [.int h_now_rooms, .int h_now_bought, .int h_now_spoken, .int h_now_out, .int h_now_coins])), (h_trial, .inr (4, [.int h_trial_rooms, .int h_trial_bought, .int h_trial_spoken, .int h_trial_out, .int h_trial_coins])), (h_laid, .inr (0, [.int h_laid_pieces, .ref h_laid_kinds, .ref h_laid_prices, .int h_laid_roomsAtFirst, .int h_laid_deeds, .ref h_laid_persons, .ref h_laid_places, .ref h_laid_hours, .ref h_laid_weights, .int h_laid_coins, .int h_laid_law, .ref h_laid_numbers])), (h_laid_kinds, .inl (cI, 8, .inl h_laid_kinds_c)), (h_laid_places, .inl (cI, 9, .inl h_laid_places_c)), (h_laid_hours, .inl (cI, 9, .inl h_laid_hours_c)), (h_laid_weights, .inl (cI, 9, .inl h_laid_weights_c)), (h_laid_prices, .inl (cI, 8, .inl h_laid_prices_c))] s.heap := hP
  have hl := lv_entry ([.ref h, .int a1, .int a2, .int a3]) (n := 5) (Nat.le_of_ble_eq_true rfl)
  rw [lg_entry_eq]
  generalize (lg_sl ([.ref h, .int a1, .int a2, .int a3]) ++ List.replicate (5 - (lg_sl ([.ref h, .int a1, .int a2, .int a3])).length) Slot.unset).toArray = ls at hl ⊢
  have hl : lv_has ls 5 [(0, .ref h), (1, .int a1), (2, .int a2), (3, .int a3)] := hl
  unfold m_X5_sale at hf
  refine lv_iload_n hx hb dX5_sale_0 rfl (lv_at hl 1 rfl) ?_
  refine lv_iconst (v := 0) hx hb dX5_sale_1 (by decide) ?_
  refine lv_sipush (v := 9999) hx hb dX5_sale_2 (by decide) ?_
  obtain ⟨x1, hv_1, hf⟩ := ob1_some hf
  refine q_rSi (As := [.int a1, .int 0, .int 9999]) (rest := []) (r := x1) ⟨hx, hb, hml, hown, hts⟩ (c_X5_isWithin l D cI cC cL cB a1 ((0 : Int32)) ((9999 : Int32)) x1 hv_1) (va_cwS 3 hts gX5_sale_X5_isWithin rfl rfl rfl (by decide +kernel) ⟨Nat.le_of_ble_eq_true rfl, Nat.le_of_ble_eq_true rfl⟩) hK hP [] rfl rfl hl.1 rfl (Nat.le_of_ble_eq_true rfl) dX5_sale_5 ⟨Nat.le_of_ble_eq_true rfl, Nat.le_of_ble_eq_true rfl⟩ ?_
  refine lv_if_eq (tgt := 30) hx hb dX5_sale_8 (by decide) (fun c_2 => ?_) (fun c_2 => ?_)
  · have hf := ip c_2 hf
    refine lv_iconst (v := (-1)) hx hb dX5_sale_30 (by decide) ?_
    cases hf
    exact W.iret hx hb hr (fun t ht hW => ⟨⟨_, (), rfl, rfl, by rw [ht]; exact hP, va_K.moved hW.alike hK, hD⟩, hS.F ht⟩) hS.2.2 dX5_sale_31
  · have hf := im c_2 hf
    refine lv_iload_n hx hb dX5_sale_11 rfl (lv_at hl 2 rfl) ?_
    refine lv_iconst (v := 1) hx hb dX5_sale_12 (by decide) ?_
    refine lv_bipush (v := 40) hx hb dX5_sale_13 (by decide) ?_
    obtain ⟨x2, hv_3, hf⟩ := ob1_some hf
    refine q_rSi (As := [.int a2, .int 1, .int 40]) (rest := []) (r := x2) ⟨hx, hb, hml, hown, hts⟩ (c_X5_isWithin l D cI cC cL cB a2 ((1 : Int32)) ((40 : Int32)) x2 hv_3) (va_cwS 3 hts gX5_sale_X5_isWithin rfl rfl rfl (by decide +kernel) ⟨Nat.le_of_ble_eq_true rfl, Nat.le_of_ble_eq_true rfl⟩) hK hP [] rfl rfl hl.1 rfl (Nat.le_of_ble_eq_true rfl) dX5_sale_15 ⟨Nat.le_of_ble_eq_true rfl, Nat.le_of_ble_eq_true rfl⟩ ?_
    refine lv_if_eq (tgt := 30) hx hb dX5_sale_18 (by decide) (fun c_4 => ?_) (fun c_4 => ?_)
    · have hf := ip c_4 hf
      refine lv_iconst (v := (-1)) hx hb dX5_sale_30 (by decide) ?_
      cases hf
      exact W.iret hx hb hr (fun t ht hW => ⟨⟨_, (), rfl, rfl, by rw [ht]; exact hP, va_K.moved hW.alike hK, hD⟩, hS.F ht⟩) hS.2.2 dX5_sale_31
    · have hf := im c_4 hf
      refine lv_iload_n hx hb dX5_sale_21 rfl (lv_at hl 3 rfl) ?_
      refine lv_iconst (v := 0) hx hb dX5_sale_22 (by decide) ?_
      refine lv_iconst (v := 1) hx hb dX5_sale_23 (by decide) ?_
      obtain ⟨x3, hv_5, hf⟩ := ob1_some hf
      refine q_rSi (As := [.int a3, .int 0, .int 1]) (rest := []) (r := x3) ⟨hx, hb, hml, hown, hts⟩ (c_X5_isWithin l D cI cC cL cB a3 ((0 : Int32)) ((1 : Int32)) x3 hv_5) (va_cwS 3 hts gX5_sale_X5_isWithin rfl rfl rfl (by decide +kernel) ⟨Nat.le_of_ble_eq_true rfl, Nat.le_of_ble_eq_true rfl⟩) hK hP [] rfl rfl hl.1 rfl (Nat.le_of_ble_eq_true rfl) dX5_sale_24 ⟨Nat.le_of_ble_eq_true rfl, Nat.le_of_ble_eq_true rfl⟩ ?_
      refine lv_if_ne (tgt := 32) hx hb dX5_sale_27 (by decide) (fun c_6 => ?_) (fun c_6 => ?_)
      · have hf := im c_6 hf
        refine lv_aload_n hx hb dX5_sale_32 rfl (lv_at hl 0 rfl) ?_
        refine va_get (D := D) (ci := 5) (v := .ref h_trial) (C := RX5) (T := TX5) (N := 10) hx hb hts uX5_sale_X5 hown hK hP 0 rfl rfl 4 (by decide) (hts (.fieldLink RX5 33 "SpeaksForTheChair" "trial" "LSpeaksForTheChair$Standing;") (List.mem_of_getElem? (i := 1) rfl)) (fun _ h9 => h9) rfl dX5_sale_33 ?_
        refine lv_aload_n hx hb dX5_sale_36 rfl (lv_at hl 0 rfl) ?_
        refine va_get (D := D) (ci := 5) (v := .ref h_now) (C := RX5) (T := TX5) (N := 10) hx hb hts uX5_sale_X5 hown hK hP 0 rfl rfl 3 (by decide) (hts (.fieldLink RX5 29 "SpeaksForTheChair" "now" "LSpeaksForTheChair$Standing;") (List.mem_of_getElem? (i := 2) rfl)) (fun _ h9 => h9) rfl dX5_sale_37 ?_
        obtain ⟨x4, hv_7, hf⟩ := ob1_some hf
        refine q_rVl (As := []) (rest := [.ref h_trial]) (r := x4) ⟨hx, hb, hml, hown, hts⟩ (c_X4_packed l D cI cC cL cB h_now h_now_rooms h_now_bought h_now_spoken h_now_out h_now_coins x4 hv_7) (cwV 0 hts gX5_sale_X4_packed rfl rfl rfl (by decide +kernel) ⟨Nat.le_of_ble_eq_true rfl, Nat.le_of_ble_eq_true rfl⟩) hK hP [1] rfl (va_recv hK hP (ci := 4) (q0 := 1) rfl rfl) rfl hl.1 rfl (Nat.le_of_ble_eq_true rfl) dX5_sale_40 ⟨Nat.le_of_ble_eq_true rfl, Nat.le_of_ble_eq_true rfl⟩ ?_
        obtain ⟨f5, f6, f7, f8, f9, hv_8, hf⟩ := ob5_some hf
        refine q_wVv (As := [.long x4]) (rest := []) (w1 := [(h_trial, .inr (4, [.int f5, .int f6, .int f7, .int f8, .int f9]))]) (wr := [(h, .inr (5, [.ref h_page, .ref h_laid, .ref h_draft, .ref h_now, .ref h_trial, .ref h_past, .ref h_sightings, .ref h_kept, .int h_keptCount, .ref h_told])), (h_now, .inr (4, [.int h_now_rooms, .int h_now_bought, .int h_now_spoken, .int h_now_out, .int h_now_coins])), (h_laid, .inr (0, [.int h_laid_pieces, .ref h_laid_kinds, .ref h_laid_prices, .int h_laid_roomsAtFirst, .int h_laid_deeds, .ref h_laid_persons, .ref h_laid_places, .ref h_laid_hours, .ref h_laid_weights, .int h_laid_coins, .int h_laid_law, .ref h_laid_numbers])), (h_laid_kinds, .inl (cI, 8, .inl h_laid_kinds_c)), (h_laid_places, .inl (cI, 9, .inl h_laid_places_c)), (h_laid_hours, .inl (cI, 9, .inl h_laid_hours_c)), (h_laid_weights, .inl (cI, 9, .inl h_laid_weights_c)), (h_laid_prices, .inl (cI, 8, .inl h_laid_prices_c))]) (w2 := [(h, .inr (5, [.ref h_page, .ref h_laid, .ref h_draft, .ref h_now, .ref h_trial, .ref h_past, .ref h_sightings, .ref h_kept, .int h_keptCount, .ref h_told])), (h_now, .inr (4, [.int h_now_rooms, .int h_now_bought, .int h_now_spoken, .int h_now_out, .int h_now_coins])), (h_trial, .inr (4, [.int f5, .int f6, .int f7, .int f8, .int f9])), (h_laid, .inr (0, [.int h_laid_pieces, .ref h_laid_kinds, .ref h_laid_prices, .int h_laid_roomsAtFirst, .int h_laid_deeds, .ref h_laid_persons, .ref h_laid_places, .ref h_laid_hours, .ref h_laid_weights, .int h_laid_coins, .int h_laid_law, .ref h_laid_numbers])), (h_laid_kinds, .inl (cI, 8, .inl h_laid_kinds_c)), (h_laid_places, .inl (cI, 9, .inl h_laid_places_c)), (h_laid_hours, .inl (cI, 9, .inl h_laid_hours_c)), (h_laid_weights, .inl (cI, 9, .inl h_laid_weights_c)), (h_laid_prices, .inl (cI, 8, .inl h_laid_prices_c))]) ⟨hx, hb, hml, hown, hts⟩ (c_X4_unpack l D cI cC cL cB s.heap.size h_trial x4 h_trial_rooms h_trial_bought h_trial_spoken h_trial_out h_trial_coins f5 f6 f7 f8 f9 hv_8) (cwV 1 hts gX5_sale_X4_unpack rfl rfl rfl (by decide +kernel) ⟨Nat.le_of_ble_eq_true rfl, Nat.le_of_ble_eq_true rfl⟩) hK hP hD hS hA [2] rfl (by decide) [0, 1, 3, 4, 5, 6, 7, 8] rfl (by decide) (by decide) [0, 1, 8, 2, 3, 4, 5, 6, 7] rfl (by decide) (va_recv hK hP (ci := 4) (q0 := 2) rfl rfl) rfl hl.1 rfl (Nat.le_of_ble_eq_true rfl) dX5_sale_43 ⟨Nat.le_of_ble_eq_true rfl, Nat.le_of_ble_eq_true rfl⟩ (fun H locs hP hD hS => ?_)
        have hP : va_P D vwCl [(h, .inr (5, [.ref h_page, .ref h_laid, .ref h_draft, .ref h_now, .ref h_trial, .ref h_past, .ref h_sightings, .ref h_kept, .int h_keptCount, .ref h_told])), (h_now, .inr (4, [.int h_now_rooms, .int h_now_bought, .int h_now_spoken, .int h_now_out, .int h_now_coins])), (h_trial, .inr (4, [.int f5, .int f6, .int f7, .int f8, .int f9])), (h_laid, .inr (0, [.int h_laid_pieces, .ref h_laid_kinds, .ref h_laid_prices, .int h_laid_roomsAtFirst, .int h_laid_deeds, .ref h_laid_persons, .ref h_laid_places, .ref h_laid_hours, .ref h_laid_weights, .int h_laid_coins, .int h_laid_law, .ref h_laid_numbers])), (h_laid_kinds, .inl (cI, 8, .inl h_laid_kinds_c)), (h_laid_places, .inl (cI, 9, .inl h_laid_places_c)), (h_laid_hours, .inl (cI, 9, .inl h_laid_hours_c)), (h_laid_weights, .inl (cI, 9, .inl h_laid_weights_c)), (h_laid_prices, .inl (cI, 8, .inl h_laid_prices_c))] H := hP
        have hD : va_D A [(h, .inr (5, [.ref h_page, .ref h_laid, .ref h_draft, .ref h_now, .ref h_trial, .ref h_past, .ref h_sightings, .ref h_kept, .int h_keptCount, .ref h_told])), (h_now, .inr (4, [.int h_now_rooms, .int h_now_bought, .int h_now_spoken, .int h_now_out, .int h_now_coins])), (h_trial, .inr (4, [.int f5, .int f6, .int f7, .int f8, .int f9])), (h_laid, .inr (0, [.int h_laid_pieces, .ref h_laid_kinds, .ref h_laid_prices, .int h_laid_roomsAtFirst, .int h_laid_deeds, .ref h_laid_persons, .ref h_laid_places, .ref h_laid_hours, .ref h_laid_weights, .int h_laid_coins, .int h_laid_law, .ref h_laid_numbers])), (h_laid_kinds, .inl (cI, 8, .inl h_laid_kinds_c)), (h_laid_places, .inl (cI, 9, .inl h_laid_places_c)), (h_laid_hours, .inl (cI, 9, .inl h_laid_hours_c)), (h_laid_weights, .inl (cI, 9, .inl h_laid_weights_c)), (h_laid_prices, .inl (cI, 8, .inl h_laid_prices_c))] := hD
        refine lv_iconst (v := 0) hx hb dX5_sale_46 (by decide) ?_
        refine lv_istore (lv' := [(4, .int 0), (0, .ref h), (1, .int a1), (2, .int a2), (3, .int a3)]) hx hb dX5_sale_47 hl (by decide) rfl (fun ls hl => ?_)
        have loop49 : ∀ (n : Nat) (x10 : Int32) (x11 : Int32) (x12 : Int32) (x13 : Int32) (x14 : Int32) (x15 : Int32), ∀ (H : Heap) (locs : List Loc), va_P D vwCl [(h, .inr (5, [.ref h_page, .ref h_laid, .ref h_draft, .ref h_now, .ref h_trial, .ref h_past, .ref h_sightings, .ref h_kept, .int h_keptCount, .ref h_told])), (h_now, .inr (4, [.int h_now_rooms, .int h_now_bought, .int h_now_spoken, .int h_now_out, .int h_now_coins])), (h_trial, .inr (4, [.int x10, .int x11, .int x12, .int x13, .int x14])), (h_laid, .inr (0, [.int h_laid_pieces, .ref h_laid_kinds, .ref h_laid_prices, .int h_laid_roomsAtFirst, .int h_laid_deeds, .ref h_laid_persons, .ref h_laid_places, .ref h_laid_hours, .ref h_laid_weights, .int h_laid_coins, .int h_laid_law, .ref h_laid_numbers])), (h_laid_kinds, .inl (cI, 8, .inl h_laid_kinds_c)), (h_laid_places, .inl (cI, 9, .inl h_laid_places_c)), (h_laid_hours, .inl (cI, 9, .inl h_laid_hours_c)), (h_laid_weights, .inl (cI, 9, .inl h_laid_weights_c)), (h_laid_prices, .inl (cI, 8, .inl h_laid_prices_c))] H → va_D A [(h, .inr (5, [.ref h_page, .ref h_laid, .ref h_draft, .ref h_now, .ref h_trial, .ref h_past, .ref h_sightings, .ref h_kept, .int h_keptCount, .ref h_told])), (h_now, .inr (4, [.int h_now_rooms, .int h_now_bought, .int h_now_spoken, .int h_now_out, .int h_now_coins])), (h_trial, .inr (4, [.int x10, .int x11, .int x12, .int x13, .int x14])), (h_laid, .inr (0, [.int h_laid_pieces, .ref h_laid_kinds, .ref h_laid_prices, .int h_laid_roomsAtFirst, .int h_laid_deeds, .ref h_laid_persons, .ref h_laid_places, .ref h_laid_hours, .ref h_laid_weights, .int h_laid_coins, .int h_laid_law, .ref h_laid_numbers])), (h_laid_kinds, .inl (cI, 8, .inl h_laid_kinds_c)), (h_laid_places, .inl (cI, 9, .inl h_laid_places_c)), (h_laid_hours, .inl (cI, 9, .inl h_laid_hours_c)), (h_laid_weights, .inl (cI, 9, .inl h_laid_weights_c)), (h_laid_prices, .inl (cI, 8, .inl h_laid_prices_c))] → va_S A s.heap H locs → ∀ (ls : Array Slot), lv_has ls 5 [(0, .ref h), (1, .int a1), (2, .int a2), (3, .int a3), (4, .int x15)] → ∀ (x16 : Int32) (x17 : Int32) (x18 : Int32) (x19 : Int32) (x20 : Int32), L_X5_sale_49 a2 a1 h_laid_pieces h_laid_deeds h_laid_law h_laid_kinds_c h_laid_places_c h_laid_hours_c h_laid_weights_c h_laid_prices_c n x10 x11 x12 x13 x14 x15 = some (x16, x17, x18, x19, x20) → (∀ (H : Heap) (locs : List Loc), va_P D vwCl [(h, .inr (5, [.ref h_page, .ref h_laid, .ref h_draft, .ref h_now, .ref h_trial, .ref h_past, .ref h_sightings, .ref h_kept, .int h_keptCount, .ref h_told])), (h_now, .inr (4, [.int h_now_rooms, .int h_now_bought, .int h_now_spoken, .int h_now_out, .int h_now_coins])), (h_trial, .inr (4, [.int x16, .int x17, .int x18, .int x19, .int x20])), (h_laid, .inr (0, [.int h_laid_pieces, .ref h_laid_kinds, .ref h_laid_prices, .int h_laid_roomsAtFirst, .int h_laid_deeds, .ref h_laid_persons, .ref h_laid_places, .ref h_laid_hours, .ref h_laid_weights, .int h_laid_coins, .int h_laid_law, .ref h_laid_numbers])), (h_laid_kinds, .inl (cI, 8, .inl h_laid_kinds_c)), (h_laid_places, .inl (cI, 9, .inl h_laid_places_c)), (h_laid_hours, .inl (cI, 9, .inl h_laid_hours_c)), (h_laid_weights, .inl (cI, 9, .inl h_laid_weights_c)), (h_laid_prices, .inl (cI, 8, .inl h_laid_prices_c))] H → va_D A [(h, .inr (5, [.ref h_page, .ref h_laid, .ref h_draft, .ref h_now, .ref h_trial, .ref h_past, .ref h_sightings, .ref h_kept, .int h_keptCount, .ref h_told])), (h_now, .inr (4, [.int h_now_rooms, .int h_now_bought, .int h_now_spoken, .int h_now_out, .int h_now_coins])), (h_trial, .inr (4, [.int x16, .int x17, .int x18, .int x19, .int x20])), (h_laid, .inr (0, [.int h_laid_pieces, .ref h_laid_kinds, .ref h_laid_prices, .int h_laid_roomsAtFirst, .int h_laid_deeds, .ref h_laid_persons, .ref h_laid_places, .ref h_laid_hours, .ref h_laid_weights, .int h_laid_coins, .int h_laid_law, .ref h_laid_numbers])), (h_laid_kinds, .inl (cI, 8, .inl h_laid_kinds_c)), (h_laid_places, .inl (cI, 9, .inl h_laid_places_c)), (h_laid_hours, .inl (cI, 9, .inl h_laid_hours_c)), (h_laid_weights, .inl (cI, 9, .inl h_laid_weights_c)), (h_laid_prices, .inl (cI, 8, .inl h_laid_prices_c))] → va_S A s.heap H locs → ∀ (ls : Array Slot), lv_has ls 5 [(0, .ref h), (3, .int a3)] → W p l e (headSpec wsX5_sale ({ frames := 4, cells := 0, slots := 0, locals := 98 })).room s m ([.ref h, .int a1, .int a2, .int a3] : List Value).toArray below meth c H locs 0 0 (MQ below (va_Qi (fun r' _ => r' = r) (q_E D vwCl (tyL cI cC cL cB) A [(h, .inr (5, [.ref h_page, .ref h_laid, .ref h_draft, .ref h_now, .ref h_trial, .ref h_past, .ref h_sightings, .ref h_kept, .int h_keptCount, .ref h_told])), (h_now, .inr (4, [.int h_now_rooms, .int h_now_bought, .int h_now_spoken, .int h_now_out, .int h_now_coins])), (h_trial, .inr (4, [.int o0, .int o1, .int o2, .int o3, .int o4])), (h_laid, .inr (0, [.int h_laid_pieces, .ref h_laid_kinds, .ref h_laid_prices, .int h_laid_roomsAtFirst, .int h_laid_deeds, .ref h_laid_persons, .ref h_laid_places, .ref h_laid_hours, .ref h_laid_weights, .int h_laid_coins, .int h_laid_law, .ref h_laid_numbers])), (h_laid_kinds, .inl (cI, 8, .inl h_laid_kinds_c)), (h_laid_places, .inl (cI, 9, .inl h_laid_places_c)), (h_laid_hours, .inl (cI, 9, .inl h_laid_hours_c)), (h_laid_weights, .inl (cI, 9, .inl h_laid_weights_c)), (h_laid_prices, .inl (cI, 8, .inl h_laid_prices_c))]) A) ([.ref h, .int a1, .int a2, .int a3] : List Value).toArray s 0 0 A) (F0 m 71 ls [])) → W p l e (headSpec wsX5_sale ({ frames := 4, cells := 0, slots := 0, locals := 98 })).room s m ([.ref h, .int a1, .int a2, .int a3] : List Value).toArray below meth c H locs 0 0 (MQ below (va_Qi (fun r' _ => r' = r) (q_E D vwCl (tyL cI cC cL cB) A [(h, .inr (5, [.ref h_page, .ref h_laid, .ref h_draft, .ref h_now, .ref h_trial, .ref h_past, .ref h_sightings, .ref h_kept, .int h_keptCount, .ref h_told])), (h_now, .inr (4, [.int h_now_rooms, .int h_now_bought, .int h_now_spoken, .int h_now_out, .int h_now_coins])), (h_trial, .inr (4, [.int o0, .int o1, .int o2, .int o3, .int o4])), (h_laid, .inr (0, [.int h_laid_pieces, .ref h_laid_kinds, .ref h_laid_prices, .int h_laid_roomsAtFirst, .int h_laid_deeds, .ref h_laid_persons, .ref h_laid_places, .ref h_laid_hours, .ref h_laid_weights, .int h_laid_coins, .int h_laid_law, .ref h_laid_numbers])), (h_laid_kinds, .inl (cI, 8, .inl h_laid_kinds_c)), (h_laid_places, .inl (cI, 9, .inl h_laid_places_c)), (h_laid_hours, .inl (cI, 9, .inl h_laid_hours_c)), (h_laid_weights, .inl (cI, 9, .inl h_laid_weights_c)), (h_laid_prices, .inl (cI, 8, .inl h_laid_prices_c))]) A) ([.ref h, .int a1, .int a2, .int a3] : List Value).toArray s 0 0 A) (F0 m 49 ls []) := by
          intro n
          induction n with
          | zero =>
            intro x10 x11 x12 x13 x14 x15 H locs hP hD hS ls hl x16 x17 x18 x19 x20 hf KX
            rw [L_X5_sale_49] at hf
            cases hf
          | succ n ih =>
            intro x10 x11 x12 x13 x14 x15 H locs hP hD hS ls hl x16 x17 x18 x19 x20 hf KX
            rw [L_X5_sale_49] at hf
            refine lv_iload hx hb dX5_sale_49 (lv_at hl 4 rfl) ?_
            refine lv_iload_n hx hb dX5_sale_51 rfl (lv_at hl 2 rfl) ?_
            refine lv_icmp_ge (tgt := 71) hx hb dX5_sale_52 (by decide) (fun c_15 => ?_) (fun c_15 => ?_)
            · have hf := ip c_15 hf
              cases hf
              exact KX _ _ hP hD hS ls (lv_sub hl [0, 3] rfl)
            · have hf := im c_15 hf
              refine lv_aload_n hx hb dX5_sale_55 rfl (lv_at hl 0 rfl) ?_
              refine lv_iload_n hx hb dX5_sale_56 rfl (lv_at hl 1 rfl) ?_
              refine lv_iload hx hb dX5_sale_57 (lv_at hl 4 rfl) ?_
              obtain ⟨x21, hv_16, hf⟩ := ob1_some hf
              refine q_rSi (As := [.int a1, .int x15]) (rest := [.ref h]) (r := x21) ⟨hx, hb, hml, hown, hts⟩ (c_X5_drawOf l D cI cC cL cB a1 x15 x21 hv_16) (va_cwS 2 hts gX5_sale_X5_drawOf rfl rfl rfl (by decide +kernel) ⟨Nat.le_of_ble_eq_true rfl, Nat.le_of_ble_eq_true rfl⟩) hK hP [] rfl rfl hl.1 rfl (Nat.le_of_ble_eq_true rfl) dX5_sale_59 ⟨Nat.le_of_ble_eq_true rfl, Nat.le_of_ble_eq_true rfl⟩ ?_
              obtain ⟨f22, f23, f24, f25, f26, hv_17, hf⟩ := ob5_some hf
              refine q_wVv (As := [.int x21]) (rest := []) (w1 := [(h, .inr (5, [.ref h_page, .ref h_laid, .ref h_draft, .ref h_now, .ref h_trial, .ref h_past, .ref h_sightings, .ref h_kept, .int h_keptCount, .ref h_told])), (h_laid, .inr (0, [.int h_laid_pieces, .ref h_laid_kinds, .ref h_laid_prices, .int h_laid_roomsAtFirst, .int h_laid_deeds, .ref h_laid_persons, .ref h_laid_places, .ref h_laid_hours, .ref h_laid_weights, .int h_laid_coins, .int h_laid_law, .ref h_laid_numbers])), (h_trial, .inr (4, [.int f22, .int f23, .int f24, .int f25, .int f26])), (h_laid_kinds, .inl (cI, 8, .inl h_laid_kinds_c)), (h_laid_places, .inl (cI, 9, .inl h_laid_places_c)), (h_laid_hours, .inl (cI, 9, .inl h_laid_hours_c)), (h_laid_weights, .inl (cI, 9, .inl h_laid_weights_c)), (h_laid_prices, .inl (cI, 8, .inl h_laid_prices_c))]) (wr := [(h_now, .inr (4, [.int h_now_rooms, .int h_now_bought, .int h_now_spoken, .int h_now_out, .int h_now_coins]))]) (w2 := [(h, .inr (5, [.ref h_page, .ref h_laid, .ref h_draft, .ref h_now, .ref h_trial, .ref h_past, .ref h_sightings, .ref h_kept, .int h_keptCount, .ref h_told])), (h_now, .inr (4, [.int h_now_rooms, .int h_now_bought, .int h_now_spoken, .int h_now_out, .int h_now_coins])), (h_trial, .inr (4, [.int f22, .int f23, .int f24, .int f25, .int f26])), (h_laid, .inr (0, [.int h_laid_pieces, .ref h_laid_kinds, .ref h_laid_prices, .int h_laid_roomsAtFirst, .int h_laid_deeds, .ref h_laid_persons, .ref h_laid_places, .ref h_laid_hours, .ref h_laid_weights, .int h_laid_coins, .int h_laid_law, .ref h_laid_numbers])), (h_laid_kinds, .inl (cI, 8, .inl h_laid_kinds_c)), (h_laid_places, .inl (cI, 9, .inl h_laid_places_c)), (h_laid_hours, .inl (cI, 9, .inl h_laid_hours_c)), (h_laid_weights, .inl (cI, 9, .inl h_laid_weights_c)), (h_laid_prices, .inl (cI, 8, .inl h_laid_prices_c))]) ⟨hx, hb, hml, hown, hts⟩ (c_X5_dealOnce l D cI cC cL cB H.size h h_page h_laid h_draft h_now h_trial h_past h_sightings h_kept h_told h_laid_kinds h_laid_prices h_laid_persons h_laid_places h_laid_hours h_laid_weights h_laid_numbers x21 h_keptCount h_laid_pieces h_laid_roomsAtFirst h_laid_deeds h_laid_coins h_laid_law x10 x11 x12 x13 x14 h_laid_kinds_c h_laid_places_c h_laid_hours_c h_laid_weights_c h_laid_prices_c f22 f23 f24 f25 f26 hv_17) (cwV 1 hts gX5_sale_X5_dealOnce rfl rfl rfl (by decide +kernel) ⟨Nat.le_of_ble_eq_true rfl, Nat.le_of_ble_eq_true rfl⟩) hK hP hD hS hA [0, 3, 2, 4, 5, 6, 7, 8] rfl (by decide) [1] rfl (by decide) (by decide) [1, 0, 3, 2, 4, 5, 6, 7, 8] rfl (by decide) (va_recv hK hP (ci := 5) (q0 := 0) rfl rfl) rfl hl.1 rfl (Nat.le_of_ble_eq_true rfl) dX5_sale_62 ⟨Nat.le_of_ble_eq_true rfl, Nat.le_of_ble_eq_true rfl⟩ (fun H locs hP hD hS => ?_)
              have hP : va_P D vwCl [(h, .inr (5, [.ref h_page, .ref h_laid, .ref h_draft, .ref h_now, .ref h_trial, .ref h_past, .ref h_sightings, .ref h_kept, .int h_keptCount, .ref h_told])), (h_now, .inr (4, [.int h_now_rooms, .int h_now_bought, .int h_now_spoken, .int h_now_out, .int h_now_coins])), (h_trial, .inr (4, [.int f22, .int f23, .int f24, .int f25, .int f26])), (h_laid, .inr (0, [.int h_laid_pieces, .ref h_laid_kinds, .ref h_laid_prices, .int h_laid_roomsAtFirst, .int h_laid_deeds, .ref h_laid_persons, .ref h_laid_places, .ref h_laid_hours, .ref h_laid_weights, .int h_laid_coins, .int h_laid_law, .ref h_laid_numbers])), (h_laid_kinds, .inl (cI, 8, .inl h_laid_kinds_c)), (h_laid_places, .inl (cI, 9, .inl h_laid_places_c)), (h_laid_hours, .inl (cI, 9, .inl h_laid_hours_c)), (h_laid_weights, .inl (cI, 9, .inl h_laid_weights_c)), (h_laid_prices, .inl (cI, 8, .inl h_laid_prices_c))] H := hP
              have hD : va_D A [(h, .inr (5, [.ref h_page, .ref h_laid, .ref h_draft, .ref h_now, .ref h_trial, .ref h_past, .ref h_sightings, .ref h_kept, .int h_keptCount, .ref h_told])), (h_now, .inr (4, [.int h_now_rooms, .int h_now_bought, .int h_now_spoken, .int h_now_out, .int h_now_coins])), (h_trial, .inr (4, [.int f22, .int f23, .int f24, .int f25, .int f26])), (h_laid, .inr (0, [.int h_laid_pieces, .ref h_laid_kinds, .ref h_laid_prices, .int h_laid_roomsAtFirst, .int h_laid_deeds, .ref h_laid_persons, .ref h_laid_places, .ref h_laid_hours, .ref h_laid_weights, .int h_laid_coins, .int h_laid_law, .ref h_laid_numbers])), (h_laid_kinds, .inl (cI, 8, .inl h_laid_kinds_c)), (h_laid_places, .inl (cI, 9, .inl h_laid_places_c)), (h_laid_hours, .inl (cI, 9, .inl h_laid_hours_c)), (h_laid_weights, .inl (cI, 9, .inl h_laid_weights_c)), (h_laid_prices, .inl (cI, 8, .inl h_laid_prices_c))] := hD
              obtain ⟨x27, ex27⟩ : ∃ y : Int32, y = (x15 + 1) := ⟨_, rfl⟩
              have hf := pv_eq ex27 hf
              refine lv_iinc (v := x27) (lv' := [(4, .int x27), (0, .ref h), (1, .int a1), (2, .int a2), (3, .int a3)]) hx hb dX5_sale_65 hl (k := 4) rfl (by rw [ex27]; rfl) (by decide) rfl (fun ls hl => ?_)
              refine lv_goto (tgt := 49) hx hb dX5_sale_68 (by decide) ?_
              exact ih _ _ _ _ _ _ _ _ hP hD hS ls (lv_sub hl [1, 2, 3, 4, 0] rfl) _ _ _ _ _ hf KX
        obtain ⟨x16, x17, x18, x19, x20, hr49, hf⟩ := ob5_some hf
        refine loop49 300 _ _ _ _ _ _ _ _ hP hD hS ls (lv_sub hl [1, 2, 3, 4, 0] rfl) _ _ _ _ _ hr49 (fun H locs hP hD hS ls hl => ?_)
        refine lv_iload_n hx hb dX5_sale_71 rfl (lv_at hl 1 rfl) ?_
        refine lv_if_ne (tgt := 85) hx hb dX5_sale_72 (by decide) (fun c_18 => ?_) (fun c_18 => ?_)
        · have hf := im c_18 hf
          refine lv_aload_n hx hb dX5_sale_85 rfl (lv_at hl 0 rfl) ?_
          refine va_get (D := D) (ci := 5) (v := .ref h_trial) (C := RX5) (T := TX5) (N := 10) hx hb hts uX5_sale_X5 hown hK hP 0 rfl rfl 4 (by decide) (hts (.fieldLink RX5 33 "SpeaksForTheChair" "trial" "LSpeaksForTheChair$Standing;") (List.mem_of_getElem? (i := 1) rfl)) (fun _ h9 => h9) rfl dX5_sale_86 ?_
          refine va_get (D := D) (ci := 4) (v := .int x20) (C := RX4) (T := TX4) (N := 5) hx hb hts uX5_sale_X4 hown hK hP 2 rfl rfl 4 (by decide) (hts (.fieldLink RX5 172 "SpeaksForTheChair$Standing" "coins" "I") (List.mem_of_getElem? (i := 4) rfl)) (fun _ h9 => h9) rfl dX5_sale_89 ?_
          cases hf
          exact W.iret hx hb hr (fun t ht hW => ⟨⟨_, (), rfl, rfl, by rw [ht]; exact hP, va_K.moved hW.alike hK, hD⟩, hS.F ht⟩) hS.2.2 dX5_sale_92
        · have hf := ip c_18 hf
          refine lv_aload_n hx hb dX5_sale_75 rfl (lv_at hl 0 rfl) ?_
          refine va_get (D := D) (ci := 5) (v := .ref h_trial) (C := RX5) (T := TX5) (N := 10) hx hb hts uX5_sale_X5 hown hK hP 0 rfl rfl 4 (by decide) (hts (.fieldLink RX5 33 "SpeaksForTheChair" "trial" "LSpeaksForTheChair$Standing;") (List.mem_of_getElem? (i := 1) rfl)) (fun _ h9 => h9) rfl dX5_sale_76 ?_
          refine va_get (D := D) (ci := 4) (v := .int x19) (C := RX4) (T := TX4) (N := 5) hx hb hts uX5_sale_X4 hown hK hP 2 rfl rfl 3 (by decide) (hts (.fieldLink RX5 191 "SpeaksForTheChair$Standing" "out" "I") (List.mem_of_getElem? (i := 3) rfl)) (fun _ h9 => h9) rfl dX5_sale_79 ?_
          refine lv_goto (tgt := 92) hx hb dX5_sale_82 (by decide) ?_
          cases hf
          exact W.iret hx hb hr (fun t ht hW => ⟨⟨_, (), rfl, rfl, by rw [ht]; exact hP, va_K.moved hW.alike hK, hD⟩, hS.F ht⟩) hS.2.2 dX5_sale_92
      · have hf := ip c_6 hf
        refine lv_iconst (v := (-1)) hx hb dX5_sale_30 (by decide) ?_
        cases hf
        exact W.iret hx hb hr (fun t ht hW => ⟨⟨_, (), rfl, rfl, by rw [ht]; exact hP, va_K.moved hW.alike hK, hD⟩, hS.F ht⟩) hS.2.2 dX5_sale_31
theorem uX5_keep_X5 : ∀ w ∈ wsX50, w ∈ wsX5_keep := fun w h => List.mem_cons_of_mem _ (List.mem_append_left _ (List.mem_append_right _ h))
set_option maxHeartbeats 4000000 in
set_option maxRecDepth 100000 in
theorem c_X5_keep (l : Launch) (D : va_G) (cI cC cL cB : ClassId) (sz : Nat) (h : Nat) (h_page : Nat) (h_laid : Nat) (h_draft : Nat) (h_now : Nat) (h_trial : Nat) (h_past : Nat) (h_sightings : Nat) (h_kept : Nat) (h_told : Nat) (h_keptCount : Int32) (h_kept_c : Nat → Int64) (h_now_rooms : Int32) (h_now_bought : Int32) (h_now_spoken : Int32) (h_now_out : Int32) (h_now_coins : Int32) (r : Int32) (o0 : Int32) (o1 : Nat → Int64) (hf : m_X5_keep h_keptCount h_kept_c h_now_rooms h_now_bought h_now_spoken h_now_out h_now_coins = some (r, o0, o1)) : Met l yX5_keep wsX5_keep ({ frames := 1, cells := 0, slots := 0, locals := 20 }) (va_Pc [.ref h] (q_W D vwCl (tyL cI cC cL cB) [(h, .inr (5, [.ref h_page, .ref h_laid, .ref h_draft, .ref h_now, .ref h_trial, .ref h_past, .ref h_sightings, .ref h_kept, .int h_keptCount, .ref h_told])), (h_kept, .inl (cL, 2, .inr (.inl h_kept_c))), (h_now, .inr (4, [.int h_now_rooms, .int h_now_bought, .int h_now_spoken, .int h_now_out, .int h_now_coins]))] sz)) (va_Qi (fun r' _ => r' = r) (q_E D vwCl (tyL cI cC cL cB) (va_A [(h, .inr (5, [.ref h_page, .ref h_laid, .ref h_draft, .ref h_now, .ref h_trial, .ref h_past, .ref h_sightings, .ref h_kept, .int h_keptCount, .ref h_told])), (h_kept, .inl (cL, 2, .inr (.inl h_kept_c))), (h_now, .inr (4, [.int h_now_rooms, .int h_now_bought, .int h_now_spoken, .int h_now_out, .int h_now_coins]))] sz) [(h, .inr (5, [.ref h_page, .ref h_laid, .ref h_draft, .ref h_now, .ref h_trial, .ref h_past, .ref h_sightings, .ref h_kept, .int o0, .ref h_told])), (h_kept, .inl (cL, 2, .inr (.inl o1))), (h_now, .inr (4, [.int h_now_rooms, .int h_now_bought, .int h_now_spoken, .int h_now_out, .int h_now_coins]))]) (va_A [(h, .inr (5, [.ref h_page, .ref h_laid, .ref h_draft, .ref h_now, .ref h_trial, .ref h_past, .ref h_sightings, .ref h_kept, .int h_keptCount, .ref h_told])), (h_kept, .inl (cL, 2, .inr (.inl h_kept_c))), (h_now, .inr (4, [.int h_now_rooms, .int h_now_bought, .int h_now_spoken, .int h_now_out, .int h_now_coins]))] sz)) 0 0 (va_A [(h, .inr (5, [.ref h_page, .ref h_laid, .ref h_draft, .ref h_now, .ref h_trial, .ref h_past, .ref h_sightings, .ref h_kept, .int h_keptCount, .ref h_told])), (h_kept, .inl (cL, 2, .inr (.inl h_kept_c))), (h_now, .inr (4, [.int h_now_rooms, .int h_now_bought, .int h_now_spoken, .int h_now_out, .int h_now_coins]))] sz) := by
  refine Met.ofW (cc := cX5_keep) (maxL := 1) (ret := (some .int)) (by decide) rfl ?_
  intro p e s m args below meth c s₁ B hml hv
  obtain ⟨rfl, hsz, hP, hK, hD0⟩ := hv
  have hx := B.exec
  have hb := B.bytes
  have hr := B.returns
  have hts := atoms_spec (ws := wsX5_keep) B.pre
  have hown : s.vm.findClass RX5 = some m.cls := findClass_of_methodNamed B.named
  have hlocks := B.notSynchronized
  subst hsz
  have hD := hD0.self (sz := s.heap.size)
  generalize hAe : va_A [(h, .inr (5, [.ref h_page, .ref h_laid, .ref h_draft, .ref h_now, .ref h_trial, .ref h_past, .ref h_sightings, .ref h_kept, .int h_keptCount, .ref h_told])), (h_kept, .inl (cL, 2, .inr (.inl h_kept_c))), (h_now, .inr (4, [.int h_now_rooms, .int h_now_bought, .int h_now_spoken, .int h_now_out, .int h_now_coins]))] s.heap.size = A at hD ⊢
  have hA : ∀ q : Nat, s.heap.size ≤ q → A q := fun q h => by rw [← hAe]; exact Or.inr h
  have hS : va_S A s.heap s.heap [] := va_S.rf
  have hP : va_P D vwCl [(h, .inr (5, [.ref h_page, .ref h_laid, .ref h_draft, .ref h_now, .ref h_trial, .ref h_past, .ref h_sightings, .ref h_kept, .int h_keptCount, .ref h_told])), (h_kept, .inl (cL, 2, .inr (.inl h_kept_c))), (h_now, .inr (4, [.int h_now_rooms, .int h_now_bought, .int h_now_spoken, .int h_now_out, .int h_now_coins]))] s.heap := hP
  have hl := lv_entry ([.ref h]) (n := 1) (Nat.le_of_ble_eq_true rfl)
  rw [lg_entry_eq]
  generalize (lg_sl ([.ref h]) ++ List.replicate (1 - (lg_sl ([.ref h])).length) Slot.unset).toArray = ls at hl ⊢
  have hl : lv_has ls 1 [(0, .ref h)] := hl
  unfold m_X5_keep at hf
  refine lv_aload_n hx hb dX5_keep_0 rfl (lv_at hl 0 rfl) ?_
  refine va_get (D := D) (ci := 5) (v := .int h_keptCount) (C := RX5) (T := TX5) (N := 10) hx hb hts uX5_keep_X5 hown hK hP 0 rfl rfl 8 (by decide) (hts (.fieldLink RX5 106 "SpeaksForTheChair" "keptCount" "I") (List.mem_of_getElem? (i := 1) rfl)) (fun _ h9 => h9) rfl dX5_keep_1 ?_
  refine lv_aload_n hx hb dX5_keep_4 rfl (lv_at hl 0 rfl) ?_
  refine va_get (D := D) (ci := 5) (v := .ref h_kept) (C := RX5) (T := TX5) (N := 10) hx hb hts uX5_keep_X5 hown hK hP 0 rfl rfl 7 (by decide) (hts (.fieldLink RX5 50 "SpeaksForTheChair" "kept" "[J") (List.mem_of_getElem? (i := 2) rfl)) (fun _ h9 => h9) rfl dX5_keep_5 ?_
  refine va_alen (v := 2) hx hb hK hP 1 2 rfl rfl rfl dX5_keep_8 ?_
  refine lv_icmp_lt (tgt := 15) hx hb dX5_keep_9 (by decide) (fun c_1 => ?_) (fun c_1 => ?_)
  · have hf := ip c_1 hf
    refine lv_aload_n hx hb dX5_keep_15 rfl (lv_at hl 0 rfl) ?_
    refine va_get (D := D) (ci := 5) (v := .ref h_kept) (C := RX5) (T := TX5) (N := 10) hx hb hts uX5_keep_X5 hown hK hP 0 rfl rfl 7 (by decide) (hts (.fieldLink RX5 50 "SpeaksForTheChair" "kept" "[J") (List.mem_of_getElem? (i := 2) rfl)) (fun _ h9 => h9) rfl dX5_keep_16 ?_
    refine lv_aload_n hx hb dX5_keep_19 rfl (lv_at hl 0 rfl) ?_
    refine va_get (D := D) (ci := 5) (v := .int h_keptCount) (C := RX5) (T := TX5) (N := 10) hx hb hts uX5_keep_X5 hown hK hP 0 rfl rfl 8 (by decide) (hts (.fieldLink RX5 106 "SpeaksForTheChair" "keptCount" "I") (List.mem_of_getElem? (i := 1) rfl)) (fun _ h9 => h9) rfl dX5_keep_20 ?_
    refine lv_aload_n hx hb dX5_keep_23 rfl (lv_at hl 0 rfl) ?_
    refine va_get (D := D) (ci := 5) (v := .ref h_now) (C := RX5) (T := TX5) (N := 10) hx hb hts uX5_keep_X5 hown hK hP 0 rfl rfl 3 (by decide) (hts (.fieldLink RX5 29 "SpeaksForTheChair" "now" "LSpeaksForTheChair$Standing;") (List.mem_of_getElem? (i := 3) rfl)) (fun _ h9 => h9) rfl dX5_keep_24 ?_
    obtain ⟨x1, hv_2, hf⟩ := ob1_some hf
    refine q_rVl (As := []) (rest := [.int h_keptCount, .ref h_kept]) (r := x1) ⟨hx, hb, hml, hown, hts⟩ (c_X4_packed l D cI cC cL cB h_now h_now_rooms h_now_bought h_now_spoken h_now_out h_now_coins x1 hv_2) (cwV 0 hts gX5_keep_X4_packed rfl rfl rfl (by decide +kernel) ⟨Nat.le_of_ble_eq_true rfl, Nat.le_of_ble_eq_true rfl⟩) hK hP [2] rfl (va_recv hK hP (ci := 4) (q0 := 2) rfl rfl) rfl hl.1 rfl (Nat.le_of_ble_eq_true rfl) dX5_keep_27 ⟨Nat.le_of_ble_eq_true rfl, Nat.le_of_ble_eq_true rfl⟩ ?_
    obtain ⟨g_3, hf⟩ := gu_in hf
    refine va_last hx hb hK hP hD hS 1 2 rfl rfl g_3 dX5_keep_30 (fun H locs hP hD hS => ?_)
    obtain ⟨c2, ec2⟩ : ∃ y : Nat → Int64, y = (vp_updL h_kept_c h_keptCount.toNatClampNeg x1) := ⟨_, rfl⟩
    have hf := pv_eq ec2 hf
    rw [← ec2] at hP hD
    have hP : va_P D vwCl [(h, .inr (5, [.ref h_page, .ref h_laid, .ref h_draft, .ref h_now, .ref h_trial, .ref h_past, .ref h_sightings, .ref h_kept, .int h_keptCount, .ref h_told])), (h_kept, .inl (cL, 2, .inr (.inl c2))), (h_now, .inr (4, [.int h_now_rooms, .int h_now_bought, .int h_now_spoken, .int h_now_out, .int h_now_coins]))] H := hP
    have hD : va_D A [(h, .inr (5, [.ref h_page, .ref h_laid, .ref h_draft, .ref h_now, .ref h_trial, .ref h_past, .ref h_sightings, .ref h_kept, .int h_keptCount, .ref h_told])), (h_kept, .inl (cL, 2, .inr (.inl c2))), (h_now, .inr (4, [.int h_now_rooms, .int h_now_bought, .int h_now_spoken, .int h_now_out, .int h_now_coins]))] := hD
    refine lv_aload_n hx hb dX5_keep_31 rfl (lv_at hl 0 rfl) ?_
    refine lv_dup hx hb dX5_keep_32 rfl ?_
    refine va_get (D := D) (ci := 5) (v := .int h_keptCount) (C := RX5) (T := TX5) (N := 10) hx hb hts uX5_keep_X5 hown hK hP 0 rfl rfl 8 (by decide) (hts (.fieldLink RX5 106 "SpeaksForTheChair" "keptCount" "I") (List.mem_of_getElem? (i := 1) rfl)) (fun _ h9 => h9) rfl dX5_keep_33 ?_
    refine lv_iconst (v := 1) hx hb dX5_keep_36 (by decide) ?_
    refine lv_iadd hx hb dX5_keep_37 ?_
    refine lv_topi (fun f3 ef3 => ?_)
    have hf := pv_eq ef3 hf
    refine va_put (D := D) (ci := 5) (v := .int f3) (ty := .int) (C := RX5) (T := TX5) (N := 10) hx hb hts uX5_keep_X5 tyX5 tyX5_ok nmX5 hown hK hP hD hS 0 rfl rfl 8 (by decide) (hts (.fieldLink RX5 106 "SpeaksForTheChair" "keptCount" "I") (List.mem_of_getElem? (i := 1) rfl)) (fun _ h9 => h9) rfl (by decide +kernel) rfl rfl (Nat.le_of_ble_eq_true rfl) dX5_keep_38 (fun H locs hP hD hS => ?_)
    have hP : va_P D vwCl [(h, .inr (5, [.ref h_page, .ref h_laid, .ref h_draft, .ref h_now, .ref h_trial, .ref h_past, .ref h_sightings, .ref h_kept, .int f3, .ref h_told])), (h_kept, .inl (cL, 2, .inr (.inl c2))), (h_now, .inr (4, [.int h_now_rooms, .int h_now_bought, .int h_now_spoken, .int h_now_out, .int h_now_coins]))] H := hP
    have hD : va_D A [(h, .inr (5, [.ref h_page, .ref h_laid, .ref h_draft, .ref h_now, .ref h_trial, .ref h_past, .ref h_sightings, .ref h_kept, .int f3, .ref h_told])), (h_kept, .inl (cL, 2, .inr (.inl c2))), (h_now, .inr (4, [.int h_now_rooms, .int h_now_bought, .int h_now_spoken, .int h_now_out, .int h_now_coins]))] := hD
    refine lv_aload_n hx hb dX5_keep_41 rfl (lv_at hl 0 rfl) ?_
    refine va_get (D := D) (ci := 5) (v := .int f3) (C := RX5) (T := TX5) (N := 10) hx hb hts uX5_keep_X5 hown hK hP 0 rfl rfl 8 (by decide) (hts (.fieldLink RX5 106 "SpeaksForTheChair" "keptCount" "I") (List.mem_of_getElem? (i := 1) rfl)) (fun _ h9 => h9) rfl dX5_keep_42 ?_
    cases hf
    exact W.iret hx hb hr (fun t ht hW => ⟨⟨_, (), rfl, rfl, by rw [ht]; exact hP, va_K.moved hW.alike hK, hD⟩, hS.F ht⟩) hS.2.2 dX5_keep_45
  · have hf := im c_1 hf
    refine lv_bipush (v := (-3)) hx hb dX5_keep_12 (by decide) ?_
    cases hf
    exact W.iret hx hb hr (fun t ht hW => ⟨⟨_, (), rfl, rfl, by rw [ht]; exact hP, va_K.moved hW.alike hK, hD⟩, hS.F ht⟩) hS.2.2 dX5_keep_14
theorem uX5_back_X5 : ∀ w ∈ wsX50, w ∈ wsX5_back := fun w h => List.mem_cons_of_mem _ (List.mem_append_left _ (List.mem_append_left _ (List.mem_append_right _ h)))
set_option maxHeartbeats 4000000 in
set_option maxRecDepth 100000 in
theorem c_X5_back (l : Launch) (D : va_G) (cI cC cL cB : ClassId) (sz : Nat) (h : Nat) (h_page : Nat) (h_laid : Nat) (h_draft : Nat) (h_now : Nat) (h_trial : Nat) (h_past : Nat) (h_sightings : Nat) (h_kept : Nat) (h_told : Nat) (h_past_ring : Nat) (h_keptCount : Int32) (h_kept_c : Nat → Int64) (h_now_rooms : Int32) (h_now_bought : Int32) (h_now_spoken : Int32) (h_now_out : Int32) (h_now_coins : Int32) (h_past_next : Int32) (h_past_depth : Int32) (r : Int32) (o0 : Int32) (o1 : Int32) (o2 : Int32) (o3 : Int32) (o4 : Int32) (o5 : Int32) (o6 : Int32) (hf : m_X5_back h_keptCount h_kept_c h_now_rooms h_now_bought h_now_spoken h_now_out h_now_coins h_past_depth = some (r, o0, o1, o2, o3, o4, o5, o6)) : Met l yX5_back wsX5_back ({ frames := 1, cells := 0, slots := 0, locals := 22 }) (va_Pc [.ref h] (q_W D vwCl (tyL cI cC cL cB) [(h, .inr (5, [.ref h_page, .ref h_laid, .ref h_draft, .ref h_now, .ref h_trial, .ref h_past, .ref h_sightings, .ref h_kept, .int h_keptCount, .ref h_told])), (h_kept, .inl (cL, 2, .inr (.inl h_kept_c))), (h_now, .inr (4, [.int h_now_rooms, .int h_now_bought, .int h_now_spoken, .int h_now_out, .int h_now_coins])), (h_past, .inr (2, [.ref h_past_ring, .int h_past_next, .int h_past_depth]))] sz)) (va_Qi (fun r' _ => r' = r) (q_E D vwCl (tyL cI cC cL cB) (va_A [(h, .inr (5, [.ref h_page, .ref h_laid, .ref h_draft, .ref h_now, .ref h_trial, .ref h_past, .ref h_sightings, .ref h_kept, .int h_keptCount, .ref h_told])), (h_kept, .inl (cL, 2, .inr (.inl h_kept_c))), (h_now, .inr (4, [.int h_now_rooms, .int h_now_bought, .int h_now_spoken, .int h_now_out, .int h_now_coins])), (h_past, .inr (2, [.ref h_past_ring, .int h_past_next, .int h_past_depth]))] sz) [(h, .inr (5, [.ref h_page, .ref h_laid, .ref h_draft, .ref h_now, .ref h_trial, .ref h_past, .ref h_sightings, .ref h_kept, .int o0, .ref h_told])), (h_kept, .inl (cL, 2, .inr (.inl h_kept_c))), (h_now, .inr (4, [.int o1, .int o2, .int o3, .int o4, .int o5])), (h_past, .inr (2, [.ref h_past_ring, .int h_past_next, .int o6]))]) (va_A [(h, .inr (5, [.ref h_page, .ref h_laid, .ref h_draft, .ref h_now, .ref h_trial, .ref h_past, .ref h_sightings, .ref h_kept, .int h_keptCount, .ref h_told])), (h_kept, .inl (cL, 2, .inr (.inl h_kept_c))), (h_now, .inr (4, [.int h_now_rooms, .int h_now_bought, .int h_now_spoken, .int h_now_out, .int h_now_coins])), (h_past, .inr (2, [.ref h_past_ring, .int h_past_next, .int h_past_depth]))] sz)) 0 0 (va_A [(h, .inr (5, [.ref h_page, .ref h_laid, .ref h_draft, .ref h_now, .ref h_trial, .ref h_past, .ref h_sightings, .ref h_kept, .int h_keptCount, .ref h_told])), (h_kept, .inl (cL, 2, .inr (.inl h_kept_c))), (h_now, .inr (4, [.int h_now_rooms, .int h_now_bought, .int h_now_spoken, .int h_now_out, .int h_now_coins])), (h_past, .inr (2, [.ref h_past_ring, .int h_past_next, .int h_past_depth]))] sz) := by
  refine Met.ofW (cc := cX5_back) (maxL := 1) (ret := (some .int)) (by decide) rfl ?_
  intro p e s m args below meth c s₁ B hml hv
  obtain ⟨rfl, hsz, hP, hK, hD0⟩ := hv
  have hx := B.exec
  have hb := B.bytes
  have hr := B.returns
  have hts := atoms_spec (ws := wsX5_back) B.pre
  have hown : s.vm.findClass RX5 = some m.cls := findClass_of_methodNamed B.named
  have hlocks := B.notSynchronized
  subst hsz
  have hD := hD0.self (sz := s.heap.size)
  generalize hAe : va_A [(h, .inr (5, [.ref h_page, .ref h_laid, .ref h_draft, .ref h_now, .ref h_trial, .ref h_past, .ref h_sightings, .ref h_kept, .int h_keptCount, .ref h_told])), (h_kept, .inl (cL, 2, .inr (.inl h_kept_c))), (h_now, .inr (4, [.int h_now_rooms, .int h_now_bought, .int h_now_spoken, .int h_now_out, .int h_now_coins])), (h_past, .inr (2, [.ref h_past_ring, .int h_past_next, .int h_past_depth]))] s.heap.size = A at hD ⊢
  have hA : ∀ q : Nat, s.heap.size ≤ q → A q := fun q h => by rw [← hAe]; exact Or.inr h
  have hS : va_S A s.heap s.heap [] := va_S.rf
  have hP : va_P D vwCl [(h, .inr (5, [.ref h_page, .ref h_laid, .ref h_draft, .ref h_now, .ref h_trial, .ref h_past, .ref h_sightings, .ref h_kept, .int h_keptCount, .ref h_told])), (h_kept, .inl (cL, 2, .inr (.inl h_kept_c))), (h_now, .inr (4, [.int h_now_rooms, .int h_now_bought, .int h_now_spoken, .int h_now_out, .int h_now_coins])), (h_past, .inr (2, [.ref h_past_ring, .int h_past_next, .int h_past_depth]))] s.heap := hP
  have hl := lv_entry ([.ref h]) (n := 1) (Nat.le_of_ble_eq_true rfl)
  rw [lg_entry_eq]
  generalize (lg_sl ([.ref h]) ++ List.replicate (1 - (lg_sl ([.ref h])).length) Slot.unset).toArray = ls at hl ⊢
  have hl : lv_has ls 1 [(0, .ref h)] := hl
  unfold m_X5_back at hf
  refine lv_aload_n hx hb dX5_back_0 rfl (lv_at hl 0 rfl) ?_
  refine va_get (D := D) (ci := 5) (v := .int h_keptCount) (C := RX5) (T := TX5) (N := 10) hx hb hts uX5_back_X5 hown hK hP 0 rfl rfl 8 (by decide) (hts (.fieldLink RX5 106 "SpeaksForTheChair" "keptCount" "I") (List.mem_of_getElem? (i := 1) rfl)) (fun _ h9 => h9) rfl dX5_back_1 ?_
  refine lv_iconst (v := 1) hx hb dX5_back_4 (by decide) ?_
  refine lv_icmp_ge (tgt := 11) hx hb dX5_back_5 (by decide) (fun c_1 => ?_) (fun c_1 => ?_)
  · have hf := ip c_1 hf
    refine lv_aload_n hx hb dX5_back_11 rfl (lv_at hl 0 rfl) ?_
    refine lv_dup hx hb dX5_back_12 rfl ?_
    refine va_get (D := D) (ci := 5) (v := .int h_keptCount) (C := RX5) (T := TX5) (N := 10) hx hb hts uX5_back_X5 hown hK hP 0 rfl rfl 8 (by decide) (hts (.fieldLink RX5 106 "SpeaksForTheChair" "keptCount" "I") (List.mem_of_getElem? (i := 1) rfl)) (fun _ h9 => h9) rfl dX5_back_13 ?_
    refine lv_iconst (v := 1) hx hb dX5_back_16 (by decide) ?_
    refine lv_isub hx hb dX5_back_17 ?_
    refine lv_topi (fun f1 ef1 => ?_)
    have hf := pv_eq ef1 hf
    refine va_put (D := D) (ci := 5) (v := .int f1) (ty := .int) (C := RX5) (T := TX5) (N := 10) hx hb hts uX5_back_X5 tyX5 tyX5_ok nmX5 hown hK hP hD hS 0 rfl rfl 8 (by decide) (hts (.fieldLink RX5 106 "SpeaksForTheChair" "keptCount" "I") (List.mem_of_getElem? (i := 1) rfl)) (fun _ h9 => h9) rfl (by decide +kernel) rfl rfl (Nat.le_of_ble_eq_true rfl) dX5_back_18 (fun H locs hP hD hS => ?_)
    have hP : va_P D vwCl [(h, .inr (5, [.ref h_page, .ref h_laid, .ref h_draft, .ref h_now, .ref h_trial, .ref h_past, .ref h_sightings, .ref h_kept, .int f1, .ref h_told])), (h_kept, .inl (cL, 2, .inr (.inl h_kept_c))), (h_now, .inr (4, [.int h_now_rooms, .int h_now_bought, .int h_now_spoken, .int h_now_out, .int h_now_coins])), (h_past, .inr (2, [.ref h_past_ring, .int h_past_next, .int h_past_depth]))] H := hP
    have hD : va_D A [(h, .inr (5, [.ref h_page, .ref h_laid, .ref h_draft, .ref h_now, .ref h_trial, .ref h_past, .ref h_sightings, .ref h_kept, .int f1, .ref h_told])), (h_kept, .inl (cL, 2, .inr (.inl h_kept_c))), (h_now, .inr (4, [.int h_now_rooms, .int h_now_bought, .int h_now_spoken, .int h_now_out, .int h_now_coins])), (h_past, .inr (2, [.ref h_past_ring, .int h_past_next, .int h_past_depth]))] := hD
    refine lv_aload_n hx hb dX5_back_21 rfl (lv_at hl 0 rfl) ?_
    refine va_get (D := D) (ci := 5) (v := .ref h_now) (C := RX5) (T := TX5) (N := 10) hx hb hts uX5_back_X5 hown hK hP 0 rfl rfl 3 (by decide) (hts (.fieldLink RX5 29 "SpeaksForTheChair" "now" "LSpeaksForTheChair$Standing;") (List.mem_of_getElem? (i := 2) rfl)) (fun _ h9 => h9) rfl dX5_back_22 ?_
    refine lv_aload_n hx hb dX5_back_25 rfl (lv_at hl 0 rfl) ?_
    refine va_get (D := D) (ci := 5) (v := .ref h_kept) (C := RX5) (T := TX5) (N := 10) hx hb hts uX5_back_X5 hown hK hP 0 rfl rfl 7 (by decide) (hts (.fieldLink RX5 50 "SpeaksForTheChair" "kept" "[J") (List.mem_of_getElem? (i := 3) rfl)) (fun _ h9 => h9) rfl dX5_back_26 ?_
    refine lv_aload_n hx hb dX5_back_29 rfl (lv_at hl 0 rfl) ?_
    refine va_get (D := D) (ci := 5) (v := .int f1) (C := RX5) (T := TX5) (N := 10) hx hb hts uX5_back_X5 hown hK hP 0 rfl rfl 8 (by decide) (hts (.fieldLink RX5 106 "SpeaksForTheChair" "keptCount" "I") (List.mem_of_getElem? (i := 1) rfl)) (fun _ h9 => h9) rfl dX5_back_30 ?_
    obtain ⟨g_2, hf⟩ := gu_in hf
    refine va_lald hx hb hK hP 1 2 rfl rfl g_2 dX5_back_33 ?_
    obtain ⟨f2, f3, f4, f5, f6, hv_3, hf⟩ := ob5_some hf
    refine q_wVv (As := [.long (h_kept_c f1.toNatClampNeg)]) (rest := []) (w1 := [(h_now, .inr (4, [.int f2, .int f3, .int f4, .int f5, .int f6]))]) (wr := [(h, .inr (5, [.ref h_page, .ref h_laid, .ref h_draft, .ref h_now, .ref h_trial, .ref h_past, .ref h_sightings, .ref h_kept, .int f1, .ref h_told])), (h_kept, .inl (cL, 2, .inr (.inl h_kept_c))), (h_past, .inr (2, [.ref h_past_ring, .int h_past_next, .int h_past_depth]))]) (w2 := [(h, .inr (5, [.ref h_page, .ref h_laid, .ref h_draft, .ref h_now, .ref h_trial, .ref h_past, .ref h_sightings, .ref h_kept, .int f1, .ref h_told])), (h_kept, .inl (cL, 2, .inr (.inl h_kept_c))), (h_now, .inr (4, [.int f2, .int f3, .int f4, .int f5, .int f6])), (h_past, .inr (2, [.ref h_past_ring, .int h_past_next, .int h_past_depth]))]) ⟨hx, hb, hml, hown, hts⟩ (c_X4_unpack l D cI cC cL cB H.size h_now ((h_kept_c f1.toNatClampNeg)) h_now_rooms h_now_bought h_now_spoken h_now_out h_now_coins f2 f3 f4 f5 f6 hv_3) (cwV 1 hts gX5_back_X4_unpack rfl rfl rfl (by decide +kernel) ⟨Nat.le_of_ble_eq_true rfl, Nat.le_of_ble_eq_true rfl⟩) hK hP hD hS hA [2] rfl (by decide) [0, 1, 3] rfl (by decide) (by decide) [0, 1, 3, 2] rfl (by decide) (va_recv hK hP (ci := 4) (q0 := 2) rfl rfl) rfl hl.1 rfl (Nat.le_of_ble_eq_true rfl) dX5_back_34 ⟨Nat.le_of_ble_eq_true rfl, Nat.le_of_ble_eq_true rfl⟩ (fun H locs hP hD hS => ?_)
    have hP : va_P D vwCl [(h, .inr (5, [.ref h_page, .ref h_laid, .ref h_draft, .ref h_now, .ref h_trial, .ref h_past, .ref h_sightings, .ref h_kept, .int f1, .ref h_told])), (h_kept, .inl (cL, 2, .inr (.inl h_kept_c))), (h_now, .inr (4, [.int f2, .int f3, .int f4, .int f5, .int f6])), (h_past, .inr (2, [.ref h_past_ring, .int h_past_next, .int h_past_depth]))] H := hP
    have hD : va_D A [(h, .inr (5, [.ref h_page, .ref h_laid, .ref h_draft, .ref h_now, .ref h_trial, .ref h_past, .ref h_sightings, .ref h_kept, .int f1, .ref h_told])), (h_kept, .inl (cL, 2, .inr (.inl h_kept_c))), (h_now, .inr (4, [.int f2, .int f3, .int f4, .int f5, .int f6])), (h_past, .inr (2, [.ref h_past_ring, .int h_past_next, .int h_past_depth]))] := hD
    refine lv_aload_n hx hb dX5_back_37 rfl (lv_at hl 0 rfl) ?_
    refine va_get (D := D) (ci := 5) (v := .ref h_past) (C := RX5) (T := TX5) (N := 10) hx hb hts uX5_back_X5 hown hK hP 0 rfl rfl 5 (by decide) (hts (.fieldLink RX5 39 "SpeaksForTheChair" "past" "LSpeaksForTheChair$Past;") (List.mem_of_getElem? (i := 4) rfl)) (fun _ h9 => h9) rfl dX5_back_38 ?_
    obtain ⟨f7, hv_4, hf⟩ := ob1_some hf
    refine q_wVv (As := []) (rest := []) (w1 := [(h_past, .inr (2, [.ref h_past_ring, .int h_past_next, .int f7]))]) (wr := [(h, .inr (5, [.ref h_page, .ref h_laid, .ref h_draft, .ref h_now, .ref h_trial, .ref h_past, .ref h_sightings, .ref h_kept, .int f1, .ref h_told])), (h_kept, .inl (cL, 2, .inr (.inl h_kept_c))), (h_now, .inr (4, [.int f2, .int f3, .int f4, .int f5, .int f6]))]) (w2 := [(h, .inr (5, [.ref h_page, .ref h_laid, .ref h_draft, .ref h_now, .ref h_trial, .ref h_past, .ref h_sightings, .ref h_kept, .int f1, .ref h_told])), (h_kept, .inl (cL, 2, .inr (.inl h_kept_c))), (h_now, .inr (4, [.int f2, .int f3, .int f4, .int f5, .int f6])), (h_past, .inr (2, [.ref h_past_ring, .int h_past_next, .int f7]))]) ⟨hx, hb, hml, hown, hts⟩ (c_X2_clear l D cI cC cL cB H.size h_past h_past_ring h_past_next h_past_depth f7 hv_4) (cwV 0 hts gX5_back_X2_clear rfl rfl rfl (by decide +kernel) ⟨Nat.le_of_ble_eq_true rfl, Nat.le_of_ble_eq_true rfl⟩) hK hP hD hS hA [3] rfl (by decide) [0, 1, 2] rfl (by decide) (by decide) [0, 1, 2, 3] rfl (by decide) (va_recv hK hP (ci := 2) (q0 := 3) rfl rfl) rfl hl.1 rfl (Nat.le_of_ble_eq_true rfl) dX5_back_41 ⟨Nat.le_of_ble_eq_true rfl, Nat.le_of_ble_eq_true rfl⟩ (fun H locs hP hD hS => ?_)
    have hP : va_P D vwCl [(h, .inr (5, [.ref h_page, .ref h_laid, .ref h_draft, .ref h_now, .ref h_trial, .ref h_past, .ref h_sightings, .ref h_kept, .int f1, .ref h_told])), (h_kept, .inl (cL, 2, .inr (.inl h_kept_c))), (h_now, .inr (4, [.int f2, .int f3, .int f4, .int f5, .int f6])), (h_past, .inr (2, [.ref h_past_ring, .int h_past_next, .int f7]))] H := hP
    have hD : va_D A [(h, .inr (5, [.ref h_page, .ref h_laid, .ref h_draft, .ref h_now, .ref h_trial, .ref h_past, .ref h_sightings, .ref h_kept, .int f1, .ref h_told])), (h_kept, .inl (cL, 2, .inr (.inl h_kept_c))), (h_now, .inr (4, [.int f2, .int f3, .int f4, .int f5, .int f6])), (h_past, .inr (2, [.ref h_past_ring, .int h_past_next, .int f7]))] := hD
    refine lv_aload_n hx hb dX5_back_44 rfl (lv_at hl 0 rfl) ?_
    refine va_get (D := D) (ci := 5) (v := .int f1) (C := RX5) (T := TX5) (N := 10) hx hb hts uX5_back_X5 hown hK hP 0 rfl rfl 8 (by decide) (hts (.fieldLink RX5 106 "SpeaksForTheChair" "keptCount" "I") (List.mem_of_getElem? (i := 1) rfl)) (fun _ h9 => h9) rfl dX5_back_45 ?_
    cases hf
    exact W.iret hx hb hr (fun t ht hW => ⟨⟨_, (), rfl, rfl, by rw [ht]; exact hP, va_K.moved hW.alike hK, hD⟩, hS.F ht⟩) hS.2.2 dX5_back_48
  · have hf := im c_1 hf
    refine lv_bipush (v := (-2)) hx hb dX5_back_8 (by decide) ?_
    cases hf
    exact W.iret hx hb hr (fun t ht hW => ⟨⟨_, (), rfl, rfl, by rw [ht]; exact hP, va_K.moved hW.alike hK, hD⟩, hS.F ht⟩) hS.2.2 dX5_back_10
theorem uX5_count_X0 : ∀ w ∈ wsX00, w ∈ wsX5_count := fun w h => List.mem_cons_of_mem _ (List.mem_append_left _ (List.mem_append_left _ (List.mem_append_left _ (List.mem_append_left _ (List.mem_append_right _ h)))))
theorem uX5_count_X1 : ∀ w ∈ wsX10, w ∈ wsX5_count := fun w h => List.mem_cons_of_mem _ (List.mem_append_right _ h)
theorem uX5_count_X2 : ∀ w ∈ wsX20, w ∈ wsX5_count := fun w h => List.mem_cons_of_mem _ (List.mem_append_left _ (List.mem_append_right _ h))
theorem uX5_count_X3 : ∀ w ∈ wsX30, w ∈ wsX5_count := fun w h => List.mem_cons_of_mem _ (List.mem_append_left _ (List.mem_append_left _ (List.mem_append_right _ h)))
theorem uX5_count_X4 : ∀ w ∈ wsX40, w ∈ wsX5_count := fun w h => List.mem_cons_of_mem _ (List.mem_append_left _ (List.mem_append_left _ (List.mem_append_left _ (List.mem_append_right _ h))))
theorem uX5_count_X5 : ∀ w ∈ wsX50, w ∈ wsX5_count := fun w h => List.mem_cons_of_mem _ (List.mem_append_left _ (List.mem_append_left _ (List.mem_append_left _ (List.mem_append_left _ (List.mem_append_left _ (List.mem_append_right _ h))))))
set_option maxHeartbeats 4000000 in
set_option maxRecDepth 100000 in
theorem c_X5_count (l : Launch) (D : va_G) (cI cC cL cB : ClassId) (h : Nat) (h_page : Nat) (h_laid : Nat) (h_draft : Nat) (h_now : Nat) (h_trial : Nat) (h_past : Nat) (h_sightings : Nat) (h_kept : Nat) (h_told : Nat) (h_page_letters : Nat) (h_past_ring : Nat) (h_sightings_pieces : Nat) (h_sightings_deeds : Nat) (h_sightings_tells : Nat) (h_laid_kinds : Nat) (h_laid_prices : Nat) (h_laid_persons : Nat) (h_laid_places : Nat) (h_laid_hours : Nat) (h_laid_weights : Nat) (h_laid_numbers : Nat) (a1 : Int32) (h_keptCount : Int32) (h_page_length : Int32) (h_past_next : Int32) (h_past_depth : Int32) (h_sightings_length : Int32) (h_now_rooms : Int32) (h_now_bought : Int32) (h_now_spoken : Int32) (h_now_out : Int32) (h_now_coins : Int32) (h_laid_pieces : Int32) (h_laid_roomsAtFirst : Int32) (h_laid_deeds : Int32) (h_laid_coins : Int32) (h_laid_law : Int32) (h_laid_kinds_c : Nat → Int32) (r : Int32) (hf : m_X5_count a1 h_keptCount h_page_length h_past_depth h_sightings_length h_now_bought h_now_spoken h_now_out h_now_coins h_laid_pieces h_laid_deeds h_laid_law h_laid_kinds_c = some r) : Met l yX5_count wsX5_count ({ frames := 3, cells := 0, slots := 0, locals := 65 }) (va_Pc [.ref h, .int a1] (q_R D vwCl (tyL cI cC cL cB) [(h, .inr (5, [.ref h_page, .ref h_laid, .ref h_draft, .ref h_now, .ref h_trial, .ref h_past, .ref h_sightings, .ref h_kept, .int h_keptCount, .ref h_told])), (h_page, .inr (1, [.ref h_page_letters, .int h_page_length])), (h_past, .inr (2, [.ref h_past_ring, .int h_past_next, .int h_past_depth])), (h_sightings, .inr (3, [.ref h_sightings_pieces, .ref h_sightings_deeds, .ref h_sightings_tells, .int h_sightings_length])), (h_now, .inr (4, [.int h_now_rooms, .int h_now_bought, .int h_now_spoken, .int h_now_out, .int h_now_coins])), (h_laid, .inr (0, [.int h_laid_pieces, .ref h_laid_kinds, .ref h_laid_prices, .int h_laid_roomsAtFirst, .int h_laid_deeds, .ref h_laid_persons, .ref h_laid_places, .ref h_laid_hours, .ref h_laid_weights, .int h_laid_coins, .int h_laid_law, .ref h_laid_numbers])), (h_laid_kinds, .inl (cI, 8, .inl h_laid_kinds_c))])) (vp_Si (fun r' => r' = r)) 0 0 (fun _ => False) := by
  refine Met.ofW (cc := cX5_count) (maxL := 2) (ret := (some .int)) (by decide) rfl ?_
  intro p e s m args below meth c s₁ B hml hv
  obtain ⟨rfl, hP, hK⟩ := hv
  have hx := B.exec
  have hb := B.bytes
  have hr := B.returns
  have hts := atoms_spec (ws := wsX5_count) B.pre
  have hown : s.vm.findClass RX5 = some m.cls := findClass_of_methodNamed B.named
  have hlocks := B.notSynchronized
  have hl := lv_entry ([.ref h, .int a1]) (n := 2) (Nat.le_of_ble_eq_true rfl)
  rw [lg_entry_eq]
  generalize (lg_sl ([.ref h, .int a1]) ++ List.replicate (2 - (lg_sl ([.ref h, .int a1])).length) Slot.unset).toArray = ls at hl ⊢
  have hl : lv_has ls 2 [(0, .ref h), (1, .int a1)] := hl
  unfold m_X5_count at hf
  refine lv_iload_n hx hb dX5_count_0 rfl (lv_at hl 1 rfl) ?_
  by_cases k0 : a1 = 0
  · have hf := ip k0 hf
    refine lv_tableIn (tgt := 60) hx hb dX5_count_1 (by rw [k0]; decide) (by rw [k0]; decide) (by rw [k0] <;> rfl) (by decide) ?_
    refine lv_aload_n hx hb dX5_count_60 rfl (lv_at hl 0 rfl) ?_
    refine va_get (D := D) (ci := 5) (v := .ref h_laid) (C := RX5) (T := TX5) (N := 10) hx hb hts uX5_count_X5 hown hK hP 0 rfl rfl 1 (by decide) (hts (.fieldLink RX5 19 "SpeaksForTheChair" "laid" "LSpeaksForTheChair$House;") (List.mem_of_getElem? (i := 1) rfl)) (fun _ h9 => h9) rfl dX5_count_61 ?_
    refine va_get (D := D) (ci := 0) (v := .int h_laid_pieces) (C := RX0) (T := TX0) (N := 12) hx hb hts uX5_count_X0 hown hK hP 5 rfl rfl 0 (by decide) (hts (.fieldLink RX5 91 "SpeaksForTheChair$House" "pieces" "I") (List.mem_of_getElem? (i := 2) rfl)) (fun _ h9 => h9) rfl dX5_count_64 ?_
    cases hf
    exact W.iret hx hb hr (fun t ht hW => ⟨_, rfl, rfl, ht⟩) (fun _ h => by cases h) dX5_count_67
  · have hf := im k0 hf
    by_cases k1 : a1 = 1
    · have hf := ip k1 hf
      refine lv_tableIn (tgt := 68) hx hb dX5_count_1 (by rw [k1]; decide) (by rw [k1]; decide) (by rw [k1] <;> rfl) (by decide) ?_
      refine lv_aload_n hx hb dX5_count_68 rfl (lv_at hl 0 rfl) ?_
      refine va_get (D := D) (ci := 5) (v := .ref h_laid) (C := RX5) (T := TX5) (N := 10) hx hb hts uX5_count_X5 hown hK hP 0 rfl rfl 1 (by decide) (hts (.fieldLink RX5 19 "SpeaksForTheChair" "laid" "LSpeaksForTheChair$House;") (List.mem_of_getElem? (i := 1) rfl)) (fun _ h9 => h9) rfl dX5_count_69 ?_
      refine va_get (D := D) (ci := 0) (v := .int h_laid_deeds) (C := RX0) (T := TX0) (N := 12) hx hb hts uX5_count_X0 hown hK hP 5 rfl rfl 4 (by decide) (hts (.fieldLink RX5 220 "SpeaksForTheChair$House" "deeds" "I") (List.mem_of_getElem? (i := 3) rfl)) (fun _ h9 => h9) rfl dX5_count_72 ?_
      cases hf
      exact W.iret hx hb hr (fun t ht hW => ⟨_, rfl, rfl, ht⟩) (fun _ h => by cases h) dX5_count_75
    · have hf := im k1 hf
      by_cases k2 : a1 = 2
      · have hf := ip k2 hf
        refine lv_tableIn (tgt := 76) hx hb dX5_count_1 (by rw [k2]; decide) (by rw [k2]; decide) (by rw [k2] <;> rfl) (by decide) ?_
        refine lv_aload_n hx hb dX5_count_76 rfl (lv_at hl 0 rfl) ?_
        refine va_get (D := D) (ci := 5) (v := .ref h_now) (C := RX5) (T := TX5) (N := 10) hx hb hts uX5_count_X5 hown hK hP 0 rfl rfl 3 (by decide) (hts (.fieldLink RX5 29 "SpeaksForTheChair" "now" "LSpeaksForTheChair$Standing;") (List.mem_of_getElem? (i := 4) rfl)) (fun _ h9 => h9) rfl dX5_count_77 ?_
        refine va_get (D := D) (ci := 4) (v := .int h_now_coins) (C := RX4) (T := TX4) (N := 5) hx hb hts uX5_count_X4 hown hK hP 4 rfl rfl 4 (by decide) (hts (.fieldLink RX5 172 "SpeaksForTheChair$Standing" "coins" "I") (List.mem_of_getElem? (i := 5) rfl)) (fun _ h9 => h9) rfl dX5_count_80 ?_
        cases hf
        exact W.iret hx hb hr (fun t ht hW => ⟨_, rfl, rfl, ht⟩) (fun _ h => by cases h) dX5_count_83
      · have hf := im k2 hf
        by_cases k3 : a1 = 3
        · have hf := ip k3 hf
          refine lv_tableIn (tgt := 84) hx hb dX5_count_1 (by rw [k3]; decide) (by rw [k3]; decide) (by rw [k3] <;> rfl) (by decide) ?_
          refine lv_aload_n hx hb dX5_count_84 rfl (lv_at hl 0 rfl) ?_
          obtain ⟨x4, hv_4, hf⟩ := ob1_some hf
          refine q_rVi (As := []) (rest := []) (r := x4) ⟨hx, hb, hml, hown, hts⟩ (c_X5_looseOnes l D cI cC cL cB h h_page h_laid h_draft h_now h_trial h_past h_sightings h_kept h_told h_laid_kinds h_laid_prices h_laid_persons h_laid_places h_laid_hours h_laid_weights h_laid_numbers h_keptCount h_laid_pieces h_laid_roomsAtFirst h_laid_deeds h_laid_coins h_laid_law h_now_rooms h_now_bought h_now_spoken h_now_out h_now_coins h_laid_kinds_c x4 hv_4) (cwV 0 hts gX5_count_X5_looseOnes rfl rfl rfl (by decide +kernel) ⟨Nat.le_of_ble_eq_true rfl, Nat.le_of_ble_eq_true rfl⟩) hK hP [0, 5, 4, 6] rfl (va_recv hK hP (ci := 5) (q0 := 0) rfl rfl) rfl hl.1 rfl (Nat.le_of_ble_eq_true rfl) dX5_count_85 ⟨Nat.le_of_ble_eq_true rfl, Nat.le_of_ble_eq_true rfl⟩ ?_
          obtain ⟨x5, hv_5, hf⟩ := ob1_some hf
          refine q_rSi (As := [.int x4]) (rest := []) (r := x5) ⟨hx, hb, hml, hown, hts⟩ (c_J6_bitCount_0f7a4 l D cI cC cL cB x4 x5 hv_5) (va_cwS 1 hts gX5_count_J6_bitCount_0f7a4 rfl rfl rfl (by decide +kernel) ⟨Nat.le_of_ble_eq_true rfl, Nat.le_of_ble_eq_true rfl⟩) hK hP [] rfl rfl hl.1 rfl (Nat.le_of_ble_eq_true rfl) dX5_count_88 ⟨Nat.le_of_ble_eq_true rfl, Nat.le_of_ble_eq_true rfl⟩ ?_
          cases hf
          exact W.iret hx hb hr (fun t ht hW => ⟨_, rfl, rfl, ht⟩) (fun _ h => by cases h) dX5_count_91
        · have hf := im k3 hf
          by_cases k4 : a1 = 4
          · have hf := ip k4 hf
            refine lv_tableIn (tgt := 92) hx hb dX5_count_1 (by rw [k4]; decide) (by rw [k4]; decide) (by rw [k4] <;> rfl) (by decide) ?_
            refine lv_aload_n hx hb dX5_count_92 rfl (lv_at hl 0 rfl) ?_
            refine va_get (D := D) (ci := 5) (v := .ref h_now) (C := RX5) (T := TX5) (N := 10) hx hb hts uX5_count_X5 hown hK hP 0 rfl rfl 3 (by decide) (hts (.fieldLink RX5 29 "SpeaksForTheChair" "now" "LSpeaksForTheChair$Standing;") (List.mem_of_getElem? (i := 4) rfl)) (fun _ h9 => h9) rfl dX5_count_93 ?_
            refine va_get (D := D) (ci := 4) (v := .int h_now_bought) (C := RX4) (T := TX4) (N := 5) hx hb hts uX5_count_X4 hown hK hP 4 rfl rfl 1 (by decide) (hts (.fieldLink RX5 250 "SpeaksForTheChair$Standing" "bought" "I") (List.mem_of_getElem? (i := 6) rfl)) (fun _ h9 => h9) rfl dX5_count_96 ?_
            obtain ⟨x3, hv_3, hf⟩ := ob1_some hf
            refine q_rSi (As := [.int h_now_bought]) (rest := []) (r := x3) ⟨hx, hb, hml, hown, hts⟩ (c_J6_bitCount_0f7a4 l D cI cC cL cB h_now_bought x3 hv_3) (va_cwS 1 hts gX5_count_J6_bitCount_0f7a4 rfl rfl rfl (by decide +kernel) ⟨Nat.le_of_ble_eq_true rfl, Nat.le_of_ble_eq_true rfl⟩) hK hP [] rfl rfl hl.1 rfl (Nat.le_of_ble_eq_true rfl) dX5_count_99 ⟨Nat.le_of_ble_eq_true rfl, Nat.le_of_ble_eq_true rfl⟩ ?_
            cases hf
            exact W.iret hx hb hr (fun t ht hW => ⟨_, rfl, rfl, ht⟩) (fun _ h => by cases h) dX5_count_102
          · have hf := im k4 hf
            by_cases k5 : a1 = 5
            · have hf := ip k5 hf
              refine lv_tableIn (tgt := 103) hx hb dX5_count_1 (by rw [k5]; decide) (by rw [k5]; decide) (by rw [k5] <;> rfl) (by decide) ?_
              refine lv_aload_n hx hb dX5_count_103 rfl (lv_at hl 0 rfl) ?_
              refine va_get (D := D) (ci := 5) (v := .ref h_now) (C := RX5) (T := TX5) (N := 10) hx hb hts uX5_count_X5 hown hK hP 0 rfl rfl 3 (by decide) (hts (.fieldLink RX5 29 "SpeaksForTheChair" "now" "LSpeaksForTheChair$Standing;") (List.mem_of_getElem? (i := 4) rfl)) (fun _ h9 => h9) rfl dX5_count_104 ?_
              refine va_get (D := D) (ci := 4) (v := .int h_now_spoken) (C := RX4) (T := TX4) (N := 5) hx hb hts uX5_count_X4 hown hK hP 4 rfl rfl 2 (by decide) (hts (.fieldLink RX5 253 "SpeaksForTheChair$Standing" "spoken" "I") (List.mem_of_getElem? (i := 7) rfl)) (fun _ h9 => h9) rfl dX5_count_107 ?_
              obtain ⟨x2, hv_2, hf⟩ := ob1_some hf
              refine q_rSi (As := [.int h_now_spoken]) (rest := []) (r := x2) ⟨hx, hb, hml, hown, hts⟩ (c_J6_bitCount_0f7a4 l D cI cC cL cB h_now_spoken x2 hv_2) (va_cwS 1 hts gX5_count_J6_bitCount_0f7a4 rfl rfl rfl (by decide +kernel) ⟨Nat.le_of_ble_eq_true rfl, Nat.le_of_ble_eq_true rfl⟩) hK hP [] rfl rfl hl.1 rfl (Nat.le_of_ble_eq_true rfl) dX5_count_110 ⟨Nat.le_of_ble_eq_true rfl, Nat.le_of_ble_eq_true rfl⟩ ?_
              cases hf
              exact W.iret hx hb hr (fun t ht hW => ⟨_, rfl, rfl, ht⟩) (fun _ h => by cases h) dX5_count_113
            · have hf := im k5 hf
              by_cases k6 : a1 = 6
              · have hf := ip k6 hf
                refine lv_tableIn (tgt := 114) hx hb dX5_count_1 (by rw [k6]; decide) (by rw [k6]; decide) (by rw [k6] <;> rfl) (by decide) ?_
                refine lv_aload_n hx hb dX5_count_114 rfl (lv_at hl 0 rfl) ?_
                refine va_get (D := D) (ci := 5) (v := .ref h_now) (C := RX5) (T := TX5) (N := 10) hx hb hts uX5_count_X5 hown hK hP 0 rfl rfl 3 (by decide) (hts (.fieldLink RX5 29 "SpeaksForTheChair" "now" "LSpeaksForTheChair$Standing;") (List.mem_of_getElem? (i := 4) rfl)) (fun _ h9 => h9) rfl dX5_count_115 ?_
                refine va_get (D := D) (ci := 4) (v := .int h_now_out) (C := RX4) (T := TX4) (N := 5) hx hb hts uX5_count_X4 hown hK hP 4 rfl rfl 3 (by decide) (hts (.fieldLink RX5 191 "SpeaksForTheChair$Standing" "out" "I") (List.mem_of_getElem? (i := 8) rfl)) (fun _ h9 => h9) rfl dX5_count_118 ?_
                obtain ⟨x1, hv_1, hf⟩ := ob1_some hf
                refine q_rSi (As := [.int h_now_out]) (rest := []) (r := x1) ⟨hx, hb, hml, hown, hts⟩ (c_J6_bitCount_0f7a4 l D cI cC cL cB h_now_out x1 hv_1) (va_cwS 1 hts gX5_count_J6_bitCount_0f7a4 rfl rfl rfl (by decide +kernel) ⟨Nat.le_of_ble_eq_true rfl, Nat.le_of_ble_eq_true rfl⟩) hK hP [] rfl rfl hl.1 rfl (Nat.le_of_ble_eq_true rfl) dX5_count_121 ⟨Nat.le_of_ble_eq_true rfl, Nat.le_of_ble_eq_true rfl⟩ ?_
                cases hf
                exact W.iret hx hb hr (fun t ht hW => ⟨_, rfl, rfl, ht⟩) (fun _ h => by cases h) dX5_count_124
              · have hf := im k6 hf
                by_cases k7 : a1 = 7
                · have hf := ip k7 hf
                  refine lv_tableIn (tgt := 125) hx hb dX5_count_1 (by rw [k7]; decide) (by rw [k7]; decide) (by rw [k7] <;> rfl) (by decide) ?_
                  refine lv_aload_n hx hb dX5_count_125 rfl (lv_at hl 0 rfl) ?_
                  refine va_get (D := D) (ci := 5) (v := .ref h_sightings) (C := RX5) (T := TX5) (N := 10) hx hb hts uX5_count_X5 hown hK hP 0 rfl rfl 6 (by decide) (hts (.fieldLink RX5 46 "SpeaksForTheChair" "sightings" "LSpeaksForTheChair$Sightings;") (List.mem_of_getElem? (i := 9) rfl)) (fun _ h9 => h9) rfl dX5_count_126 ?_
                  refine va_get (D := D) (ci := 3) (v := .int h_sightings_length) (C := RX3) (T := TX3) (N := 4) hx hb hts uX5_count_X3 hown hK hP 3 rfl rfl 3 (by decide) (hts (.fieldLink RX5 236 "SpeaksForTheChair$Sightings" "length" "I") (List.mem_of_getElem? (i := 10) rfl)) (fun _ h9 => h9) rfl dX5_count_129 ?_
                  cases hf
                  exact W.iret hx hb hr (fun t ht hW => ⟨_, rfl, rfl, ht⟩) (fun _ h => by cases h) dX5_count_132
                · have hf := im k7 hf
                  by_cases k8 : a1 = 8
                  · have hf := ip k8 hf
                    refine lv_tableIn (tgt := 133) hx hb dX5_count_1 (by rw [k8]; decide) (by rw [k8]; decide) (by rw [k8] <;> rfl) (by decide) ?_
                    refine lv_aload_n hx hb dX5_count_133 rfl (lv_at hl 0 rfl) ?_
                    refine va_get (D := D) (ci := 5) (v := .ref h_past) (C := RX5) (T := TX5) (N := 10) hx hb hts uX5_count_X5 hown hK hP 0 rfl rfl 5 (by decide) (hts (.fieldLink RX5 39 "SpeaksForTheChair" "past" "LSpeaksForTheChair$Past;") (List.mem_of_getElem? (i := 11) rfl)) (fun _ h9 => h9) rfl dX5_count_134 ?_
                    refine va_get (D := D) (ci := 2) (v := .int h_past_depth) (C := RX2) (T := TX2) (N := 3) hx hb hts uX5_count_X2 hown hK hP 2 rfl rfl 2 (by decide) (hts (.fieldLink RX5 176 "SpeaksForTheChair$Past" "depth" "I") (List.mem_of_getElem? (i := 12) rfl)) (fun _ h9 => h9) rfl dX5_count_137 ?_
                    cases hf
                    exact W.iret hx hb hr (fun t ht hW => ⟨_, rfl, rfl, ht⟩) (fun _ h => by cases h) dX5_count_140
                  · have hf := im k8 hf
                    by_cases k9 : a1 = 9
                    · have hf := ip k9 hf
                      refine lv_tableIn (tgt := 141) hx hb dX5_count_1 (by rw [k9]; decide) (by rw [k9]; decide) (by rw [k9] <;> rfl) (by decide) ?_
                      refine lv_aload_n hx hb dX5_count_141 rfl (lv_at hl 0 rfl) ?_
                      refine va_get (D := D) (ci := 5) (v := .int h_keptCount) (C := RX5) (T := TX5) (N := 10) hx hb hts uX5_count_X5 hown hK hP 0 rfl rfl 8 (by decide) (hts (.fieldLink RX5 106 "SpeaksForTheChair" "keptCount" "I") (List.mem_of_getElem? (i := 13) rfl)) (fun _ h9 => h9) rfl dX5_count_142 ?_
                      cases hf
                      exact W.iret hx hb hr (fun t ht hW => ⟨_, rfl, rfl, ht⟩) (fun _ h => by cases h) dX5_count_145
                    · have hf := im k9 hf
                      by_cases k10 : a1 = 10
                      · have hf := ip k10 hf
                        refine lv_tableIn (tgt := 146) hx hb dX5_count_1 (by rw [k10]; decide) (by rw [k10]; decide) (by rw [k10] <;> rfl) (by decide) ?_
                        refine lv_aload_n hx hb dX5_count_146 rfl (lv_at hl 0 rfl) ?_
                        refine va_get (D := D) (ci := 5) (v := .ref h_page) (C := RX5) (T := TX5) (N := 10) hx hb hts uX5_count_X5 hown hK hP 0 rfl rfl 0 (by decide) (hts (.fieldLink RX5 10 "SpeaksForTheChair" "page" "LSpeaksForTheChair$Page;") (List.mem_of_getElem? (i := 14) rfl)) (fun _ h9 => h9) rfl dX5_count_147 ?_
                        refine va_get (D := D) (ci := 1) (v := .int h_page_length) (C := RX1) (T := TX1) (N := 2) hx hb hts uX5_count_X1 hown hK hP 1 rfl rfl 1 (by decide) (hts (.fieldLink RX5 84 "SpeaksForTheChair$Page" "length" "I") (List.mem_of_getElem? (i := 15) rfl)) (fun _ h9 => h9) rfl dX5_count_150 ?_
                        cases hf
                        exact W.iret hx hb hr (fun t ht hW => ⟨_, rfl, rfl, ht⟩) (fun _ h => by cases h) dX5_count_153
                      · have hf := im k10 hf
                        refine lv_tableOut (tgt := 154) hx hb dX5_count_1 (sw_out 11 (fun k hk => ?_)) (by decide) ?_
                        · rcases (show k = 0 ∨ k = 1 ∨ k = 2 ∨ k = 3 ∨ k = 4 ∨ k = 5 ∨ k = 6 ∨ k = 7 ∨ k = 8 ∨ k = 9 ∨ k = 10 by omega) with rfl | rfl | rfl | rfl | rfl | rfl | rfl | rfl | rfl | rfl | rfl
                          · exact lv_neT k0 rfl
                          · exact lv_neT k1 rfl
                          · exact lv_neT k2 rfl
                          · exact lv_neT k3 rfl
                          · exact lv_neT k4 rfl
                          · exact lv_neT k5 rfl
                          · exact lv_neT k6 rfl
                          · exact lv_neT k7 rfl
                          · exact lv_neT k8 rfl
                          · exact lv_neT k9 rfl
                          · exact lv_neT k10 rfl
                        · refine lv_iconst (v := (-1)) hx hb dX5_count_154 (by decide) ?_
                          cases hf
                          exact W.iret hx hb hr (fun t ht hW => ⟨_, rfl, rfl, ht⟩) (fun _ h => by cases h) dX5_count_155
theorem uX6_tellsPiece_X6 : ∀ w ∈ wsX60, w ∈ wsX6_tellsPiece := fun w h => List.mem_cons_of_mem _ (List.mem_append_right _ h)
set_option maxHeartbeats 4000000 in
set_option maxRecDepth 100000 in
theorem c_X6_tellsPiece (l : Launch) (D : va_G) (cI cC cL cB : ClassId) (sz : Nat) (h : Nat) (h_piece : Nat) (h_deed : Nat) (h_st : Nat) (h_was : Nat) (h_kept : Nat) (h_seen : Nat) (h_text : Nat) (h_told : Nat) (h_readPiece : Nat) (h_readRoom : Nat) (h_readDeed : Nat) (h_now : Nat) (a1 : Int32) (a2 : Int32) (a3 : Int32) (h_pieces : Int32) (h_deeds : Int32) (h_law : Int32) (h_acts : Int32) (h_keeps : Int32) (h_seens : Int32) (h_texted : Int32) (h_at : Int32) (h_readPieces : Int32) (h_readDeeds : Int32) (h_readCoins : Int32) (h_readLaw : Int32) (h_readPiece_c : Nat → Int32) (h_readRoom_c : Nat → Int32) (o0 : Int32) (o1 : Nat → Int32) (o2 : Nat → Int32) (hf : m_X6_tellsPiece a1 a2 a3 h_readPieces h_readPiece_c h_readRoom_c = some (o0, o1, o2)) : Met l yX6_tellsPiece wsX6_tellsPiece ({ frames := 0, cells := 0, slots := 0, locals := 0 }) (va_Pc [.ref h, .int a1, .int a2, .int a3] (q_W D vwCl (tyL cI cC cL cB) [(h, .inr (6, [.int h_pieces, .ref h_piece, .int h_deeds, .ref h_deed, .int h_law, .ref h_st, .int h_acts, .ref h_was, .int h_keeps, .ref h_kept, .int h_seens, .ref h_seen, .ref h_text, .int h_texted, .int h_at, .ref h_told, .int h_readPieces, .ref h_readPiece, .ref h_readRoom, .int h_readDeeds, .ref h_readDeed, .int h_readCoins, .int h_readLaw, .ref h_now])), (h_readPiece, .inl (cI, 16, .inl h_readPiece_c)), (h_readRoom, .inl (cI, 8, .inl h_readRoom_c))] sz)) (va_Qv (fun _ : Unit => True) (q_E D vwCl (tyL cI cC cL cB) (va_A [(h, .inr (6, [.int h_pieces, .ref h_piece, .int h_deeds, .ref h_deed, .int h_law, .ref h_st, .int h_acts, .ref h_was, .int h_keeps, .ref h_kept, .int h_seens, .ref h_seen, .ref h_text, .int h_texted, .int h_at, .ref h_told, .int h_readPieces, .ref h_readPiece, .ref h_readRoom, .int h_readDeeds, .ref h_readDeed, .int h_readCoins, .int h_readLaw, .ref h_now])), (h_readPiece, .inl (cI, 16, .inl h_readPiece_c)), (h_readRoom, .inl (cI, 8, .inl h_readRoom_c))] sz) [(h, .inr (6, [.int h_pieces, .ref h_piece, .int h_deeds, .ref h_deed, .int h_law, .ref h_st, .int h_acts, .ref h_was, .int h_keeps, .ref h_kept, .int h_seens, .ref h_seen, .ref h_text, .int h_texted, .int h_at, .ref h_told, .int o0, .ref h_readPiece, .ref h_readRoom, .int h_readDeeds, .ref h_readDeed, .int h_readCoins, .int h_readLaw, .ref h_now])), (h_readPiece, .inl (cI, 16, .inl o1)), (h_readRoom, .inl (cI, 8, .inl o2))]) (va_A [(h, .inr (6, [.int h_pieces, .ref h_piece, .int h_deeds, .ref h_deed, .int h_law, .ref h_st, .int h_acts, .ref h_was, .int h_keeps, .ref h_kept, .int h_seens, .ref h_seen, .ref h_text, .int h_texted, .int h_at, .ref h_told, .int h_readPieces, .ref h_readPiece, .ref h_readRoom, .int h_readDeeds, .ref h_readDeed, .int h_readCoins, .int h_readLaw, .ref h_now])), (h_readPiece, .inl (cI, 16, .inl h_readPiece_c)), (h_readRoom, .inl (cI, 8, .inl h_readRoom_c))] sz)) 0 0 (va_A [(h, .inr (6, [.int h_pieces, .ref h_piece, .int h_deeds, .ref h_deed, .int h_law, .ref h_st, .int h_acts, .ref h_was, .int h_keeps, .ref h_kept, .int h_seens, .ref h_seen, .ref h_text, .int h_texted, .int h_at, .ref h_told, .int h_readPieces, .ref h_readPiece, .ref h_readRoom, .int h_readDeeds, .ref h_readDeed, .int h_readCoins, .int h_readLaw, .ref h_now])), (h_readPiece, .inl (cI, 16, .inl h_readPiece_c)), (h_readRoom, .inl (cI, 8, .inl h_readRoom_c))] sz) := by
  refine Met.ofW (cc := cX6_tellsPiece) (maxL := 4) (ret := none) (by decide) rfl ?_
  intro p e s m args below meth c s₁ B hml hv
  obtain ⟨rfl, hsz, hP, hK, hD0⟩ := hv
  have hx := B.exec
  have hb := B.bytes
  have hr := B.returns
  have hts := atoms_spec (ws := wsX6_tellsPiece) B.pre
  have hown : s.vm.findClass RX6 = some m.cls := findClass_of_methodNamed B.named
  have hlocks := B.notSynchronized
  subst hsz
  have hD := hD0.self (sz := s.heap.size)
  generalize hAe : va_A [(h, .inr (6, [.int h_pieces, .ref h_piece, .int h_deeds, .ref h_deed, .int h_law, .ref h_st, .int h_acts, .ref h_was, .int h_keeps, .ref h_kept, .int h_seens, .ref h_seen, .ref h_text, .int h_texted, .int h_at, .ref h_told, .int h_readPieces, .ref h_readPiece, .ref h_readRoom, .int h_readDeeds, .ref h_readDeed, .int h_readCoins, .int h_readLaw, .ref h_now])), (h_readPiece, .inl (cI, 16, .inl h_readPiece_c)), (h_readRoom, .inl (cI, 8, .inl h_readRoom_c))] s.heap.size = A at hD ⊢
  have hA : ∀ q : Nat, s.heap.size ≤ q → A q := fun q h => by rw [← hAe]; exact Or.inr h
  have hS : va_S A s.heap s.heap [] := va_S.rf
  have hP : va_P D vwCl [(h, .inr (6, [.int h_pieces, .ref h_piece, .int h_deeds, .ref h_deed, .int h_law, .ref h_st, .int h_acts, .ref h_was, .int h_keeps, .ref h_kept, .int h_seens, .ref h_seen, .ref h_text, .int h_texted, .int h_at, .ref h_told, .int h_readPieces, .ref h_readPiece, .ref h_readRoom, .int h_readDeeds, .ref h_readDeed, .int h_readCoins, .int h_readLaw, .ref h_now])), (h_readPiece, .inl (cI, 16, .inl h_readPiece_c)), (h_readRoom, .inl (cI, 8, .inl h_readRoom_c))] s.heap := hP
  have hl := lv_entry ([.ref h, .int a1, .int a2, .int a3]) (n := 4) (Nat.le_of_ble_eq_true rfl)
  rw [lg_entry_eq]
  generalize (lg_sl ([.ref h, .int a1, .int a2, .int a3]) ++ List.replicate (4 - (lg_sl ([.ref h, .int a1, .int a2, .int a3])).length) Slot.unset).toArray = ls at hl ⊢
  have hl : lv_has ls 4 [(0, .ref h), (1, .int a1), (2, .int a2), (3, .int a3)] := hl
  unfold m_X6_tellsPiece at hf
  refine lv_aload_n hx hb dX6_tellsPiece_0 rfl (lv_at hl 0 rfl) ?_
  refine va_get (D := D) (ci := 6) (v := .ref h_readPiece) (C := RX6) (T := TX6) (N := 24) hx hb hts uX6_tellsPiece_X6 hown hK hP 0 rfl rfl 17 (by decide) (hts (.fieldLink RX6 34 "SpeaksForTheChairModel" "readPiece" "[I") (List.mem_of_getElem? (i := 1) rfl)) (fun _ h9 => h9) rfl dX6_tellsPiece_1 ?_
  refine lv_iconst (v := 2) hx hb dX6_tellsPiece_4 (by decide) ?_
  refine lv_aload_n hx hb dX6_tellsPiece_5 rfl (lv_at hl 0 rfl) ?_
  refine va_get (D := D) (ci := 6) (v := .int h_readPieces) (C := RX6) (T := TX6) (N := 24) hx hb hts uX6_tellsPiece_X6 hown hK hP 0 rfl rfl 16 (by decide) (hts (.fieldLink RX6 67 "SpeaksForTheChairModel" "readPieces" "I") (List.mem_of_getElem? (i := 2) rfl)) (fun _ h9 => h9) rfl dX6_tellsPiece_6 ?_
  refine lv_imul hx hb dX6_tellsPiece_9 ?_
  refine lv_iload_n hx hb dX6_tellsPiece_10 rfl (lv_at hl 1 rfl) ?_
  obtain ⟨g_1, hf⟩ := gu_in hf
  refine va_iast hx hb hK hP hD hS 1 0 rfl rfl g_1 dX6_tellsPiece_11 (fun H locs hP hD hS => ?_)
  obtain ⟨c1, ec1⟩ : ∃ y : Nat → Int32, y = (upd h_readPiece_c ((2 * h_readPieces) : Int32).toNatClampNeg a1) := ⟨_, rfl⟩
  have hf := pv_eq ec1 hf
  rw [← ec1] at hP hD
  have hP : va_P D vwCl [(h, .inr (6, [.int h_pieces, .ref h_piece, .int h_deeds, .ref h_deed, .int h_law, .ref h_st, .int h_acts, .ref h_was, .int h_keeps, .ref h_kept, .int h_seens, .ref h_seen, .ref h_text, .int h_texted, .int h_at, .ref h_told, .int h_readPieces, .ref h_readPiece, .ref h_readRoom, .int h_readDeeds, .ref h_readDeed, .int h_readCoins, .int h_readLaw, .ref h_now])), (h_readPiece, .inl (cI, 16, .inl c1)), (h_readRoom, .inl (cI, 8, .inl h_readRoom_c))] H := hP
  have hD : va_D A [(h, .inr (6, [.int h_pieces, .ref h_piece, .int h_deeds, .ref h_deed, .int h_law, .ref h_st, .int h_acts, .ref h_was, .int h_keeps, .ref h_kept, .int h_seens, .ref h_seen, .ref h_text, .int h_texted, .int h_at, .ref h_told, .int h_readPieces, .ref h_readPiece, .ref h_readRoom, .int h_readDeeds, .ref h_readDeed, .int h_readCoins, .int h_readLaw, .ref h_now])), (h_readPiece, .inl (cI, 16, .inl c1)), (h_readRoom, .inl (cI, 8, .inl h_readRoom_c))] := hD
  refine lv_aload_n hx hb dX6_tellsPiece_12 rfl (lv_at hl 0 rfl) ?_
  refine va_get (D := D) (ci := 6) (v := .ref h_readPiece) (C := RX6) (T := TX6) (N := 24) hx hb hts uX6_tellsPiece_X6 hown hK hP 0 rfl rfl 17 (by decide) (hts (.fieldLink RX6 34 "SpeaksForTheChairModel" "readPiece" "[I") (List.mem_of_getElem? (i := 1) rfl)) (fun _ h9 => h9) rfl dX6_tellsPiece_13 ?_
  refine lv_iconst (v := 2) hx hb dX6_tellsPiece_16 (by decide) ?_
  refine lv_aload_n hx hb dX6_tellsPiece_17 rfl (lv_at hl 0 rfl) ?_
  refine va_get (D := D) (ci := 6) (v := .int h_readPieces) (C := RX6) (T := TX6) (N := 24) hx hb hts uX6_tellsPiece_X6 hown hK hP 0 rfl rfl 16 (by decide) (hts (.fieldLink RX6 67 "SpeaksForTheChairModel" "readPieces" "I") (List.mem_of_getElem? (i := 2) rfl)) (fun _ h9 => h9) rfl dX6_tellsPiece_18 ?_
  refine lv_imul hx hb dX6_tellsPiece_21 ?_
  refine lv_iconst (v := 1) hx hb dX6_tellsPiece_22 (by decide) ?_
  refine lv_iadd hx hb dX6_tellsPiece_23 ?_
  refine lv_iload_n hx hb dX6_tellsPiece_24 rfl (lv_at hl 3 rfl) ?_
  obtain ⟨g_2, hf⟩ := gu_in hf
  refine va_iast hx hb hK hP hD hS 1 0 rfl rfl g_2 dX6_tellsPiece_25 (fun H locs hP hD hS => ?_)
  obtain ⟨c2, ec2⟩ : ∃ y : Nat → Int32, y = (upd c1 (((2 * h_readPieces) + 1) : Int32).toNatClampNeg a3) := ⟨_, rfl⟩
  have hf := pv_eq ec2 hf
  rw [← ec2] at hP hD
  have hP : va_P D vwCl [(h, .inr (6, [.int h_pieces, .ref h_piece, .int h_deeds, .ref h_deed, .int h_law, .ref h_st, .int h_acts, .ref h_was, .int h_keeps, .ref h_kept, .int h_seens, .ref h_seen, .ref h_text, .int h_texted, .int h_at, .ref h_told, .int h_readPieces, .ref h_readPiece, .ref h_readRoom, .int h_readDeeds, .ref h_readDeed, .int h_readCoins, .int h_readLaw, .ref h_now])), (h_readPiece, .inl (cI, 16, .inl c2)), (h_readRoom, .inl (cI, 8, .inl h_readRoom_c))] H := hP
  have hD : va_D A [(h, .inr (6, [.int h_pieces, .ref h_piece, .int h_deeds, .ref h_deed, .int h_law, .ref h_st, .int h_acts, .ref h_was, .int h_keeps, .ref h_kept, .int h_seens, .ref h_seen, .ref h_text, .int h_texted, .int h_at, .ref h_told, .int h_readPieces, .ref h_readPiece, .ref h_readRoom, .int h_readDeeds, .ref h_readDeed, .int h_readCoins, .int h_readLaw, .ref h_now])), (h_readPiece, .inl (cI, 16, .inl c2)), (h_readRoom, .inl (cI, 8, .inl h_readRoom_c))] := hD
  refine lv_aload_n hx hb dX6_tellsPiece_26 rfl (lv_at hl 0 rfl) ?_
  refine va_get (D := D) (ci := 6) (v := .ref h_readRoom) (C := RX6) (T := TX6) (N := 24) hx hb hts uX6_tellsPiece_X6 hown hK hP 0 rfl rfl 18 (by decide) (hts (.fieldLink RX6 37 "SpeaksForTheChairModel" "readRoom" "[I") (List.mem_of_getElem? (i := 3) rfl)) (fun _ h9 => h9) rfl dX6_tellsPiece_27 ?_
  refine lv_aload_n hx hb dX6_tellsPiece_30 rfl (lv_at hl 0 rfl) ?_
  refine va_get (D := D) (ci := 6) (v := .int h_readPieces) (C := RX6) (T := TX6) (N := 24) hx hb hts uX6_tellsPiece_X6 hown hK hP 0 rfl rfl 16 (by decide) (hts (.fieldLink RX6 67 "SpeaksForTheChairModel" "readPieces" "I") (List.mem_of_getElem? (i := 2) rfl)) (fun _ h9 => h9) rfl dX6_tellsPiece_31 ?_
  refine lv_iload_n hx hb dX6_tellsPiece_34 rfl (lv_at hl 2 rfl) ?_
  obtain ⟨g_3, hf⟩ := gu_in hf
  refine va_iast hx hb hK hP hD hS 2 0 rfl rfl g_3 dX6_tellsPiece_35 (fun H locs hP hD hS => ?_)
  obtain ⟨c3, ec3⟩ : ∃ y : Nat → Int32, y = (upd h_readRoom_c h_readPieces.toNatClampNeg a2) := ⟨_, rfl⟩
  have hf := pv_eq ec3 hf
  rw [← ec3] at hP hD
  have hP : va_P D vwCl [(h, .inr (6, [.int h_pieces, .ref h_piece, .int h_deeds, .ref h_deed, .int h_law, .ref h_st, .int h_acts, .ref h_was, .int h_keeps, .ref h_kept, .int h_seens, .ref h_seen, .ref h_text, .int h_texted, .int h_at, .ref h_told, .int h_readPieces, .ref h_readPiece, .ref h_readRoom, .int h_readDeeds, .ref h_readDeed, .int h_readCoins, .int h_readLaw, .ref h_now])), (h_readPiece, .inl (cI, 16, .inl c2)), (h_readRoom, .inl (cI, 8, .inl c3))] H := hP
  have hD : va_D A [(h, .inr (6, [.int h_pieces, .ref h_piece, .int h_deeds, .ref h_deed, .int h_law, .ref h_st, .int h_acts, .ref h_was, .int h_keeps, .ref h_kept, .int h_seens, .ref h_seen, .ref h_text, .int h_texted, .int h_at, .ref h_told, .int h_readPieces, .ref h_readPiece, .ref h_readRoom, .int h_readDeeds, .ref h_readDeed, .int h_readCoins, .int h_readLaw, .ref h_now])), (h_readPiece, .inl (cI, 16, .inl c2)), (h_readRoom, .inl (cI, 8, .inl c3))] := hD
  refine lv_aload_n hx hb dX6_tellsPiece_36 rfl (lv_at hl 0 rfl) ?_
  refine lv_dup hx hb dX6_tellsPiece_37 rfl ?_
  refine va_get (D := D) (ci := 6) (v := .int h_readPieces) (C := RX6) (T := TX6) (N := 24) hx hb hts uX6_tellsPiece_X6 hown hK hP 0 rfl rfl 16 (by decide) (hts (.fieldLink RX6 67 "SpeaksForTheChairModel" "readPieces" "I") (List.mem_of_getElem? (i := 2) rfl)) (fun _ h9 => h9) rfl dX6_tellsPiece_38 ?_
  refine lv_iconst (v := 1) hx hb dX6_tellsPiece_41 (by decide) ?_
  refine lv_iadd hx hb dX6_tellsPiece_42 ?_
  refine lv_topi (fun f4 ef4 => ?_)
  have hf := pv_eq ef4 hf
  refine va_put (D := D) (ci := 6) (v := .int f4) (ty := .int) (C := RX6) (T := TX6) (N := 24) hx hb hts uX6_tellsPiece_X6 tyX6 tyX6_ok nmX6 hown hK hP hD hS 0 rfl rfl 16 (by decide) (hts (.fieldLink RX6 67 "SpeaksForTheChairModel" "readPieces" "I") (List.mem_of_getElem? (i := 2) rfl)) (fun _ h9 => h9) rfl (by decide +kernel) rfl rfl (Nat.le_of_ble_eq_true rfl) dX6_tellsPiece_43 (fun H locs hP hD hS => ?_)
  have hP : va_P D vwCl [(h, .inr (6, [.int h_pieces, .ref h_piece, .int h_deeds, .ref h_deed, .int h_law, .ref h_st, .int h_acts, .ref h_was, .int h_keeps, .ref h_kept, .int h_seens, .ref h_seen, .ref h_text, .int h_texted, .int h_at, .ref h_told, .int f4, .ref h_readPiece, .ref h_readRoom, .int h_readDeeds, .ref h_readDeed, .int h_readCoins, .int h_readLaw, .ref h_now])), (h_readPiece, .inl (cI, 16, .inl c2)), (h_readRoom, .inl (cI, 8, .inl c3))] H := hP
  have hD : va_D A [(h, .inr (6, [.int h_pieces, .ref h_piece, .int h_deeds, .ref h_deed, .int h_law, .ref h_st, .int h_acts, .ref h_was, .int h_keeps, .ref h_kept, .int h_seens, .ref h_seen, .ref h_text, .int h_texted, .int h_at, .ref h_told, .int f4, .ref h_readPiece, .ref h_readRoom, .int h_readDeeds, .ref h_readDeed, .int h_readCoins, .int h_readLaw, .ref h_now])), (h_readPiece, .inl (cI, 16, .inl c2)), (h_readRoom, .inl (cI, 8, .inl c3))] := hD
  cases hf
  exact W.vret hx hb hr (fun t ht hW => ⟨⟨(), rfl, trivial, by rw [ht]; exact hP, va_K.moved hW.alike hK, hD⟩, hS.F ht⟩) hS.2.2 dX6_tellsPiece_46
theorem uX6_tellsDeed_X6 : ∀ w ∈ wsX60, w ∈ wsX6_tellsDeed := fun w h => List.mem_cons_of_mem _ (List.mem_append_right _ h)
set_option maxHeartbeats 4000000 in
set_option maxRecDepth 100000 in
theorem c_X6_tellsDeed (l : Launch) (D : va_G) (cI cC cL cB : ClassId) (sz : Nat) (h : Nat) (h_piece : Nat) (h_deed : Nat) (h_st : Nat) (h_was : Nat) (h_kept : Nat) (h_seen : Nat) (h_text : Nat) (h_told : Nat) (h_readPiece : Nat) (h_readRoom : Nat) (h_readDeed : Nat) (h_now : Nat) (a1 : Int32) (a2 : Int32) (a3 : Int32) (a4 : Int32) (h_pieces : Int32) (h_deeds : Int32) (h_law : Int32) (h_acts : Int32) (h_keeps : Int32) (h_seens : Int32) (h_texted : Int32) (h_at : Int32) (h_readPieces : Int32) (h_readDeeds : Int32) (h_readCoins : Int32) (h_readLaw : Int32) (h_readDeed_c : Nat → Int32) (o0 : Int32) (o1 : Nat → Int32) (hf : m_X6_tellsDeed a1 a2 a3 a4 h_readDeeds h_readDeed_c = some (o0, o1)) : Met l yX6_tellsDeed wsX6_tellsDeed ({ frames := 0, cells := 0, slots := 0, locals := 0 }) (va_Pc [.ref h, .int a1, .int a2, .int a3, .int a4] (q_W D vwCl (tyL cI cC cL cB) [(h, .inr (6, [.int h_pieces, .ref h_piece, .int h_deeds, .ref h_deed, .int h_law, .ref h_st, .int h_acts, .ref h_was, .int h_keeps, .ref h_kept, .int h_seens, .ref h_seen, .ref h_text, .int h_texted, .int h_at, .ref h_told, .int h_readPieces, .ref h_readPiece, .ref h_readRoom, .int h_readDeeds, .ref h_readDeed, .int h_readCoins, .int h_readLaw, .ref h_now])), (h_readDeed, .inl (cI, 40, .inl h_readDeed_c))] sz)) (va_Qv (fun _ : Unit => True) (q_E D vwCl (tyL cI cC cL cB) (va_A [(h, .inr (6, [.int h_pieces, .ref h_piece, .int h_deeds, .ref h_deed, .int h_law, .ref h_st, .int h_acts, .ref h_was, .int h_keeps, .ref h_kept, .int h_seens, .ref h_seen, .ref h_text, .int h_texted, .int h_at, .ref h_told, .int h_readPieces, .ref h_readPiece, .ref h_readRoom, .int h_readDeeds, .ref h_readDeed, .int h_readCoins, .int h_readLaw, .ref h_now])), (h_readDeed, .inl (cI, 40, .inl h_readDeed_c))] sz) [(h, .inr (6, [.int h_pieces, .ref h_piece, .int h_deeds, .ref h_deed, .int h_law, .ref h_st, .int h_acts, .ref h_was, .int h_keeps, .ref h_kept, .int h_seens, .ref h_seen, .ref h_text, .int h_texted, .int h_at, .ref h_told, .int h_readPieces, .ref h_readPiece, .ref h_readRoom, .int o0, .ref h_readDeed, .int h_readCoins, .int h_readLaw, .ref h_now])), (h_readDeed, .inl (cI, 40, .inl o1))]) (va_A [(h, .inr (6, [.int h_pieces, .ref h_piece, .int h_deeds, .ref h_deed, .int h_law, .ref h_st, .int h_acts, .ref h_was, .int h_keeps, .ref h_kept, .int h_seens, .ref h_seen, .ref h_text, .int h_texted, .int h_at, .ref h_told, .int h_readPieces, .ref h_readPiece, .ref h_readRoom, .int h_readDeeds, .ref h_readDeed, .int h_readCoins, .int h_readLaw, .ref h_now])), (h_readDeed, .inl (cI, 40, .inl h_readDeed_c))] sz)) 0 0 (va_A [(h, .inr (6, [.int h_pieces, .ref h_piece, .int h_deeds, .ref h_deed, .int h_law, .ref h_st, .int h_acts, .ref h_was, .int h_keeps, .ref h_kept, .int h_seens, .ref h_seen, .ref h_text, .int h_texted, .int h_at, .ref h_told, .int h_readPieces, .ref h_readPiece, .ref h_readRoom, .int h_readDeeds, .ref h_readDeed, .int h_readCoins, .int h_readLaw, .ref h_now])), (h_readDeed, .inl (cI, 40, .inl h_readDeed_c))] sz) := by
  refine Met.ofW (cc := cX6_tellsDeed) (maxL := 5) (ret := none) (by decide) rfl ?_
  intro p e s m args below meth c s₁ B hml hv
  obtain ⟨rfl, hsz, hP, hK, hD0⟩ := hv
  have hx := B.exec
  have hb := B.bytes
  have hr := B.returns
  have hts := atoms_spec (ws := wsX6_tellsDeed) B.pre
  have hown : s.vm.findClass RX6 = some m.cls := findClass_of_methodNamed B.named
  have hlocks := B.notSynchronized
  subst hsz
  have hD := hD0.self (sz := s.heap.size)
  generalize hAe : va_A [(h, .inr (6, [.int h_pieces, .ref h_piece, .int h_deeds, .ref h_deed, .int h_law, .ref h_st, .int h_acts, .ref h_was, .int h_keeps, .ref h_kept, .int h_seens, .ref h_seen, .ref h_text, .int h_texted, .int h_at, .ref h_told, .int h_readPieces, .ref h_readPiece, .ref h_readRoom, .int h_readDeeds, .ref h_readDeed, .int h_readCoins, .int h_readLaw, .ref h_now])), (h_readDeed, .inl (cI, 40, .inl h_readDeed_c))] s.heap.size = A at hD ⊢
  have hA : ∀ q : Nat, s.heap.size ≤ q → A q := fun q h => by rw [← hAe]; exact Or.inr h
  have hS : va_S A s.heap s.heap [] := va_S.rf
  have hP : va_P D vwCl [(h, .inr (6, [.int h_pieces, .ref h_piece, .int h_deeds, .ref h_deed, .int h_law, .ref h_st, .int h_acts, .ref h_was, .int h_keeps, .ref h_kept, .int h_seens, .ref h_seen, .ref h_text, .int h_texted, .int h_at, .ref h_told, .int h_readPieces, .ref h_readPiece, .ref h_readRoom, .int h_readDeeds, .ref h_readDeed, .int h_readCoins, .int h_readLaw, .ref h_now])), (h_readDeed, .inl (cI, 40, .inl h_readDeed_c))] s.heap := hP
  have hl := lv_entry ([.ref h, .int a1, .int a2, .int a3, .int a4]) (n := 5) (Nat.le_of_ble_eq_true rfl)
  rw [lg_entry_eq]
  generalize (lg_sl ([.ref h, .int a1, .int a2, .int a3, .int a4]) ++ List.replicate (5 - (lg_sl ([.ref h, .int a1, .int a2, .int a3, .int a4])).length) Slot.unset).toArray = ls at hl ⊢
  have hl : lv_has ls 5 [(0, .ref h), (1, .int a1), (2, .int a2), (3, .int a3), (4, .int a4)] := hl
  unfold m_X6_tellsDeed at hf
  refine lv_aload_n hx hb dX6_tellsDeed_0 rfl (lv_at hl 0 rfl) ?_
  refine va_get (D := D) (ci := 6) (v := .ref h_readDeed) (C := RX6) (T := TX6) (N := 24) hx hb hts uX6_tellsDeed_X6 hown hK hP 0 rfl rfl 20 (by decide) (hts (.fieldLink RX6 40 "SpeaksForTheChairModel" "readDeed" "[I") (List.mem_of_getElem? (i := 1) rfl)) (fun _ h9 => h9) rfl dX6_tellsDeed_1 ?_
  refine lv_iconst (v := 4) hx hb dX6_tellsDeed_4 (by decide) ?_
  refine lv_aload_n hx hb dX6_tellsDeed_5 rfl (lv_at hl 0 rfl) ?_
  refine va_get (D := D) (ci := 6) (v := .int h_readDeeds) (C := RX6) (T := TX6) (N := 24) hx hb hts uX6_tellsDeed_X6 hown hK hP 0 rfl rfl 19 (by decide) (hts (.fieldLink RX6 70 "SpeaksForTheChairModel" "readDeeds" "I") (List.mem_of_getElem? (i := 2) rfl)) (fun _ h9 => h9) rfl dX6_tellsDeed_6 ?_
  refine lv_imul hx hb dX6_tellsDeed_9 ?_
  refine lv_iload_n hx hb dX6_tellsDeed_10 rfl (lv_at hl 1 rfl) ?_
  obtain ⟨g_1, hf⟩ := gu_in hf
  refine va_iast hx hb hK hP hD hS 1 0 rfl rfl g_1 dX6_tellsDeed_11 (fun H locs hP hD hS => ?_)
  obtain ⟨c1, ec1⟩ : ∃ y : Nat → Int32, y = (upd h_readDeed_c ((4 * h_readDeeds) : Int32).toNatClampNeg a1) := ⟨_, rfl⟩
  have hf := pv_eq ec1 hf
  rw [← ec1] at hP hD
  have hP : va_P D vwCl [(h, .inr (6, [.int h_pieces, .ref h_piece, .int h_deeds, .ref h_deed, .int h_law, .ref h_st, .int h_acts, .ref h_was, .int h_keeps, .ref h_kept, .int h_seens, .ref h_seen, .ref h_text, .int h_texted, .int h_at, .ref h_told, .int h_readPieces, .ref h_readPiece, .ref h_readRoom, .int h_readDeeds, .ref h_readDeed, .int h_readCoins, .int h_readLaw, .ref h_now])), (h_readDeed, .inl (cI, 40, .inl c1))] H := hP
  have hD : va_D A [(h, .inr (6, [.int h_pieces, .ref h_piece, .int h_deeds, .ref h_deed, .int h_law, .ref h_st, .int h_acts, .ref h_was, .int h_keeps, .ref h_kept, .int h_seens, .ref h_seen, .ref h_text, .int h_texted, .int h_at, .ref h_told, .int h_readPieces, .ref h_readPiece, .ref h_readRoom, .int h_readDeeds, .ref h_readDeed, .int h_readCoins, .int h_readLaw, .ref h_now])), (h_readDeed, .inl (cI, 40, .inl c1))] := hD
  refine lv_aload_n hx hb dX6_tellsDeed_12 rfl (lv_at hl 0 rfl) ?_
  refine va_get (D := D) (ci := 6) (v := .ref h_readDeed) (C := RX6) (T := TX6) (N := 24) hx hb hts uX6_tellsDeed_X6 hown hK hP 0 rfl rfl 20 (by decide) (hts (.fieldLink RX6 40 "SpeaksForTheChairModel" "readDeed" "[I") (List.mem_of_getElem? (i := 1) rfl)) (fun _ h9 => h9) rfl dX6_tellsDeed_13 ?_
  refine lv_iconst (v := 4) hx hb dX6_tellsDeed_16 (by decide) ?_
  refine lv_aload_n hx hb dX6_tellsDeed_17 rfl (lv_at hl 0 rfl) ?_
  refine va_get (D := D) (ci := 6) (v := .int h_readDeeds) (C := RX6) (T := TX6) (N := 24) hx hb hts uX6_tellsDeed_X6 hown hK hP 0 rfl rfl 19 (by decide) (hts (.fieldLink RX6 70 "SpeaksForTheChairModel" "readDeeds" "I") (List.mem_of_getElem? (i := 2) rfl)) (fun _ h9 => h9) rfl dX6_tellsDeed_18 ?_
  refine lv_imul hx hb dX6_tellsDeed_21 ?_
  refine lv_iconst (v := 1) hx hb dX6_tellsDeed_22 (by decide) ?_
  refine lv_iadd hx hb dX6_tellsDeed_23 ?_
  refine lv_iload_n hx hb dX6_tellsDeed_24 rfl (lv_at hl 2 rfl) ?_
  obtain ⟨g_2, hf⟩ := gu_in hf
  refine va_iast hx hb hK hP hD hS 1 0 rfl rfl g_2 dX6_tellsDeed_25 (fun H locs hP hD hS => ?_)
  obtain ⟨c2, ec2⟩ : ∃ y : Nat → Int32, y = (upd c1 (((4 * h_readDeeds) + 1) : Int32).toNatClampNeg a2) := ⟨_, rfl⟩
  have hf := pv_eq ec2 hf
  rw [← ec2] at hP hD
  have hP : va_P D vwCl [(h, .inr (6, [.int h_pieces, .ref h_piece, .int h_deeds, .ref h_deed, .int h_law, .ref h_st, .int h_acts, .ref h_was, .int h_keeps, .ref h_kept, .int h_seens, .ref h_seen, .ref h_text, .int h_texted, .int h_at, .ref h_told, .int h_readPieces, .ref h_readPiece, .ref h_readRoom, .int h_readDeeds, .ref h_readDeed, .int h_readCoins, .int h_readLaw, .ref h_now])), (h_readDeed, .inl (cI, 40, .inl c2))] H := hP
  have hD : va_D A [(h, .inr (6, [.int h_pieces, .ref h_piece, .int h_deeds, .ref h_deed, .int h_law, .ref h_st, .int h_acts, .ref h_was, .int h_keeps, .ref h_kept, .int h_seens, .ref h_seen, .ref h_text, .int h_texted, .int h_at, .ref h_told, .int h_readPieces, .ref h_readPiece, .ref h_readRoom, .int h_readDeeds, .ref h_readDeed, .int h_readCoins, .int h_readLaw, .ref h_now])), (h_readDeed, .inl (cI, 40, .inl c2))] := hD
  refine lv_aload_n hx hb dX6_tellsDeed_26 rfl (lv_at hl 0 rfl) ?_
  refine va_get (D := D) (ci := 6) (v := .ref h_readDeed) (C := RX6) (T := TX6) (N := 24) hx hb hts uX6_tellsDeed_X6 hown hK hP 0 rfl rfl 20 (by decide) (hts (.fieldLink RX6 40 "SpeaksForTheChairModel" "readDeed" "[I") (List.mem_of_getElem? (i := 1) rfl)) (fun _ h9 => h9) rfl dX6_tellsDeed_27 ?_
  refine lv_iconst (v := 4) hx hb dX6_tellsDeed_30 (by decide) ?_
  refine lv_aload_n hx hb dX6_tellsDeed_31 rfl (lv_at hl 0 rfl) ?_
  refine va_get (D := D) (ci := 6) (v := .int h_readDeeds) (C := RX6) (T := TX6) (N := 24) hx hb hts uX6_tellsDeed_X6 hown hK hP 0 rfl rfl 19 (by decide) (hts (.fieldLink RX6 70 "SpeaksForTheChairModel" "readDeeds" "I") (List.mem_of_getElem? (i := 2) rfl)) (fun _ h9 => h9) rfl dX6_tellsDeed_32 ?_
  refine lv_imul hx hb dX6_tellsDeed_35 ?_
  refine lv_iconst (v := 2) hx hb dX6_tellsDeed_36 (by decide) ?_
  refine lv_iadd hx hb dX6_tellsDeed_37 ?_
  refine lv_iload_n hx hb dX6_tellsDeed_38 rfl (lv_at hl 3 rfl) ?_
  obtain ⟨g_3, hf⟩ := gu_in hf
  refine va_iast hx hb hK hP hD hS 1 0 rfl rfl g_3 dX6_tellsDeed_39 (fun H locs hP hD hS => ?_)
  obtain ⟨c3, ec3⟩ : ∃ y : Nat → Int32, y = (upd c2 (((4 * h_readDeeds) + 2) : Int32).toNatClampNeg a3) := ⟨_, rfl⟩
  have hf := pv_eq ec3 hf
  rw [← ec3] at hP hD
  have hP : va_P D vwCl [(h, .inr (6, [.int h_pieces, .ref h_piece, .int h_deeds, .ref h_deed, .int h_law, .ref h_st, .int h_acts, .ref h_was, .int h_keeps, .ref h_kept, .int h_seens, .ref h_seen, .ref h_text, .int h_texted, .int h_at, .ref h_told, .int h_readPieces, .ref h_readPiece, .ref h_readRoom, .int h_readDeeds, .ref h_readDeed, .int h_readCoins, .int h_readLaw, .ref h_now])), (h_readDeed, .inl (cI, 40, .inl c3))] H := hP
  have hD : va_D A [(h, .inr (6, [.int h_pieces, .ref h_piece, .int h_deeds, .ref h_deed, .int h_law, .ref h_st, .int h_acts, .ref h_was, .int h_keeps, .ref h_kept, .int h_seens, .ref h_seen, .ref h_text, .int h_texted, .int h_at, .ref h_told, .int h_readPieces, .ref h_readPiece, .ref h_readRoom, .int h_readDeeds, .ref h_readDeed, .int h_readCoins, .int h_readLaw, .ref h_now])), (h_readDeed, .inl (cI, 40, .inl c3))] := hD
  refine lv_aload_n hx hb dX6_tellsDeed_40 rfl (lv_at hl 0 rfl) ?_
  refine va_get (D := D) (ci := 6) (v := .ref h_readDeed) (C := RX6) (T := TX6) (N := 24) hx hb hts uX6_tellsDeed_X6 hown hK hP 0 rfl rfl 20 (by decide) (hts (.fieldLink RX6 40 "SpeaksForTheChairModel" "readDeed" "[I") (List.mem_of_getElem? (i := 1) rfl)) (fun _ h9 => h9) rfl dX6_tellsDeed_41 ?_
  refine lv_iconst (v := 4) hx hb dX6_tellsDeed_44 (by decide) ?_
  refine lv_aload_n hx hb dX6_tellsDeed_45 rfl (lv_at hl 0 rfl) ?_
  refine va_get (D := D) (ci := 6) (v := .int h_readDeeds) (C := RX6) (T := TX6) (N := 24) hx hb hts uX6_tellsDeed_X6 hown hK hP 0 rfl rfl 19 (by decide) (hts (.fieldLink RX6 70 "SpeaksForTheChairModel" "readDeeds" "I") (List.mem_of_getElem? (i := 2) rfl)) (fun _ h9 => h9) rfl dX6_tellsDeed_46 ?_
  refine lv_imul hx hb dX6_tellsDeed_49 ?_
  refine lv_iconst (v := 3) hx hb dX6_tellsDeed_50 (by decide) ?_
  refine lv_iadd hx hb dX6_tellsDeed_51 ?_
  refine lv_iload hx hb dX6_tellsDeed_52 (lv_at hl 4 rfl) ?_
  obtain ⟨g_4, hf⟩ := gu_in hf
  refine va_iast hx hb hK hP hD hS 1 0 rfl rfl g_4 dX6_tellsDeed_54 (fun H locs hP hD hS => ?_)
  obtain ⟨c4, ec4⟩ : ∃ y : Nat → Int32, y = (upd c3 (((4 * h_readDeeds) + 3) : Int32).toNatClampNeg a4) := ⟨_, rfl⟩
  have hf := pv_eq ec4 hf
  rw [← ec4] at hP hD
  have hP : va_P D vwCl [(h, .inr (6, [.int h_pieces, .ref h_piece, .int h_deeds, .ref h_deed, .int h_law, .ref h_st, .int h_acts, .ref h_was, .int h_keeps, .ref h_kept, .int h_seens, .ref h_seen, .ref h_text, .int h_texted, .int h_at, .ref h_told, .int h_readPieces, .ref h_readPiece, .ref h_readRoom, .int h_readDeeds, .ref h_readDeed, .int h_readCoins, .int h_readLaw, .ref h_now])), (h_readDeed, .inl (cI, 40, .inl c4))] H := hP
  have hD : va_D A [(h, .inr (6, [.int h_pieces, .ref h_piece, .int h_deeds, .ref h_deed, .int h_law, .ref h_st, .int h_acts, .ref h_was, .int h_keeps, .ref h_kept, .int h_seens, .ref h_seen, .ref h_text, .int h_texted, .int h_at, .ref h_told, .int h_readPieces, .ref h_readPiece, .ref h_readRoom, .int h_readDeeds, .ref h_readDeed, .int h_readCoins, .int h_readLaw, .ref h_now])), (h_readDeed, .inl (cI, 40, .inl c4))] := hD
  refine lv_aload_n hx hb dX6_tellsDeed_55 rfl (lv_at hl 0 rfl) ?_
  refine lv_dup hx hb dX6_tellsDeed_56 rfl ?_
  refine va_get (D := D) (ci := 6) (v := .int h_readDeeds) (C := RX6) (T := TX6) (N := 24) hx hb hts uX6_tellsDeed_X6 hown hK hP 0 rfl rfl 19 (by decide) (hts (.fieldLink RX6 70 "SpeaksForTheChairModel" "readDeeds" "I") (List.mem_of_getElem? (i := 2) rfl)) (fun _ h9 => h9) rfl dX6_tellsDeed_57 ?_
  refine lv_iconst (v := 1) hx hb dX6_tellsDeed_60 (by decide) ?_
  refine lv_iadd hx hb dX6_tellsDeed_61 ?_
  refine lv_topi (fun f5 ef5 => ?_)
  have hf := pv_eq ef5 hf
  refine va_put (D := D) (ci := 6) (v := .int f5) (ty := .int) (C := RX6) (T := TX6) (N := 24) hx hb hts uX6_tellsDeed_X6 tyX6 tyX6_ok nmX6 hown hK hP hD hS 0 rfl rfl 19 (by decide) (hts (.fieldLink RX6 70 "SpeaksForTheChairModel" "readDeeds" "I") (List.mem_of_getElem? (i := 2) rfl)) (fun _ h9 => h9) rfl (by decide +kernel) rfl rfl (Nat.le_of_ble_eq_true rfl) dX6_tellsDeed_62 (fun H locs hP hD hS => ?_)
  have hP : va_P D vwCl [(h, .inr (6, [.int h_pieces, .ref h_piece, .int h_deeds, .ref h_deed, .int h_law, .ref h_st, .int h_acts, .ref h_was, .int h_keeps, .ref h_kept, .int h_seens, .ref h_seen, .ref h_text, .int h_texted, .int h_at, .ref h_told, .int h_readPieces, .ref h_readPiece, .ref h_readRoom, .int f5, .ref h_readDeed, .int h_readCoins, .int h_readLaw, .ref h_now])), (h_readDeed, .inl (cI, 40, .inl c4))] H := hP
  have hD : va_D A [(h, .inr (6, [.int h_pieces, .ref h_piece, .int h_deeds, .ref h_deed, .int h_law, .ref h_st, .int h_acts, .ref h_was, .int h_keeps, .ref h_kept, .int h_seens, .ref h_seen, .ref h_text, .int h_texted, .int h_at, .ref h_told, .int h_readPieces, .ref h_readPiece, .ref h_readRoom, .int f5, .ref h_readDeed, .int h_readCoins, .int h_readLaw, .ref h_now])), (h_readDeed, .inl (cI, 40, .inl c4))] := hD
  cases hf
  exact W.vret hx hb hr (fun t ht hW => ⟨⟨(), rfl, trivial, by rw [ht]; exact hP, va_K.moved hW.alike hK, hD⟩, hS.F ht⟩) hS.2.2 dX6_tellsDeed_65
set_option maxHeartbeats 4000000 in
set_option maxRecDepth 100000 in
theorem c_X6_in (l : Launch) (D : va_G) (cI cC cL cB : ClassId) (a1 : Int32) (a2 : Int32) (a3 : Int32) (r : Int32) (hf : m_X6_in a1 a2 a3 = some r) : Met l yX6_in wsX6_in ({ frames := 0, cells := 0, slots := 0, locals := 0 }) (va_Pc [.int a1, .int a2, .int a3] (q_R D vwCl (tyL cI cC cL cB) [])) (vp_Si (fun r' => r' = r)) 0 0 (fun _ => False) := by
  refine Met.ofW (cc := cX6_in) (maxL := 3) (ret := (some .boolean)) (by decide) rfl ?_
  intro p e s m args below meth c s₁ B hml hv
  obtain ⟨rfl, hP, hK⟩ := hv
  have hx := B.exec
  have hb := B.bytes
  have hr := B.returns
  have hts := atoms_spec (ws := wsX6_in) B.pre
  have hown : s.vm.findClass RX6 = some m.cls := findClass_of_methodNamed B.named
  have hlocks := B.notSynchronized
  have hl := lv_entry ([.int a1, .int a2, .int a3]) (n := 3) (Nat.le_of_ble_eq_true rfl)
  rw [lg_entry_eq]
  generalize (lg_sl ([.int a1, .int a2, .int a3]) ++ List.replicate (3 - (lg_sl ([.int a1, .int a2, .int a3])).length) Slot.unset).toArray = ls at hl ⊢
  have hl : lv_has ls 3 [(0, .int a1), (1, .int a2), (2, .int a3)] := hl
  unfold m_X6_in at hf
  refine lv_iload_n hx hb dX6_in_0 rfl (lv_at hl 0 rfl) ?_
  refine lv_iload_n hx hb dX6_in_1 rfl (lv_at hl 1 rfl) ?_
  refine lv_icmp_lt (tgt := 14) hx hb dX6_in_2 (by decide) (fun c_1 => ?_) (fun c_1 => ?_)
  · have hf := ip c_1 hf
    refine lv_iconst (v := 0) hx hb dX6_in_14 (by decide) ?_
    cases hf
    exact W.zret hx hb hr rfl (fun t ht hW => ⟨_, rfl, rfl, ht⟩) (fun _ h => by cases h) dX6_in_15
  · have hf := im c_1 hf
    refine lv_iload_n hx hb dX6_in_5 rfl (lv_at hl 0 rfl) ?_
    refine lv_iload_n hx hb dX6_in_6 rfl (lv_at hl 2 rfl) ?_
    refine lv_icmp_gt (tgt := 14) hx hb dX6_in_7 (by decide) (fun c_2 => ?_) (fun c_2 => ?_)
    · have hf := ip c_2 hf
      refine lv_iconst (v := 0) hx hb dX6_in_14 (by decide) ?_
      cases hf
      exact W.zret hx hb hr rfl (fun t ht hW => ⟨_, rfl, rfl, ht⟩) (fun _ h => by cases h) dX6_in_15
    · have hf := im c_2 hf
      refine lv_iconst (v := 1) hx hb dX6_in_10 (by decide) ?_
      refine lv_goto (tgt := 15) hx hb dX6_in_11 (by decide) ?_
      cases hf
      exact W.zret hx hb hr rfl (fun t ht hW => ⟨_, rfl, rfl, ht⟩) (fun _ h => by cases h) dX6_in_15
set_option maxHeartbeats 4000000 in
set_option maxRecDepth 100000 in
theorem c_X6_has (l : Launch) (D : va_G) (cI cC cL cB : ClassId) (a1 : Int32) (a2 : Int32) (r : Int32) (hf : m_X6_has a1 a2 = some r) : Met l yX6_has wsX6_has ({ frames := 0, cells := 0, slots := 0, locals := 0 }) (va_Pc [.int a1, .int a2] (q_R D vwCl (tyL cI cC cL cB) [])) (vp_Si (fun r' => r' = r)) 0 0 (fun _ => False) := by
  refine Met.ofW (cc := cX6_has) (maxL := 2) (ret := (some .boolean)) (by decide) rfl ?_
  intro p e s m args below meth c s₁ B hml hv
  obtain ⟨rfl, hP, hK⟩ := hv
  have hx := B.exec
  have hb := B.bytes
  have hr := B.returns
  have hts := atoms_spec (ws := wsX6_has) B.pre
  have hown : s.vm.findClass RX6 = some m.cls := findClass_of_methodNamed B.named
  have hlocks := B.notSynchronized
  have hl := lv_entry ([.int a1, .int a2]) (n := 2) (Nat.le_of_ble_eq_true rfl)
  rw [lg_entry_eq]
  generalize (lg_sl ([.int a1, .int a2]) ++ List.replicate (2 - (lg_sl ([.int a1, .int a2])).length) Slot.unset).toArray = ls at hl ⊢
  have hl : lv_has ls 2 [(0, .int a1), (1, .int a2)] := hl
  unfold m_X6_has at hf
  refine lv_iload_n hx hb dX6_has_0 rfl (lv_at hl 0 rfl) ?_
  refine lv_iload_n hx hb dX6_has_1 rfl (lv_at hl 1 rfl) ?_
  refine lv_ishr hx hb dX6_has_2 ?_
  refine lv_iconst (v := 1) hx hb dX6_has_3 (by decide) ?_
  refine lv_iand hx hb dX6_has_4 ?_
  refine lv_iconst (v := 1) hx hb dX6_has_5 (by decide) ?_
  refine lv_icmp_ne (tgt := 13) hx hb dX6_has_6 (by decide) (fun c_1 => ?_) (fun c_1 => ?_)
  · have hf := im c_1 hf
    refine lv_iconst (v := 0) hx hb dX6_has_13 (by decide) ?_
    cases hf
    exact W.zret hx hb hr rfl (fun t ht hW => ⟨_, rfl, rfl, ht⟩) (fun _ h => by cases h) dX6_has_14
  · have hf := ip c_1 hf
    refine lv_iconst (v := 1) hx hb dX6_has_9 (by decide) ?_
    refine lv_goto (tgt := 14) hx hb dX6_has_10 (by decide) ?_
    cases hf
    exact W.zret hx hb hr rfl (fun t ht hW => ⟨_, rfl, rfl, ht⟩) (fun _ h => by cases h) dX6_has_14
set_option maxHeartbeats 4000000 in
set_option maxRecDepth 100000 in
theorem c_X6_bits (l : Launch) (D : va_G) (cI cC cL cB : ClassId) (a1 : Int32) (r : Int32) (hf : m_X6_bits a1 = some r) : Met l yX6_bits wsX6_bits ({ frames := 0, cells := 0, slots := 0, locals := 0 }) (va_Pc [.int a1] (q_R D vwCl (tyL cI cC cL cB) [])) (vp_Si (fun r' => r' = r)) 0 0 (fun _ => False) := by
  refine Met.ofW (cc := cX6_bits) (maxL := 3) (ret := (some .int)) (by decide) rfl ?_
  intro p e s m args below meth c s₁ B hml hv
  obtain ⟨rfl, hP, hK⟩ := hv
  have hx := B.exec
  have hb := B.bytes
  have hr := B.returns
  have hts := atoms_spec (ws := wsX6_bits) B.pre
  have hown : s.vm.findClass RX6 = some m.cls := findClass_of_methodNamed B.named
  have hlocks := B.notSynchronized
  have hl := lv_entry ([.int a1]) (n := 3) (Nat.le_of_ble_eq_true rfl)
  rw [lg_entry_eq]
  generalize (lg_sl ([.int a1]) ++ List.replicate (3 - (lg_sl ([.int a1])).length) Slot.unset).toArray = ls at hl ⊢
  have hl : lv_has ls 3 [(0, .int a1)] := hl
  unfold m_X6_bits at hf
  refine lv_iconst (v := 0) hx hb dX6_bits_0 (by decide) ?_
  refine lv_istore_n (lv' := [(1, .int 0), (0, .int a1)]) hx hb dX6_bits_1 rfl hl (by decide) rfl (fun ls hl => ?_)
  refine lv_iconst (v := 0) hx hb dX6_bits_2 (by decide) ?_
  refine lv_istore_n (lv' := [(2, .int 0), (1, .int 0), (0, .int a1)]) hx hb dX6_bits_3 rfl hl (by decide) rfl (fun ls hl => ?_)
  have loop4 : ∀ (n : Nat) (x1 : Int32) (x2 : Int32), ∀ (ls : Array Slot), lv_has ls 3 [(0, .int a1), (1, .int x1), (2, .int x2)] → ∀ (x3 : Int32), L_X6_bits_4 a1 n x1 x2 = some x3 → (∀ (ls : Array Slot), lv_has ls 3 [(1, .int x3)] → W p l e (headSpec wsX6_bits ({ frames := 0, cells := 0, slots := 0, locals := 0 })).room s m ([.int a1] : List Value).toArray below meth c s.heap [] 0 0 (MQ below (vp_Si (fun r' => r' = r)) ([.int a1] : List Value).toArray s 0 0 (fun _ => False)) (F0 m 24 ls [])) → W p l e (headSpec wsX6_bits ({ frames := 0, cells := 0, slots := 0, locals := 0 })).room s m ([.int a1] : List Value).toArray below meth c s.heap [] 0 0 (MQ below (vp_Si (fun r' => r' = r)) ([.int a1] : List Value).toArray s 0 0 (fun _ => False)) (F0 m 4 ls []) := by
    intro n
    induction n with
    | zero =>
      intro x1 x2 ls hl x3 hf KX
      rw [L_X6_bits_4] at hf
      cases hf
    | succ n ih =>
      intro x1 x2 ls hl x3 hf KX
      rw [L_X6_bits_4] at hf
      refine lv_iload_n hx hb dX6_bits_4 rfl (lv_at hl 2 rfl) ?_
      refine lv_bipush (v := 10) hx hb dX6_bits_5 (by decide) ?_
      refine lv_icmp_ge (tgt := 24) hx hb dX6_bits_7 (by decide) (fun c_3 => ?_) (fun c_3 => ?_)
      · have hf := ip c_3 hf
        cases hf
        exact KX ls (lv_sub hl [1] rfl)
      · have hf := im c_3 hf
        refine lv_iload_n hx hb dX6_bits_10 rfl (lv_at hl 1 rfl) ?_
        refine lv_iload_n hx hb dX6_bits_11 rfl (lv_at hl 0 rfl) ?_
        refine lv_iload_n hx hb dX6_bits_12 rfl (lv_at hl 2 rfl) ?_
        refine lv_ishr hx hb dX6_bits_13 ?_
        refine lv_iconst (v := 1) hx hb dX6_bits_14 (by decide) ?_
        refine lv_iand hx hb dX6_bits_15 ?_
        refine lv_iadd hx hb dX6_bits_16 ?_
        refine lv_topi (fun x4 ex4 => ?_)
        have hf := pv_eq ex4 hf
        refine lv_istore_n (lv' := [(1, .int x4), (0, .int a1), (2, .int x2)]) hx hb dX6_bits_17 rfl hl (by decide) rfl (fun ls hl => ?_)
        obtain ⟨x5, ex5⟩ : ∃ y : Int32, y = (x2 + 1) := ⟨_, rfl⟩
        have hf := pv_eq ex5 hf
        refine lv_iinc (v := x5) (lv' := [(2, .int x5), (1, .int x4), (0, .int a1)]) hx hb dX6_bits_18 hl (k := 2) rfl (by rw [ex5]; rfl) (by decide) rfl (fun ls hl => ?_)
        refine lv_goto (tgt := 4) hx hb dX6_bits_21 (by decide) ?_
        exact ih _ _ ls (lv_sub hl [2, 1, 0] rfl) _ hf KX
  obtain ⟨x3, hr4, hf⟩ := ob1_some hf
  refine loop4 300 _ _ ls (lv_sub hl [2, 1, 0] rfl) _ hr4 (fun ls hl => ?_)
  refine lv_iload_n hx hb dX6_bits_24 rfl (lv_at hl 0 rfl) ?_
  cases hf
  exact W.iret hx hb hr (fun t ht hW => ⟨_, rfl, rfl, ht⟩) (fun _ h => by cases h) dX6_bits_25
theorem uX6_isPiece_X6 : ∀ w ∈ wsX60, w ∈ wsX6_isPiece := fun w h => List.mem_cons_of_mem _ (List.mem_append_right _ h)
set_option maxHeartbeats 4000000 in
set_option maxRecDepth 100000 in
theorem c_X6_isPiece (l : Launch) (D : va_G) (cI cC cL cB : ClassId) (h : Nat) (h_piece : Nat) (h_deed : Nat) (h_st : Nat) (h_was : Nat) (h_kept : Nat) (h_seen : Nat) (h_text : Nat) (h_told : Nat) (h_readPiece : Nat) (h_readRoom : Nat) (h_readDeed : Nat) (h_now : Nat) (a1 : Int32) (h_pieces : Int32) (h_deeds : Int32) (h_law : Int32) (h_acts : Int32) (h_keeps : Int32) (h_seens : Int32) (h_texted : Int32) (h_at : Int32) (h_readPieces : Int32) (h_readDeeds : Int32) (h_readCoins : Int32) (h_readLaw : Int32) (r : Int32) (hf : m_X6_isPiece a1 h_pieces = some r) : Met l yX6_isPiece wsX6_isPiece ({ frames := 1, cells := 0, slots := 0, locals := 22 }) (va_Pc [.ref h, .int a1] (q_R D vwCl (tyL cI cC cL cB) [(h, .inr (6, [.int h_pieces, .ref h_piece, .int h_deeds, .ref h_deed, .int h_law, .ref h_st, .int h_acts, .ref h_was, .int h_keeps, .ref h_kept, .int h_seens, .ref h_seen, .ref h_text, .int h_texted, .int h_at, .ref h_told, .int h_readPieces, .ref h_readPiece, .ref h_readRoom, .int h_readDeeds, .ref h_readDeed, .int h_readCoins, .int h_readLaw, .ref h_now]))])) (vp_Si (fun r' => r' = r)) 0 0 (fun _ => False) := by
  refine Met.ofW (cc := cX6_isPiece) (maxL := 2) (ret := (some .boolean)) (by decide) rfl ?_
  intro p e s m args below meth c s₁ B hml hv
  obtain ⟨rfl, hP, hK⟩ := hv
  have hx := B.exec
  have hb := B.bytes
  have hr := B.returns
  have hts := atoms_spec (ws := wsX6_isPiece) B.pre
  have hown : s.vm.findClass RX6 = some m.cls := findClass_of_methodNamed B.named
  have hlocks := B.notSynchronized
  have hl := lv_entry ([.ref h, .int a1]) (n := 2) (Nat.le_of_ble_eq_true rfl)
  rw [lg_entry_eq]
  generalize (lg_sl ([.ref h, .int a1]) ++ List.replicate (2 - (lg_sl ([.ref h, .int a1])).length) Slot.unset).toArray = ls at hl ⊢
  have hl : lv_has ls 2 [(0, .ref h), (1, .int a1)] := hl
  unfold m_X6_isPiece at hf
  refine lv_iload_n hx hb dX6_isPiece_0 rfl (lv_at hl 1 rfl) ?_
  refine lv_iconst (v := 0) hx hb dX6_isPiece_1 (by decide) ?_
  refine lv_aload_n hx hb dX6_isPiece_2 rfl (lv_at hl 0 rfl) ?_
  refine va_get (D := D) (ci := 6) (v := .int h_pieces) (C := RX6) (T := TX6) (N := 24) hx hb hts uX6_isPiece_X6 hown hK hP 0 rfl rfl 0 (by decide) (hts (.fieldLink RX6 73 "SpeaksForTheChairModel" "pieces" "I") (List.mem_of_getElem? (i := 1) rfl)) (fun _ h9 => h9) rfl dX6_isPiece_3 ?_
  refine lv_iconst (v := 1) hx hb dX6_isPiece_6 (by decide) ?_
  refine lv_isub hx hb dX6_isPiece_7 ?_
  obtain ⟨x1, hv_1, hf⟩ := ob1_some hf
  refine q_rSi (As := [.int a1, .int 0, .int (h_pieces - 1)]) (rest := []) (r := x1) ⟨hx, hb, hml, hown, hts⟩ (c_X6_in l D cI cC cL cB a1 ((0 : Int32)) ((h_pieces - 1)) x1 hv_1) (va_cwS 3 hts gX6_isPiece_X6_in rfl rfl rfl (by decide +kernel) ⟨Nat.le_of_ble_eq_true rfl, Nat.le_of_ble_eq_true rfl⟩) hK hP [] rfl rfl hl.1 rfl (Nat.le_of_ble_eq_true rfl) dX6_isPiece_8 ⟨Nat.le_of_ble_eq_true rfl, Nat.le_of_ble_eq_true rfl⟩ ?_
  obtain ⟨g_2, hf⟩ := gu_bool hf
  cases hf
  exact W.zret hx hb hr g_2 (fun t ht hW => ⟨_, rfl, rfl, ht⟩) (fun _ h => by cases h) dX6_isPiece_11
theorem uX6_isDeed_X6 : ∀ w ∈ wsX60, w ∈ wsX6_isDeed := fun w h => List.mem_cons_of_mem _ (List.mem_append_right _ h)
set_option maxHeartbeats 4000000 in
set_option maxRecDepth 100000 in
theorem c_X6_isDeed (l : Launch) (D : va_G) (cI cC cL cB : ClassId) (h : Nat) (h_piece : Nat) (h_deed : Nat) (h_st : Nat) (h_was : Nat) (h_kept : Nat) (h_seen : Nat) (h_text : Nat) (h_told : Nat) (h_readPiece : Nat) (h_readRoom : Nat) (h_readDeed : Nat) (h_now : Nat) (a1 : Int32) (h_pieces : Int32) (h_deeds : Int32) (h_law : Int32) (h_acts : Int32) (h_keeps : Int32) (h_seens : Int32) (h_texted : Int32) (h_at : Int32) (h_readPieces : Int32) (h_readDeeds : Int32) (h_readCoins : Int32) (h_readLaw : Int32) (r : Int32) (hf : m_X6_isDeed a1 h_deeds = some r) : Met l yX6_isDeed wsX6_isDeed ({ frames := 1, cells := 0, slots := 0, locals := 22 }) (va_Pc [.ref h, .int a1] (q_R D vwCl (tyL cI cC cL cB) [(h, .inr (6, [.int h_pieces, .ref h_piece, .int h_deeds, .ref h_deed, .int h_law, .ref h_st, .int h_acts, .ref h_was, .int h_keeps, .ref h_kept, .int h_seens, .ref h_seen, .ref h_text, .int h_texted, .int h_at, .ref h_told, .int h_readPieces, .ref h_readPiece, .ref h_readRoom, .int h_readDeeds, .ref h_readDeed, .int h_readCoins, .int h_readLaw, .ref h_now]))])) (vp_Si (fun r' => r' = r)) 0 0 (fun _ => False) := by
  refine Met.ofW (cc := cX6_isDeed) (maxL := 2) (ret := (some .boolean)) (by decide) rfl ?_
  intro p e s m args below meth c s₁ B hml hv
  obtain ⟨rfl, hP, hK⟩ := hv
  have hx := B.exec
  have hb := B.bytes
  have hr := B.returns
  have hts := atoms_spec (ws := wsX6_isDeed) B.pre
  have hown : s.vm.findClass RX6 = some m.cls := findClass_of_methodNamed B.named
  have hlocks := B.notSynchronized
  have hl := lv_entry ([.ref h, .int a1]) (n := 2) (Nat.le_of_ble_eq_true rfl)
  rw [lg_entry_eq]
  generalize (lg_sl ([.ref h, .int a1]) ++ List.replicate (2 - (lg_sl ([.ref h, .int a1])).length) Slot.unset).toArray = ls at hl ⊢
  have hl : lv_has ls 2 [(0, .ref h), (1, .int a1)] := hl
  unfold m_X6_isDeed at hf
  refine lv_iload_n hx hb dX6_isDeed_0 rfl (lv_at hl 1 rfl) ?_
  refine lv_iconst (v := 0) hx hb dX6_isDeed_1 (by decide) ?_
  refine lv_aload_n hx hb dX6_isDeed_2 rfl (lv_at hl 0 rfl) ?_
  refine va_get (D := D) (ci := 6) (v := .int h_deeds) (C := RX6) (T := TX6) (N := 24) hx hb hts uX6_isDeed_X6 hown hK hP 0 rfl rfl 2 (by decide) (hts (.fieldLink RX6 80 "SpeaksForTheChairModel" "deeds" "I") (List.mem_of_getElem? (i := 1) rfl)) (fun _ h9 => h9) rfl dX6_isDeed_3 ?_
  refine lv_iconst (v := 1) hx hb dX6_isDeed_6 (by decide) ?_
  refine lv_isub hx hb dX6_isDeed_7 ?_
  obtain ⟨x1, hv_1, hf⟩ := ob1_some hf
  refine q_rSi (As := [.int a1, .int 0, .int (h_deeds - 1)]) (rest := []) (r := x1) ⟨hx, hb, hml, hown, hts⟩ (c_X6_in l D cI cC cL cB a1 ((0 : Int32)) ((h_deeds - 1)) x1 hv_1) (va_cwS 3 hts gX6_isDeed_X6_in rfl rfl rfl (by decide +kernel) ⟨Nat.le_of_ble_eq_true rfl, Nat.le_of_ble_eq_true rfl⟩) hK hP [] rfl rfl hl.1 rfl (Nat.le_of_ble_eq_true rfl) dX6_isDeed_8 ⟨Nat.le_of_ble_eq_true rfl, Nat.le_of_ble_eq_true rfl⟩ ?_
  obtain ⟨g_2, hf⟩ := gu_bool hf
  cases hf
  exact W.zret hx hb hr g_2 (fun t ht hW => ⟨_, rfl, rfl, ht⟩) (fun _ h => by cases h) dX6_isDeed_11
theorem uX6_write_X6 : ∀ w ∈ wsX60, w ∈ wsX6_write := fun w h => List.mem_cons_of_mem _ (List.mem_append_right _ h)
set_option maxHeartbeats 4000000 in
set_option maxRecDepth 100000 in
theorem c_X6_write (l : Launch) (D : va_G) (cI cC cL cB : ClassId) (sz : Nat) (h : Nat) (h_piece : Nat) (h_deed : Nat) (h_st : Nat) (h_was : Nat) (h_kept : Nat) (h_seen : Nat) (h_text : Nat) (h_told : Nat) (h_readPiece : Nat) (h_readRoom : Nat) (h_readDeed : Nat) (h_now : Nat) (a1 : Int32) (h_pieces : Int32) (h_deeds : Int32) (h_law : Int32) (h_acts : Int32) (h_keeps : Int32) (h_seens : Int32) (h_texted : Int32) (h_at : Int32) (h_readPieces : Int32) (h_readDeeds : Int32) (h_readCoins : Int32) (h_readLaw : Int32) (h_text_c : Nat → Int32) (r : Int32) (o0 : Int32) (o1 : Nat → Int32) (hf : m_X6_write a1 h_texted h_text_c = some (r, o0, o1)) : Met l yX6_write wsX6_write ({ frames := 1, cells := 0, slots := 0, locals := 22 }) (va_Pc [.ref h, .int a1] (q_W D vwCl (tyL cI cC cL cB) [(h, .inr (6, [.int h_pieces, .ref h_piece, .int h_deeds, .ref h_deed, .int h_law, .ref h_st, .int h_acts, .ref h_was, .int h_keeps, .ref h_kept, .int h_seens, .ref h_seen, .ref h_text, .int h_texted, .int h_at, .ref h_told, .int h_readPieces, .ref h_readPiece, .ref h_readRoom, .int h_readDeeds, .ref h_readDeed, .int h_readCoins, .int h_readLaw, .ref h_now])), (h_text, .inl (cI, 200, .inl h_text_c))] sz)) (va_Qi (fun r' _ => r' = r) (q_E D vwCl (tyL cI cC cL cB) (va_A [(h, .inr (6, [.int h_pieces, .ref h_piece, .int h_deeds, .ref h_deed, .int h_law, .ref h_st, .int h_acts, .ref h_was, .int h_keeps, .ref h_kept, .int h_seens, .ref h_seen, .ref h_text, .int h_texted, .int h_at, .ref h_told, .int h_readPieces, .ref h_readPiece, .ref h_readRoom, .int h_readDeeds, .ref h_readDeed, .int h_readCoins, .int h_readLaw, .ref h_now])), (h_text, .inl (cI, 200, .inl h_text_c))] sz) [(h, .inr (6, [.int h_pieces, .ref h_piece, .int h_deeds, .ref h_deed, .int h_law, .ref h_st, .int h_acts, .ref h_was, .int h_keeps, .ref h_kept, .int h_seens, .ref h_seen, .ref h_text, .int o0, .int h_at, .ref h_told, .int h_readPieces, .ref h_readPiece, .ref h_readRoom, .int h_readDeeds, .ref h_readDeed, .int h_readCoins, .int h_readLaw, .ref h_now])), (h_text, .inl (cI, 200, .inl o1))]) (va_A [(h, .inr (6, [.int h_pieces, .ref h_piece, .int h_deeds, .ref h_deed, .int h_law, .ref h_st, .int h_acts, .ref h_was, .int h_keeps, .ref h_kept, .int h_seens, .ref h_seen, .ref h_text, .int h_texted, .int h_at, .ref h_told, .int h_readPieces, .ref h_readPiece, .ref h_readRoom, .int h_readDeeds, .ref h_readDeed, .int h_readCoins, .int h_readLaw, .ref h_now])), (h_text, .inl (cI, 200, .inl h_text_c))] sz)) 0 0 (va_A [(h, .inr (6, [.int h_pieces, .ref h_piece, .int h_deeds, .ref h_deed, .int h_law, .ref h_st, .int h_acts, .ref h_was, .int h_keeps, .ref h_kept, .int h_seens, .ref h_seen, .ref h_text, .int h_texted, .int h_at, .ref h_told, .int h_readPieces, .ref h_readPiece, .ref h_readRoom, .int h_readDeeds, .ref h_readDeed, .int h_readCoins, .int h_readLaw, .ref h_now])), (h_text, .inl (cI, 200, .inl h_text_c))] sz) := by
  refine Met.ofW (cc := cX6_write) (maxL := 2) (ret := (some .int)) (by decide) rfl ?_
  intro p e s m args below meth c s₁ B hml hv
  obtain ⟨rfl, hsz, hP, hK, hD0⟩ := hv
  have hx := B.exec
  have hb := B.bytes
  have hr := B.returns
  have hts := atoms_spec (ws := wsX6_write) B.pre
  have hown : s.vm.findClass RX6 = some m.cls := findClass_of_methodNamed B.named
  have hlocks := B.notSynchronized
  subst hsz
  have hD := hD0.self (sz := s.heap.size)
  generalize hAe : va_A [(h, .inr (6, [.int h_pieces, .ref h_piece, .int h_deeds, .ref h_deed, .int h_law, .ref h_st, .int h_acts, .ref h_was, .int h_keeps, .ref h_kept, .int h_seens, .ref h_seen, .ref h_text, .int h_texted, .int h_at, .ref h_told, .int h_readPieces, .ref h_readPiece, .ref h_readRoom, .int h_readDeeds, .ref h_readDeed, .int h_readCoins, .int h_readLaw, .ref h_now])), (h_text, .inl (cI, 200, .inl h_text_c))] s.heap.size = A at hD ⊢
  have hA : ∀ q : Nat, s.heap.size ≤ q → A q := fun q h => by rw [← hAe]; exact Or.inr h
  have hS : va_S A s.heap s.heap [] := va_S.rf
  have hP : va_P D vwCl [(h, .inr (6, [.int h_pieces, .ref h_piece, .int h_deeds, .ref h_deed, .int h_law, .ref h_st, .int h_acts, .ref h_was, .int h_keeps, .ref h_kept, .int h_seens, .ref h_seen, .ref h_text, .int h_texted, .int h_at, .ref h_told, .int h_readPieces, .ref h_readPiece, .ref h_readRoom, .int h_readDeeds, .ref h_readDeed, .int h_readCoins, .int h_readLaw, .ref h_now])), (h_text, .inl (cI, 200, .inl h_text_c))] s.heap := hP
  have hl := lv_entry ([.ref h, .int a1]) (n := 2) (Nat.le_of_ble_eq_true rfl)
  rw [lg_entry_eq]
  generalize (lg_sl ([.ref h, .int a1]) ++ List.replicate (2 - (lg_sl ([.ref h, .int a1])).length) Slot.unset).toArray = ls at hl ⊢
  have hl : lv_has ls 2 [(0, .ref h), (1, .int a1)] := hl
  unfold m_X6_write at hf
  refine lv_iload_n hx hb dX6_write_0 rfl (lv_at hl 1 rfl) ?_
  refine lv_bipush (v := 32) hx hb dX6_write_1 (by decide) ?_
  refine lv_bipush (v := 126) hx hb dX6_write_3 (by decide) ?_
  obtain ⟨x1, hv_1, hf⟩ := ob1_some hf
  refine q_rSi (As := [.int a1, .int 32, .int 126]) (rest := []) (r := x1) ⟨hx, hb, hml, hown, hts⟩ (c_X6_in l D cI cC cL cB a1 ((32 : Int32)) ((126 : Int32)) x1 hv_1) (va_cwS 3 hts gX6_write_X6_in rfl rfl rfl (by decide +kernel) ⟨Nat.le_of_ble_eq_true rfl, Nat.le_of_ble_eq_true rfl⟩) hK hP [] rfl rfl hl.1 rfl (Nat.le_of_ble_eq_true rfl) dX6_write_5 ⟨Nat.le_of_ble_eq_true rfl, Nat.le_of_ble_eq_true rfl⟩ ?_
  refine lv_if_ne (tgt := 13) hx hb dX6_write_8 (by decide) (fun c_2 => ?_) (fun c_2 => ?_)
  · have hf := im c_2 hf
    refine lv_aload_n hx hb dX6_write_13 rfl (lv_at hl 0 rfl) ?_
    refine va_get (D := D) (ci := 6) (v := .int h_texted) (C := RX6) (T := TX6) (N := 24) hx hb hts uX6_write_X6 hown hK hP 0 rfl rfl 13 (by decide) (hts (.fieldLink RX6 83 "SpeaksForTheChairModel" "texted" "I") (List.mem_of_getElem? (i := 1) rfl)) (fun _ h9 => h9) rfl dX6_write_14 ?_
    refine lv_sipush (v := 200) hx hb dX6_write_17 (by decide) ?_
    refine lv_icmp_ne (tgt := 26) hx hb dX6_write_20 (by decide) (fun c_3 => ?_) (fun c_3 => ?_)
    · have hf := im c_3 hf
      refine lv_aload_n hx hb dX6_write_26 rfl (lv_at hl 0 rfl) ?_
      refine va_get (D := D) (ci := 6) (v := .ref h_text) (C := RX6) (T := TX6) (N := 24) hx hb hts uX6_write_X6 hown hK hP 0 rfl rfl 12 (by decide) (hts (.fieldLink RX6 28 "SpeaksForTheChairModel" "text" "[I") (List.mem_of_getElem? (i := 2) rfl)) (fun _ h9 => h9) rfl dX6_write_27 ?_
      refine lv_aload_n hx hb dX6_write_30 rfl (lv_at hl 0 rfl) ?_
      refine va_get (D := D) (ci := 6) (v := .int h_texted) (C := RX6) (T := TX6) (N := 24) hx hb hts uX6_write_X6 hown hK hP 0 rfl rfl 13 (by decide) (hts (.fieldLink RX6 83 "SpeaksForTheChairModel" "texted" "I") (List.mem_of_getElem? (i := 1) rfl)) (fun _ h9 => h9) rfl dX6_write_31 ?_
      refine lv_iload_n hx hb dX6_write_34 rfl (lv_at hl 1 rfl) ?_
      obtain ⟨g_4, hf⟩ := gu_in hf
      refine va_iast hx hb hK hP hD hS 1 0 rfl rfl g_4 dX6_write_35 (fun H locs hP hD hS => ?_)
      obtain ⟨c2, ec2⟩ : ∃ y : Nat → Int32, y = (upd h_text_c h_texted.toNatClampNeg a1) := ⟨_, rfl⟩
      have hf := pv_eq ec2 hf
      rw [← ec2] at hP hD
      have hP : va_P D vwCl [(h, .inr (6, [.int h_pieces, .ref h_piece, .int h_deeds, .ref h_deed, .int h_law, .ref h_st, .int h_acts, .ref h_was, .int h_keeps, .ref h_kept, .int h_seens, .ref h_seen, .ref h_text, .int h_texted, .int h_at, .ref h_told, .int h_readPieces, .ref h_readPiece, .ref h_readRoom, .int h_readDeeds, .ref h_readDeed, .int h_readCoins, .int h_readLaw, .ref h_now])), (h_text, .inl (cI, 200, .inl c2))] H := hP
      have hD : va_D A [(h, .inr (6, [.int h_pieces, .ref h_piece, .int h_deeds, .ref h_deed, .int h_law, .ref h_st, .int h_acts, .ref h_was, .int h_keeps, .ref h_kept, .int h_seens, .ref h_seen, .ref h_text, .int h_texted, .int h_at, .ref h_told, .int h_readPieces, .ref h_readPiece, .ref h_readRoom, .int h_readDeeds, .ref h_readDeed, .int h_readCoins, .int h_readLaw, .ref h_now])), (h_text, .inl (cI, 200, .inl c2))] := hD
      refine lv_aload_n hx hb dX6_write_36 rfl (lv_at hl 0 rfl) ?_
      refine lv_dup hx hb dX6_write_37 rfl ?_
      refine va_get (D := D) (ci := 6) (v := .int h_texted) (C := RX6) (T := TX6) (N := 24) hx hb hts uX6_write_X6 hown hK hP 0 rfl rfl 13 (by decide) (hts (.fieldLink RX6 83 "SpeaksForTheChairModel" "texted" "I") (List.mem_of_getElem? (i := 1) rfl)) (fun _ h9 => h9) rfl dX6_write_38 ?_
      refine lv_iconst (v := 1) hx hb dX6_write_41 (by decide) ?_
      refine lv_iadd hx hb dX6_write_42 ?_
      refine lv_topi (fun f3 ef3 => ?_)
      have hf := pv_eq ef3 hf
      refine va_put (D := D) (ci := 6) (v := .int f3) (ty := .int) (C := RX6) (T := TX6) (N := 24) hx hb hts uX6_write_X6 tyX6 tyX6_ok nmX6 hown hK hP hD hS 0 rfl rfl 13 (by decide) (hts (.fieldLink RX6 83 "SpeaksForTheChairModel" "texted" "I") (List.mem_of_getElem? (i := 1) rfl)) (fun _ h9 => h9) rfl (by decide +kernel) rfl rfl (Nat.le_of_ble_eq_true rfl) dX6_write_43 (fun H locs hP hD hS => ?_)
      have hP : va_P D vwCl [(h, .inr (6, [.int h_pieces, .ref h_piece, .int h_deeds, .ref h_deed, .int h_law, .ref h_st, .int h_acts, .ref h_was, .int h_keeps, .ref h_kept, .int h_seens, .ref h_seen, .ref h_text, .int f3, .int h_at, .ref h_told, .int h_readPieces, .ref h_readPiece, .ref h_readRoom, .int h_readDeeds, .ref h_readDeed, .int h_readCoins, .int h_readLaw, .ref h_now])), (h_text, .inl (cI, 200, .inl c2))] H := hP
      have hD : va_D A [(h, .inr (6, [.int h_pieces, .ref h_piece, .int h_deeds, .ref h_deed, .int h_law, .ref h_st, .int h_acts, .ref h_was, .int h_keeps, .ref h_kept, .int h_seens, .ref h_seen, .ref h_text, .int f3, .int h_at, .ref h_told, .int h_readPieces, .ref h_readPiece, .ref h_readRoom, .int h_readDeeds, .ref h_readDeed, .int h_readCoins, .int h_readLaw, .ref h_now])), (h_text, .inl (cI, 200, .inl c2))] := hD
      refine lv_aload_n hx hb dX6_write_46 rfl (lv_at hl 0 rfl) ?_
      refine va_get (D := D) (ci := 6) (v := .int f3) (C := RX6) (T := TX6) (N := 24) hx hb hts uX6_write_X6 hown hK hP 0 rfl rfl 13 (by decide) (hts (.fieldLink RX6 83 "SpeaksForTheChairModel" "texted" "I") (List.mem_of_getElem? (i := 1) rfl)) (fun _ h9 => h9) rfl dX6_write_47 ?_
      cases hf
      exact W.iret hx hb hr (fun t ht hW => ⟨⟨_, (), rfl, rfl, by rw [ht]; exact hP, va_K.moved hW.alike hK, hD⟩, hS.F ht⟩) hS.2.2 dX6_write_50
    · have hf := ip c_3 hf
      refine lv_bipush (v := (-3)) hx hb dX6_write_23 (by decide) ?_
      cases hf
      exact W.iret hx hb hr (fun t ht hW => ⟨⟨_, (), rfl, rfl, by rw [ht]; exact hP, va_K.moved hW.alike hK, hD⟩, hS.F ht⟩) hS.2.2 dX6_write_25
  · have hf := ip c_2 hf
    refine lv_iconst (v := (-1)) hx hb dX6_write_11 (by decide) ?_
    cases hf
    exact W.iret hx hb hr (fun t ht hW => ⟨⟨_, (), rfl, rfl, by rw [ht]; exact hP, va_K.moved hW.alike hK, hD⟩, hS.F ht⟩) hS.2.2 dX6_write_12
theorem uX6_wipe_X6 : ∀ w ∈ wsX60, w ∈ wsX6_wipe := fun w h => List.mem_cons_of_mem _ (List.mem_append_right _ h)
set_option maxHeartbeats 4000000 in
set_option maxRecDepth 100000 in
theorem c_X6_wipe (l : Launch) (D : va_G) (cI cC cL cB : ClassId) (sz : Nat) (h : Nat) (h_piece : Nat) (h_deed : Nat) (h_st : Nat) (h_was : Nat) (h_kept : Nat) (h_seen : Nat) (h_text : Nat) (h_told : Nat) (h_readPiece : Nat) (h_readRoom : Nat) (h_readDeed : Nat) (h_now : Nat) (h_pieces : Int32) (h_deeds : Int32) (h_law : Int32) (h_acts : Int32) (h_keeps : Int32) (h_seens : Int32) (h_texted : Int32) (h_at : Int32) (h_readPieces : Int32) (h_readDeeds : Int32) (h_readCoins : Int32) (h_readLaw : Int32) (r : Int32) (o0 : Int32) (hf : m_X6_wipe h_texted = some (r, o0)) : Met l yX6_wipe wsX6_wipe ({ frames := 0, cells := 0, slots := 0, locals := 0 }) (va_Pc [.ref h] (q_W D vwCl (tyL cI cC cL cB) [(h, .inr (6, [.int h_pieces, .ref h_piece, .int h_deeds, .ref h_deed, .int h_law, .ref h_st, .int h_acts, .ref h_was, .int h_keeps, .ref h_kept, .int h_seens, .ref h_seen, .ref h_text, .int h_texted, .int h_at, .ref h_told, .int h_readPieces, .ref h_readPiece, .ref h_readRoom, .int h_readDeeds, .ref h_readDeed, .int h_readCoins, .int h_readLaw, .ref h_now]))] sz)) (va_Qi (fun r' _ => r' = r) (q_E D vwCl (tyL cI cC cL cB) (va_A [(h, .inr (6, [.int h_pieces, .ref h_piece, .int h_deeds, .ref h_deed, .int h_law, .ref h_st, .int h_acts, .ref h_was, .int h_keeps, .ref h_kept, .int h_seens, .ref h_seen, .ref h_text, .int h_texted, .int h_at, .ref h_told, .int h_readPieces, .ref h_readPiece, .ref h_readRoom, .int h_readDeeds, .ref h_readDeed, .int h_readCoins, .int h_readLaw, .ref h_now]))] sz) [(h, .inr (6, [.int h_pieces, .ref h_piece, .int h_deeds, .ref h_deed, .int h_law, .ref h_st, .int h_acts, .ref h_was, .int h_keeps, .ref h_kept, .int h_seens, .ref h_seen, .ref h_text, .int o0, .int h_at, .ref h_told, .int h_readPieces, .ref h_readPiece, .ref h_readRoom, .int h_readDeeds, .ref h_readDeed, .int h_readCoins, .int h_readLaw, .ref h_now]))]) (va_A [(h, .inr (6, [.int h_pieces, .ref h_piece, .int h_deeds, .ref h_deed, .int h_law, .ref h_st, .int h_acts, .ref h_was, .int h_keeps, .ref h_kept, .int h_seens, .ref h_seen, .ref h_text, .int h_texted, .int h_at, .ref h_told, .int h_readPieces, .ref h_readPiece, .ref h_readRoom, .int h_readDeeds, .ref h_readDeed, .int h_readCoins, .int h_readLaw, .ref h_now]))] sz)) 0 0 (va_A [(h, .inr (6, [.int h_pieces, .ref h_piece, .int h_deeds, .ref h_deed, .int h_law, .ref h_st, .int h_acts, .ref h_was, .int h_keeps, .ref h_kept, .int h_seens, .ref h_seen, .ref h_text, .int h_texted, .int h_at, .ref h_told, .int h_readPieces, .ref h_readPiece, .ref h_readRoom, .int h_readDeeds, .ref h_readDeed, .int h_readCoins, .int h_readLaw, .ref h_now]))] sz) := by
  refine Met.ofW (cc := cX6_wipe) (maxL := 2) (ret := (some .int)) (by decide) rfl ?_
  intro p e s m args below meth c s₁ B hml hv
  obtain ⟨rfl, hsz, hP, hK, hD0⟩ := hv
  have hx := B.exec
  have hb := B.bytes
  have hr := B.returns
  have hts := atoms_spec (ws := wsX6_wipe) B.pre
  have hown : s.vm.findClass RX6 = some m.cls := findClass_of_methodNamed B.named
  have hlocks := B.notSynchronized
  subst hsz
  have hD := hD0.self (sz := s.heap.size)
  generalize hAe : va_A [(h, .inr (6, [.int h_pieces, .ref h_piece, .int h_deeds, .ref h_deed, .int h_law, .ref h_st, .int h_acts, .ref h_was, .int h_keeps, .ref h_kept, .int h_seens, .ref h_seen, .ref h_text, .int h_texted, .int h_at, .ref h_told, .int h_readPieces, .ref h_readPiece, .ref h_readRoom, .int h_readDeeds, .ref h_readDeed, .int h_readCoins, .int h_readLaw, .ref h_now]))] s.heap.size = A at hD ⊢
  have hA : ∀ q : Nat, s.heap.size ≤ q → A q := fun q h => by rw [← hAe]; exact Or.inr h
  have hS : va_S A s.heap s.heap [] := va_S.rf
  have hP : va_P D vwCl [(h, .inr (6, [.int h_pieces, .ref h_piece, .int h_deeds, .ref h_deed, .int h_law, .ref h_st, .int h_acts, .ref h_was, .int h_keeps, .ref h_kept, .int h_seens, .ref h_seen, .ref h_text, .int h_texted, .int h_at, .ref h_told, .int h_readPieces, .ref h_readPiece, .ref h_readRoom, .int h_readDeeds, .ref h_readDeed, .int h_readCoins, .int h_readLaw, .ref h_now]))] s.heap := hP
  have hl := lv_entry ([.ref h]) (n := 2) (Nat.le_of_ble_eq_true rfl)
  rw [lg_entry_eq]
  generalize (lg_sl ([.ref h]) ++ List.replicate (2 - (lg_sl ([.ref h])).length) Slot.unset).toArray = ls at hl ⊢
  have hl : lv_has ls 2 [(0, .ref h)] := hl
  unfold m_X6_wipe at hf
  refine lv_aload_n hx hb dX6_wipe_0 rfl (lv_at hl 0 rfl) ?_
  refine va_get (D := D) (ci := 6) (v := .int h_texted) (C := RX6) (T := TX6) (N := 24) hx hb hts uX6_wipe_X6 hown hK hP 0 rfl rfl 13 (by decide) (hts (.fieldLink RX6 83 "SpeaksForTheChairModel" "texted" "I") (List.mem_of_getElem? (i := 1) rfl)) (fun _ h9 => h9) rfl dX6_wipe_1 ?_
  refine lv_istore_n (lv' := [(1, .int h_texted), (0, .ref h)]) hx hb dX6_wipe_4 rfl hl (by decide) rfl (fun ls hl => ?_)
  refine lv_aload_n hx hb dX6_wipe_5 rfl (lv_at hl 1 rfl) ?_
  refine lv_iconst (v := 0) hx hb dX6_wipe_6 (by decide) ?_
  refine va_put (D := D) (ci := 6) (v := .int 0) (ty := .int) (C := RX6) (T := TX6) (N := 24) hx hb hts uX6_wipe_X6 tyX6 tyX6_ok nmX6 hown hK hP hD hS 0 rfl rfl 13 (by decide) (hts (.fieldLink RX6 83 "SpeaksForTheChairModel" "texted" "I") (List.mem_of_getElem? (i := 1) rfl)) (fun _ h9 => h9) rfl (by decide +kernel) rfl rfl (Nat.le_of_ble_eq_true rfl) dX6_wipe_7 (fun H locs hP hD hS => ?_)
  have hP : va_P D vwCl [(h, .inr (6, [.int h_pieces, .ref h_piece, .int h_deeds, .ref h_deed, .int h_law, .ref h_st, .int h_acts, .ref h_was, .int h_keeps, .ref h_kept, .int h_seens, .ref h_seen, .ref h_text, .int 0, .int h_at, .ref h_told, .int h_readPieces, .ref h_readPiece, .ref h_readRoom, .int h_readDeeds, .ref h_readDeed, .int h_readCoins, .int h_readLaw, .ref h_now]))] H := hP
  have hD : va_D A [(h, .inr (6, [.int h_pieces, .ref h_piece, .int h_deeds, .ref h_deed, .int h_law, .ref h_st, .int h_acts, .ref h_was, .int h_keeps, .ref h_kept, .int h_seens, .ref h_seen, .ref h_text, .int 0, .int h_at, .ref h_told, .int h_readPieces, .ref h_readPiece, .ref h_readRoom, .int h_readDeeds, .ref h_readDeed, .int h_readCoins, .int h_readLaw, .ref h_now]))] := hD
  refine lv_iload_n hx hb dX6_wipe_10 rfl (lv_at hl 0 rfl) ?_
  cases hf
  exact W.iret hx hb hr (fun t ht hW => ⟨⟨_, (), rfl, rfl, by rw [ht]; exact hP, va_K.moved hW.alike hK, hD⟩, hS.F ht⟩) hS.2.2 dX6_wipe_11
theorem uX6_letterAt_X6 : ∀ w ∈ wsX60, w ∈ wsX6_letterAt := fun w h => List.mem_cons_of_mem _ (List.mem_append_right _ h)
set_option maxHeartbeats 4000000 in
set_option maxRecDepth 100000 in
theorem c_X6_letterAt (l : Launch) (D : va_G) (cI cC cL cB : ClassId) (h : Nat) (h_piece : Nat) (h_deed : Nat) (h_st : Nat) (h_was : Nat) (h_kept : Nat) (h_seen : Nat) (h_text : Nat) (h_told : Nat) (h_readPiece : Nat) (h_readRoom : Nat) (h_readDeed : Nat) (h_now : Nat) (a1 : Int32) (h_pieces : Int32) (h_deeds : Int32) (h_law : Int32) (h_acts : Int32) (h_keeps : Int32) (h_seens : Int32) (h_texted : Int32) (h_at : Int32) (h_readPieces : Int32) (h_readDeeds : Int32) (h_readCoins : Int32) (h_readLaw : Int32) (h_text_c : Nat → Int32) (r : Int32) (hf : m_X6_letterAt a1 h_texted h_text_c = some r) : Met l yX6_letterAt wsX6_letterAt ({ frames := 0, cells := 0, slots := 0, locals := 0 }) (va_Pc [.ref h, .int a1] (q_R D vwCl (tyL cI cC cL cB) [(h, .inr (6, [.int h_pieces, .ref h_piece, .int h_deeds, .ref h_deed, .int h_law, .ref h_st, .int h_acts, .ref h_was, .int h_keeps, .ref h_kept, .int h_seens, .ref h_seen, .ref h_text, .int h_texted, .int h_at, .ref h_told, .int h_readPieces, .ref h_readPiece, .ref h_readRoom, .int h_readDeeds, .ref h_readDeed, .int h_readCoins, .int h_readLaw, .ref h_now])), (h_text, .inl (cI, 200, .inl h_text_c))])) (vp_Si (fun r' => r' = r)) 0 0 (fun _ => False) := by
  refine Met.ofW (cc := cX6_letterAt) (maxL := 2) (ret := (some .int)) (by decide) rfl ?_
  intro p e s m args below meth c s₁ B hml hv
  obtain ⟨rfl, hP, hK⟩ := hv
  have hx := B.exec
  have hb := B.bytes
  have hr := B.returns
  have hts := atoms_spec (ws := wsX6_letterAt) B.pre
  have hown : s.vm.findClass RX6 = some m.cls := findClass_of_methodNamed B.named
  have hlocks := B.notSynchronized
  have hl := lv_entry ([.ref h, .int a1]) (n := 2) (Nat.le_of_ble_eq_true rfl)
  rw [lg_entry_eq]
  generalize (lg_sl ([.ref h, .int a1]) ++ List.replicate (2 - (lg_sl ([.ref h, .int a1])).length) Slot.unset).toArray = ls at hl ⊢
  have hl : lv_has ls 2 [(0, .ref h), (1, .int a1)] := hl
  unfold m_X6_letterAt at hf
  refine lv_iload_n hx hb dX6_letterAt_0 rfl (lv_at hl 1 rfl) ?_
  refine lv_aload_n hx hb dX6_letterAt_1 rfl (lv_at hl 0 rfl) ?_
  refine va_get (D := D) (ci := 6) (v := .int h_texted) (C := RX6) (T := TX6) (N := 24) hx hb hts uX6_letterAt_X6 hown hK hP 0 rfl rfl 13 (by decide) (hts (.fieldLink RX6 83 "SpeaksForTheChairModel" "texted" "I") (List.mem_of_getElem? (i := 1) rfl)) (fun _ h9 => h9) rfl dX6_letterAt_2 ?_
  refine lv_icmp_ge (tgt := 17) hx hb dX6_letterAt_5 (by decide) (fun c_1 => ?_) (fun c_1 => ?_)
  · have hf := ip c_1 hf
    refine lv_iconst (v := (-1)) hx hb dX6_letterAt_17 (by decide) ?_
    cases hf
    exact W.iret hx hb hr (fun t ht hW => ⟨_, rfl, rfl, ht⟩) (fun _ h => by cases h) dX6_letterAt_18
  · have hf := im c_1 hf
    refine lv_aload_n hx hb dX6_letterAt_8 rfl (lv_at hl 0 rfl) ?_
    refine va_get (D := D) (ci := 6) (v := .ref h_text) (C := RX6) (T := TX6) (N := 24) hx hb hts uX6_letterAt_X6 hown hK hP 0 rfl rfl 12 (by decide) (hts (.fieldLink RX6 28 "SpeaksForTheChairModel" "text" "[I") (List.mem_of_getElem? (i := 2) rfl)) (fun _ h9 => h9) rfl dX6_letterAt_9 ?_
    refine lv_iload_n hx hb dX6_letterAt_12 rfl (lv_at hl 1 rfl) ?_
    obtain ⟨g_2, hf⟩ := gu_in hf
    refine va_iald hx hb hK hP 1 0 rfl rfl g_2 dX6_letterAt_13 ?_
    refine lv_goto (tgt := 18) hx hb dX6_letterAt_14 (by decide) ?_
    cases hf
    exact W.iret hx hb hr (fun t ht hW => ⟨_, rfl, rfl, ht⟩) (fun _ h => by cases h) dX6_letterAt_18
set_option maxHeartbeats 4000000 in
set_option maxRecDepth 100000 in
theorem c_X6_isFigure (l : Launch) (D : va_G) (cI cC cL cB : ClassId) (a1 : Int32) (r : Int32) (hf : m_X6_isFigure a1 = some r) : Met l yX6_isFigure wsX6_isFigure ({ frames := 1, cells := 0, slots := 0, locals := 22 }) (va_Pc [.int a1] (q_R D vwCl (tyL cI cC cL cB) [])) (vp_Si (fun r' => r' = r)) 0 0 (fun _ => False) := by
  refine Met.ofW (cc := cX6_isFigure) (maxL := 1) (ret := (some .boolean)) (by decide) rfl ?_
  intro p e s m args below meth c s₁ B hml hv
  obtain ⟨rfl, hP, hK⟩ := hv
  have hx := B.exec
  have hb := B.bytes
  have hr := B.returns
  have hts := atoms_spec (ws := wsX6_isFigure) B.pre
  have hown : s.vm.findClass RX6 = some m.cls := findClass_of_methodNamed B.named
  have hlocks := B.notSynchronized
  have hl := lv_entry ([.int a1]) (n := 1) (Nat.le_of_ble_eq_true rfl)
  rw [lg_entry_eq]
  generalize (lg_sl ([.int a1]) ++ List.replicate (1 - (lg_sl ([.int a1])).length) Slot.unset).toArray = ls at hl ⊢
  have hl : lv_has ls 1 [(0, .int a1)] := hl
  unfold m_X6_isFigure at hf
  refine lv_iload_n hx hb dX6_isFigure_0 rfl (lv_at hl 0 rfl) ?_
  refine lv_bipush (v := 48) hx hb dX6_isFigure_1 (by decide) ?_
  refine lv_bipush (v := 57) hx hb dX6_isFigure_3 (by decide) ?_
  obtain ⟨x1, hv_1, hf⟩ := ob1_some hf
  refine q_rSi (As := [.int a1, .int 48, .int 57]) (rest := []) (r := x1) ⟨hx, hb, hml, hown, hts⟩ (c_X6_in l D cI cC cL cB a1 ((48 : Int32)) ((57 : Int32)) x1 hv_1) (va_cwS 3 hts gX6_isFigure_X6_in rfl rfl rfl (by decide +kernel) ⟨Nat.le_of_ble_eq_true rfl, Nat.le_of_ble_eq_true rfl⟩) hK hP [] rfl rfl hl.1 rfl (Nat.le_of_ble_eq_true rfl) dX6_isFigure_5 ⟨Nat.le_of_ble_eq_true rfl, Nat.le_of_ble_eq_true rfl⟩ ?_
  obtain ⟨g_2, hf⟩ := gu_bool hf
  cases hf
  exact W.zret hx hb hr g_2 (fun t ht hW => ⟨_, rfl, rfl, ht⟩) (fun _ h => by cases h) dX6_isFigure_8
theorem uX6_readNumbers_X6 : ∀ w ∈ wsX60, w ∈ wsX6_readNumbers := fun w h => List.mem_cons_of_mem _ (List.mem_append_right _ h)
set_option maxHeartbeats 4000000 in
set_option maxRecDepth 100000 in
theorem c_X6_readNumbers (l : Launch) (D : va_G) (cI cC cL cB : ClassId) (sz : Nat) (h : Nat) (h_piece : Nat) (h_deed : Nat) (h_st : Nat) (h_was : Nat) (h_kept : Nat) (h_seen : Nat) (h_text : Nat) (h_told : Nat) (h_readPiece : Nat) (h_readRoom : Nat) (h_readDeed : Nat) (h_now : Nat) (a1 : Int32) (h_pieces : Int32) (h_deeds : Int32) (h_law : Int32) (h_acts : Int32) (h_keeps : Int32) (h_seens : Int32) (h_texted : Int32) (h_at : Int32) (h_readPieces : Int32) (h_readDeeds : Int32) (h_readCoins : Int32) (h_readLaw : Int32) (h_text_c : Nat → Int32) (h_told_c : Nat → Int32) (r : Int32) (o0 : Int32) (o1 : Nat → Int32) (hf : m_X6_readNumbers a1 h_texted h_at h_text_c h_told_c = some (r, o0, o1)) : Met l yX6_readNumbers wsX6_readNumbers ({ frames := 2, cells := 0, slots := 0, locals := 42 }) (va_Pc [.ref h, .int a1] (q_W D vwCl (tyL cI cC cL cB) [(h, .inr (6, [.int h_pieces, .ref h_piece, .int h_deeds, .ref h_deed, .int h_law, .ref h_st, .int h_acts, .ref h_was, .int h_keeps, .ref h_kept, .int h_seens, .ref h_seen, .ref h_text, .int h_texted, .int h_at, .ref h_told, .int h_readPieces, .ref h_readPiece, .ref h_readRoom, .int h_readDeeds, .ref h_readDeed, .int h_readCoins, .int h_readLaw, .ref h_now])), (h_text, .inl (cI, 200, .inl h_text_c)), (h_told, .inl (cI, 4, .inl h_told_c))] sz)) (va_Qi (fun r' _ => r' = r) (q_E D vwCl (tyL cI cC cL cB) (va_A [(h, .inr (6, [.int h_pieces, .ref h_piece, .int h_deeds, .ref h_deed, .int h_law, .ref h_st, .int h_acts, .ref h_was, .int h_keeps, .ref h_kept, .int h_seens, .ref h_seen, .ref h_text, .int h_texted, .int h_at, .ref h_told, .int h_readPieces, .ref h_readPiece, .ref h_readRoom, .int h_readDeeds, .ref h_readDeed, .int h_readCoins, .int h_readLaw, .ref h_now])), (h_text, .inl (cI, 200, .inl h_text_c)), (h_told, .inl (cI, 4, .inl h_told_c))] sz) [(h, .inr (6, [.int h_pieces, .ref h_piece, .int h_deeds, .ref h_deed, .int h_law, .ref h_st, .int h_acts, .ref h_was, .int h_keeps, .ref h_kept, .int h_seens, .ref h_seen, .ref h_text, .int h_texted, .int o0, .ref h_told, .int h_readPieces, .ref h_readPiece, .ref h_readRoom, .int h_readDeeds, .ref h_readDeed, .int h_readCoins, .int h_readLaw, .ref h_now])), (h_text, .inl (cI, 200, .inl h_text_c)), (h_told, .inl (cI, 4, .inl o1))]) (va_A [(h, .inr (6, [.int h_pieces, .ref h_piece, .int h_deeds, .ref h_deed, .int h_law, .ref h_st, .int h_acts, .ref h_was, .int h_keeps, .ref h_kept, .int h_seens, .ref h_seen, .ref h_text, .int h_texted, .int h_at, .ref h_told, .int h_readPieces, .ref h_readPiece, .ref h_readRoom, .int h_readDeeds, .ref h_readDeed, .int h_readCoins, .int h_readLaw, .ref h_now])), (h_text, .inl (cI, 200, .inl h_text_c)), (h_told, .inl (cI, 4, .inl h_told_c))] sz)) 0 0 (va_A [(h, .inr (6, [.int h_pieces, .ref h_piece, .int h_deeds, .ref h_deed, .int h_law, .ref h_st, .int h_acts, .ref h_was, .int h_keeps, .ref h_kept, .int h_seens, .ref h_seen, .ref h_text, .int h_texted, .int h_at, .ref h_told, .int h_readPieces, .ref h_readPiece, .ref h_readRoom, .int h_readDeeds, .ref h_readDeed, .int h_readCoins, .int h_readLaw, .ref h_now])), (h_text, .inl (cI, 200, .inl h_text_c)), (h_told, .inl (cI, 4, .inl h_told_c))] sz) := by
  refine Met.ofW (cc := cX6_readNumbers) (maxL := 3) (ret := (some .boolean)) (by decide) rfl ?_
  intro p e s m args below meth c s₁ B hml hv
  obtain ⟨rfl, hsz, hP, hK, hD0⟩ := hv
  have hx := B.exec
  have hb := B.bytes
  have hr := B.returns
  have hts := atoms_spec (ws := wsX6_readNumbers) B.pre
  have hown : s.vm.findClass RX6 = some m.cls := findClass_of_methodNamed B.named
  have hlocks := B.notSynchronized
  subst hsz
  have hD := hD0.self (sz := s.heap.size)
  generalize hAe : va_A [(h, .inr (6, [.int h_pieces, .ref h_piece, .int h_deeds, .ref h_deed, .int h_law, .ref h_st, .int h_acts, .ref h_was, .int h_keeps, .ref h_kept, .int h_seens, .ref h_seen, .ref h_text, .int h_texted, .int h_at, .ref h_told, .int h_readPieces, .ref h_readPiece, .ref h_readRoom, .int h_readDeeds, .ref h_readDeed, .int h_readCoins, .int h_readLaw, .ref h_now])), (h_text, .inl (cI, 200, .inl h_text_c)), (h_told, .inl (cI, 4, .inl h_told_c))] s.heap.size = A at hD ⊢
  have hA : ∀ q : Nat, s.heap.size ≤ q → A q := fun q h => by rw [← hAe]; exact Or.inr h
  have hS : va_S A s.heap s.heap [] := va_S.rf
  have hP : va_P D vwCl [(h, .inr (6, [.int h_pieces, .ref h_piece, .int h_deeds, .ref h_deed, .int h_law, .ref h_st, .int h_acts, .ref h_was, .int h_keeps, .ref h_kept, .int h_seens, .ref h_seen, .ref h_text, .int h_texted, .int h_at, .ref h_told, .int h_readPieces, .ref h_readPiece, .ref h_readRoom, .int h_readDeeds, .ref h_readDeed, .int h_readCoins, .int h_readLaw, .ref h_now])), (h_text, .inl (cI, 200, .inl h_text_c)), (h_told, .inl (cI, 4, .inl h_told_c))] s.heap := hP
  have hl := lv_entry ([.ref h, .int a1]) (n := 3) (Nat.le_of_ble_eq_true rfl)
  rw [lg_entry_eq]
  generalize (lg_sl ([.ref h, .int a1]) ++ List.replicate (3 - (lg_sl ([.ref h, .int a1])).length) Slot.unset).toArray = ls at hl ⊢
  have hl : lv_has ls 3 [(0, .ref h), (1, .int a1)] := hl
  unfold m_X6_readNumbers at hf
  refine lv_iconst (v := 0) hx hb dX6_readNumbers_0 (by decide) ?_
  refine lv_istore_n (lv' := [(2, .int 0), (0, .ref h), (1, .int a1)]) hx hb dX6_readNumbers_1 rfl hl (by decide) rfl (fun ls hl => ?_)
  have loop2 : ∀ (n : Nat) (x1 : Int32) (c2 : Nat → Int32) (x3 : Int32), ∀ (H : Heap) (locs : List Loc), va_P D vwCl [(h, .inr (6, [.int h_pieces, .ref h_piece, .int h_deeds, .ref h_deed, .int h_law, .ref h_st, .int h_acts, .ref h_was, .int h_keeps, .ref h_kept, .int h_seens, .ref h_seen, .ref h_text, .int h_texted, .int x1, .ref h_told, .int h_readPieces, .ref h_readPiece, .ref h_readRoom, .int h_readDeeds, .ref h_readDeed, .int h_readCoins, .int h_readLaw, .ref h_now])), (h_text, .inl (cI, 200, .inl h_text_c)), (h_told, .inl (cI, 4, .inl c2))] H → va_D A [(h, .inr (6, [.int h_pieces, .ref h_piece, .int h_deeds, .ref h_deed, .int h_law, .ref h_st, .int h_acts, .ref h_was, .int h_keeps, .ref h_kept, .int h_seens, .ref h_seen, .ref h_text, .int h_texted, .int x1, .ref h_told, .int h_readPieces, .ref h_readPiece, .ref h_readRoom, .int h_readDeeds, .ref h_readDeed, .int h_readCoins, .int h_readLaw, .ref h_now])), (h_text, .inl (cI, 200, .inl h_text_c)), (h_told, .inl (cI, 4, .inl c2))] → va_S A s.heap H locs → ∀ (ls : Array Slot), lv_has ls 3 [(0, .ref h), (1, .int a1), (2, .int x3)] → L_X6_readNumbers_2 a1 h_texted h_text_c n x1 c2 x3 = some (r, o0, o1) → W p l e (headSpec wsX6_readNumbers ({ frames := 2, cells := 0, slots := 0, locals := 42 })).room s m ([.ref h, .int a1] : List Value).toArray below meth c H locs 0 0 (MQ below (va_Qi (fun r' _ => r' = r) (q_E D vwCl (tyL cI cC cL cB) A [(h, .inr (6, [.int h_pieces, .ref h_piece, .int h_deeds, .ref h_deed, .int h_law, .ref h_st, .int h_acts, .ref h_was, .int h_keeps, .ref h_kept, .int h_seens, .ref h_seen, .ref h_text, .int h_texted, .int o0, .ref h_told, .int h_readPieces, .ref h_readPiece, .ref h_readRoom, .int h_readDeeds, .ref h_readDeed, .int h_readCoins, .int h_readLaw, .ref h_now])), (h_text, .inl (cI, 200, .inl h_text_c)), (h_told, .inl (cI, 4, .inl o1))]) A) ([.ref h, .int a1] : List Value).toArray s 0 0 A) (F0 m 2 ls []) := by
    intro n
    induction n with
    | zero =>
      intro x1 c2 x3 H locs hP hD hS ls hl hf
      rw [L_X6_readNumbers_2] at hf
      cases hf
    | succ n ih =>
      intro x1 c2 x3 H locs hP hD hS ls hl hf
      rw [L_X6_readNumbers_2] at hf
      refine lv_iload_n hx hb dX6_readNumbers_2 rfl (lv_at hl 2 rfl) ?_
      refine lv_iload_n hx hb dX6_readNumbers_3 rfl (lv_at hl 1 rfl) ?_
      refine lv_icmp_ge (tgt := 144) hx hb dX6_readNumbers_4 (by decide) (fun c_32 => ?_) (fun c_32 => ?_)
      · have hf := ip c_32 hf
        refine lv_iconst (v := 1) hx hb dX6_readNumbers_144 (by decide) ?_
        cases hf
        exact W.zret hx hb hr rfl (fun t ht hW => ⟨⟨_, (), rfl, rfl, by rw [ht]; exact hP, va_K.moved hW.alike hK, hD⟩, hS.F ht⟩) hS.2.2 dX6_readNumbers_145
      · have hf := im c_32 hf
        refine lv_aload_n hx hb dX6_readNumbers_7 rfl (lv_at hl 0 rfl) ?_
        refine lv_aload_n hx hb dX6_readNumbers_8 rfl (lv_at hl 0 rfl) ?_
        refine va_get (D := D) (ci := 6) (v := .int x1) (C := RX6) (T := TX6) (N := 24) hx hb hts uX6_readNumbers_X6 hown hK hP 0 rfl rfl 14 (by decide) (hts (.fieldLink RX6 86 "SpeaksForTheChairModel" "at" "I") (List.mem_of_getElem? (i := 1) rfl)) (fun _ h9 => h9) rfl dX6_readNumbers_9 ?_
        obtain ⟨x4, hv_33, hf⟩ := ob1_some hf
        refine q_rVi (As := [.int x1]) (rest := []) (r := x4) ⟨hx, hb, hml, hown, hts⟩ (c_X6_letterAt l D cI cC cL cB h h_piece h_deed h_st h_was h_kept h_seen h_text h_told h_readPiece h_readRoom h_readDeed h_now x1 h_pieces h_deeds h_law h_acts h_keeps h_seens h_texted x1 h_readPieces h_readDeeds h_readCoins h_readLaw h_text_c x4 hv_33) (cwV 1 hts gX6_readNumbers_X6_letterAt rfl rfl rfl (by decide +kernel) ⟨Nat.le_of_ble_eq_true rfl, Nat.le_of_ble_eq_true rfl⟩) hK hP [0, 1] rfl (va_recv hK hP (ci := 6) (q0 := 0) rfl rfl) rfl hl.1 rfl (Nat.le_of_ble_eq_true rfl) dX6_readNumbers_12 ⟨Nat.le_of_ble_eq_true rfl, Nat.le_of_ble_eq_true rfl⟩ ?_
        obtain ⟨x5, hv_34, hf⟩ := ob1_some hf
        refine q_rSi (As := [.int x4]) (rest := []) (r := x5) ⟨hx, hb, hml, hown, hts⟩ (c_X6_isFigure l D cI cC cL cB x4 x5 hv_34) (va_cwS 1 hts gX6_readNumbers_X6_isFigure rfl rfl rfl (by decide +kernel) ⟨Nat.le_of_ble_eq_true rfl, Nat.le_of_ble_eq_true rfl⟩) hK hP [] rfl rfl hl.1 rfl (Nat.le_of_ble_eq_true rfl) dX6_readNumbers_15 ⟨Nat.le_of_ble_eq_true rfl, Nat.le_of_ble_eq_true rfl⟩ ?_
        refine lv_if_ne (tgt := 23) hx hb dX6_readNumbers_18 (by decide) (fun c_35 => ?_) (fun c_35 => ?_)
        · have hf := im c_35 hf
          refine lv_aload_n hx hb dX6_readNumbers_23 rfl (lv_at hl 0 rfl) ?_
          refine va_get (D := D) (ci := 6) (v := .ref h_told) (C := RX6) (T := TX6) (N := 24) hx hb hts uX6_readNumbers_X6 hown hK hP 0 rfl rfl 15 (by decide) (hts (.fieldLink RX6 31 "SpeaksForTheChairModel" "told" "[I") (List.mem_of_getElem? (i := 2) rfl)) (fun _ h9 => h9) rfl dX6_readNumbers_24 ?_
          refine lv_iload_n hx hb dX6_readNumbers_27 rfl (lv_at hl 2 rfl) ?_
          refine lv_aload_n hx hb dX6_readNumbers_28 rfl (lv_at hl 0 rfl) ?_
          refine lv_aload_n hx hb dX6_readNumbers_29 rfl (lv_at hl 0 rfl) ?_
          refine va_get (D := D) (ci := 6) (v := .int x1) (C := RX6) (T := TX6) (N := 24) hx hb hts uX6_readNumbers_X6 hown hK hP 0 rfl rfl 14 (by decide) (hts (.fieldLink RX6 86 "SpeaksForTheChairModel" "at" "I") (List.mem_of_getElem? (i := 1) rfl)) (fun _ h9 => h9) rfl dX6_readNumbers_30 ?_
          obtain ⟨x6, hv_36, hf⟩ := ob1_some hf
          refine q_rVi (As := [.int x1]) (rest := [.int x3, .ref h_told]) (r := x6) ⟨hx, hb, hml, hown, hts⟩ (c_X6_letterAt l D cI cC cL cB h h_piece h_deed h_st h_was h_kept h_seen h_text h_told h_readPiece h_readRoom h_readDeed h_now x1 h_pieces h_deeds h_law h_acts h_keeps h_seens h_texted x1 h_readPieces h_readDeeds h_readCoins h_readLaw h_text_c x6 hv_36) (cwV 1 hts gX6_readNumbers_X6_letterAt rfl rfl rfl (by decide +kernel) ⟨Nat.le_of_ble_eq_true rfl, Nat.le_of_ble_eq_true rfl⟩) hK hP [0, 1] rfl (va_recv hK hP (ci := 6) (q0 := 0) rfl rfl) rfl hl.1 rfl (Nat.le_of_ble_eq_true rfl) dX6_readNumbers_33 ⟨Nat.le_of_ble_eq_true rfl, Nat.le_of_ble_eq_true rfl⟩ ?_
          refine lv_bipush (v := 48) hx hb dX6_readNumbers_36 (by decide) ?_
          refine lv_isub hx hb dX6_readNumbers_38 ?_
          obtain ⟨g_37, hf⟩ := gu_in hf
          refine va_iast hx hb hK hP hD hS 2 0 rfl rfl g_37 dX6_readNumbers_39 (fun H locs hP hD hS => ?_)
          obtain ⟨c7, ec7⟩ : ∃ y : Nat → Int32, y = (upd c2 x3.toNatClampNeg (x6 - 48)) := ⟨_, rfl⟩
          have hf := pv_eq ec7 hf
          rw [← ec7] at hP hD
          have hP : va_P D vwCl [(h, .inr (6, [.int h_pieces, .ref h_piece, .int h_deeds, .ref h_deed, .int h_law, .ref h_st, .int h_acts, .ref h_was, .int h_keeps, .ref h_kept, .int h_seens, .ref h_seen, .ref h_text, .int h_texted, .int x1, .ref h_told, .int h_readPieces, .ref h_readPiece, .ref h_readRoom, .int h_readDeeds, .ref h_readDeed, .int h_readCoins, .int h_readLaw, .ref h_now])), (h_text, .inl (cI, 200, .inl h_text_c)), (h_told, .inl (cI, 4, .inl c7))] H := hP
          have hD : va_D A [(h, .inr (6, [.int h_pieces, .ref h_piece, .int h_deeds, .ref h_deed, .int h_law, .ref h_st, .int h_acts, .ref h_was, .int h_keeps, .ref h_kept, .int h_seens, .ref h_seen, .ref h_text, .int h_texted, .int x1, .ref h_told, .int h_readPieces, .ref h_readPiece, .ref h_readRoom, .int h_readDeeds, .ref h_readDeed, .int h_readCoins, .int h_readLaw, .ref h_now])), (h_text, .inl (cI, 200, .inl h_text_c)), (h_told, .inl (cI, 4, .inl c7))] := hD
          refine lv_aload_n hx hb dX6_readNumbers_40 rfl (lv_at hl 0 rfl) ?_
          refine lv_dup hx hb dX6_readNumbers_41 rfl ?_
          refine va_get (D := D) (ci := 6) (v := .int x1) (C := RX6) (T := TX6) (N := 24) hx hb hts uX6_readNumbers_X6 hown hK hP 0 rfl rfl 14 (by decide) (hts (.fieldLink RX6 86 "SpeaksForTheChairModel" "at" "I") (List.mem_of_getElem? (i := 1) rfl)) (fun _ h9 => h9) rfl dX6_readNumbers_42 ?_
          refine lv_iconst (v := 1) hx hb dX6_readNumbers_45 (by decide) ?_
          refine lv_iadd hx hb dX6_readNumbers_46 ?_
          refine lv_topi (fun f8 ef8 => ?_)
          have hf := pv_eq ef8 hf
          refine va_put (D := D) (ci := 6) (v := .int f8) (ty := .int) (C := RX6) (T := TX6) (N := 24) hx hb hts uX6_readNumbers_X6 tyX6 tyX6_ok nmX6 hown hK hP hD hS 0 rfl rfl 14 (by decide) (hts (.fieldLink RX6 86 "SpeaksForTheChairModel" "at" "I") (List.mem_of_getElem? (i := 1) rfl)) (fun _ h9 => h9) rfl (by decide +kernel) rfl rfl (Nat.le_of_ble_eq_true rfl) dX6_readNumbers_47 (fun H locs hP hD hS => ?_)
          have hP : va_P D vwCl [(h, .inr (6, [.int h_pieces, .ref h_piece, .int h_deeds, .ref h_deed, .int h_law, .ref h_st, .int h_acts, .ref h_was, .int h_keeps, .ref h_kept, .int h_seens, .ref h_seen, .ref h_text, .int h_texted, .int f8, .ref h_told, .int h_readPieces, .ref h_readPiece, .ref h_readRoom, .int h_readDeeds, .ref h_readDeed, .int h_readCoins, .int h_readLaw, .ref h_now])), (h_text, .inl (cI, 200, .inl h_text_c)), (h_told, .inl (cI, 4, .inl c7))] H := hP
          have hD : va_D A [(h, .inr (6, [.int h_pieces, .ref h_piece, .int h_deeds, .ref h_deed, .int h_law, .ref h_st, .int h_acts, .ref h_was, .int h_keeps, .ref h_kept, .int h_seens, .ref h_seen, .ref h_text, .int h_texted, .int f8, .ref h_told, .int h_readPieces, .ref h_readPiece, .ref h_readRoom, .int h_readDeeds, .ref h_readDeed, .int h_readCoins, .int h_readLaw, .ref h_now])), (h_text, .inl (cI, 200, .inl h_text_c)), (h_told, .inl (cI, 4, .inl c7))] := hD
          refine lv_aload_n hx hb dX6_readNumbers_50 rfl (lv_at hl 0 rfl) ?_
          refine lv_aload_n hx hb dX6_readNumbers_51 rfl (lv_at hl 0 rfl) ?_
          refine va_get (D := D) (ci := 6) (v := .int f8) (C := RX6) (T := TX6) (N := 24) hx hb hts uX6_readNumbers_X6 hown hK hP 0 rfl rfl 14 (by decide) (hts (.fieldLink RX6 86 "SpeaksForTheChairModel" "at" "I") (List.mem_of_getElem? (i := 1) rfl)) (fun _ h9 => h9) rfl dX6_readNumbers_52 ?_
          obtain ⟨x9, hv_38, hf⟩ := ob1_some hf
          refine q_rVi (As := [.int f8]) (rest := []) (r := x9) ⟨hx, hb, hml, hown, hts⟩ (c_X6_letterAt l D cI cC cL cB h h_piece h_deed h_st h_was h_kept h_seen h_text h_told h_readPiece h_readRoom h_readDeed h_now f8 h_pieces h_deeds h_law h_acts h_keeps h_seens h_texted f8 h_readPieces h_readDeeds h_readCoins h_readLaw h_text_c x9 hv_38) (cwV 1 hts gX6_readNumbers_X6_letterAt rfl rfl rfl (by decide +kernel) ⟨Nat.le_of_ble_eq_true rfl, Nat.le_of_ble_eq_true rfl⟩) hK hP [0, 1] rfl (va_recv hK hP (ci := 6) (q0 := 0) rfl rfl) rfl hl.1 rfl (Nat.le_of_ble_eq_true rfl) dX6_readNumbers_55 ⟨Nat.le_of_ble_eq_true rfl, Nat.le_of_ble_eq_true rfl⟩ ?_
          obtain ⟨x10, hv_39, hf⟩ := ob1_some hf
          refine q_rSi (As := [.int x9]) (rest := []) (r := x10) ⟨hx, hb, hml, hown, hts⟩ (c_X6_isFigure l D cI cC cL cB x9 x10 hv_39) (va_cwS 1 hts gX6_readNumbers_X6_isFigure rfl rfl rfl (by decide +kernel) ⟨Nat.le_of_ble_eq_true rfl, Nat.le_of_ble_eq_true rfl⟩) hK hP [] rfl rfl hl.1 rfl (Nat.le_of_ble_eq_true rfl) dX6_readNumbers_58 ⟨Nat.le_of_ble_eq_true rfl, Nat.le_of_ble_eq_true rfl⟩ ?_
          obtain ⟨x11, c12, hr101, hf⟩ := ob2_some hf
          refine q_jnH (D := D) (cl := vwCl) (A := A) (H0 := s.heap) (pcJ := 101) (nL := 3) (vs := [(0, .ref h), (1, .int a1), (2, .int x3)]) (st := []) [(h, .inr (6, [.int h_pieces, .ref h_piece, .int h_deeds, .ref h_deed, .int h_law, .ref h_st, .int h_acts, .ref h_was, .int h_keeps, .ref h_kept, .int h_seens, .ref h_seen, .ref h_text, .int h_texted, .int x11, .ref h_told, .int h_readPieces, .ref h_readPiece, .ref h_readRoom, .int h_readDeeds, .ref h_readDeed, .int h_readCoins, .int h_readLaw, .ref h_now])), (h_text, .inl (cI, 200, .inl h_text_c)), (h_told, .inl (cI, 4, .inl c12))] (fun H locs hP hD hS ls hl => ?_) (fun J101 => ?_)
          · clear hr101
            refine lv_aload_n hx hb dX6_readNumbers_101 rfl (lv_at hl 0 rfl) ?_
            refine lv_aload_n hx hb dX6_readNumbers_102 rfl (lv_at hl 0 rfl) ?_
            refine va_get (D := D) (ci := 6) (v := .int x11) (C := RX6) (T := TX6) (N := 24) hx hb hts uX6_readNumbers_X6 hown hK hP 0 rfl rfl 14 (by decide) (hts (.fieldLink RX6 86 "SpeaksForTheChairModel" "at" "I") (List.mem_of_getElem? (i := 1) rfl)) (fun _ h9 => h9) rfl dX6_readNumbers_103 ?_
            obtain ⟨x13, hv_44, hf⟩ := ob1_some hf
            refine q_rVi (As := [.int x11]) (rest := []) (r := x13) ⟨hx, hb, hml, hown, hts⟩ (c_X6_letterAt l D cI cC cL cB h h_piece h_deed h_st h_was h_kept h_seen h_text h_told h_readPiece h_readRoom h_readDeed h_now x11 h_pieces h_deeds h_law h_acts h_keeps h_seens h_texted x11 h_readPieces h_readDeeds h_readCoins h_readLaw h_text_c x13 hv_44) (cwV 1 hts gX6_readNumbers_X6_letterAt rfl rfl rfl (by decide +kernel) ⟨Nat.le_of_ble_eq_true rfl, Nat.le_of_ble_eq_true rfl⟩) hK hP [0, 1] rfl (va_recv hK hP (ci := 6) (q0 := 0) rfl rfl) rfl hl.1 rfl (Nat.le_of_ble_eq_true rfl) dX6_readNumbers_106 ⟨Nat.le_of_ble_eq_true rfl, Nat.le_of_ble_eq_true rfl⟩ ?_
            refine lv_iload_n hx hb dX6_readNumbers_109 rfl (lv_at hl 2 rfl) ?_
            refine lv_iload_n hx hb dX6_readNumbers_110 rfl (lv_at hl 1 rfl) ?_
            refine lv_iconst (v := 1) hx hb dX6_readNumbers_111 (by decide) ?_
            refine lv_isub hx hb dX6_readNumbers_112 ?_
            obtain ⟨x14, hr123, hf⟩ := ob1_some hf
            refine q_jn (pcJ := 123) (nL := 3) (vs := [(0, .ref h), (1, .int a1), (2, .int x3)]) (st := [.int x14, .int x13]) (fun ls hl => ?_) (fun J123 => ?_)
            · clear hr123
              refine lv_icmp_eq (tgt := 128) hx hb dX6_readNumbers_123 (by decide) (fun c_46 => ?_) (fun c_46 => ?_)
              · have hf := ip c_46 hf
                refine lv_aload_n hx hb dX6_readNumbers_128 rfl (lv_at hl 0 rfl) ?_
                refine lv_dup hx hb dX6_readNumbers_129 rfl ?_
                refine va_get (D := D) (ci := 6) (v := .int x11) (C := RX6) (T := TX6) (N := 24) hx hb hts uX6_readNumbers_X6 hown hK hP 0 rfl rfl 14 (by decide) (hts (.fieldLink RX6 86 "SpeaksForTheChairModel" "at" "I") (List.mem_of_getElem? (i := 1) rfl)) (fun _ h9 => h9) rfl dX6_readNumbers_130 ?_
                refine lv_iconst (v := 1) hx hb dX6_readNumbers_133 (by decide) ?_
                refine lv_iadd hx hb dX6_readNumbers_134 ?_
                refine lv_topi (fun f15 ef15 => ?_)
                have hf := pv_eq ef15 hf
                refine va_put (D := D) (ci := 6) (v := .int f15) (ty := .int) (C := RX6) (T := TX6) (N := 24) hx hb hts uX6_readNumbers_X6 tyX6 tyX6_ok nmX6 hown hK hP hD hS 0 rfl rfl 14 (by decide) (hts (.fieldLink RX6 86 "SpeaksForTheChairModel" "at" "I") (List.mem_of_getElem? (i := 1) rfl)) (fun _ h9 => h9) rfl (by decide +kernel) rfl rfl (Nat.le_of_ble_eq_true rfl) dX6_readNumbers_135 (fun H locs hP hD hS => ?_)
                have hP : va_P D vwCl [(h, .inr (6, [.int h_pieces, .ref h_piece, .int h_deeds, .ref h_deed, .int h_law, .ref h_st, .int h_acts, .ref h_was, .int h_keeps, .ref h_kept, .int h_seens, .ref h_seen, .ref h_text, .int h_texted, .int f15, .ref h_told, .int h_readPieces, .ref h_readPiece, .ref h_readRoom, .int h_readDeeds, .ref h_readDeed, .int h_readCoins, .int h_readLaw, .ref h_now])), (h_text, .inl (cI, 200, .inl h_text_c)), (h_told, .inl (cI, 4, .inl c12))] H := hP
                have hD : va_D A [(h, .inr (6, [.int h_pieces, .ref h_piece, .int h_deeds, .ref h_deed, .int h_law, .ref h_st, .int h_acts, .ref h_was, .int h_keeps, .ref h_kept, .int h_seens, .ref h_seen, .ref h_text, .int h_texted, .int f15, .ref h_told, .int h_readPieces, .ref h_readPiece, .ref h_readRoom, .int h_readDeeds, .ref h_readDeed, .int h_readCoins, .int h_readLaw, .ref h_now])), (h_text, .inl (cI, 200, .inl h_text_c)), (h_told, .inl (cI, 4, .inl c12))] := hD
                obtain ⟨x16, ex16⟩ : ∃ y : Int32, y = (x3 + 1) := ⟨_, rfl⟩
                have hf := pv_eq ex16 hf
                refine lv_iinc (v := x16) (lv' := [(2, .int x16), (0, .ref h), (1, .int a1)]) hx hb dX6_readNumbers_138 hl (k := 2) rfl (by rw [ex16]; rfl) (by decide) rfl (fun ls hl => ?_)
                refine lv_goto (tgt := 2) hx hb dX6_readNumbers_141 (by decide) ?_
                exact ih _ _ _ _ _ hP hD hS ls (lv_sub hl [1, 2, 0] rfl) hf
              · have hf := im c_46 hf
                refine lv_iconst (v := 0) hx hb dX6_readNumbers_126 (by decide) ?_
                cases hf
                exact W.zret hx hb hr rfl (fun t ht hW => ⟨⟨_, (), rfl, rfl, by rw [ht]; exact hP, va_K.moved hW.alike hK, hD⟩, hS.F ht⟩) hS.2.2 dX6_readNumbers_127
            · replace hf := hr123
              refine lv_icmp_ge (tgt := 121) hx hb dX6_readNumbers_113 (by decide) (fun c_45 => ?_) (fun c_45 => ?_)
              · have hf := ip c_45 hf
                refine lv_bipush (v := 59) hx hb dX6_readNumbers_121 (by decide) ?_
                cases hf
                exact J123 ls (lv_sub hl [0, 1, 2] rfl)
              · have hf := im c_45 hf
                refine lv_bipush (v := 44) hx hb dX6_readNumbers_116 (by decide) ?_
                refine lv_goto (tgt := 123) hx hb dX6_readNumbers_118 (by decide) ?_
                cases hf
                exact J123 ls (lv_sub hl [0, 1, 2] rfl)
          · replace hf := hr101
            refine lv_if_eq (tgt := 101) hx hb dX6_readNumbers_61 (by decide) (fun c_40 => ?_) (fun c_40 => ?_)
            · have hf := ip c_40 hf
              cases hf
              exact J101 _ _ hP hD hS ls (lv_sub hl [0, 1, 2] rfl)
            · have hf := im c_40 hf
              refine lv_aload_n hx hb dX6_readNumbers_64 rfl (lv_at hl 0 rfl) ?_
              refine va_get (D := D) (ci := 6) (v := .ref h_told) (C := RX6) (T := TX6) (N := 24) hx hb hts uX6_readNumbers_X6 hown hK hP 0 rfl rfl 15 (by decide) (hts (.fieldLink RX6 31 "SpeaksForTheChairModel" "told" "[I") (List.mem_of_getElem? (i := 2) rfl)) (fun _ h9 => h9) rfl dX6_readNumbers_65 ?_
              refine lv_iload_n hx hb dX6_readNumbers_68 rfl (lv_at hl 2 rfl) ?_
              refine lv_bipush (v := 10) hx hb dX6_readNumbers_69 (by decide) ?_
              refine lv_aload_n hx hb dX6_readNumbers_71 rfl (lv_at hl 0 rfl) ?_
              refine va_get (D := D) (ci := 6) (v := .ref h_told) (C := RX6) (T := TX6) (N := 24) hx hb hts uX6_readNumbers_X6 hown hK hP 0 rfl rfl 15 (by decide) (hts (.fieldLink RX6 31 "SpeaksForTheChairModel" "told" "[I") (List.mem_of_getElem? (i := 2) rfl)) (fun _ h9 => h9) rfl dX6_readNumbers_72 ?_
              refine lv_iload_n hx hb dX6_readNumbers_75 rfl (lv_at hl 2 rfl) ?_
              obtain ⟨g_47, hf⟩ := gu_in hf
              refine va_iald hx hb hK hP 2 0 rfl rfl g_47 dX6_readNumbers_76 ?_
              refine lv_imul hx hb dX6_readNumbers_77 ?_
              refine lv_aload_n hx hb dX6_readNumbers_78 rfl (lv_at hl 0 rfl) ?_
              refine lv_aload_n hx hb dX6_readNumbers_79 rfl (lv_at hl 0 rfl) ?_
              refine va_get (D := D) (ci := 6) (v := .int f8) (C := RX6) (T := TX6) (N := 24) hx hb hts uX6_readNumbers_X6 hown hK hP 0 rfl rfl 14 (by decide) (hts (.fieldLink RX6 86 "SpeaksForTheChairModel" "at" "I") (List.mem_of_getElem? (i := 1) rfl)) (fun _ h9 => h9) rfl dX6_readNumbers_80 ?_
              obtain ⟨x17, hv_48, hf⟩ := ob1_some hf
              refine q_rVi (As := [.int f8]) (rest := [.int (10 * (c7 x3.toNatClampNeg)), .int x3, .ref h_told]) (r := x17) ⟨hx, hb, hml, hown, hts⟩ (c_X6_letterAt l D cI cC cL cB h h_piece h_deed h_st h_was h_kept h_seen h_text h_told h_readPiece h_readRoom h_readDeed h_now f8 h_pieces h_deeds h_law h_acts h_keeps h_seens h_texted f8 h_readPieces h_readDeeds h_readCoins h_readLaw h_text_c x17 hv_48) (cwV 1 hts gX6_readNumbers_X6_letterAt rfl rfl rfl (by decide +kernel) ⟨Nat.le_of_ble_eq_true rfl, Nat.le_of_ble_eq_true rfl⟩) hK hP [0, 1] rfl (va_recv hK hP (ci := 6) (q0 := 0) rfl rfl) rfl hl.1 rfl (Nat.le_of_ble_eq_true rfl) dX6_readNumbers_83 ⟨Nat.le_of_ble_eq_true rfl, Nat.le_of_ble_eq_true rfl⟩ ?_
              refine lv_iadd hx hb dX6_readNumbers_86 ?_
              refine lv_bipush (v := 48) hx hb dX6_readNumbers_87 (by decide) ?_
              refine lv_isub hx hb dX6_readNumbers_89 ?_
              obtain ⟨g_49, hf⟩ := gu_in hf
              refine va_iast hx hb hK hP hD hS 2 0 rfl rfl g_49 dX6_readNumbers_90 (fun H locs hP hD hS => ?_)
              obtain ⟨c18, ec18⟩ : ∃ y : Nat → Int32, y = (upd c7 x3.toNatClampNeg (((10 * (c7 x3.toNatClampNeg)) + x17) - 48)) := ⟨_, rfl⟩
              have hf := pv_eq ec18 hf
              rw [← ec18] at hP hD
              have hP : va_P D vwCl [(h, .inr (6, [.int h_pieces, .ref h_piece, .int h_deeds, .ref h_deed, .int h_law, .ref h_st, .int h_acts, .ref h_was, .int h_keeps, .ref h_kept, .int h_seens, .ref h_seen, .ref h_text, .int h_texted, .int f8, .ref h_told, .int h_readPieces, .ref h_readPiece, .ref h_readRoom, .int h_readDeeds, .ref h_readDeed, .int h_readCoins, .int h_readLaw, .ref h_now])), (h_text, .inl (cI, 200, .inl h_text_c)), (h_told, .inl (cI, 4, .inl c18))] H := hP
              have hD : va_D A [(h, .inr (6, [.int h_pieces, .ref h_piece, .int h_deeds, .ref h_deed, .int h_law, .ref h_st, .int h_acts, .ref h_was, .int h_keeps, .ref h_kept, .int h_seens, .ref h_seen, .ref h_text, .int h_texted, .int f8, .ref h_told, .int h_readPieces, .ref h_readPiece, .ref h_readRoom, .int h_readDeeds, .ref h_readDeed, .int h_readCoins, .int h_readLaw, .ref h_now])), (h_text, .inl (cI, 200, .inl h_text_c)), (h_told, .inl (cI, 4, .inl c18))] := hD
              refine lv_aload_n hx hb dX6_readNumbers_91 rfl (lv_at hl 0 rfl) ?_
              refine lv_dup hx hb dX6_readNumbers_92 rfl ?_
              refine va_get (D := D) (ci := 6) (v := .int f8) (C := RX6) (T := TX6) (N := 24) hx hb hts uX6_readNumbers_X6 hown hK hP 0 rfl rfl 14 (by decide) (hts (.fieldLink RX6 86 "SpeaksForTheChairModel" "at" "I") (List.mem_of_getElem? (i := 1) rfl)) (fun _ h9 => h9) rfl dX6_readNumbers_93 ?_
              refine lv_iconst (v := 1) hx hb dX6_readNumbers_96 (by decide) ?_
              refine lv_iadd hx hb dX6_readNumbers_97 ?_
              refine lv_topi (fun f19 ef19 => ?_)
              have hf := pv_eq ef19 hf
              refine va_put (D := D) (ci := 6) (v := .int f19) (ty := .int) (C := RX6) (T := TX6) (N := 24) hx hb hts uX6_readNumbers_X6 tyX6 tyX6_ok nmX6 hown hK hP hD hS 0 rfl rfl 14 (by decide) (hts (.fieldLink RX6 86 "SpeaksForTheChairModel" "at" "I") (List.mem_of_getElem? (i := 1) rfl)) (fun _ h9 => h9) rfl (by decide +kernel) rfl rfl (Nat.le_of_ble_eq_true rfl) dX6_readNumbers_98 (fun H locs hP hD hS => ?_)
              have hP : va_P D vwCl [(h, .inr (6, [.int h_pieces, .ref h_piece, .int h_deeds, .ref h_deed, .int h_law, .ref h_st, .int h_acts, .ref h_was, .int h_keeps, .ref h_kept, .int h_seens, .ref h_seen, .ref h_text, .int h_texted, .int f19, .ref h_told, .int h_readPieces, .ref h_readPiece, .ref h_readRoom, .int h_readDeeds, .ref h_readDeed, .int h_readCoins, .int h_readLaw, .ref h_now])), (h_text, .inl (cI, 200, .inl h_text_c)), (h_told, .inl (cI, 4, .inl c18))] H := hP
              have hD : va_D A [(h, .inr (6, [.int h_pieces, .ref h_piece, .int h_deeds, .ref h_deed, .int h_law, .ref h_st, .int h_acts, .ref h_was, .int h_keeps, .ref h_kept, .int h_seens, .ref h_seen, .ref h_text, .int h_texted, .int f19, .ref h_told, .int h_readPieces, .ref h_readPiece, .ref h_readRoom, .int h_readDeeds, .ref h_readDeed, .int h_readCoins, .int h_readLaw, .ref h_now])), (h_text, .inl (cI, 200, .inl h_text_c)), (h_told, .inl (cI, 4, .inl c18))] := hD
              cases hf
              exact J101 _ _ hP hD hS ls (lv_sub hl [0, 1, 2] rfl)
        · have hf := ip c_35 hf
          refine lv_iconst (v := 0) hx hb dX6_readNumbers_21 (by decide) ?_
          cases hf
          exact W.zret hx hb hr rfl (fun t ht hW => ⟨⟨_, (), rfl, rfl, by rw [ht]; exact hP, va_K.moved hW.alike hK, hD⟩, hS.F ht⟩) hS.2.2 dX6_readNumbers_22
  exact loop2 300 _ _ _ _ _ hP hD hS ls (lv_sub hl [1, 2, 0] rfl) hf
