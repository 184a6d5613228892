/-! contracts: X5_fault, X4_begin, X2_clear, X3_clear, X5_lay, X5_isPiece, X4_roomOf, X4_howIs, X0_laterOnes, X0_wouldTell, X0_toldBy, X0_forbids, X5_isLoose, X5_piece, X5_isDeed, X5_hasComeOut, X5_looseTellers, X5_deed, X4_packed -/
theorem uX5_fault_X5 : ∀ w ∈ wsX50, w ∈ wsX5_fault := fun w h => List.mem_cons_of_mem _ (List.mem_append_left _ (List.mem_append_left _ (List.mem_append_right _ h)))
set_option maxHeartbeats 4000000 in
set_option maxRecDepth 100000 in
theorem c_X5_fault (l : Launch) (D : va_G) (cI cC cL cB : ClassId) (sz : Nat) (h : Nat) (h_page : Nat) (h_laid : Nat) (h_draft : Nat) (h_now : Nat) (h_trial : Nat) (h_past : Nat) (h_sightings : Nat) (h_kept : Nat) (h_told : Nat) (h_draft_kinds : Nat) (h_draft_prices : Nat) (h_draft_persons : Nat) (h_draft_places : Nat) (h_draft_hours : Nat) (h_draft_weights : Nat) (h_draft_numbers : Nat) (h_page_letters : Nat) (h_keptCount : Int32) (h_draft_pieces : Int32) (h_draft_roomsAtFirst : Int32) (h_draft_deeds : Int32) (h_draft_coins : Int32) (h_draft_law : Int32) (h_page_length : Int32) (h_page_letters_c : Nat → Int32) (h_draft_numbers_c : Nat → Int32) (h_draft_kinds_c : Nat → Int32) (h_draft_prices_c : Nat → Int32) (h_draft_persons_c : Nat → Int32) (h_draft_places_c : Nat → Int32) (h_draft_hours_c : Nat → Int32) (h_draft_weights_c : Nat → Int32) (r : Int32) (o0 : Int32) (o1 : Int32) (o2 : Int32) (o3 : Int32) (o4 : Int32) (o5 : Nat → Int32) (o6 : Nat → Int32) (o7 : Nat → Int32) (o8 : Nat → Int32) (o9 : Nat → Int32) (o10 : Nat → Int32) (o11 : Nat → Int32) (hf : m_X5_fault h_page_length h_page_letters_c h_draft_numbers_c h_draft_kinds_c h_draft_prices_c h_draft_persons_c h_draft_places_c h_draft_hours_c h_draft_weights_c = some (r, o0, o1, o2, o3, o4, o5, o6, o7, o8, o9, o10, o11)) : Met l yX5_fault wsX5_fault ({ frames := 4, cells := 0, slots := 0, locals := 94 }) (va_Pc [.ref h] (q_W D vwCl (tyL cI cC cL cB) [(h, .inr (5, [.ref h_page, .ref h_laid, .ref h_draft, .ref h_now, .ref h_trial, .ref h_past, .ref h_sightings, .ref h_kept, .int h_keptCount, .ref h_told])), (h_draft, .inr (0, [.int h_draft_pieces, .ref h_draft_kinds, .ref h_draft_prices, .int h_draft_roomsAtFirst, .int h_draft_deeds, .ref h_draft_persons, .ref h_draft_places, .ref h_draft_hours, .ref h_draft_weights, .int h_draft_coins, .int h_draft_law, .ref h_draft_numbers])), (h_page, .inr (1, [.ref h_page_letters, .int h_page_length])), (h_page_letters, .inl (cC, 200, .inl h_page_letters_c)), (h_draft_numbers, .inl (cI, 4, .inl h_draft_numbers_c)), (h_draft_kinds, .inl (cI, 8, .inl h_draft_kinds_c)), (h_draft_prices, .inl (cI, 8, .inl h_draft_prices_c)), (h_draft_persons, .inl (cI, 9, .inl h_draft_persons_c)), (h_draft_places, .inl (cI, 9, .inl h_draft_places_c)), (h_draft_hours, .inl (cI, 9, .inl h_draft_hours_c)), (h_draft_weights, .inl (cI, 9, .inl h_draft_weights_c))] sz)) (va_Qi (fun r' _ => r' = r) (q_E D vwCl (tyL cI cC cL cB) (va_A [(h, .inr (5, [.ref h_page, .ref h_laid, .ref h_draft, .ref h_now, .ref h_trial, .ref h_past, .ref h_sightings, .ref h_kept, .int h_keptCount, .ref h_told])), (h_draft, .inr (0, [.int h_draft_pieces, .ref h_draft_kinds, .ref h_draft_prices, .int h_draft_roomsAtFirst, .int h_draft_deeds, .ref h_draft_persons, .ref h_draft_places, .ref h_draft_hours, .ref h_draft_weights, .int h_draft_coins, .int h_draft_law, .ref h_draft_numbers])), (h_page, .inr (1, [.ref h_page_letters, .int h_page_length])), (h_page_letters, .inl (cC, 200, .inl h_page_letters_c)), (h_draft_numbers, .inl (cI, 4, .inl h_draft_numbers_c)), (h_draft_kinds, .inl (cI, 8, .inl h_draft_kinds_c)), (h_draft_prices, .inl (cI, 8, .inl h_draft_prices_c)), (h_draft_persons, .inl (cI, 9, .inl h_draft_persons_c)), (h_draft_places, .inl (cI, 9, .inl h_draft_places_c)), (h_draft_hours, .inl (cI, 9, .inl h_draft_hours_c)), (h_draft_weights, .inl (cI, 9, .inl h_draft_weights_c))] sz) [(h, .inr (5, [.ref h_page, .ref h_laid, .ref h_draft, .ref h_now, .ref h_trial, .ref h_past, .ref h_sightings, .ref h_kept, .int h_keptCount, .ref h_told])), (h_draft, .inr (0, [.int o0, .ref h_draft_kinds, .ref h_draft_prices, .int o1, .int o2, .ref h_draft_persons, .ref h_draft_places, .ref h_draft_hours, .ref h_draft_weights, .int o3, .int o4, .ref h_draft_numbers])), (h_page, .inr (1, [.ref h_page_letters, .int h_page_length])), (h_page_letters, .inl (cC, 200, .inl h_page_letters_c)), (h_draft_numbers, .inl (cI, 4, .inl o5)), (h_draft_kinds, .inl (cI, 8, .inl o6)), (h_draft_prices, .inl (cI, 8, .inl o7)), (h_draft_persons, .inl (cI, 9, .inl o8)), (h_draft_places, .inl (cI, 9, .inl o9)), (h_draft_hours, .inl (cI, 9, .inl o10)), (h_draft_weights, .inl (cI, 9, .inl o11))]) (va_A [(h, .inr (5, [.ref h_page, .ref h_laid, .ref h_draft, .ref h_now, .ref h_trial, .ref h_past, .ref h_sightings, .ref h_kept, .int h_keptCount, .ref h_told])), (h_draft, .inr (0, [.int h_draft_pieces, .ref h_draft_kinds, .ref h_draft_prices, .int h_draft_roomsAtFirst, .int h_draft_deeds, .ref h_draft_persons, .ref h_draft_places, .ref h_draft_hours, .ref h_draft_weights, .int h_draft_coins, .int h_draft_law, .ref h_draft_numbers])), (h_page, .inr (1, [.ref h_page_letters, .int h_page_length])), (h_page_letters, .inl (cC, 200, .inl h_page_letters_c)), (h_draft_numbers, .inl (cI, 4, .inl h_draft_numbers_c)), (h_draft_kinds, .inl (cI, 8, .inl h_draft_kinds_c)), (h_draft_prices, .inl (cI, 8, .inl h_draft_prices_c)), (h_draft_persons, .inl (cI, 9, .inl h_draft_persons_c)), (h_draft_places, .inl (cI, 9, .inl h_draft_places_c)), (h_draft_hours, .inl (cI, 9, .inl h_draft_hours_c)), (h_draft_weights, .inl (cI, 9, .inl h_draft_weights_c))] sz)) 0 0 (va_A [(h, .inr (5, [.ref h_page, .ref h_laid, .ref h_draft, .ref h_now, .ref h_trial, .ref h_past, .ref h_sightings, .ref h_kept, .int h_keptCount, .ref h_told])), (h_draft, .inr (0, [.int h_draft_pieces, .ref h_draft_kinds, .ref h_draft_prices, .int h_draft_roomsAtFirst, .int h_draft_deeds, .ref h_draft_persons, .ref h_draft_places, .ref h_draft_hours, .ref h_draft_weights, .int h_draft_coins, .int h_draft_law, .ref h_draft_numbers])), (h_page, .inr (1, [.ref h_page_letters, .int h_page_length])), (h_page_letters, .inl (cC, 200, .inl h_page_letters_c)), (h_draft_numbers, .inl (cI, 4, .inl h_draft_numbers_c)), (h_draft_kinds, .inl (cI, 8, .inl h_draft_kinds_c)), (h_draft_prices, .inl (cI, 8, .inl h_draft_prices_c)), (h_draft_persons, .inl (cI, 9, .inl h_draft_persons_c)), (h_draft_places, .inl (cI, 9, .inl h_draft_places_c)), (h_draft_hours, .inl (cI, 9, .inl h_draft_hours_c)), (h_draft_weights, .inl (cI, 9, .inl h_draft_weights_c))] sz) := by
  refine Met.ofW (cc := cX5_fault) (maxL := 1) (ret := (some .int)) (by decide) rfl ?_
  intro p e s m args below meth c s₁ B hml hv
  obtain ⟨rfl, hsz, hP, hK, hD0⟩ := hv
  have hx := B.exec
  have hb := B.bytes
  have hr := B.returns
  have hts := atoms_spec (ws := wsX5_fault) B.pre
  have hown : s.vm.findClass RX5 = some m.cls := findClass_of_methodNamed B.named
  have hlocks := B.notSynchronized
  subst hsz
  have hD := hD0.self (sz := s.heap.size)
  generalize hAe : va_A [(h, .inr (5, [.ref h_page, .ref h_laid, .ref h_draft, .ref h_now, .ref h_trial, .ref h_past, .ref h_sightings, .ref h_kept, .int h_keptCount, .ref h_told])), (h_draft, .inr (0, [.int h_draft_pieces, .ref h_draft_kinds, .ref h_draft_prices, .int h_draft_roomsAtFirst, .int h_draft_deeds, .ref h_draft_persons, .ref h_draft_places, .ref h_draft_hours, .ref h_draft_weights, .int h_draft_coins, .int h_draft_law, .ref h_draft_numbers])), (h_page, .inr (1, [.ref h_page_letters, .int h_page_length])), (h_page_letters, .inl (cC, 200, .inl h_page_letters_c)), (h_draft_numbers, .inl (cI, 4, .inl h_draft_numbers_c)), (h_draft_kinds, .inl (cI, 8, .inl h_draft_kinds_c)), (h_draft_prices, .inl (cI, 8, .inl h_draft_prices_c)), (h_draft_persons, .inl (cI, 9, .inl h_draft_persons_c)), (h_draft_places, .inl (cI, 9, .inl h_draft_places_c)), (h_draft_hours, .inl (cI, 9, .inl h_draft_hours_c)), (h_draft_weights, .inl (cI, 9, .inl h_draft_weights_c))] s.heap.size = A at hD ⊢
  have hA : ∀ q : Nat, s.heap.size ≤ q → A q := fun q h => by rw [← hAe]; exact Or.inr h
  have hS : va_S A s.heap s.heap [] := va_S.rf
  have hP : va_P D vwCl [(h, .inr (5, [.ref h_page, .ref h_laid, .ref h_draft, .ref h_now, .ref h_trial, .ref h_past, .ref h_sightings, .ref h_kept, .int h_keptCount, .ref h_told])), (h_draft, .inr (0, [.int h_draft_pieces, .ref h_draft_kinds, .ref h_draft_prices, .int h_draft_roomsAtFirst, .int h_draft_deeds, .ref h_draft_persons, .ref h_draft_places, .ref h_draft_hours, .ref h_draft_weights, .int h_draft_coins, .int h_draft_law, .ref h_draft_numbers])), (h_page, .inr (1, [.ref h_page_letters, .int h_page_length])), (h_page_letters, .inl (cC, 200, .inl h_page_letters_c)), (h_draft_numbers, .inl (cI, 4, .inl h_draft_numbers_c)), (h_draft_kinds, .inl (cI, 8, .inl h_draft_kinds_c)), (h_draft_prices, .inl (cI, 8, .inl h_draft_prices_c)), (h_draft_persons, .inl (cI, 9, .inl h_draft_persons_c)), (h_draft_places, .inl (cI, 9, .inl h_draft_places_c)), (h_draft_hours, .inl (cI, 9, .inl h_draft_hours_c)), (h_draft_weights, .inl (cI, 9, .inl h_draft_weights_c))] s.heap := hP
  have hl := lv_entry ([.ref h]) (n := 1) (Nat.le_of_ble_eq_true rfl)
  rw [lg_entry_eq]
  generalize (lg_sl ([.ref h]) ++ List.replicate (1 - (lg_sl ([.ref h])).length) Slot.unset).toArray = ls at hl ⊢
  have hl : lv_has ls 1 [(0, .ref h)] := hl
  unfold m_X5_fault at hf
  refine lv_aload_n hx hb dX5_fault_0 rfl (lv_at hl 0 rfl) ?_
  refine va_get (D := D) (ci := 5) (v := .ref h_draft) (C := RX5) (T := TX5) (N := 10) hx hb hts uX5_fault_X5 hown hK hP 0 rfl rfl 2 (by decide) (hts (.fieldLink RX5 23 "SpeaksForTheChair" "draft" "LSpeaksForTheChair$House;") (List.mem_of_getElem? (i := 1) rfl)) (fun _ h9 => h9) rfl dX5_fault_1 ?_
  refine lv_aload_n hx hb dX5_fault_4 rfl (lv_at hl 0 rfl) ?_
  refine va_get (D := D) (ci := 5) (v := .ref h_page) (C := RX5) (T := TX5) (N := 10) hx hb hts uX5_fault_X5 hown hK hP 0 rfl rfl 0 (by decide) (hts (.fieldLink RX5 10 "SpeaksForTheChair" "page" "LSpeaksForTheChair$Page;") (List.mem_of_getElem? (i := 2) rfl)) (fun _ h9 => h9) rfl dX5_fault_5 ?_
  obtain ⟨x1, f2, f3, f4, f5, f6, c7, c8, c9, c10, c11, c12, c13, hv_1, hf⟩ := ob13_some hf
  refine q_wVi (As := [.ref h_page]) (rest := []) (r := x1) (w1 := [(h_draft, .inr (0, [.int f2, .ref h_draft_kinds, .ref h_draft_prices, .int f3, .int f4, .ref h_draft_persons, .ref h_draft_places, .ref h_draft_hours, .ref h_draft_weights, .int f5, .int f6, .ref h_draft_numbers])), (h_page, .inr (1, [.ref h_page_letters, .int h_page_length])), (h_page_letters, .inl (cC, 200, .inl h_page_letters_c)), (h_draft_numbers, .inl (cI, 4, .inl c7)), (h_draft_kinds, .inl (cI, 8, .inl c8)), (h_draft_prices, .inl (cI, 8, .inl c9)), (h_draft_persons, .inl (cI, 9, .inl c10)), (h_draft_places, .inl (cI, 9, .inl c11)), (h_draft_hours, .inl (cI, 9, .inl c12)), (h_draft_weights, .inl (cI, 9, .inl c13))]) (wr := [(h, .inr (5, [.ref h_page, .ref h_laid, .ref h_draft, .ref h_now, .ref h_trial, .ref h_past, .ref h_sightings, .ref h_kept, .int h_keptCount, .ref h_told]))]) (w2 := [(h, .inr (5, [.ref h_page, .ref h_laid, .ref h_draft, .ref h_now, .ref h_trial, .ref h_past, .ref h_sightings, .ref h_kept, .int h_keptCount, .ref h_told])), (h_draft, .inr (0, [.int f2, .ref h_draft_kinds, .ref h_draft_prices, .int f3, .int f4, .ref h_draft_persons, .ref h_draft_places, .ref h_draft_hours, .ref h_draft_weights, .int f5, .int f6, .ref h_draft_numbers])), (h_page, .inr (1, [.ref h_page_letters, .int h_page_length])), (h_page_letters, .inl (cC, 200, .inl h_page_letters_c)), (h_draft_numbers, .inl (cI, 4, .inl c7)), (h_draft_kinds, .inl (cI, 8, .inl c8)), (h_draft_prices, .inl (cI, 8, .inl c9)), (h_draft_persons, .inl (cI, 9, .inl c10)), (h_draft_places, .inl (cI, 9, .inl c11)), (h_draft_hours, .inl (cI, 9, .inl c12)), (h_draft_weights, .inl (cI, 9, .inl c13))]) ⟨hx, hb, hml, hown, hts⟩ (c_X0_readFrom l D cI cC cL cB s.heap.size h_draft h_page h_draft_kinds h_draft_prices h_draft_persons h_draft_places h_draft_hours h_draft_weights h_draft_numbers h_page_letters h_draft_pieces h_draft_roomsAtFirst h_draft_deeds h_draft_coins h_draft_law h_page_length h_page_letters_c h_draft_numbers_c h_draft_kinds_c h_draft_prices_c h_draft_persons_c h_draft_places_c h_draft_hours_c h_draft_weights_c x1 f2 f3 f4 f5 f6 c7 c8 c9 c10 c11 c12 c13 hv_1) (cwV 1 hts gX5_fault_X0_readFrom rfl rfl rfl (by decide +kernel) ⟨Nat.le_of_ble_eq_true rfl, Nat.le_of_ble_eq_true rfl⟩) hK hP hD hS hA [1, 2, 3, 4, 5, 6, 7, 8, 9, 10] rfl (by decide) [0] rfl (by decide) (by decide) [0, 1, 2, 3, 4, 5, 6, 7, 8, 9, 10] rfl (by decide) (va_recv hK hP (ci := 0) (q0 := 1) rfl rfl) rfl hl.1 rfl (Nat.le_of_ble_eq_true rfl) dX5_fault_8 ⟨Nat.le_of_ble_eq_true rfl, Nat.le_of_ble_eq_true rfl⟩ (fun H locs hP hD hS => ?_)
  have hP : va_P D vwCl [(h, .inr (5, [.ref h_page, .ref h_laid, .ref h_draft, .ref h_now, .ref h_trial, .ref h_past, .ref h_sightings, .ref h_kept, .int h_keptCount, .ref h_told])), (h_draft, .inr (0, [.int f2, .ref h_draft_kinds, .ref h_draft_prices, .int f3, .int f4, .ref h_draft_persons, .ref h_draft_places, .ref h_draft_hours, .ref h_draft_weights, .int f5, .int f6, .ref h_draft_numbers])), (h_page, .inr (1, [.ref h_page_letters, .int h_page_length])), (h_page_letters, .inl (cC, 200, .inl h_page_letters_c)), (h_draft_numbers, .inl (cI, 4, .inl c7)), (h_draft_kinds, .inl (cI, 8, .inl c8)), (h_draft_prices, .inl (cI, 8, .inl c9)), (h_draft_persons, .inl (cI, 9, .inl c10)), (h_draft_places, .inl (cI, 9, .inl c11)), (h_draft_hours, .inl (cI, 9, .inl c12)), (h_draft_weights, .inl (cI, 9, .inl c13))] H := hP
  have hD : va_D A [(h, .inr (5, [.ref h_page, .ref h_laid, .ref h_draft, .ref h_now, .ref h_trial, .ref h_past, .ref h_sightings, .ref h_kept, .int h_keptCount, .ref h_told])), (h_draft, .inr (0, [.int f2, .ref h_draft_kinds, .ref h_draft_prices, .int f3, .int f4, .ref h_draft_persons, .ref h_draft_places, .ref h_draft_hours, .ref h_draft_weights, .int f5, .int f6, .ref h_draft_numbers])), (h_page, .inr (1, [.ref h_page_letters, .int h_page_length])), (h_page_letters, .inl (cC, 200, .inl h_page_letters_c)), (h_draft_numbers, .inl (cI, 4, .inl c7)), (h_draft_kinds, .inl (cI, 8, .inl c8)), (h_draft_prices, .inl (cI, 8, .inl c9)), (h_draft_persons, .inl (cI, 9, .inl c10)), (h_draft_places, .inl (cI, 9, .inl c11)), (h_draft_hours, .inl (cI, 9, .inl c12)), (h_draft_weights, .inl (cI, 9, .inl c13))] := hD
  cases hf
  exact W.iret hx hb hr (fun t ht hW => ⟨⟨_, (), rfl, rfl, by rw [ht]; exact hP, va_K.moved hW.alike hK, hD⟩, hS.F ht⟩) hS.2.2 dX5_fault_11
theorem uX4_begin_X4 : ∀ w ∈ wsX40, w ∈ wsX4_begin := fun w h => List.mem_cons_of_mem _ (List.mem_append_right _ h)
set_option maxHeartbeats 4000000 in
set_option maxRecDepth 100000 in
theorem c_X4_begin (l : Launch) (D : va_G) (cI cC cL cB : ClassId) (sz : Nat) (h : Nat) (a1 : Int32) (a2 : Int32) (h_rooms : Int32) (h_bought : Int32) (h_spoken : Int32) (h_out : Int32) (h_coins : Int32) (o0 : Int32) (o1 : Int32) (o2 : Int32) (o3 : Int32) (o4 : Int32) (hf : m_X4_begin a1 a2 = some (o0, o1, o2, o3, o4)) : Met l yX4_begin wsX4_begin ({ frames := 0, cells := 0, slots := 0, locals := 0 }) (va_Pc [.ref h, .int a1, .int a2] (q_W D vwCl (tyL cI cC cL cB) [(h, .inr (4, [.int h_rooms, .int h_bought, .int h_spoken, .int h_out, .int h_coins]))] sz)) (va_Qv (fun _ : Unit => True) (q_E D vwCl (tyL cI cC cL cB) (va_A [(h, .inr (4, [.int h_rooms, .int h_bought, .int h_spoken, .int h_out, .int h_coins]))] sz) [(h, .inr (4, [.int o0, .int o1, .int o2, .int o3, .int o4]))]) (va_A [(h, .inr (4, [.int h_rooms, .int h_bought, .int h_spoken, .int h_out, .int h_coins]))] sz)) 0 0 (va_A [(h, .inr (4, [.int h_rooms, .int h_bought, .int h_spoken, .int h_out, .int h_coins]))] sz) := by
  refine Met.ofW (cc := cX4_begin) (maxL := 3) (ret := none) (by decide) rfl ?_
  intro p e s m args below meth c s₁ B hml hv
  obtain ⟨rfl, hsz, hP, hK, hD0⟩ := hv
  have hx := B.exec
  have hb := B.bytes
  have hr := B.returns
  have hts := atoms_spec (ws := wsX4_begin) B.pre
  have hown : s.vm.findClass RX4 = some m.cls := findClass_of_methodNamed B.named
  have hlocks := B.notSynchronized
  subst hsz
  have hD := hD0.self (sz := s.heap.size)
  generalize hAe : va_A [(h, .inr (4, [.int h_rooms, .int h_bought, .int h_spoken, .int h_out, .int h_coins]))] s.heap.size = A at hD ⊢
  have hA : ∀ q : Nat, s.heap.size ≤ q → A q := fun q h => by rw [← hAe]; exact Or.inr h
  have hS : va_S A s.heap s.heap [] := va_S.rf
  have hP : va_P D vwCl [(h, .inr (4, [.int h_rooms, .int h_bought, .int h_spoken, .int h_out, .int h_coins]))] s.heap := hP
  have hl := lv_entry ([.ref h, .int a1, .int a2]) (n := 3) (Nat.le_of_ble_eq_true rfl)
  rw [lg_entry_eq]
  generalize (lg_sl ([.ref h, .int a1, .int a2]) ++ List.replicate (3 - (lg_sl ([.ref h, .int a1, .int a2])).length) Slot.unset).toArray = ls at hl ⊢
  have hl : lv_has ls 3 [(0, .ref h), (1, .int a1), (2, .int a2)] := hl
  unfold m_X4_begin at hf
  refine lv_aload_n hx hb dX4_begin_0 rfl (lv_at hl 0 rfl) ?_
  refine lv_iload_n hx hb dX4_begin_1 rfl (lv_at hl 1 rfl) ?_
  refine va_put (D := D) (ci := 4) (v := .int a1) (ty := .int) (C := RX4) (T := TX4) (N := 5) hx hb hts uX4_begin_X4 tyX4 tyX4_ok nmX4 hown hK hP hD hS 0 rfl rfl 0 (by decide) (hts (.fieldLink RX4 9 "SpeaksForTheChair$Standing" "rooms" "I") (List.mem_of_getElem? (i := 1) rfl)) (fun _ h9 => h9) rfl (by decide +kernel) rfl rfl (Nat.le_of_ble_eq_true rfl) dX4_begin_2 (fun H locs hP hD hS => ?_)
  have hP : va_P D vwCl [(h, .inr (4, [.int a1, .int h_bought, .int h_spoken, .int h_out, .int h_coins]))] H := hP
  have hD : va_D A [(h, .inr (4, [.int a1, .int h_bought, .int h_spoken, .int h_out, .int h_coins]))] := hD
  refine lv_aload_n hx hb dX4_begin_5 rfl (lv_at hl 0 rfl) ?_
  refine lv_iconst (v := 0) hx hb dX4_begin_6 (by decide) ?_
  refine va_put (D := D) (ci := 4) (v := .int 0) (ty := .int) (C := RX4) (T := TX4) (N := 5) hx hb hts uX4_begin_X4 tyX4 tyX4_ok nmX4 hown hK hP hD hS 0 rfl rfl 1 (by decide) (hts (.fieldLink RX4 15 "SpeaksForTheChair$Standing" "bought" "I") (List.mem_of_getElem? (i := 2) rfl)) (fun _ h9 => h9) rfl (by decide +kernel) rfl rfl (Nat.le_of_ble_eq_true rfl) dX4_begin_7 (fun H locs hP hD hS => ?_)
  have hP : va_P D vwCl [(h, .inr (4, [.int a1, .int 0, .int h_spoken, .int h_out, .int h_coins]))] H := hP
  have hD : va_D A [(h, .inr (4, [.int a1, .int 0, .int h_spoken, .int h_out, .int h_coins]))] := hD
  refine lv_aload_n hx hb dX4_begin_10 rfl (lv_at hl 0 rfl) ?_
  refine lv_iconst (v := 0) hx hb dX4_begin_11 (by decide) ?_
  refine va_put (D := D) (ci := 4) (v := .int 0) (ty := .int) (C := RX4) (T := TX4) (N := 5) hx hb hts uX4_begin_X4 tyX4 tyX4_ok nmX4 hown hK hP hD hS 0 rfl rfl 2 (by decide) (hts (.fieldLink RX4 18 "SpeaksForTheChair$Standing" "spoken" "I") (List.mem_of_getElem? (i := 3) rfl)) (fun _ h9 => h9) rfl (by decide +kernel) rfl rfl (Nat.le_of_ble_eq_true rfl) dX4_begin_12 (fun H locs hP hD hS => ?_)
  have hP : va_P D vwCl [(h, .inr (4, [.int a1, .int 0, .int 0, .int h_out, .int h_coins]))] H := hP
  have hD : va_D A [(h, .inr (4, [.int a1, .int 0, .int 0, .int h_out, .int h_coins]))] := hD
  refine lv_aload_n hx hb dX4_begin_15 rfl (lv_at hl 0 rfl) ?_
  refine lv_iconst (v := 0) hx hb dX4_begin_16 (by decide) ?_
  refine va_put (D := D) (ci := 4) (v := .int 0) (ty := .int) (C := RX4) (T := TX4) (N := 5) hx hb hts uX4_begin_X4 tyX4 tyX4_ok nmX4 hown hK hP hD hS 0 rfl rfl 3 (by decide) (hts (.fieldLink RX4 21 "SpeaksForTheChair$Standing" "out" "I") (List.mem_of_getElem? (i := 4) rfl)) (fun _ h9 => h9) rfl (by decide +kernel) rfl rfl (Nat.le_of_ble_eq_true rfl) dX4_begin_17 (fun H locs hP hD hS => ?_)
  have hP : va_P D vwCl [(h, .inr (4, [.int a1, .int 0, .int 0, .int 0, .int h_coins]))] H := hP
  have hD : va_D A [(h, .inr (4, [.int a1, .int 0, .int 0, .int 0, .int h_coins]))] := hD
  refine lv_aload_n hx hb dX4_begin_20 rfl (lv_at hl 0 rfl) ?_
  refine lv_iload_n hx hb dX4_begin_21 rfl (lv_at hl 2 rfl) ?_
  refine va_put (D := D) (ci := 4) (v := .int a2) (ty := .int) (C := RX4) (T := TX4) (N := 5) hx hb hts uX4_begin_X4 tyX4 tyX4_ok nmX4 hown hK hP hD hS 0 rfl rfl 4 (by decide) (hts (.fieldLink RX4 24 "SpeaksForTheChair$Standing" "coins" "I") (List.mem_of_getElem? (i := 5) rfl)) (fun _ h9 => h9) rfl (by decide +kernel) rfl rfl (Nat.le_of_ble_eq_true rfl) dX4_begin_22 (fun H locs hP hD hS => ?_)
  have hP : va_P D vwCl [(h, .inr (4, [.int a1, .int 0, .int 0, .int 0, .int a2]))] H := hP
  have hD : va_D A [(h, .inr (4, [.int a1, .int 0, .int 0, .int 0, .int a2]))] := hD
  cases hf
  exact W.vret hx hb hr (fun t ht hW => ⟨⟨(), rfl, trivial, by rw [ht]; exact hP, va_K.moved hW.alike hK, hD⟩, hS.F ht⟩) hS.2.2 dX4_begin_25
theorem uX2_clear_X2 : ∀ w ∈ wsX20, w ∈ wsX2_clear := fun w h => List.mem_cons_of_mem _ (List.mem_append_right _ h)
set_option maxHeartbeats 4000000 in
set_option maxRecDepth 100000 in
theorem c_X2_clear (l : Launch) (D : va_G) (cI cC cL cB : ClassId) (sz : Nat) (h : Nat) (h_ring : Nat) (h_next : Int32) (h_depth : Int32) (o0 : Int32) (hf : m_X2_clear = some o0) : Met l yX2_clear wsX2_clear ({ frames := 0, cells := 0, slots := 0, locals := 0 }) (va_Pc [.ref h] (q_W D vwCl (tyL cI cC cL cB) [(h, .inr (2, [.ref h_ring, .int h_next, .int h_depth]))] sz)) (va_Qv (fun _ : Unit => True) (q_E D vwCl (tyL cI cC cL cB) (va_A [(h, .inr (2, [.ref h_ring, .int h_next, .int h_depth]))] sz) [(h, .inr (2, [.ref h_ring, .int h_next, .int o0]))]) (va_A [(h, .inr (2, [.ref h_ring, .int h_next, .int h_depth]))] sz)) 0 0 (va_A [(h, .inr (2, [.ref h_ring, .int h_next, .int h_depth]))] sz) := by
  refine Met.ofW (cc := cX2_clear) (maxL := 1) (ret := none) (by decide) rfl ?_
  intro p e s m args below meth c s₁ B hml hv
  obtain ⟨rfl, hsz, hP, hK, hD0⟩ := hv
  have hx := B.exec
  have hb := B.bytes
  have hr := B.returns
  have hts := atoms_spec (ws := wsX2_clear) B.pre
  have hown : s.vm.findClass RX2 = some m.cls := findClass_of_methodNamed B.named
  have hlocks := B.notSynchronized
  subst hsz
  have hD := hD0.self (sz := s.heap.size)
  generalize hAe : va_A [(h, .inr (2, [.ref h_ring, .int h_next, .int h_depth]))] s.heap.size = A at hD ⊢
  have hA : ∀ q : Nat, s.heap.size ≤ q → A q := fun q h => by rw [← hAe]; exact Or.inr h
  have hS : va_S A s.heap s.heap [] := va_S.rf
  have hP : va_P D vwCl [(h, .inr (2, [.ref h_ring, .int h_next, .int h_depth]))] s.heap := hP
  have hl := lv_entry ([.ref h]) (n := 1) (Nat.le_of_ble_eq_true rfl)
  rw [lg_entry_eq]
  generalize (lg_sl ([.ref h]) ++ List.replicate (1 - (lg_sl ([.ref h])).length) Slot.unset).toArray = ls at hl ⊢
  have hl : lv_has ls 1 [(0, .ref h)] := hl
  unfold m_X2_clear at hf
  refine lv_aload_n hx hb dX2_clear_0 rfl (lv_at hl 0 rfl) ?_
  refine lv_iconst (v := 0) hx hb dX2_clear_1 (by decide) ?_
  refine va_put (D := D) (ci := 2) (v := .int 0) (ty := .int) (C := RX2) (T := TX2) (N := 3) hx hb hts uX2_clear_X2 tyX2 tyX2_ok nmX2 hown hK hP hD hS 0 rfl rfl 2 (by decide) (hts (.fieldLink RX2 19 "SpeaksForTheChair$Past" "depth" "I") (List.mem_of_getElem? (i := 1) rfl)) (fun _ h9 => h9) rfl (by decide +kernel) rfl rfl (Nat.le_of_ble_eq_true rfl) dX2_clear_2 (fun H locs hP hD hS => ?_)
  have hP : va_P D vwCl [(h, .inr (2, [.ref h_ring, .int h_next, .int 0]))] H := hP
  have hD : va_D A [(h, .inr (2, [.ref h_ring, .int h_next, .int 0]))] := hD
  cases hf
  exact W.vret hx hb hr (fun t ht hW => ⟨⟨(), rfl, trivial, by rw [ht]; exact hP, va_K.moved hW.alike hK, hD⟩, hS.F ht⟩) hS.2.2 dX2_clear_5
theorem uX3_clear_X3 : ∀ w ∈ wsX30, w ∈ wsX3_clear := fun w h => List.mem_cons_of_mem _ (List.mem_append_right _ h)
set_option maxHeartbeats 4000000 in
set_option maxRecDepth 100000 in
theorem c_X3_clear (l : Launch) (D : va_G) (cI cC cL cB : ClassId) (sz : Nat) (h : Nat) (h_pieces : Nat) (h_deeds : Nat) (h_tells : Nat) (h_length : Int32) (o0 : Int32) (hf : m_X3_clear = some o0) : Met l yX3_clear wsX3_clear ({ frames := 0, cells := 0, slots := 0, locals := 0 }) (va_Pc [.ref h] (q_W D vwCl (tyL cI cC cL cB) [(h, .inr (3, [.ref h_pieces, .ref h_deeds, .ref h_tells, .int h_length]))] sz)) (va_Qv (fun _ : Unit => True) (q_E D vwCl (tyL cI cC cL cB) (va_A [(h, .inr (3, [.ref h_pieces, .ref h_deeds, .ref h_tells, .int h_length]))] sz) [(h, .inr (3, [.ref h_pieces, .ref h_deeds, .ref h_tells, .int o0]))]) (va_A [(h, .inr (3, [.ref h_pieces, .ref h_deeds, .ref h_tells, .int h_length]))] sz)) 0 0 (va_A [(h, .inr (3, [.ref h_pieces, .ref h_deeds, .ref h_tells, .int h_length]))] sz) := by
  refine Met.ofW (cc := cX3_clear) (maxL := 1) (ret := none) (by decide) rfl ?_
  intro p e s m args below meth c s₁ B hml hv
  obtain ⟨rfl, hsz, hP, hK, hD0⟩ := hv
  have hx := B.exec
  have hb := B.bytes
  have hr := B.returns
  have hts := atoms_spec (ws := wsX3_clear) B.pre
  have hown : s.vm.findClass RX3 = some m.cls := findClass_of_methodNamed B.named
  have hlocks := B.notSynchronized
  subst hsz
  have hD := hD0.self (sz := s.heap.size)
  generalize hAe : va_A [(h, .inr (3, [.ref h_pieces, .ref h_deeds, .ref h_tells, .int h_length]))] s.heap.size = A at hD ⊢
  have hA : ∀ q : Nat, s.heap.size ≤ q → A q := fun q h => by rw [← hAe]; exact Or.inr h
  have hS : va_S A s.heap s.heap [] := va_S.rf
  have hP : va_P D vwCl [(h, .inr (3, [.ref h_pieces, .ref h_deeds, .ref h_tells, .int h_length]))] s.heap := hP
  have hl := lv_entry ([.ref h]) (n := 1) (Nat.le_of_ble_eq_true rfl)
  rw [lg_entry_eq]
  generalize (lg_sl ([.ref h]) ++ List.replicate (1 - (lg_sl ([.ref h])).length) Slot.unset).toArray = ls at hl ⊢
  have hl : lv_has ls 1 [(0, .ref h)] := hl
  unfold m_X3_clear at hf
  refine lv_aload_n hx hb dX3_clear_0 rfl (lv_at hl 0 rfl) ?_
  refine lv_iconst (v := 0) hx hb dX3_clear_1 (by decide) ?_
  refine va_put (D := D) (ci := 3) (v := .int 0) (ty := .int) (C := RX3) (T := TX3) (N := 4) hx hb hts uX3_clear_X3 tyX3 tyX3_ok nmX3 hown hK hP hD hS 0 rfl rfl 3 (by decide) (hts (.fieldLink RX3 22 "SpeaksForTheChair$Sightings" "length" "I") (List.mem_of_getElem? (i := 1) rfl)) (fun _ h9 => h9) rfl (by decide +kernel) rfl rfl (Nat.le_of_ble_eq_true rfl) dX3_clear_2 (fun H locs hP hD hS => ?_)
  have hP : va_P D vwCl [(h, .inr (3, [.ref h_pieces, .ref h_deeds, .ref h_tells, .int 0]))] H := hP
  have hD : va_D A [(h, .inr (3, [.ref h_pieces, .ref h_deeds, .ref h_tells, .int 0]))] := hD
  cases hf
  exact W.vret hx hb hr (fun t ht hW => ⟨⟨(), rfl, trivial, by rw [ht]; exact hP, va_K.moved hW.alike hK, hD⟩, hS.F ht⟩) hS.2.2 dX3_clear_5
theorem uX5_lay_X0 : ∀ w ∈ wsX00, w ∈ wsX5_lay := fun w h => List.mem_cons_of_mem _ (List.mem_append_left _ (List.mem_append_left _ (List.mem_append_left _ (List.mem_append_left _ (List.mem_append_right _ h)))))
theorem uX5_lay_X5 : ∀ w ∈ wsX50, w ∈ wsX5_lay := fun w h => List.mem_cons_of_mem _ (List.mem_append_left _ (List.mem_append_left _ (List.mem_append_left _ (List.mem_append_left _ (List.mem_append_left _ (List.mem_append_right _ h))))))
set_option maxHeartbeats 4000000 in
set_option maxRecDepth 100000 in
theorem c_X5_lay (l : Launch) (D : va_G) (cI cC cL cB : ClassId) (sz : Nat) (h : Nat) (h_page : Nat) (h_laid : Nat) (h_draft : Nat) (h_now : Nat) (h_trial : Nat) (h_past : Nat) (h_sightings : Nat) (h_kept : Nat) (h_told : Nat) (h_draft_kinds : Nat) (h_draft_prices : Nat) (h_draft_persons : Nat) (h_draft_places : Nat) (h_draft_hours : Nat) (h_draft_weights : Nat) (h_draft_numbers : Nat) (h_page_letters : Nat) (h_past_ring : Nat) (h_sightings_pieces : Nat) (h_sightings_deeds : Nat) (h_sightings_tells : Nat) (h_keptCount : Int32) (h_draft_pieces : Int32) (h_draft_roomsAtFirst : Int32) (h_draft_deeds : Int32) (h_draft_coins : Int32) (h_draft_law : Int32) (h_page_length : Int32) (h_page_letters_c : Nat → Int32) (h_draft_numbers_c : Nat → Int32) (h_draft_kinds_c : Nat → Int32) (h_draft_prices_c : Nat → Int32) (h_draft_persons_c : Nat → Int32) (h_draft_places_c : Nat → Int32) (h_draft_hours_c : Nat → Int32) (h_draft_weights_c : Nat → Int32) (h_now_rooms : Int32) (h_now_bought : Int32) (h_now_spoken : Int32) (h_now_out : Int32) (h_now_coins : Int32) (h_past_next : Int32) (h_past_depth : Int32) (h_sightings_length : Int32) (r : Int32) (o0 : Nat) (o1 : Nat) (o2 : Int32) (o3 : Int32) (o4 : Int32) (o5 : Int32) (o6 : Int32) (o7 : Int32) (o8 : Nat → Int32) (o9 : Nat → Int32) (o10 : Nat → Int32) (o11 : Nat → Int32) (o12 : Nat → Int32) (o13 : Nat → Int32) (o14 : Nat → Int32) (o15 : Int32) (o16 : Int32) (o17 : Int32) (o18 : Int32) (o19 : Int32) (o20 : Int32) (o21 : Int32) (hf : m_X5_lay h_laid h_draft h_keptCount h_page_length h_page_letters_c h_draft_numbers_c h_draft_kinds_c h_draft_prices_c h_draft_persons_c h_draft_places_c h_draft_hours_c h_draft_weights_c h_now_rooms h_now_bought h_now_spoken h_now_out h_now_coins h_past_depth h_sightings_length = some (r, o0, o1, o2, o3, o4, o5, o6, o7, o8, o9, o10, o11, o12, o13, o14, o15, o16, o17, o18, o19, o20, o21)) : Met l yX5_lay wsX5_lay ({ frames := 4, cells := 0, slots := 0, locals := 94 }) (va_Pc [.ref h] (q_W D vwCl (tyL cI cC cL cB) [(h, .inr (5, [.ref h_page, .ref h_laid, .ref h_draft, .ref h_now, .ref h_trial, .ref h_past, .ref h_sightings, .ref h_kept, .int h_keptCount, .ref h_told])), (h_draft, .inr (0, [.int h_draft_pieces, .ref h_draft_kinds, .ref h_draft_prices, .int h_draft_roomsAtFirst, .int h_draft_deeds, .ref h_draft_persons, .ref h_draft_places, .ref h_draft_hours, .ref h_draft_weights, .int h_draft_coins, .int h_draft_law, .ref h_draft_numbers])), (h_page, .inr (1, [.ref h_page_letters, .int h_page_length])), (h_page_letters, .inl (cC, 200, .inl h_page_letters_c)), (h_draft_numbers, .inl (cI, 4, .inl h_draft_numbers_c)), (h_draft_kinds, .inl (cI, 8, .inl h_draft_kinds_c)), (h_draft_prices, .inl (cI, 8, .inl h_draft_prices_c)), (h_draft_persons, .inl (cI, 9, .inl h_draft_persons_c)), (h_draft_places, .inl (cI, 9, .inl h_draft_places_c)), (h_draft_hours, .inl (cI, 9, .inl h_draft_hours_c)), (h_draft_weights, .inl (cI, 9, .inl h_draft_weights_c)), (h_now, .inr (4, [.int h_now_rooms, .int h_now_bought, .int h_now_spoken, .int h_now_out, .int h_now_coins])), (h_past, .inr (2, [.ref h_past_ring, .int h_past_next, .int h_past_depth])), (h_sightings, .inr (3, [.ref h_sightings_pieces, .ref h_sightings_deeds, .ref h_sightings_tells, .int h_sightings_length]))] sz)) (va_Qi (fun r' _ => r' = r) (q_E D vwCl (tyL cI cC cL cB) (va_A [(h, .inr (5, [.ref h_page, .ref h_laid, .ref h_draft, .ref h_now, .ref h_trial, .ref h_past, .ref h_sightings, .ref h_kept, .int h_keptCount, .ref h_told])), (h_draft, .inr (0, [.int h_draft_pieces, .ref h_draft_kinds, .ref h_draft_prices, .int h_draft_roomsAtFirst, .int h_draft_deeds, .ref h_draft_persons, .ref h_draft_places, .ref h_draft_hours, .ref h_draft_weights, .int h_draft_coins, .int h_draft_law, .ref h_draft_numbers])), (h_page, .inr (1, [.ref h_page_letters, .int h_page_length])), (h_page_letters, .inl (cC, 200, .inl h_page_letters_c)), (h_draft_numbers, .inl (cI, 4, .inl h_draft_numbers_c)), (h_draft_kinds, .inl (cI, 8, .inl h_draft_kinds_c)), (h_draft_prices, .inl (cI, 8, .inl h_draft_prices_c)), (h_draft_persons, .inl (cI, 9, .inl h_draft_persons_c)), (h_draft_places, .inl (cI, 9, .inl h_draft_places_c)), (h_draft_hours, .inl (cI, 9, .inl h_draft_hours_c)), (h_draft_weights, .inl (cI, 9, .inl h_draft_weights_c)), (h_now, .inr (4, [.int h_now_rooms, .int h_now_bought, .int h_now_spoken, .int h_now_out, .int h_now_coins])), (h_past, .inr (2, [.ref h_past_ring, .int h_past_next, .int h_past_depth])), (h_sightings, .inr (3, [.ref h_sightings_pieces, .ref h_sightings_deeds, .ref h_sightings_tells, .int h_sightings_length]))] sz) [(h, .inr (5, [.ref h_page, .ref o0, .ref o1, .ref h_now, .ref h_trial, .ref h_past, .ref h_sightings, .ref h_kept, .int o2, .ref h_told])), (h_draft, .inr (0, [.int o3, .ref h_draft_kinds, .ref h_draft_prices, .int o4, .int o5, .ref h_draft_persons, .ref h_draft_places, .ref h_draft_hours, .ref h_draft_weights, .int o6, .int o7, .ref h_draft_numbers])), (h_page, .inr (1, [.ref h_page_letters, .int h_page_length])), (h_page_letters, .inl (cC, 200, .inl h_page_letters_c)), (h_draft_numbers, .inl (cI, 4, .inl o8)), (h_draft_kinds, .inl (cI, 8, .inl o9)), (h_draft_prices, .inl (cI, 8, .inl o10)), (h_draft_persons, .inl (cI, 9, .inl o11)), (h_draft_places, .inl (cI, 9, .inl o12)), (h_draft_hours, .inl (cI, 9, .inl o13)), (h_draft_weights, .inl (cI, 9, .inl o14)), (h_now, .inr (4, [.int o15, .int o16, .int o17, .int o18, .int o19])), (h_past, .inr (2, [.ref h_past_ring, .int h_past_next, .int o20])), (h_sightings, .inr (3, [.ref h_sightings_pieces, .ref h_sightings_deeds, .ref h_sightings_tells, .int o21]))]) (va_A [(h, .inr (5, [.ref h_page, .ref h_laid, .ref h_draft, .ref h_now, .ref h_trial, .ref h_past, .ref h_sightings, .ref h_kept, .int h_keptCount, .ref h_told])), (h_draft, .inr (0, [.int h_draft_pieces, .ref h_draft_kinds, .ref h_draft_prices, .int h_draft_roomsAtFirst, .int h_draft_deeds, .ref h_draft_persons, .ref h_draft_places, .ref h_draft_hours, .ref h_draft_weights, .int h_draft_coins, .int h_draft_law, .ref h_draft_numbers])), (h_page, .inr (1, [.ref h_page_letters, .int h_page_length])), (h_page_letters, .inl (cC, 200, .inl h_page_letters_c)), (h_draft_numbers, .inl (cI, 4, .inl h_draft_numbers_c)), (h_draft_kinds, .inl (cI, 8, .inl h_draft_kinds_c)), (h_draft_prices, .inl (cI, 8, .inl h_draft_prices_c)), (h_draft_persons, .inl (cI, 9, .inl h_draft_persons_c)), (h_draft_places, .inl (cI, 9, .inl h_draft_places_c)), (h_draft_hours, .inl (cI, 9, .inl h_draft_hours_c)), (h_draft_weights, .inl (cI, 9, .inl h_draft_weights_c)), (h_now, .inr (4, [.int h_now_rooms, .int h_now_bought, .int h_now_spoken, .int h_now_out, .int h_now_coins])), (h_past, .inr (2, [.ref h_past_ring, .int h_past_next, .int h_past_depth])), (h_sightings, .inr (3, [.ref h_sightings_pieces, .ref h_sightings_deeds, .ref h_sightings_tells, .int h_sightings_length]))] sz)) 0 0 (va_A [(h, .inr (5, [.ref h_page, .ref h_laid, .ref h_draft, .ref h_now, .ref h_trial, .ref h_past, .ref h_sightings, .ref h_kept, .int h_keptCount, .ref h_told])), (h_draft, .inr (0, [.int h_draft_pieces, .ref h_draft_kinds, .ref h_draft_prices, .int h_draft_roomsAtFirst, .int h_draft_deeds, .ref h_draft_persons, .ref h_draft_places, .ref h_draft_hours, .ref h_draft_weights, .int h_draft_coins, .int h_draft_law, .ref h_draft_numbers])), (h_page, .inr (1, [.ref h_page_letters, .int h_page_length])), (h_page_letters, .inl (cC, 200, .inl h_page_letters_c)), (h_draft_numbers, .inl (cI, 4, .inl h_draft_numbers_c)), (h_draft_kinds, .inl (cI, 8, .inl h_draft_kinds_c)), (h_draft_prices, .inl (cI, 8, .inl h_draft_prices_c)), (h_draft_persons, .inl (cI, 9, .inl h_draft_persons_c)), (h_draft_places, .inl (cI, 9, .inl h_draft_places_c)), (h_draft_hours, .inl (cI, 9, .inl h_draft_hours_c)), (h_draft_weights, .inl (cI, 9, .inl h_draft_weights_c)), (h_now, .inr (4, [.int h_now_rooms, .int h_now_bought, .int h_now_spoken, .int h_now_out, .int h_now_coins])), (h_past, .inr (2, [.ref h_past_ring, .int h_past_next, .int h_past_depth])), (h_sightings, .inr (3, [.ref h_sightings_pieces, .ref h_sightings_deeds, .ref h_sightings_tells, .int h_sightings_length]))] sz) := by
  refine Met.ofW (cc := cX5_lay) (maxL := 2) (ret := (some .int)) (by decide) rfl ?_
  intro p e s m args below meth c s₁ B hml hv
  obtain ⟨rfl, hsz, hP, hK, hD0⟩ := hv
  have hx := B.exec
  have hb := B.bytes
  have hr := B.returns
  have hts := atoms_spec (ws := wsX5_lay) B.pre
  have hown : s.vm.findClass RX5 = some m.cls := findClass_of_methodNamed B.named
  have hlocks := B.notSynchronized
  subst hsz
  have hD := hD0.self (sz := s.heap.size)
  generalize hAe : va_A [(h, .inr (5, [.ref h_page, .ref h_laid, .ref h_draft, .ref h_now, .ref h_trial, .ref h_past, .ref h_sightings, .ref h_kept, .int h_keptCount, .ref h_told])), (h_draft, .inr (0, [.int h_draft_pieces, .ref h_draft_kinds, .ref h_draft_prices, .int h_draft_roomsAtFirst, .int h_draft_deeds, .ref h_draft_persons, .ref h_draft_places, .ref h_draft_hours, .ref h_draft_weights, .int h_draft_coins, .int h_draft_law, .ref h_draft_numbers])), (h_page, .inr (1, [.ref h_page_letters, .int h_page_length])), (h_page_letters, .inl (cC, 200, .inl h_page_letters_c)), (h_draft_numbers, .inl (cI, 4, .inl h_draft_numbers_c)), (h_draft_kinds, .inl (cI, 8, .inl h_draft_kinds_c)), (h_draft_prices, .inl (cI, 8, .inl h_draft_prices_c)), (h_draft_persons, .inl (cI, 9, .inl h_draft_persons_c)), (h_draft_places, .inl (cI, 9, .inl h_draft_places_c)), (h_draft_hours, .inl (cI, 9, .inl h_draft_hours_c)), (h_draft_weights, .inl (cI, 9, .inl h_draft_weights_c)), (h_now, .inr (4, [.int h_now_rooms, .int h_now_bought, .int h_now_spoken, .int h_now_out, .int h_now_coins])), (h_past, .inr (2, [.ref h_past_ring, .int h_past_next, .int h_past_depth])), (h_sightings, .inr (3, [.ref h_sightings_pieces, .ref h_sightings_deeds, .ref h_sightings_tells, .int h_sightings_length]))] s.heap.size = A at hD ⊢
  have hA : ∀ q : Nat, s.heap.size ≤ q → A q := fun q h => by rw [← hAe]; exact Or.inr h
  have hS : va_S A s.heap s.heap [] := va_S.rf
  have hP : va_P D vwCl [(h, .inr (5, [.ref h_page, .ref h_laid, .ref h_draft, .ref h_now, .ref h_trial, .ref h_past, .ref h_sightings, .ref h_kept, .int h_keptCount, .ref h_told])), (h_draft, .inr (0, [.int h_draft_pieces, .ref h_draft_kinds, .ref h_draft_prices, .int h_draft_roomsAtFirst, .int h_draft_deeds, .ref h_draft_persons, .ref h_draft_places, .ref h_draft_hours, .ref h_draft_weights, .int h_draft_coins, .int h_draft_law, .ref h_draft_numbers])), (h_page, .inr (1, [.ref h_page_letters, .int h_page_length])), (h_page_letters, .inl (cC, 200, .inl h_page_letters_c)), (h_draft_numbers, .inl (cI, 4, .inl h_draft_numbers_c)), (h_draft_kinds, .inl (cI, 8, .inl h_draft_kinds_c)), (h_draft_prices, .inl (cI, 8, .inl h_draft_prices_c)), (h_draft_persons, .inl (cI, 9, .inl h_draft_persons_c)), (h_draft_places, .inl (cI, 9, .inl h_draft_places_c)), (h_draft_hours, .inl (cI, 9, .inl h_draft_hours_c)), (h_draft_weights, .inl (cI, 9, .inl h_draft_weights_c)), (h_now, .inr (4, [.int h_now_rooms, .int h_now_bought, .int h_now_spoken, .int h_now_out, .int h_now_coins])), (h_past, .inr (2, [.ref h_past_ring, .int h_past_next, .int h_past_depth])), (h_sightings, .inr (3, [.ref h_sightings_pieces, .ref h_sightings_deeds, .ref h_sightings_tells, .int h_sightings_length]))] s.heap := hP
  have hl := lv_entry ([.ref h]) (n := 2) (Nat.le_of_ble_eq_true rfl)
  rw [lg_entry_eq]
  generalize (lg_sl ([.ref h]) ++ List.replicate (2 - (lg_sl ([.ref h])).length) Slot.unset).toArray = ls at hl ⊢
  have hl : lv_has ls 2 [(0, .ref h)] := hl
  unfold m_X5_lay at hf
  refine lv_aload_n hx hb dX5_lay_0 rfl (lv_at hl 0 rfl) ?_
  refine va_get (D := D) (ci := 5) (v := .ref h_draft) (C := RX5) (T := TX5) (N := 10) hx hb hts uX5_lay_X5 hown hK hP 0 rfl rfl 2 (by decide) (hts (.fieldLink RX5 23 "SpeaksForTheChair" "draft" "LSpeaksForTheChair$House;") (List.mem_of_getElem? (i := 1) rfl)) (fun _ h9 => h9) rfl dX5_lay_1 ?_
  refine lv_aload_n hx hb dX5_lay_4 rfl (lv_at hl 0 rfl) ?_
  refine va_get (D := D) (ci := 5) (v := .ref h_page) (C := RX5) (T := TX5) (N := 10) hx hb hts uX5_lay_X5 hown hK hP 0 rfl rfl 0 (by decide) (hts (.fieldLink RX5 10 "SpeaksForTheChair" "page" "LSpeaksForTheChair$Page;") (List.mem_of_getElem? (i := 2) rfl)) (fun _ h9 => h9) rfl dX5_lay_5 ?_
  obtain ⟨x1, f2, f3, f4, f5, f6, c7, c8, c9, c10, c11, c12, c13, hv_1, hf⟩ := ob13_some hf
  refine q_wVi (As := [.ref h_page]) (rest := []) (r := x1) (w1 := [(h_draft, .inr (0, [.int f2, .ref h_draft_kinds, .ref h_draft_prices, .int f3, .int f4, .ref h_draft_persons, .ref h_draft_places, .ref h_draft_hours, .ref h_draft_weights, .int f5, .int f6, .ref h_draft_numbers])), (h_page, .inr (1, [.ref h_page_letters, .int h_page_length])), (h_page_letters, .inl (cC, 200, .inl h_page_letters_c)), (h_draft_numbers, .inl (cI, 4, .inl c7)), (h_draft_kinds, .inl (cI, 8, .inl c8)), (h_draft_prices, .inl (cI, 8, .inl c9)), (h_draft_persons, .inl (cI, 9, .inl c10)), (h_draft_places, .inl (cI, 9, .inl c11)), (h_draft_hours, .inl (cI, 9, .inl c12)), (h_draft_weights, .inl (cI, 9, .inl c13))]) (wr := [(h, .inr (5, [.ref h_page, .ref h_laid, .ref h_draft, .ref h_now, .ref h_trial, .ref h_past, .ref h_sightings, .ref h_kept, .int h_keptCount, .ref h_told])), (h_now, .inr (4, [.int h_now_rooms, .int h_now_bought, .int h_now_spoken, .int h_now_out, .int h_now_coins])), (h_past, .inr (2, [.ref h_past_ring, .int h_past_next, .int h_past_depth])), (h_sightings, .inr (3, [.ref h_sightings_pieces, .ref h_sightings_deeds, .ref h_sightings_tells, .int h_sightings_length]))]) (w2 := [(h, .inr (5, [.ref h_page, .ref h_laid, .ref h_draft, .ref h_now, .ref h_trial, .ref h_past, .ref h_sightings, .ref h_kept, .int h_keptCount, .ref h_told])), (h_draft, .inr (0, [.int f2, .ref h_draft_kinds, .ref h_draft_prices, .int f3, .int f4, .ref h_draft_persons, .ref h_draft_places, .ref h_draft_hours, .ref h_draft_weights, .int f5, .int f6, .ref h_draft_numbers])), (h_page, .inr (1, [.ref h_page_letters, .int h_page_length])), (h_page_letters, .inl (cC, 200, .inl h_page_letters_c)), (h_draft_numbers, .inl (cI, 4, .inl c7)), (h_draft_kinds, .inl (cI, 8, .inl c8)), (h_draft_prices, .inl (cI, 8, .inl c9)), (h_draft_persons, .inl (cI, 9, .inl c10)), (h_draft_places, .inl (cI, 9, .inl c11)), (h_draft_hours, .inl (cI, 9, .inl c12)), (h_draft_weights, .inl (cI, 9, .inl c13)), (h_now, .inr (4, [.int h_now_rooms, .int h_now_bought, .int h_now_spoken, .int h_now_out, .int h_now_coins])), (h_past, .inr (2, [.ref h_past_ring, .int h_past_next, .int h_past_depth])), (h_sightings, .inr (3, [.ref h_sightings_pieces, .ref h_sightings_deeds, .ref h_sightings_tells, .int h_sightings_length]))]) ⟨hx, hb, hml, hown, hts⟩ (c_X0_readFrom l D cI cC cL cB s.heap.size h_draft h_page h_draft_kinds h_draft_prices h_draft_persons h_draft_places h_draft_hours h_draft_weights h_draft_numbers h_page_letters h_draft_pieces h_draft_roomsAtFirst h_draft_deeds h_draft_coins h_draft_law h_page_length h_page_letters_c h_draft_numbers_c h_draft_kinds_c h_draft_prices_c h_draft_persons_c h_draft_places_c h_draft_hours_c h_draft_weights_c x1 f2 f3 f4 f5 f6 c7 c8 c9 c10 c11 c12 c13 hv_1) (cwV 1 hts gX5_lay_X0_readFrom rfl rfl rfl (by decide +kernel) ⟨Nat.le_of_ble_eq_true rfl, Nat.le_of_ble_eq_true rfl⟩) hK hP hD hS hA [1, 2, 3, 4, 5, 6, 7, 8, 9, 10] rfl (by decide) [0, 11, 12, 13] rfl (by decide) (by decide) [0, 4, 5, 6, 7, 8, 9, 10, 11, 12, 13, 1, 2, 3] rfl (by decide) (va_recv hK hP (ci := 0) (q0 := 1) rfl rfl) rfl hl.1 rfl (Nat.le_of_ble_eq_true rfl) dX5_lay_8 ⟨Nat.le_of_ble_eq_true rfl, Nat.le_of_ble_eq_true rfl⟩ (fun H locs hP hD hS => ?_)
  have hP : va_P D vwCl [(h, .inr (5, [.ref h_page, .ref h_laid, .ref h_draft, .ref h_now, .ref h_trial, .ref h_past, .ref h_sightings, .ref h_kept, .int h_keptCount, .ref h_told])), (h_draft, .inr (0, [.int f2, .ref h_draft_kinds, .ref h_draft_prices, .int f3, .int f4, .ref h_draft_persons, .ref h_draft_places, .ref h_draft_hours, .ref h_draft_weights, .int f5, .int f6, .ref h_draft_numbers])), (h_page, .inr (1, [.ref h_page_letters, .int h_page_length])), (h_page_letters, .inl (cC, 200, .inl h_page_letters_c)), (h_draft_numbers, .inl (cI, 4, .inl c7)), (h_draft_kinds, .inl (cI, 8, .inl c8)), (h_draft_prices, .inl (cI, 8, .inl c9)), (h_draft_persons, .inl (cI, 9, .inl c10)), (h_draft_places, .inl (cI, 9, .inl c11)), (h_draft_hours, .inl (cI, 9, .inl c12)), (h_draft_weights, .inl (cI, 9, .inl c13)), (h_now, .inr (4, [.int h_now_rooms, .int h_now_bought, .int h_now_spoken, .int h_now_out, .int h_now_coins])), (h_past, .inr (2, [.ref h_past_ring, .int h_past_next, .int h_past_depth])), (h_sightings, .inr (3, [.ref h_sightings_pieces, .ref h_sightings_deeds, .ref h_sightings_tells, .int h_sightings_length]))] H := hP
  have hD : va_D A [(h, .inr (5, [.ref h_page, .ref h_laid, .ref h_draft, .ref h_now, .ref h_trial, .ref h_past, .ref h_sightings, .ref h_kept, .int h_keptCount, .ref h_told])), (h_draft, .inr (0, [.int f2, .ref h_draft_kinds, .ref h_draft_prices, .int f3, .int f4, .ref h_draft_persons, .ref h_draft_places, .ref h_draft_hours, .ref h_draft_weights, .int f5, .int f6, .ref h_draft_numbers])), (h_page, .inr (1, [.ref h_page_letters, .int h_page_length])), (h_page_letters, .inl (cC, 200, .inl h_page_letters_c)), (h_draft_numbers, .inl (cI, 4, .inl c7)), (h_draft_kinds, .inl (cI, 8, .inl c8)), (h_draft_prices, .inl (cI, 8, .inl c9)), (h_draft_persons, .inl (cI, 9, .inl c10)), (h_draft_places, .inl (cI, 9, .inl c11)), (h_draft_hours, .inl (cI, 9, .inl c12)), (h_draft_weights, .inl (cI, 9, .inl c13)), (h_now, .inr (4, [.int h_now_rooms, .int h_now_bought, .int h_now_spoken, .int h_now_out, .int h_now_coins])), (h_past, .inr (2, [.ref h_past_ring, .int h_past_next, .int h_past_depth])), (h_sightings, .inr (3, [.ref h_sightings_pieces, .ref h_sightings_deeds, .ref h_sightings_tells, .int h_sightings_length]))] := hD
  refine lv_bipush (v := (-4)) hx hb dX5_lay_11 (by decide) ?_
  refine lv_icmp_ne (tgt := 26) hx hb dX5_lay_13 (by decide) (fun c_2 => ?_) (fun c_2 => ?_)
  · have hf := im c_2 hf
    refine lv_bipush (v := (-2)) hx hb dX5_lay_26 (by decide) ?_
    cases hf
    exact W.iret hx hb hr (fun t ht hW => ⟨⟨_, (), rfl, rfl, by rw [ht]; exact hP, va_K.moved hW.alike hK, hD⟩, hS.F ht⟩) hS.2.2 dX5_lay_28
  · have hf := ip c_2 hf
    refine lv_aload_n hx hb dX5_lay_16 rfl (lv_at hl 0 rfl) ?_
    refine va_get (D := D) (ci := 5) (v := .ref h_draft) (C := RX5) (T := TX5) (N := 10) hx hb hts uX5_lay_X5 hown hK hP 0 rfl rfl 2 (by decide) (hts (.fieldLink RX5 23 "SpeaksForTheChair" "draft" "LSpeaksForTheChair$House;") (List.mem_of_getElem? (i := 1) rfl)) (fun _ h9 => h9) rfl dX5_lay_17 ?_
    refine va_get (D := D) (ci := 0) (v := .int f2) (C := RX0) (T := TX0) (N := 12) hx hb hts uX5_lay_X0 hown hK hP 1 rfl rfl 0 (by decide) (hts (.fieldLink RX5 91 "SpeaksForTheChair$House" "pieces" "I") (List.mem_of_getElem? (i := 3) rfl)) (fun _ h9 => h9) rfl dX5_lay_20 ?_
    refine lv_if_ne (tgt := 29) hx hb dX5_lay_23 (by decide) (fun c_3 => ?_) (fun c_3 => ?_)
    · have hf := im c_3 hf
      refine lv_aload_n hx hb dX5_lay_29 rfl (lv_at hl 0 rfl) ?_
      refine va_get (D := D) (ci := 5) (v := .ref h_laid) (C := RX5) (T := TX5) (N := 10) hx hb hts uX5_lay_X5 hown hK hP 0 rfl rfl 1 (by decide) (hts (.fieldLink RX5 19 "SpeaksForTheChair" "laid" "LSpeaksForTheChair$House;") (List.mem_of_getElem? (i := 4) rfl)) (fun _ h9 => h9) rfl dX5_lay_30 ?_
      refine lv_astore_n (lv' := [(1, .ref h_laid), (0, .ref h)]) hx hb dX5_lay_33 rfl hl (by decide) rfl (fun ls hl => ?_)
      refine lv_aload_n hx hb dX5_lay_34 rfl (lv_at hl 1 rfl) ?_
      refine lv_aload_n hx hb dX5_lay_35 rfl (lv_at hl 1 rfl) ?_
      refine va_get (D := D) (ci := 5) (v := .ref h_draft) (C := RX5) (T := TX5) (N := 10) hx hb hts uX5_lay_X5 hown hK hP 0 rfl rfl 2 (by decide) (hts (.fieldLink RX5 23 "SpeaksForTheChair" "draft" "LSpeaksForTheChair$House;") (List.mem_of_getElem? (i := 1) rfl)) (fun _ h9 => h9) rfl dX5_lay_36 ?_
      refine va_put (D := D) (ci := 5) (v := .ref h_draft) (ty := (.object "SpeaksForTheChair$House")) (C := RX5) (T := TX5) (N := 10) hx hb hts uX5_lay_X5 tyX5 tyX5_ok nmX5 hown hK hP hD hS 0 rfl rfl 1 (by decide) (hts (.fieldLink RX5 19 "SpeaksForTheChair" "laid" "LSpeaksForTheChair$House;") (List.mem_of_getElem? (i := 4) rfl)) (fun _ h9 => h9) rfl (by decide +kernel) rfl rfl (Nat.le_of_ble_eq_true rfl) dX5_lay_39 (fun H locs hP hD hS => ?_)
      have hP : va_P D vwCl [(h, .inr (5, [.ref h_page, .ref h_draft, .ref h_draft, .ref h_now, .ref h_trial, .ref h_past, .ref h_sightings, .ref h_kept, .int h_keptCount, .ref h_told])), (h_draft, .inr (0, [.int f2, .ref h_draft_kinds, .ref h_draft_prices, .int f3, .int f4, .ref h_draft_persons, .ref h_draft_places, .ref h_draft_hours, .ref h_draft_weights, .int f5, .int f6, .ref h_draft_numbers])), (h_page, .inr (1, [.ref h_page_letters, .int h_page_length])), (h_page_letters, .inl (cC, 200, .inl h_page_letters_c)), (h_draft_numbers, .inl (cI, 4, .inl c7)), (h_draft_kinds, .inl (cI, 8, .inl c8)), (h_draft_prices, .inl (cI, 8, .inl c9)), (h_draft_persons, .inl (cI, 9, .inl c10)), (h_draft_places, .inl (cI, 9, .inl c11)), (h_draft_hours, .inl (cI, 9, .inl c12)), (h_draft_weights, .inl (cI, 9, .inl c13)), (h_now, .inr (4, [.int h_now_rooms, .int h_now_bought, .int h_now_spoken, .int h_now_out, .int h_now_coins])), (h_past, .inr (2, [.ref h_past_ring, .int h_past_next, .int h_past_depth])), (h_sightings, .inr (3, [.ref h_sightings_pieces, .ref h_sightings_deeds, .ref h_sightings_tells, .int h_sightings_length]))] H := hP
      have hD : va_D A [(h, .inr (5, [.ref h_page, .ref h_draft, .ref h_draft, .ref h_now, .ref h_trial, .ref h_past, .ref h_sightings, .ref h_kept, .int h_keptCount, .ref h_told])), (h_draft, .inr (0, [.int f2, .ref h_draft_kinds, .ref h_draft_prices, .int f3, .int f4, .ref h_draft_persons, .ref h_draft_places, .ref h_draft_hours, .ref h_draft_weights, .int f5, .int f6, .ref h_draft_numbers])), (h_page, .inr (1, [.ref h_page_letters, .int h_page_length])), (h_page_letters, .inl (cC, 200, .inl h_page_letters_c)), (h_draft_numbers, .inl (cI, 4, .inl c7)), (h_draft_kinds, .inl (cI, 8, .inl c8)), (h_draft_prices, .inl (cI, 8, .inl c9)), (h_draft_persons, .inl (cI, 9, .inl c10)), (h_draft_places, .inl (cI, 9, .inl c11)), (h_draft_hours, .inl (cI, 9, .inl c12)), (h_draft_weights, .inl (cI, 9, .inl c13)), (h_now, .inr (4, [.int h_now_rooms, .int h_now_bought, .int h_now_spoken, .int h_now_out, .int h_now_coins])), (h_past, .inr (2, [.ref h_past_ring, .int h_past_next, .int h_past_depth])), (h_sightings, .inr (3, [.ref h_sightings_pieces, .ref h_sightings_deeds, .ref h_sightings_tells, .int h_sightings_length]))] := hD
      refine lv_aload_n hx hb dX5_lay_42 rfl (lv_at hl 1 rfl) ?_
      refine lv_aload_n hx hb dX5_lay_43 rfl (lv_at hl 0 rfl) ?_
      refine va_put (D := D) (ci := 5) (v := .ref h_laid) (ty := (.object "SpeaksForTheChair$House")) (C := RX5) (T := TX5) (N := 10) hx hb hts uX5_lay_X5 tyX5 tyX5_ok nmX5 hown hK hP hD hS 0 rfl rfl 2 (by decide) (hts (.fieldLink RX5 23 "SpeaksForTheChair" "draft" "LSpeaksForTheChair$House;") (List.mem_of_getElem? (i := 1) rfl)) (fun _ h9 => h9) rfl (by decide +kernel) rfl rfl (Nat.le_of_ble_eq_true rfl) dX5_lay_44 (fun H locs hP hD hS => ?_)
      have hP : va_P D vwCl [(h, .inr (5, [.ref h_page, .ref h_draft, .ref h_laid, .ref h_now, .ref h_trial, .ref h_past, .ref h_sightings, .ref h_kept, .int h_keptCount, .ref h_told])), (h_draft, .inr (0, [.int f2, .ref h_draft_kinds, .ref h_draft_prices, .int f3, .int f4, .ref h_draft_persons, .ref h_draft_places, .ref h_draft_hours, .ref h_draft_weights, .int f5, .int f6, .ref h_draft_numbers])), (h_page, .inr (1, [.ref h_page_letters, .int h_page_length])), (h_page_letters, .inl (cC, 200, .inl h_page_letters_c)), (h_draft_numbers, .inl (cI, 4, .inl c7)), (h_draft_kinds, .inl (cI, 8, .inl c8)), (h_draft_prices, .inl (cI, 8, .inl c9)), (h_draft_persons, .inl (cI, 9, .inl c10)), (h_draft_places, .inl (cI, 9, .inl c11)), (h_draft_hours, .inl (cI, 9, .inl c12)), (h_draft_weights, .inl (cI, 9, .inl c13)), (h_now, .inr (4, [.int h_now_rooms, .int h_now_bought, .int h_now_spoken, .int h_now_out, .int h_now_coins])), (h_past, .inr (2, [.ref h_past_ring, .int h_past_next, .int h_past_depth])), (h_sightings, .inr (3, [.ref h_sightings_pieces, .ref h_sightings_deeds, .ref h_sightings_tells, .int h_sightings_length]))] H := hP
      have hD : va_D A [(h, .inr (5, [.ref h_page, .ref h_draft, .ref h_laid, .ref h_now, .ref h_trial, .ref h_past, .ref h_sightings, .ref h_kept, .int h_keptCount, .ref h_told])), (h_draft, .inr (0, [.int f2, .ref h_draft_kinds, .ref h_draft_prices, .int f3, .int f4, .ref h_draft_persons, .ref h_draft_places, .ref h_draft_hours, .ref h_draft_weights, .int f5, .int f6, .ref h_draft_numbers])), (h_page, .inr (1, [.ref h_page_letters, .int h_page_length])), (h_page_letters, .inl (cC, 200, .inl h_page_letters_c)), (h_draft_numbers, .inl (cI, 4, .inl c7)), (h_draft_kinds, .inl (cI, 8, .inl c8)), (h_draft_prices, .inl (cI, 8, .inl c9)), (h_draft_persons, .inl (cI, 9, .inl c10)), (h_draft_places, .inl (cI, 9, .inl c11)), (h_draft_hours, .inl (cI, 9, .inl c12)), (h_draft_weights, .inl (cI, 9, .inl c13)), (h_now, .inr (4, [.int h_now_rooms, .int h_now_bought, .int h_now_spoken, .int h_now_out, .int h_now_coins])), (h_past, .inr (2, [.ref h_past_ring, .int h_past_next, .int h_past_depth])), (h_sightings, .inr (3, [.ref h_sightings_pieces, .ref h_sightings_deeds, .ref h_sightings_tells, .int h_sightings_length]))] := hD
      refine lv_aload_n hx hb dX5_lay_47 rfl (lv_at hl 1 rfl) ?_
      refine va_get (D := D) (ci := 5) (v := .ref h_now) (C := RX5) (T := TX5) (N := 10) hx hb hts uX5_lay_X5 hown hK hP 0 rfl rfl 3 (by decide) (hts (.fieldLink RX5 29 "SpeaksForTheChair" "now" "LSpeaksForTheChair$Standing;") (List.mem_of_getElem? (i := 5) rfl)) (fun _ h9 => h9) rfl dX5_lay_48 ?_
      refine lv_aload_n hx hb dX5_lay_51 rfl (lv_at hl 1 rfl) ?_
      refine va_get (D := D) (ci := 5) (v := .ref h_draft) (C := RX5) (T := TX5) (N := 10) hx hb hts uX5_lay_X5 hown hK hP 0 rfl rfl 1 (by decide) (hts (.fieldLink RX5 19 "SpeaksForTheChair" "laid" "LSpeaksForTheChair$House;") (List.mem_of_getElem? (i := 4) rfl)) (fun _ h9 => h9) rfl dX5_lay_52 ?_
      refine va_get (D := D) (ci := 0) (v := .int f3) (C := RX0) (T := TX0) (N := 12) hx hb hts uX5_lay_X0 hown hK hP 1 rfl rfl 3 (by decide) (hts (.fieldLink RX5 94 "SpeaksForTheChair$House" "roomsAtFirst" "I") (List.mem_of_getElem? (i := 6) rfl)) (fun _ h9 => h9) rfl dX5_lay_55 ?_
      refine lv_aload_n hx hb dX5_lay_58 rfl (lv_at hl 1 rfl) ?_
      refine va_get (D := D) (ci := 5) (v := .ref h_draft) (C := RX5) (T := TX5) (N := 10) hx hb hts uX5_lay_X5 hown hK hP 0 rfl rfl 1 (by decide) (hts (.fieldLink RX5 19 "SpeaksForTheChair" "laid" "LSpeaksForTheChair$House;") (List.mem_of_getElem? (i := 4) rfl)) (fun _ h9 => h9) rfl dX5_lay_59 ?_
      refine va_get (D := D) (ci := 0) (v := .int f5) (C := RX0) (T := TX0) (N := 12) hx hb hts uX5_lay_X0 hown hK hP 1 rfl rfl 9 (by decide) (hts (.fieldLink RX5 97 "SpeaksForTheChair$House" "coins" "I") (List.mem_of_getElem? (i := 7) rfl)) (fun _ h9 => h9) rfl dX5_lay_62 ?_
      obtain ⟨f14, f15, f16, f17, f18, hv_4, hf⟩ := ob5_some hf
      refine q_wVv (As := [.int f3, .int f5]) (rest := []) (w1 := [(h_now, .inr (4, [.int f14, .int f15, .int f16, .int f17, .int f18]))]) (wr := [(h, .inr (5, [.ref h_page, .ref h_draft, .ref h_laid, .ref h_now, .ref h_trial, .ref h_past, .ref h_sightings, .ref h_kept, .int h_keptCount, .ref h_told])), (h_draft, .inr (0, [.int f2, .ref h_draft_kinds, .ref h_draft_prices, .int f3, .int f4, .ref h_draft_persons, .ref h_draft_places, .ref h_draft_hours, .ref h_draft_weights, .int f5, .int f6, .ref h_draft_numbers])), (h_page, .inr (1, [.ref h_page_letters, .int h_page_length])), (h_page_letters, .inl (cC, 200, .inl h_page_letters_c)), (h_draft_numbers, .inl (cI, 4, .inl c7)), (h_draft_kinds, .inl (cI, 8, .inl c8)), (h_draft_prices, .inl (cI, 8, .inl c9)), (h_draft_persons, .inl (cI, 9, .inl c10)), (h_draft_places, .inl (cI, 9, .inl c11)), (h_draft_hours, .inl (cI, 9, .inl c12)), (h_draft_weights, .inl (cI, 9, .inl c13)), (h_past, .inr (2, [.ref h_past_ring, .int h_past_next, .int h_past_depth])), (h_sightings, .inr (3, [.ref h_sightings_pieces, .ref h_sightings_deeds, .ref h_sightings_tells, .int h_sightings_length]))]) (w2 := [(h, .inr (5, [.ref h_page, .ref h_draft, .ref h_laid, .ref h_now, .ref h_trial, .ref h_past, .ref h_sightings, .ref h_kept, .int h_keptCount, .ref h_told])), (h_draft, .inr (0, [.int f2, .ref h_draft_kinds, .ref h_draft_prices, .int f3, .int f4, .ref h_draft_persons, .ref h_draft_places, .ref h_draft_hours, .ref h_draft_weights, .int f5, .int f6, .ref h_draft_numbers])), (h_page, .inr (1, [.ref h_page_letters, .int h_page_length])), (h_page_letters, .inl (cC, 200, .inl h_page_letters_c)), (h_draft_numbers, .inl (cI, 4, .inl c7)), (h_draft_kinds, .inl (cI, 8, .inl c8)), (h_draft_prices, .inl (cI, 8, .inl c9)), (h_draft_persons, .inl (cI, 9, .inl c10)), (h_draft_places, .inl (cI, 9, .inl c11)), (h_draft_hours, .inl (cI, 9, .inl c12)), (h_draft_weights, .inl (cI, 9, .inl c13)), (h_now, .inr (4, [.int f14, .int f15, .int f16, .int f17, .int f18])), (h_past, .inr (2, [.ref h_past_ring, .int h_past_next, .int h_past_depth])), (h_sightings, .inr (3, [.ref h_sightings_pieces, .ref h_sightings_deeds, .ref h_sightings_tells, .int h_sightings_length]))]) ⟨hx, hb, hml, hown, hts⟩ (c_X4_begin l D cI cC cL cB H.size h_now f3 f5 h_now_rooms h_now_bought h_now_spoken h_now_out h_now_coins f14 f15 f16 f17 f18 hv_4) (cwV 2 hts gX5_lay_X4_begin rfl rfl rfl (by decide +kernel) ⟨Nat.le_of_ble_eq_true rfl, Nat.le_of_ble_eq_true rfl⟩) hK hP hD hS hA [11] rfl (by decide) [0, 1, 2, 3, 4, 5, 6, 7, 8, 9, 10, 12, 13] rfl (by decide) (by decide) [0, 1, 2, 3, 4, 5, 6, 7, 8, 9, 10, 13, 11, 12] rfl (by decide) (va_recv hK hP (ci := 4) (q0 := 11) rfl rfl) rfl hl.1 rfl (Nat.le_of_ble_eq_true rfl) dX5_lay_65 ⟨Nat.le_of_ble_eq_true rfl, Nat.le_of_ble_eq_true rfl⟩ (fun H locs hP hD hS => ?_)
      have hP : va_P D vwCl [(h, .inr (5, [.ref h_page, .ref h_draft, .ref h_laid, .ref h_now, .ref h_trial, .ref h_past, .ref h_sightings, .ref h_kept, .int h_keptCount, .ref h_told])), (h_draft, .inr (0, [.int f2, .ref h_draft_kinds, .ref h_draft_prices, .int f3, .int f4, .ref h_draft_persons, .ref h_draft_places, .ref h_draft_hours, .ref h_draft_weights, .int f5, .int f6, .ref h_draft_numbers])), (h_page, .inr (1, [.ref h_page_letters, .int h_page_length])), (h_page_letters, .inl (cC, 200, .inl h_page_letters_c)), (h_draft_numbers, .inl (cI, 4, .inl c7)), (h_draft_kinds, .inl (cI, 8, .inl c8)), (h_draft_prices, .inl (cI, 8, .inl c9)), (h_draft_persons, .inl (cI, 9, .inl c10)), (h_draft_places, .inl (cI, 9, .inl c11)), (h_draft_hours, .inl (cI, 9, .inl c12)), (h_draft_weights, .inl (cI, 9, .inl c13)), (h_now, .inr (4, [.int f14, .int f15, .int f16, .int f17, .int f18])), (h_past, .inr (2, [.ref h_past_ring, .int h_past_next, .int h_past_depth])), (h_sightings, .inr (3, [.ref h_sightings_pieces, .ref h_sightings_deeds, .ref h_sightings_tells, .int h_sightings_length]))] H := hP
      have hD : va_D A [(h, .inr (5, [.ref h_page, .ref h_draft, .ref h_laid, .ref h_now, .ref h_trial, .ref h_past, .ref h_sightings, .ref h_kept, .int h_keptCount, .ref h_told])), (h_draft, .inr (0, [.int f2, .ref h_draft_kinds, .ref h_draft_prices, .int f3, .int f4, .ref h_draft_persons, .ref h_draft_places, .ref h_draft_hours, .ref h_draft_weights, .int f5, .int f6, .ref h_draft_numbers])), (h_page, .inr (1, [.ref h_page_letters, .int h_page_length])), (h_page_letters, .inl (cC, 200, .inl h_page_letters_c)), (h_draft_numbers, .inl (cI, 4, .inl c7)), (h_draft_kinds, .inl (cI, 8, .inl c8)), (h_draft_prices, .inl (cI, 8, .inl c9)), (h_draft_persons, .inl (cI, 9, .inl c10)), (h_draft_places, .inl (cI, 9, .inl c11)), (h_draft_hours, .inl (cI, 9, .inl c12)), (h_draft_weights, .inl (cI, 9, .inl c13)), (h_now, .inr (4, [.int f14, .int f15, .int f16, .int f17, .int f18])), (h_past, .inr (2, [.ref h_past_ring, .int h_past_next, .int h_past_depth])), (h_sightings, .inr (3, [.ref h_sightings_pieces, .ref h_sightings_deeds, .ref h_sightings_tells, .int h_sightings_length]))] := hD
      refine lv_aload_n hx hb dX5_lay_68 rfl (lv_at hl 1 rfl) ?_
      refine va_get (D := D) (ci := 5) (v := .ref h_past) (C := RX5) (T := TX5) (N := 10) hx hb hts uX5_lay_X5 hown hK hP 0 rfl rfl 5 (by decide) (hts (.fieldLink RX5 39 "SpeaksForTheChair" "past" "LSpeaksForTheChair$Past;") (List.mem_of_getElem? (i := 8) rfl)) (fun _ h9 => h9) rfl dX5_lay_69 ?_
      obtain ⟨f19, hv_5, hf⟩ := ob1_some hf
      refine q_wVv (As := []) (rest := []) (w1 := [(h_past, .inr (2, [.ref h_past_ring, .int h_past_next, .int f19]))]) (wr := [(h, .inr (5, [.ref h_page, .ref h_draft, .ref h_laid, .ref h_now, .ref h_trial, .ref h_past, .ref h_sightings, .ref h_kept, .int h_keptCount, .ref h_told])), (h_draft, .inr (0, [.int f2, .ref h_draft_kinds, .ref h_draft_prices, .int f3, .int f4, .ref h_draft_persons, .ref h_draft_places, .ref h_draft_hours, .ref h_draft_weights, .int f5, .int f6, .ref h_draft_numbers])), (h_page, .inr (1, [.ref h_page_letters, .int h_page_length])), (h_page_letters, .inl (cC, 200, .inl h_page_letters_c)), (h_draft_numbers, .inl (cI, 4, .inl c7)), (h_draft_kinds, .inl (cI, 8, .inl c8)), (h_draft_prices, .inl (cI, 8, .inl c9)), (h_draft_persons, .inl (cI, 9, .inl c10)), (h_draft_places, .inl (cI, 9, .inl c11)), (h_draft_hours, .inl (cI, 9, .inl c12)), (h_draft_weights, .inl (cI, 9, .inl c13)), (h_now, .inr (4, [.int f14, .int f15, .int f16, .int f17, .int f18])), (h_sightings, .inr (3, [.ref h_sightings_pieces, .ref h_sightings_deeds, .ref h_sightings_tells, .int h_sightings_length]))]) (w2 := [(h, .inr (5, [.ref h_page, .ref h_draft, .ref h_laid, .ref h_now, .ref h_trial, .ref h_past, .ref h_sightings, .ref h_kept, .int h_keptCount, .ref h_told])), (h_draft, .inr (0, [.int f2, .ref h_draft_kinds, .ref h_draft_prices, .int f3, .int f4, .ref h_draft_persons, .ref h_draft_places, .ref h_draft_hours, .ref h_draft_weights, .int f5, .int f6, .ref h_draft_numbers])), (h_page, .inr (1, [.ref h_page_letters, .int h_page_length])), (h_page_letters, .inl (cC, 200, .inl h_page_letters_c)), (h_draft_numbers, .inl (cI, 4, .inl c7)), (h_draft_kinds, .inl (cI, 8, .inl c8)), (h_draft_prices, .inl (cI, 8, .inl c9)), (h_draft_persons, .inl (cI, 9, .inl c10)), (h_draft_places, .inl (cI, 9, .inl c11)), (h_draft_hours, .inl (cI, 9, .inl c12)), (h_draft_weights, .inl (cI, 9, .inl c13)), (h_now, .inr (4, [.int f14, .int f15, .int f16, .int f17, .int f18])), (h_past, .inr (2, [.ref h_past_ring, .int h_past_next, .int f19])), (h_sightings, .inr (3, [.ref h_sightings_pieces, .ref h_sightings_deeds, .ref h_sightings_tells, .int h_sightings_length]))]) ⟨hx, hb, hml, hown, hts⟩ (c_X2_clear l D cI cC cL cB H.size h_past h_past_ring h_past_next h_past_depth f19 hv_5) (cwV 0 hts gX5_lay_X2_clear rfl rfl rfl (by decide +kernel) ⟨Nat.le_of_ble_eq_true rfl, Nat.le_of_ble_eq_true rfl⟩) hK hP hD hS hA [12] rfl (by decide) [0, 1, 2, 3, 4, 5, 6, 7, 8, 9, 10, 11, 13] rfl (by decide) (by decide) [0, 1, 2, 3, 4, 5, 6, 7, 8, 9, 10, 11, 13, 12] rfl (by decide) (va_recv hK hP (ci := 2) (q0 := 12) rfl rfl) rfl hl.1 rfl (Nat.le_of_ble_eq_true rfl) dX5_lay_72 ⟨Nat.le_of_ble_eq_true rfl, Nat.le_of_ble_eq_true rfl⟩ (fun H locs hP hD hS => ?_)
      have hP : va_P D vwCl [(h, .inr (5, [.ref h_page, .ref h_draft, .ref h_laid, .ref h_now, .ref h_trial, .ref h_past, .ref h_sightings, .ref h_kept, .int h_keptCount, .ref h_told])), (h_draft, .inr (0, [.int f2, .ref h_draft_kinds, .ref h_draft_prices, .int f3, .int f4, .ref h_draft_persons, .ref h_draft_places, .ref h_draft_hours, .ref h_draft_weights, .int f5, .int f6, .ref h_draft_numbers])), (h_page, .inr (1, [.ref h_page_letters, .int h_page_length])), (h_page_letters, .inl (cC, 200, .inl h_page_letters_c)), (h_draft_numbers, .inl (cI, 4, .inl c7)), (h_draft_kinds, .inl (cI, 8, .inl c8)), (h_draft_prices, .inl (cI, 8, .inl c9)), (h_draft_persons, .inl (cI, 9, .inl c10)), (h_draft_places, .inl (cI, 9, .inl c11)), (h_draft_hours, .inl (cI, 9, .inl c12)), (h_draft_weights, .inl (cI, 9, .inl c13)), (h_now, .inr (4, [.int f14, .int f15, .int f16, .int f17, .int f18])), (h_past, .inr (2, [.ref h_past_ring, .int h_past_next, .int f19])), (h_sightings, .inr (3, [.ref h_sightings_pieces, .ref h_sightings_deeds, .ref h_sightings_tells, .int h_sightings_length]))] H := hP
      have hD : va_D A [(h, .inr (5, [.ref h_page, .ref h_draft, .ref h_laid, .ref h_now, .ref h_trial, .ref h_past, .ref h_sightings, .ref h_kept, .int h_keptCount, .ref h_told])), (h_draft, .inr (0, [.int f2, .ref h_draft_kinds, .ref h_draft_prices, .int f3, .int f4, .ref h_draft_persons, .ref h_draft_places, .ref h_draft_hours, .ref h_draft_weights, .int f5, .int f6, .ref h_draft_numbers])), (h_page, .inr (1, [.ref h_page_letters, .int h_page_length])), (h_page_letters, .inl (cC, 200, .inl h_page_letters_c)), (h_draft_numbers, .inl (cI, 4, .inl c7)), (h_draft_kinds, .inl (cI, 8, .inl c8)), (h_draft_prices, .inl (cI, 8, .inl c9)), (h_draft_persons, .inl (cI, 9, .inl c10)), (h_draft_places, .inl (cI, 9, .inl c11)), (h_draft_hours, .inl (cI, 9, .inl c12)), (h_draft_weights, .inl (cI, 9, .inl c13)), (h_now, .inr (4, [.int f14, .int f15, .int f16, .int f17, .int f18])), (h_past, .inr (2, [.ref h_past_ring, .int h_past_next, .int f19])), (h_sightings, .inr (3, [.ref h_sightings_pieces, .ref h_sightings_deeds, .ref h_sightings_tells, .int h_sightings_length]))] := hD
      refine lv_aload_n hx hb dX5_lay_75 rfl (lv_at hl 1 rfl) ?_
      refine va_get (D := D) (ci := 5) (v := .ref h_sightings) (C := RX5) (T := TX5) (N := 10) hx hb hts uX5_lay_X5 hown hK hP 0 rfl rfl 6 (by decide) (hts (.fieldLink RX5 46 "SpeaksForTheChair" "sightings" "LSpeaksForTheChair$Sightings;") (List.mem_of_getElem? (i := 9) rfl)) (fun _ h9 => h9) rfl dX5_lay_76 ?_
      obtain ⟨f20, hv_6, hf⟩ := ob1_some hf
      refine q_wVv (As := []) (rest := []) (w1 := [(h_sightings, .inr (3, [.ref h_sightings_pieces, .ref h_sightings_deeds, .ref h_sightings_tells, .int f20]))]) (wr := [(h, .inr (5, [.ref h_page, .ref h_draft, .ref h_laid, .ref h_now, .ref h_trial, .ref h_past, .ref h_sightings, .ref h_kept, .int h_keptCount, .ref h_told])), (h_draft, .inr (0, [.int f2, .ref h_draft_kinds, .ref h_draft_prices, .int f3, .int f4, .ref h_draft_persons, .ref h_draft_places, .ref h_draft_hours, .ref h_draft_weights, .int f5, .int f6, .ref h_draft_numbers])), (h_page, .inr (1, [.ref h_page_letters, .int h_page_length])), (h_page_letters, .inl (cC, 200, .inl h_page_letters_c)), (h_draft_numbers, .inl (cI, 4, .inl c7)), (h_draft_kinds, .inl (cI, 8, .inl c8)), (h_draft_prices, .inl (cI, 8, .inl c9)), (h_draft_persons, .inl (cI, 9, .inl c10)), (h_draft_places, .inl (cI, 9, .inl c11)), (h_draft_hours, .inl (cI, 9, .inl c12)), (h_draft_weights, .inl (cI, 9, .inl c13)), (h_now, .inr (4, [.int f14, .int f15, .int f16, .int f17, .int f18])), (h_past, .inr (2, [.ref h_past_ring, .int h_past_next, .int f19]))]) (w2 := [(h, .inr (5, [.ref h_page, .ref h_draft, .ref h_laid, .ref h_now, .ref h_trial, .ref h_past, .ref h_sightings, .ref h_kept, .int h_keptCount, .ref h_told])), (h_draft, .inr (0, [.int f2, .ref h_draft_kinds, .ref h_draft_prices, .int f3, .int f4, .ref h_draft_persons, .ref h_draft_places, .ref h_draft_hours, .ref h_draft_weights, .int f5, .int f6, .ref h_draft_numbers])), (h_page, .inr (1, [.ref h_page_letters, .int h_page_length])), (h_page_letters, .inl (cC, 200, .inl h_page_letters_c)), (h_draft_numbers, .inl (cI, 4, .inl c7)), (h_draft_kinds, .inl (cI, 8, .inl c8)), (h_draft_prices, .inl (cI, 8, .inl c9)), (h_draft_persons, .inl (cI, 9, .inl c10)), (h_draft_places, .inl (cI, 9, .inl c11)), (h_draft_hours, .inl (cI, 9, .inl c12)), (h_draft_weights, .inl (cI, 9, .inl c13)), (h_now, .inr (4, [.int f14, .int f15, .int f16, .int f17, .int f18])), (h_past, .inr (2, [.ref h_past_ring, .int h_past_next, .int f19])), (h_sightings, .inr (3, [.ref h_sightings_pieces, .ref h_sightings_deeds, .ref h_sightings_tells, .int f20]))]) ⟨hx, hb, hml, hown, hts⟩ (c_X3_clear l D cI cC cL cB H.size h_sightings h_sightings_pieces h_sightings_deeds h_sightings_tells h_sightings_length f20 hv_6) (cwV 0 hts gX5_lay_X3_clear rfl rfl rfl (by decide +kernel) ⟨Nat.le_of_ble_eq_true rfl, Nat.le_of_ble_eq_true rfl⟩) hK hP hD hS hA [13] rfl (by decide) [0, 1, 2, 3, 4, 5, 6, 7, 8, 9, 10, 11, 12] rfl (by decide) (by decide) [0, 1, 2, 3, 4, 5, 6, 7, 8, 9, 10, 11, 12, 13] rfl (by decide) (va_recv hK hP (ci := 3) (q0 := 13) rfl rfl) rfl hl.1 rfl (Nat.le_of_ble_eq_true rfl) dX5_lay_79 ⟨Nat.le_of_ble_eq_true rfl, Nat.le_of_ble_eq_true rfl⟩ (fun H locs hP hD hS => ?_)
      have hP : va_P D vwCl [(h, .inr (5, [.ref h_page, .ref h_draft, .ref h_laid, .ref h_now, .ref h_trial, .ref h_past, .ref h_sightings, .ref h_kept, .int h_keptCount, .ref h_told])), (h_draft, .inr (0, [.int f2, .ref h_draft_kinds, .ref h_draft_prices, .int f3, .int f4, .ref h_draft_persons, .ref h_draft_places, .ref h_draft_hours, .ref h_draft_weights, .int f5, .int f6, .ref h_draft_numbers])), (h_page, .inr (1, [.ref h_page_letters, .int h_page_length])), (h_page_letters, .inl (cC, 200, .inl h_page_letters_c)), (h_draft_numbers, .inl (cI, 4, .inl c7)), (h_draft_kinds, .inl (cI, 8, .inl c8)), (h_draft_prices, .inl (cI, 8, .inl c9)), (h_draft_persons, .inl (cI, 9, .inl c10)), (h_draft_places, .inl (cI, 9, .inl c11)), (h_draft_hours, .inl (cI, 9, .inl c12)), (h_draft_weights, .inl (cI, 9, .inl c13)), (h_now, .inr (4, [.int f14, .int f15, .int f16, .int f17, .int f18])), (h_past, .inr (2, [.ref h_past_ring, .int h_past_next, .int f19])), (h_sightings, .inr (3, [.ref h_sightings_pieces, .ref h_sightings_deeds, .ref h_sightings_tells, .int f20]))] H := hP
      have hD : va_D A [(h, .inr (5, [.ref h_page, .ref h_draft, .ref h_laid, .ref h_now, .ref h_trial, .ref h_past, .ref h_sightings, .ref h_kept, .int h_keptCount, .ref h_told])), (h_draft, .inr (0, [.int f2, .ref h_draft_kinds, .ref h_draft_prices, .int f3, .int f4, .ref h_draft_persons, .ref h_draft_places, .ref h_draft_hours, .ref h_draft_weights, .int f5, .int f6, .ref h_draft_numbers])), (h_page, .inr (1, [.ref h_page_letters, .int h_page_length])), (h_page_letters, .inl (cC, 200, .inl h_page_letters_c)), (h_draft_numbers, .inl (cI, 4, .inl c7)), (h_draft_kinds, .inl (cI, 8, .inl c8)), (h_draft_prices, .inl (cI, 8, .inl c9)), (h_draft_persons, .inl (cI, 9, .inl c10)), (h_draft_places, .inl (cI, 9, .inl c11)), (h_draft_hours, .inl (cI, 9, .inl c12)), (h_draft_weights, .inl (cI, 9, .inl c13)), (h_now, .inr (4, [.int f14, .int f15, .int f16, .int f17, .int f18])), (h_past, .inr (2, [.ref h_past_ring, .int h_past_next, .int f19])), (h_sightings, .inr (3, [.ref h_sightings_pieces, .ref h_sightings_deeds, .ref h_sightings_tells, .int f20]))] := hD
      refine lv_aload_n hx hb dX5_lay_82 rfl (lv_at hl 1 rfl) ?_
      refine lv_iconst (v := 0) hx hb dX5_lay_83 (by decide) ?_
      refine va_put (D := D) (ci := 5) (v := .int 0) (ty := .int) (C := RX5) (T := TX5) (N := 10) hx hb hts uX5_lay_X5 tyX5 tyX5_ok nmX5 hown hK hP hD hS 0 rfl rfl 8 (by decide) (hts (.fieldLink RX5 106 "SpeaksForTheChair" "keptCount" "I") (List.mem_of_getElem? (i := 10) rfl)) (fun _ h9 => h9) rfl (by decide +kernel) rfl rfl (Nat.le_of_ble_eq_true rfl) dX5_lay_84 (fun H locs hP hD hS => ?_)
      have hP : va_P D vwCl [(h, .inr (5, [.ref h_page, .ref h_draft, .ref h_laid, .ref h_now, .ref h_trial, .ref h_past, .ref h_sightings, .ref h_kept, .int 0, .ref h_told])), (h_draft, .inr (0, [.int f2, .ref h_draft_kinds, .ref h_draft_prices, .int f3, .int f4, .ref h_draft_persons, .ref h_draft_places, .ref h_draft_hours, .ref h_draft_weights, .int f5, .int f6, .ref h_draft_numbers])), (h_page, .inr (1, [.ref h_page_letters, .int h_page_length])), (h_page_letters, .inl (cC, 200, .inl h_page_letters_c)), (h_draft_numbers, .inl (cI, 4, .inl c7)), (h_draft_kinds, .inl (cI, 8, .inl c8)), (h_draft_prices, .inl (cI, 8, .inl c9)), (h_draft_persons, .inl (cI, 9, .inl c10)), (h_draft_places, .inl (cI, 9, .inl c11)), (h_draft_hours, .inl (cI, 9, .inl c12)), (h_draft_weights, .inl (cI, 9, .inl c13)), (h_now, .inr (4, [.int f14, .int f15, .int f16, .int f17, .int f18])), (h_past, .inr (2, [.ref h_past_ring, .int h_past_next, .int f19])), (h_sightings, .inr (3, [.ref h_sightings_pieces, .ref h_sightings_deeds, .ref h_sightings_tells, .int f20]))] H := hP
      have hD : va_D A [(h, .inr (5, [.ref h_page, .ref h_draft, .ref h_laid, .ref h_now, .ref h_trial, .ref h_past, .ref h_sightings, .ref h_kept, .int 0, .ref h_told])), (h_draft, .inr (0, [.int f2, .ref h_draft_kinds, .ref h_draft_prices, .int f3, .int f4, .ref h_draft_persons, .ref h_draft_places, .ref h_draft_hours, .ref h_draft_weights, .int f5, .int f6, .ref h_draft_numbers])), (h_page, .inr (1, [.ref h_page_letters, .int h_page_length])), (h_page_letters, .inl (cC, 200, .inl h_page_letters_c)), (h_draft_numbers, .inl (cI, 4, .inl c7)), (h_draft_kinds, .inl (cI, 8, .inl c8)), (h_draft_prices, .inl (cI, 8, .inl c9)), (h_draft_persons, .inl (cI, 9, .inl c10)), (h_draft_places, .inl (cI, 9, .inl c11)), (h_draft_hours, .inl (cI, 9, .inl c12)), (h_draft_weights, .inl (cI, 9, .inl c13)), (h_now, .inr (4, [.int f14, .int f15, .int f16, .int f17, .int f18])), (h_past, .inr (2, [.ref h_past_ring, .int h_past_next, .int f19])), (h_sightings, .inr (3, [.ref h_sightings_pieces, .ref h_sightings_deeds, .ref h_sightings_tells, .int f20]))] := hD
      refine lv_aload_n hx hb dX5_lay_87 rfl (lv_at hl 1 rfl) ?_
      refine va_get (D := D) (ci := 5) (v := .ref h_draft) (C := RX5) (T := TX5) (N := 10) hx hb hts uX5_lay_X5 hown hK hP 0 rfl rfl 1 (by decide) (hts (.fieldLink RX5 19 "SpeaksForTheChair" "laid" "LSpeaksForTheChair$House;") (List.mem_of_getElem? (i := 4) rfl)) (fun _ h9 => h9) rfl dX5_lay_88 ?_
      refine va_get (D := D) (ci := 0) (v := .int f2) (C := RX0) (T := TX0) (N := 12) hx hb hts uX5_lay_X0 hown hK hP 1 rfl rfl 0 (by decide) (hts (.fieldLink RX5 91 "SpeaksForTheChair$House" "pieces" "I") (List.mem_of_getElem? (i := 3) rfl)) (fun _ h9 => h9) rfl dX5_lay_91 ?_
      cases hf
      exact W.iret hx hb hr (fun t ht hW => ⟨⟨_, (), rfl, rfl, by rw [ht]; exact hP, va_K.moved hW.alike hK, hD⟩, hS.F ht⟩) hS.2.2 dX5_lay_94
    · have hf := ip c_3 hf
      refine lv_bipush (v := (-2)) hx hb dX5_lay_26 (by decide) ?_
      cases hf
      exact W.iret hx hb hr (fun t ht hW => ⟨⟨_, (), rfl, rfl, by rw [ht]; exact hP, va_K.moved hW.alike hK, hD⟩, hS.F ht⟩) hS.2.2 dX5_lay_28
theorem uX5_isPiece_X0 : ∀ w ∈ wsX00, w ∈ wsX5_isPiece := fun w h => List.mem_cons_of_mem _ (List.mem_append_right _ h)
theorem uX5_isPiece_X5 : ∀ w ∈ wsX50, w ∈ wsX5_isPiece := fun w h => List.mem_cons_of_mem _ (List.mem_append_left _ (List.mem_append_right _ h))
set_option maxHeartbeats 4000000 in
set_option maxRecDepth 100000 in
theorem c_X5_isPiece (l : Launch) (D : va_G) (cI cC cL cB : ClassId) (h : Nat) (h_page : Nat) (h_laid : Nat) (h_draft : Nat) (h_now : Nat) (h_trial : Nat) (h_past : Nat) (h_sightings : Nat) (h_kept : Nat) (h_told : Nat) (h_laid_kinds : Nat) (h_laid_prices : Nat) (h_laid_persons : Nat) (h_laid_places : Nat) (h_laid_hours : Nat) (h_laid_weights : Nat) (h_laid_numbers : Nat) (a1 : Int32) (h_keptCount : Int32) (h_laid_pieces : Int32) (h_laid_roomsAtFirst : Int32) (h_laid_deeds : Int32) (h_laid_coins : Int32) (h_laid_law : Int32) (r : Int32) (hf : m_X5_isPiece a1 h_laid_pieces = some r) : Met l yX5_isPiece wsX5_isPiece ({ frames := 1, cells := 0, slots := 0, locals := 22 }) (va_Pc [.ref h, .int a1] (q_R D vwCl (tyL cI cC cL cB) [(h, .inr (5, [.ref h_page, .ref h_laid, .ref h_draft, .ref h_now, .ref h_trial, .ref h_past, .ref h_sightings, .ref h_kept, .int h_keptCount, .ref h_told])), (h_laid, .inr (0, [.int h_laid_pieces, .ref h_laid_kinds, .ref h_laid_prices, .int h_laid_roomsAtFirst, .int h_laid_deeds, .ref h_laid_persons, .ref h_laid_places, .ref h_laid_hours, .ref h_laid_weights, .int h_laid_coins, .int h_laid_law, .ref h_laid_numbers]))])) (vp_Si (fun r' => r' = r)) 0 0 (fun _ => False) := by
  refine Met.ofW (cc := cX5_isPiece) (maxL := 2) (ret := (some .boolean)) (by decide) rfl ?_
  intro p e s m args below meth c s₁ B hml hv
  obtain ⟨rfl, hP, hK⟩ := hv
  have hx := B.exec
  have hb := B.bytes
  have hr := B.returns
  have hts := atoms_spec (ws := wsX5_isPiece) B.pre
  have hown : s.vm.findClass RX5 = some m.cls := findClass_of_methodNamed B.named
  have hlocks := B.notSynchronized
  have hl := lv_entry ([.ref h, .int a1]) (n := 2) (Nat.le_of_ble_eq_true rfl)
  rw [lg_entry_eq]
  generalize (lg_sl ([.ref h, .int a1]) ++ List.replicate (2 - (lg_sl ([.ref h, .int a1])).length) Slot.unset).toArray = ls at hl ⊢
  have hl : lv_has ls 2 [(0, .ref h), (1, .int a1)] := hl
  unfold m_X5_isPiece at hf
  refine lv_iload_n hx hb dX5_isPiece_0 rfl (lv_at hl 1 rfl) ?_
  refine lv_iconst (v := 0) hx hb dX5_isPiece_1 (by decide) ?_
  refine lv_aload_n hx hb dX5_isPiece_2 rfl (lv_at hl 0 rfl) ?_
  refine va_get (D := D) (ci := 5) (v := .ref h_laid) (C := RX5) (T := TX5) (N := 10) hx hb hts uX5_isPiece_X5 hown hK hP 0 rfl rfl 1 (by decide) (hts (.fieldLink RX5 19 "SpeaksForTheChair" "laid" "LSpeaksForTheChair$House;") (List.mem_of_getElem? (i := 1) rfl)) (fun _ h9 => h9) rfl dX5_isPiece_3 ?_
  refine va_get (D := D) (ci := 0) (v := .int h_laid_pieces) (C := RX0) (T := TX0) (N := 12) hx hb hts uX5_isPiece_X0 hown hK hP 1 rfl rfl 0 (by decide) (hts (.fieldLink RX5 91 "SpeaksForTheChair$House" "pieces" "I") (List.mem_of_getElem? (i := 2) rfl)) (fun _ h9 => h9) rfl dX5_isPiece_6 ?_
  refine lv_iconst (v := 1) hx hb dX5_isPiece_9 (by decide) ?_
  refine lv_isub hx hb dX5_isPiece_10 ?_
  obtain ⟨x1, hv_1, hf⟩ := ob1_some hf
  refine q_rSi (As := [.int a1, .int 0, .int (h_laid_pieces - 1)]) (rest := []) (r := x1) ⟨hx, hb, hml, hown, hts⟩ (c_X5_isWithin l D cI cC cL cB a1 ((0 : Int32)) ((h_laid_pieces - 1)) x1 hv_1) (va_cwS 3 hts gX5_isPiece_X5_isWithin rfl rfl rfl (by decide +kernel) ⟨Nat.le_of_ble_eq_true rfl, Nat.le_of_ble_eq_true rfl⟩) hK hP [] rfl rfl hl.1 rfl (Nat.le_of_ble_eq_true rfl) dX5_isPiece_11 ⟨Nat.le_of_ble_eq_true rfl, Nat.le_of_ble_eq_true rfl⟩ ?_
  obtain ⟨g_2, hf⟩ := gu_bool hf
  cases hf
  exact W.zret hx hb hr g_2 (fun t ht hW => ⟨_, rfl, rfl, ht⟩) (fun _ h => by cases h) dX5_isPiece_14
theorem uX4_roomOf_X4 : ∀ w ∈ wsX40, w ∈ wsX4_roomOf := fun w h => List.mem_cons_of_mem _ (List.mem_append_right _ h)
set_option maxHeartbeats 4000000 in
set_option maxRecDepth 100000 in
theorem c_X4_roomOf (l : Launch) (D : va_G) (cI cC cL cB : ClassId) (h : Nat) (a1 : Int32) (h_rooms : Int32) (h_bought : Int32) (h_spoken : Int32) (h_out : Int32) (h_coins : Int32) (r : Int32) (hf : m_X4_roomOf a1 h_rooms = some r) : Met l yX4_roomOf wsX4_roomOf ({ frames := 0, cells := 0, slots := 0, locals := 0 }) (va_Pc [.ref h, .int a1] (q_R D vwCl (tyL cI cC cL cB) [(h, .inr (4, [.int h_rooms, .int h_bought, .int h_spoken, .int h_out, .int h_coins]))])) (vp_Si (fun r' => r' = r)) 0 0 (fun _ => False) := by
  refine Met.ofW (cc := cX4_roomOf) (maxL := 2) (ret := (some .int)) (by decide) rfl ?_
  intro p e s m args below meth c s₁ B hml hv
  obtain ⟨rfl, hP, hK⟩ := hv
  have hx := B.exec
  have hb := B.bytes
  have hr := B.returns
  have hts := atoms_spec (ws := wsX4_roomOf) B.pre
  have hown : s.vm.findClass RX4 = some m.cls := findClass_of_methodNamed B.named
  have hlocks := B.notSynchronized
  have hl := lv_entry ([.ref h, .int a1]) (n := 2) (Nat.le_of_ble_eq_true rfl)
  rw [lg_entry_eq]
  generalize (lg_sl ([.ref h, .int a1]) ++ List.replicate (2 - (lg_sl ([.ref h, .int a1])).length) Slot.unset).toArray = ls at hl ⊢
  have hl : lv_has ls 2 [(0, .ref h), (1, .int a1)] := hl
  unfold m_X4_roomOf at hf
  refine lv_aload_n hx hb dX4_roomOf_0 rfl (lv_at hl 0 rfl) ?_
  refine va_get (D := D) (ci := 4) (v := .int h_rooms) (C := RX4) (T := TX4) (N := 5) hx hb hts uX4_roomOf_X4 hown hK hP 0 rfl rfl 0 (by decide) (hts (.fieldLink RX4 9 "SpeaksForTheChair$Standing" "rooms" "I") (List.mem_of_getElem? (i := 1) rfl)) (fun _ h9 => h9) rfl dX4_roomOf_1 ?_
  refine lv_iconst (v := 2) hx hb dX4_roomOf_4 (by decide) ?_
  refine lv_iload_n hx hb dX4_roomOf_5 rfl (lv_at hl 1 rfl) ?_
  refine lv_imul hx hb dX4_roomOf_6 ?_
  refine lv_ishr hx hb dX4_roomOf_7 ?_
  refine lv_iconst (v := 3) hx hb dX4_roomOf_8 (by decide) ?_
  refine lv_iand hx hb dX4_roomOf_9 ?_
  cases hf
  exact W.iret hx hb hr (fun t ht hW => ⟨_, rfl, rfl, ht⟩) (fun _ h => by cases h) dX4_roomOf_10
theorem uX4_howIs_X4 : ∀ w ∈ wsX40, w ∈ wsX4_howIs := fun w h => List.mem_cons_of_mem _ (List.mem_append_right _ h)
set_option maxHeartbeats 4000000 in
set_option maxRecDepth 100000 in
theorem c_X4_howIs (l : Launch) (D : va_G) (cI cC cL cB : ClassId) (h : Nat) (a1 : Int32) (h_rooms : Int32) (h_bought : Int32) (h_spoken : Int32) (h_out : Int32) (h_coins : Int32) (r : Int32) (hf : m_X4_howIs a1 h_bought h_spoken = some r) : Met l yX4_howIs wsX4_howIs ({ frames := 0, cells := 0, slots := 0, locals := 0 }) (va_Pc [.ref h, .int a1] (q_R D vwCl (tyL cI cC cL cB) [(h, .inr (4, [.int h_rooms, .int h_bought, .int h_spoken, .int h_out, .int h_coins]))])) (vp_Si (fun r' => r' = r)) 0 0 (fun _ => False) := by
  refine Met.ofW (cc := cX4_howIs) (maxL := 2) (ret := (some .int)) (by decide) rfl ?_
  intro p e s m args below meth c s₁ B hml hv
  obtain ⟨rfl, hP, hK⟩ := hv
  have hx := B.exec
  have hb := B.bytes
  have hr := B.returns
  have hts := atoms_spec (ws := wsX4_howIs) B.pre
  have hown : s.vm.findClass RX4 = some m.cls := findClass_of_methodNamed B.named
  have hlocks := B.notSynchronized
  have hl := lv_entry ([.ref h, .int a1]) (n := 2) (Nat.le_of_ble_eq_true rfl)
  rw [lg_entry_eq]
  generalize (lg_sl ([.ref h, .int a1]) ++ List.replicate (2 - (lg_sl ([.ref h, .int a1])).length) Slot.unset).toArray = ls at hl ⊢
  have hl : lv_has ls 2 [(0, .ref h), (1, .int a1)] := hl
  unfold m_X4_howIs at hf
  refine lv_aload_n hx hb dX4_howIs_0 rfl (lv_at hl 0 rfl) ?_
  refine va_get (D := D) (ci := 4) (v := .int h_spoken) (C := RX4) (T := TX4) (N := 5) hx hb hts uX4_howIs_X4 hown hK hP 0 rfl rfl 2 (by decide) (hts (.fieldLink RX4 18 "SpeaksForTheChair$Standing" "spoken" "I") (List.mem_of_getElem? (i := 1) rfl)) (fun _ h9 => h9) rfl dX4_howIs_1 ?_
  refine lv_iload_n hx hb dX4_howIs_4 rfl (lv_at hl 1 rfl) ?_
  refine lv_ishr hx hb dX4_howIs_5 ?_
  refine lv_iconst (v := 1) hx hb dX4_howIs_6 (by decide) ?_
  refine lv_iand hx hb dX4_howIs_7 ?_
  refine lv_iconst (v := 1) hx hb dX4_howIs_8 (by decide) ?_
  refine lv_icmp_ne (tgt := 14) hx hb dX4_howIs_9 (by decide) (fun c_1 => ?_) (fun c_1 => ?_)
  · have hf := im c_1 hf
    refine lv_aload_n hx hb dX4_howIs_14 rfl (lv_at hl 0 rfl) ?_
    refine va_get (D := D) (ci := 4) (v := .int h_bought) (C := RX4) (T := TX4) (N := 5) hx hb hts uX4_howIs_X4 hown hK hP 0 rfl rfl 1 (by decide) (hts (.fieldLink RX4 15 "SpeaksForTheChair$Standing" "bought" "I") (List.mem_of_getElem? (i := 2) rfl)) (fun _ h9 => h9) rfl dX4_howIs_15 ?_
    refine lv_iload_n hx hb dX4_howIs_18 rfl (lv_at hl 1 rfl) ?_
    refine lv_ishr hx hb dX4_howIs_19 ?_
    refine lv_iconst (v := 1) hx hb dX4_howIs_20 (by decide) ?_
    refine lv_iand hx hb dX4_howIs_21 ?_
    refine lv_iconst (v := 1) hx hb dX4_howIs_22 (by decide) ?_
    refine lv_icmp_ne (tgt := 30) hx hb dX4_howIs_23 (by decide) (fun c_2 => ?_) (fun c_2 => ?_)
    · have hf := im c_2 hf
      refine lv_iconst (v := 0) hx hb dX4_howIs_30 (by decide) ?_
      cases hf
      exact W.iret hx hb hr (fun t ht hW => ⟨_, rfl, rfl, ht⟩) (fun _ h => by cases h) dX4_howIs_31
    · have hf := ip c_2 hf
      refine lv_iconst (v := 1) hx hb dX4_howIs_26 (by decide) ?_
      refine lv_goto (tgt := 31) hx hb dX4_howIs_27 (by decide) ?_
      cases hf
      exact W.iret hx hb hr (fun t ht hW => ⟨_, rfl, rfl, ht⟩) (fun _ h => by cases h) dX4_howIs_31
  · have hf := ip c_1 hf
    refine lv_iconst (v := 2) hx hb dX4_howIs_12 (by decide) ?_
    cases hf
    exact W.iret hx hb hr (fun t ht hW => ⟨_, rfl, rfl, ht⟩) (fun _ h => by cases h) dX4_howIs_13
theorem uX0_laterOnes_X0 : ∀ w ∈ wsX00, w ∈ wsX0_laterOnes := fun w h => List.mem_cons_of_mem _ (List.mem_append_right _ h)
set_option maxHeartbeats 4000000 in
set_option maxRecDepth 100000 in
theorem c_X0_laterOnes (l : Launch) (D : va_G) (cI cC cL cB : ClassId) (h : Nat) (h_kinds : Nat) (h_prices : Nat) (h_persons : Nat) (h_places : Nat) (h_hours : Nat) (h_weights : Nat) (h_numbers : Nat) (a1 : Int32) (a2 : Int32) (a3 : Int32) (h_pieces : Int32) (h_roomsAtFirst : Int32) (h_deeds : Int32) (h_coins : Int32) (h_law : Int32) (h_hours_c : Nat → Int32) (h_places_c : Nat → Int32) (r : Int32) (hf : m_X0_laterOnes a1 a2 a3 h_deeds h_hours_c h_places_c = some r) : Met l yX0_laterOnes wsX0_laterOnes ({ frames := 0, cells := 0, slots := 0, locals := 0 }) (va_Pc [.ref h, .int a1, .int a2, .int a3] (q_R D vwCl (tyL cI cC cL cB) [(h, .inr (0, [.int h_pieces, .ref h_kinds, .ref h_prices, .int h_roomsAtFirst, .int h_deeds, .ref h_persons, .ref h_places, .ref h_hours, .ref h_weights, .int h_coins, .int h_law, .ref h_numbers])), (h_hours, .inl (cI, 9, .inl h_hours_c)), (h_places, .inl (cI, 9, .inl h_places_c))])) (vp_Si (fun r' => r' = r)) 0 0 (fun _ => False) := by
  refine Met.ofW (cc := cX0_laterOnes) (maxL := 7) (ret := (some .int)) (by decide) rfl ?_
  intro p e s m args below meth c s₁ B hml hv
  obtain ⟨rfl, hP, hK⟩ := hv
  have hx := B.exec
  have hb := B.bytes
  have hr := B.returns
  have hts := atoms_spec (ws := wsX0_laterOnes) B.pre
  have hown : s.vm.findClass RX0 = some m.cls := findClass_of_methodNamed B.named
  have hlocks := B.notSynchronized
  have hl := lv_entry ([.ref h, .int a1, .int a2, .int a3]) (n := 7) (Nat.le_of_ble_eq_true rfl)
  rw [lg_entry_eq]
  generalize (lg_sl ([.ref h, .int a1, .int a2, .int a3]) ++ List.replicate (7 - (lg_sl ([.ref h, .int a1, .int a2, .int a3])).length) Slot.unset).toArray = ls at hl ⊢
  have hl : lv_has ls 7 [(0, .ref h), (1, .int a1), (2, .int a2), (3, .int a3)] := hl
  unfold m_X0_laterOnes at hf
  refine lv_iconst (v := 0) hx hb dX0_laterOnes_0 (by decide) ?_
  refine lv_istore (lv' := [(4, .int 0), (0, .ref h), (1, .int a1), (2, .int a2), (3, .int a3)]) hx hb dX0_laterOnes_1 hl (by decide) rfl (fun ls hl => ?_)
  refine lv_iconst (v := 0) hx hb dX0_laterOnes_3 (by decide) ?_
  refine lv_istore (lv' := [(5, .int 0), (4, .int 0), (0, .ref h), (1, .int a1), (2, .int a2), (3, .int a3)]) hx hb dX0_laterOnes_4 hl (by decide) rfl (fun ls hl => ?_)
  have loop6 : ∀ (n : Nat) (x1 : Int32) (x2 : Int32), ∀ (ls : Array Slot), lv_has ls 7 [(0, .ref h), (1, .int a1), (2, .int a2), (3, .int a3), (4, .int x1), (5, .int x2)] → ∀ (x3 : Int32), L_X0_laterOnes_6 h_deeds a3 h_hours_c a2 h_places_c a1 n x1 x2 = some x3 → (∀ (ls : Array Slot), lv_has ls 7 [(4, .int x3)] → W p l e (headSpec wsX0_laterOnes ({ frames := 0, cells := 0, slots := 0, locals := 0 })).room s m ([.ref h, .int a1, .int a2, .int a3] : List Value).toArray below meth c s.heap [] 0 0 (MQ below (vp_Si (fun r' => r' = r)) ([.ref h, .int a1, .int a2, .int a3] : List Value).toArray s 0 0 (fun _ => False)) (F0 m 81 ls [])) → W p l e (headSpec wsX0_laterOnes ({ frames := 0, cells := 0, slots := 0, locals := 0 })).room s m ([.ref h, .int a1, .int a2, .int a3] : List Value).toArray below meth c s.heap [] 0 0 (MQ below (vp_Si (fun r' => r' = r)) ([.ref h, .int a1, .int a2, .int a3] : List Value).toArray s 0 0 (fun _ => False)) (F0 m 6 ls []) := by
    intro n
    induction n with
    | zero =>
      intro x1 x2 ls hl x3 hf KX
      rw [L_X0_laterOnes_6] at hf
      cases hf
    | succ n ih =>
      intro x1 x2 ls hl x3 hf KX
      rw [L_X0_laterOnes_6] at hf
      refine lv_iload hx hb dX0_laterOnes_6 (lv_at hl 5 rfl) ?_
      refine lv_aload_n hx hb dX0_laterOnes_8 rfl (lv_at hl 0 rfl) ?_
      refine va_get (D := D) (ci := 0) (v := .int h_deeds) (C := RX0) (T := TX0) (N := 12) hx hb hts uX0_laterOnes_X0 hown hK hP 0 rfl rfl 4 (by decide) (hts (.fieldLink RX0 37 "SpeaksForTheChair$House" "deeds" "I") (List.mem_of_getElem? (i := 1) rfl)) (fun _ h9 => h9) rfl dX0_laterOnes_9 ?_
      refine lv_icmp_ge (tgt := 81) hx hb dX0_laterOnes_12 (by decide) (fun c_23 => ?_) (fun c_23 => ?_)
      · have hf := ip c_23 hf
        cases hf
        exact KX ls (lv_sub hl [4] rfl)
      · have hf := im c_23 hf
        refine lv_aload_n hx hb dX0_laterOnes_15 rfl (lv_at hl 0 rfl) ?_
        refine va_get (D := D) (ci := 0) (v := .ref h_hours) (C := RX0) (T := TX0) (N := 12) hx hb hts uX0_laterOnes_X0 hown hK hP 0 rfl rfl 7 (by decide) (hts (.fieldLink RX0 24 "SpeaksForTheChair$House" "hours" "[I") (List.mem_of_getElem? (i := 2) rfl)) (fun _ h9 => h9) rfl dX0_laterOnes_16 ?_
        refine lv_iload hx hb dX0_laterOnes_19 (lv_at hl 5 rfl) ?_
        obtain ⟨g_24, hf⟩ := gu_in hf
        refine va_iald hx hb hK hP 1 0 rfl rfl g_24 dX0_laterOnes_21 ?_
        refine lv_iload_n hx hb dX0_laterOnes_22 rfl (lv_at hl 3 rfl) ?_
        obtain ⟨x4, hr48, hf⟩ := ob1_some hf
        refine q_jn (pcJ := 48) (nL := 7) (vs := [(0, .ref h), (1, .int a1), (2, .int a2), (3, .int a3), (4, .int x1), (5, .int x2)]) (st := [.int x4]) (fun ls hl => ?_) (fun J48 => ?_)
        · clear hr48
          refine lv_istore (lv' := [(6, .int x4), (0, .ref h), (1, .int a1), (2, .int a2), (3, .int a3), (4, .int x1), (5, .int x2)]) hx hb dX0_laterOnes_48 hl (by decide) rfl (fun ls hl => ?_)
          refine lv_iload hx hb dX0_laterOnes_50 (lv_at hl 6 rfl) ?_
          refine lv_iload_n hx hb dX0_laterOnes_52 rfl (lv_at hl 3 rfl) ?_
          refine lv_icmp_eq (tgt := 75) hx hb dX0_laterOnes_53 (by decide) (fun c_29 => ?_) (fun c_29 => ?_)
          · have hf := ip c_29 hf
            obtain ⟨x5, ex5⟩ : ∃ y : Int32, y = (x2 + 1) := ⟨_, rfl⟩
            have hf := pv_eq ex5 hf
            refine lv_iinc (v := x5) (lv' := [(5, .int x5), (6, .int x4), (0, .ref h), (1, .int a1), (2, .int a2), (3, .int a3), (4, .int x1)]) hx hb dX0_laterOnes_75 hl (k := 6) rfl (by rw [ex5]; rfl) (by decide) rfl (fun ls hl => ?_)
            refine lv_goto (tgt := 6) hx hb dX0_laterOnes_78 (by decide) ?_
            exact ih _ _ ls (lv_sub hl [2, 3, 4, 5, 6, 0] rfl) _ hf KX
          · have hf := im c_29 hf
            refine lv_aload_n hx hb dX0_laterOnes_56 rfl (lv_at hl 1 rfl) ?_
            refine va_get (D := D) (ci := 0) (v := .ref h_places) (C := RX0) (T := TX0) (N := 12) hx hb hts uX0_laterOnes_X0 hown hK hP 0 rfl rfl 6 (by decide) (hts (.fieldLink RX0 21 "SpeaksForTheChair$House" "places" "[I") (List.mem_of_getElem? (i := 3) rfl)) (fun _ h9 => h9) rfl dX0_laterOnes_57 ?_
            refine lv_iload hx hb dX0_laterOnes_60 (lv_at hl 6 rfl) ?_
            obtain ⟨g_30, hf⟩ := gu_in hf
            refine va_iald hx hb hK hP 2 0 rfl rfl g_30 dX0_laterOnes_62 ?_
            refine lv_iload_n hx hb dX0_laterOnes_63 rfl (lv_at hl 2 rfl) ?_
            refine lv_icmp_ne (tgt := 75) hx hb dX0_laterOnes_64 (by decide) (fun c_31 => ?_) (fun c_31 => ?_)
            · have hf := im c_31 hf
              obtain ⟨x6, ex6⟩ : ∃ y : Int32, y = (x2 + 1) := ⟨_, rfl⟩
              have hf := pv_eq ex6 hf
              refine lv_iinc (v := x6) (lv' := [(5, .int x6), (6, .int x4), (0, .ref h), (1, .int a1), (2, .int a2), (3, .int a3), (4, .int x1)]) hx hb dX0_laterOnes_75 hl (k := 6) rfl (by rw [ex6]; rfl) (by decide) rfl (fun ls hl => ?_)
              refine lv_goto (tgt := 6) hx hb dX0_laterOnes_78 (by decide) ?_
              exact ih _ _ ls (lv_sub hl [2, 3, 4, 5, 6, 0] rfl) _ hf KX
            · have hf := ip c_31 hf
              refine lv_iload hx hb dX0_laterOnes_67 (lv_at hl 0 rfl) ?_
              refine lv_if_eq (tgt := 75) hx hb dX0_laterOnes_69 (by decide) (fun c_32 => ?_) (fun c_32 => ?_)
              · have hf := ip c_32 hf
                obtain ⟨x7, ex7⟩ : ∃ y : Int32, y = (x2 + 1) := ⟨_, rfl⟩
                have hf := pv_eq ex7 hf
                refine lv_iinc (v := x7) (lv' := [(5, .int x7), (6, .int x4), (0, .ref h), (1, .int a1), (2, .int a2), (3, .int a3), (4, .int x1)]) hx hb dX0_laterOnes_75 hl (k := 6) rfl (by rw [ex7]; rfl) (by decide) rfl (fun ls hl => ?_)
                refine lv_goto (tgt := 6) hx hb dX0_laterOnes_78 (by decide) ?_
                exact ih _ _ ls (lv_sub hl [2, 3, 4, 5, 6, 0] rfl) _ hf KX
              · have hf := im c_32 hf
                obtain ⟨x8, ex8⟩ : ∃ y : Int32, y = (x1 + 1) := ⟨_, rfl⟩
                have hf := pv_eq ex8 hf
                refine lv_iinc (v := x8) (lv' := [(4, .int x8), (6, .int x4), (0, .ref h), (1, .int a1), (2, .int a2), (3, .int a3), (5, .int x2)]) hx hb dX0_laterOnes_72 hl (k := 5) rfl (by rw [ex8]; rfl) (by decide) rfl (fun ls hl => ?_)
                obtain ⟨x9, ex9⟩ : ∃ y : Int32, y = (x2 + 1) := ⟨_, rfl⟩
                have hf := pv_eq ex9 hf
                refine lv_iinc (v := x9) (lv' := [(5, .int x9), (4, .int x8), (6, .int x4), (0, .ref h), (1, .int a1), (2, .int a2), (3, .int a3)]) hx hb dX0_laterOnes_75 hl (k := 6) rfl (by rw [ex9]; rfl) (by decide) rfl (fun ls hl => ?_)
                refine lv_goto (tgt := 6) hx hb dX0_laterOnes_78 (by decide) ?_
                exact ih _ _ ls (lv_sub hl [3, 4, 5, 6, 1, 0] rfl) _ hf KX
        · replace hf := hr48
          refine lv_icmp_gt (tgt := 43) hx hb dX0_laterOnes_23 (by decide) (fun c_25 => ?_) (fun c_25 => ?_)
          · have hf := ip c_25 hf
            refine lv_iconst (v := 1) hx hb dX0_laterOnes_43 (by decide) ?_
            refine lv_goto (tgt := 48) hx hb dX0_laterOnes_44 (by decide) ?_
            cases hf
            exact J48 ls (lv_sub hl [0, 1, 2, 3, 4, 5] rfl)
          · have hf := im c_25 hf
            refine lv_aload_n hx hb dX0_laterOnes_26 rfl (lv_at hl 0 rfl) ?_
            refine va_get (D := D) (ci := 0) (v := .ref h_hours) (C := RX0) (T := TX0) (N := 12) hx hb hts uX0_laterOnes_X0 hown hK hP 0 rfl rfl 7 (by decide) (hts (.fieldLink RX0 24 "SpeaksForTheChair$House" "hours" "[I") (List.mem_of_getElem? (i := 2) rfl)) (fun _ h9 => h9) rfl dX0_laterOnes_27 ?_
            refine lv_iload hx hb dX0_laterOnes_30 (lv_at hl 5 rfl) ?_
            obtain ⟨g_33, hf⟩ := gu_in hf
            refine va_iald hx hb hK hP 1 0 rfl rfl g_33 dX0_laterOnes_32 ?_
            refine lv_iload_n hx hb dX0_laterOnes_33 rfl (lv_at hl 3 rfl) ?_
            refine lv_icmp_ne (tgt := 47) hx hb dX0_laterOnes_34 (by decide) (fun c_34 => ?_) (fun c_34 => ?_)
            · have hf := im c_34 hf
              refine lv_iconst (v := 0) hx hb dX0_laterOnes_47 (by decide) ?_
              cases hf
              exact J48 ls (lv_sub hl [0, 1, 2, 3, 4, 5] rfl)
            · have hf := ip c_34 hf
              refine lv_iload hx hb dX0_laterOnes_37 (lv_at hl 5 rfl) ?_
              refine lv_iload_n hx hb dX0_laterOnes_39 rfl (lv_at hl 2 rfl) ?_
              refine lv_icmp_le (tgt := 47) hx hb dX0_laterOnes_40 (by decide) (fun c_35 => ?_) (fun c_35 => ?_)
              · have hf := ip c_35 hf
                refine lv_iconst (v := 0) hx hb dX0_laterOnes_47 (by decide) ?_
                cases hf
                exact J48 ls (lv_sub hl [0, 1, 2, 3, 4, 5] rfl)
              · have hf := im c_35 hf
                refine lv_iconst (v := 1) hx hb dX0_laterOnes_43 (by decide) ?_
                refine lv_goto (tgt := 48) hx hb dX0_laterOnes_44 (by decide) ?_
                cases hf
                exact J48 ls (lv_sub hl [0, 1, 2, 3, 4, 5] rfl)
  obtain ⟨x3, hr6, hf⟩ := ob1_some hf
  refine loop6 300 _ _ ls (lv_sub hl [2, 3, 4, 5, 1, 0] rfl) _ hr6 (fun ls hl => ?_)
  refine lv_iload hx hb dX0_laterOnes_81 (lv_at hl 0 rfl) ?_
  cases hf
  exact W.iret hx hb hr (fun t ht hW => ⟨_, rfl, rfl, ht⟩) (fun _ h => by cases h) dX0_laterOnes_83
set_option maxHeartbeats 4000000 in
set_option maxRecDepth 100000 in
theorem c_X0_wouldTell (l : Launch) (D : va_G) (cI cC cL cB : ClassId) (h : Nat) (h_kinds : Nat) (h_prices : Nat) (h_persons : Nat) (h_places : Nat) (h_hours : Nat) (h_weights : Nat) (h_numbers : Nat) (a1 : Int32) (a2 : Int32) (a3 : Int32) (a4 : Int32) (a5 : Int32) (h_pieces : Int32) (h_roomsAtFirst : Int32) (h_deeds : Int32) (h_coins : Int32) (h_law : Int32) (h_hours_c : Nat → Int32) (h_places_c : Nat → Int32) (r : Int32) (hf : m_X0_wouldTell a1 a2 a3 a4 a5 h_deeds h_hours_c h_places_c = some r) : Met l yX0_wouldTell wsX0_wouldTell ({ frames := 1, cells := 0, slots := 0, locals := 26 }) (va_Pc [.ref h, .int a1, .int a2, .int a3, .int a4, .int a5] (q_R D vwCl (tyL cI cC cL cB) [(h, .inr (0, [.int h_pieces, .ref h_kinds, .ref h_prices, .int h_roomsAtFirst, .int h_deeds, .ref h_persons, .ref h_places, .ref h_hours, .ref h_weights, .int h_coins, .int h_law, .ref h_numbers])), (h_hours, .inl (cI, 9, .inl h_hours_c)), (h_places, .inl (cI, 9, .inl h_places_c))])) (vp_Si (fun r' => r' = r)) 0 0 (fun _ => False) := by
  refine Met.ofW (cc := cX0_wouldTell) (maxL := 6) (ret := (some .boolean)) (by decide) rfl ?_
  intro p e s m args below meth c s₁ B hml hv
  obtain ⟨rfl, hP, hK⟩ := hv
  have hx := B.exec
  have hb := B.bytes
  have hr := B.returns
  have hts := atoms_spec (ws := wsX0_wouldTell) B.pre
  have hown : s.vm.findClass RX0 = some m.cls := findClass_of_methodNamed B.named
  have hlocks := B.notSynchronized
  have hl := lv_entry ([.ref h, .int a1, .int a2, .int a3, .int a4, .int a5]) (n := 6) (Nat.le_of_ble_eq_true rfl)
  rw [lg_entry_eq]
  generalize (lg_sl ([.ref h, .int a1, .int a2, .int a3, .int a4, .int a5]) ++ List.replicate (6 - (lg_sl ([.ref h, .int a1, .int a2, .int a3, .int a4, .int a5])).length) Slot.unset).toArray = ls at hl ⊢
  have hl : lv_has ls 6 [(0, .ref h), (1, .int a1), (2, .int a2), (3, .int a3), (4, .int a4), (5, .int a5)] := hl
  unfold m_X0_wouldTell at hf
  refine lv_iload_n hx hb dX0_wouldTell_0 rfl (lv_at hl 1 rfl) ?_
  by_cases k0 : a1 = 0
  · have hf := ip k0 hf
    refine lv_tableIn (tgt := 32) hx hb dX0_wouldTell_1 (by rw [k0]; decide) (by rw [k0]; decide) (by rw [k0] <;> rfl) (by decide) ?_
    refine lv_iconst (v := 1) hx hb dX0_wouldTell_32 (by decide) ?_
    cases hf
    exact W.zret hx hb hr rfl (fun t ht hW => ⟨_, rfl, rfl, ht⟩) (fun _ h => by cases h) dX0_wouldTell_33
  · have hf := im k0 hf
    by_cases k1 : a1 = 1
    · have hf := ip k1 hf
      refine lv_tableIn (tgt := 34) hx hb dX0_wouldTell_1 (by rw [k1]; decide) (by rw [k1]; decide) (by rw [k1] <;> rfl) (by decide) ?_
      refine lv_iload hx hb dX0_wouldTell_34 (lv_at hl 4 rfl) ?_
      refine lv_bipush (v := 12) hx hb dX0_wouldTell_36 (by decide) ?_
      refine lv_icmp_lt (tgt := 45) hx hb dX0_wouldTell_38 (by decide) (fun c_5 => ?_) (fun c_5 => ?_)
      · have hf := ip c_5 hf
        refine lv_iconst (v := 0) hx hb dX0_wouldTell_45 (by decide) ?_
        cases hf
        exact W.zret hx hb hr rfl (fun t ht hW => ⟨_, rfl, rfl, ht⟩) (fun _ h => by cases h) dX0_wouldTell_46
      · have hf := im c_5 hf
        refine lv_iconst (v := 1) hx hb dX0_wouldTell_41 (by decide) ?_
        refine lv_goto (tgt := 46) hx hb dX0_wouldTell_42 (by decide) ?_
        cases hf
        exact W.zret hx hb hr rfl (fun t ht hW => ⟨_, rfl, rfl, ht⟩) (fun _ h => by cases h) dX0_wouldTell_46
    · have hf := im k1 hf
      by_cases k2 : a1 = 2
      · have hf := ip k2 hf
        refine lv_tableIn (tgt := 47) hx hb dX0_wouldTell_1 (by rw [k2]; decide) (by rw [k2]; decide) (by rw [k2] <;> rfl) (by decide) ?_
        refine lv_aload_n hx hb dX0_wouldTell_47 rfl (lv_at hl 0 rfl) ?_
        refine lv_iload_n hx hb dX0_wouldTell_48 rfl (lv_at hl 2 rfl) ?_
        refine lv_iload_n hx hb dX0_wouldTell_49 rfl (lv_at hl 3 rfl) ?_
        refine lv_iload hx hb dX0_wouldTell_50 (lv_at hl 4 rfl) ?_
        obtain ⟨x1, hv_3, hf⟩ := ob1_some hf
        refine q_rVi (As := [.int a2, .int a3, .int a4]) (rest := []) (r := x1) ⟨hx, hb, hml, hown, hts⟩ (c_X0_laterOnes l D cI cC cL cB h h_kinds h_prices h_persons h_places h_hours h_weights h_numbers a2 a3 a4 h_pieces h_roomsAtFirst h_deeds h_coins h_law h_hours_c h_places_c x1 hv_3) (cwV 3 hts gX0_wouldTell_X0_laterOnes rfl rfl rfl (by decide +kernel) ⟨Nat.le_of_ble_eq_true rfl, Nat.le_of_ble_eq_true rfl⟩) hK hP [0, 1, 2] rfl (va_recv hK hP (ci := 0) (q0 := 0) rfl rfl) rfl hl.1 rfl (Nat.le_of_ble_eq_true rfl) dX0_wouldTell_52 ⟨Nat.le_of_ble_eq_true rfl, Nat.le_of_ble_eq_true rfl⟩ ?_
        refine lv_iconst (v := 2) hx hb dX0_wouldTell_55 (by decide) ?_
        refine lv_icmp_ge (tgt := 63) hx hb dX0_wouldTell_56 (by decide) (fun c_4 => ?_) (fun c_4 => ?_)
        · have hf := ip c_4 hf
          refine lv_iconst (v := 0) hx hb dX0_wouldTell_63 (by decide) ?_
          cases hf
          exact W.zret hx hb hr rfl (fun t ht hW => ⟨_, rfl, rfl, ht⟩) (fun _ h => by cases h) dX0_wouldTell_64
        · have hf := im c_4 hf
          refine lv_iconst (v := 1) hx hb dX0_wouldTell_59 (by decide) ?_
          refine lv_goto (tgt := 64) hx hb dX0_wouldTell_60 (by decide) ?_
          cases hf
          exact W.zret hx hb hr rfl (fun t ht hW => ⟨_, rfl, rfl, ht⟩) (fun _ h => by cases h) dX0_wouldTell_64
      · have hf := im k2 hf
        by_cases k3 : a1 = 3
        · have hf := ip k3 hf
          refine lv_tableIn (tgt := 65) hx hb dX0_wouldTell_1 (by rw [k3]; decide) (by rw [k3]; decide) (by rw [k3] <;> rfl) (by decide) ?_
          refine lv_iload hx hb dX0_wouldTell_65 (lv_at hl 4 rfl) ?_
          refine lv_bipush (v := 12) hx hb dX0_wouldTell_67 (by decide) ?_
          refine lv_icmp_ge (tgt := 83) hx hb dX0_wouldTell_69 (by decide) (fun c_1 => ?_) (fun c_1 => ?_)
          · have hf := ip c_1 hf
            refine lv_iconst (v := 0) hx hb dX0_wouldTell_83 (by decide) ?_
            cases hf
            exact W.zret hx hb hr rfl (fun t ht hW => ⟨_, rfl, rfl, ht⟩) (fun _ h => by cases h) dX0_wouldTell_84
          · have hf := im c_1 hf
            refine lv_iload hx hb dX0_wouldTell_72 (lv_at hl 5 rfl) ?_
            refine lv_bipush (v := 10) hx hb dX0_wouldTell_74 (by decide) ?_
            refine lv_icmp_gt (tgt := 83) hx hb dX0_wouldTell_76 (by decide) (fun c_2 => ?_) (fun c_2 => ?_)
            · have hf := ip c_2 hf
              refine lv_iconst (v := 0) hx hb dX0_wouldTell_83 (by decide) ?_
              cases hf
              exact W.zret hx hb hr rfl (fun t ht hW => ⟨_, rfl, rfl, ht⟩) (fun _ h => by cases h) dX0_wouldTell_84
            · have hf := im c_2 hf
              refine lv_iconst (v := 1) hx hb dX0_wouldTell_79 (by decide) ?_
              refine lv_goto (tgt := 84) hx hb dX0_wouldTell_80 (by decide) ?_
              cases hf
              exact W.zret hx hb hr rfl (fun t ht hW => ⟨_, rfl, rfl, ht⟩) (fun _ h => by cases h) dX0_wouldTell_84
        · have hf := im k3 hf
          refine lv_tableOut (tgt := 85) hx hb dX0_wouldTell_1 (sw_out 4 (fun k hk => ?_)) (by decide) ?_
          · rcases (show k = 0 ∨ k = 1 ∨ k = 2 ∨ k = 3 by omega) with rfl | rfl | rfl | rfl
            · exact lv_neT k0 rfl
            · exact lv_neT k1 rfl
            · exact lv_neT k2 rfl
            · exact lv_neT k3 rfl
          · refine lv_iconst (v := 0) hx hb dX0_wouldTell_85 (by decide) ?_
            cases hf
            exact W.zret hx hb hr rfl (fun t ht hW => ⟨_, rfl, rfl, ht⟩) (fun _ h => by cases h) dX0_wouldTell_86
theorem uX0_toldBy_X0 : ∀ w ∈ wsX00, w ∈ wsX0_toldBy := fun w h => List.mem_cons_of_mem _ (List.mem_append_right _ h)
set_option maxHeartbeats 4000000 in
set_option maxRecDepth 100000 in
theorem c_X0_toldBy (l : Launch) (D : va_G) (cI cC cL cB : ClassId) (h : Nat) (h_kinds : Nat) (h_prices : Nat) (h_persons : Nat) (h_places : Nat) (h_hours : Nat) (h_weights : Nat) (h_numbers : Nat) (a1 : Int32) (a2 : Int32) (h_pieces : Int32) (h_roomsAtFirst : Int32) (h_deeds : Int32) (h_coins : Int32) (h_law : Int32) (h_places_c : Nat → Int32) (h_kinds_c : Nat → Int32) (h_hours_c : Nat → Int32) (h_weights_c : Nat → Int32) (r : Int32) (hf : m_X0_toldBy a1 a2 h_deeds h_places_c h_kinds_c h_hours_c h_weights_c = some r) : Met l yX0_toldBy wsX0_toldBy ({ frames := 2, cells := 0, slots := 0, locals := 51 }) (va_Pc [.ref h, .int a1, .int a2] (q_R D vwCl (tyL cI cC cL cB) [(h, .inr (0, [.int h_pieces, .ref h_kinds, .ref h_prices, .int h_roomsAtFirst, .int h_deeds, .ref h_persons, .ref h_places, .ref h_hours, .ref h_weights, .int h_coins, .int h_law, .ref h_numbers])), (h_places, .inl (cI, 9, .inl h_places_c)), (h_kinds, .inl (cI, 8, .inl h_kinds_c)), (h_hours, .inl (cI, 9, .inl h_hours_c)), (h_weights, .inl (cI, 9, .inl h_weights_c))])) (vp_Si (fun r' => r' = r)) 0 0 (fun _ => False) := by
  refine Met.ofW (cc := cX0_toldBy) (maxL := 5) (ret := (some .int)) (by decide) rfl ?_
  intro p e s m args below meth c s₁ B hml hv
  obtain ⟨rfl, hP, hK⟩ := hv
  have hx := B.exec
  have hb := B.bytes
  have hr := B.returns
  have hts := atoms_spec (ws := wsX0_toldBy) B.pre
  have hown : s.vm.findClass RX0 = some m.cls := findClass_of_methodNamed B.named
  have hlocks := B.notSynchronized
  have hl := lv_entry ([.ref h, .int a1, .int a2]) (n := 5) (Nat.le_of_ble_eq_true rfl)
  rw [lg_entry_eq]
  generalize (lg_sl ([.ref h, .int a1, .int a2]) ++ List.replicate (5 - (lg_sl ([.ref h, .int a1, .int a2])).length) Slot.unset).toArray = ls at hl ⊢
  have hl : lv_has ls 5 [(0, .ref h), (1, .int a1), (2, .int a2)] := hl
  unfold m_X0_toldBy at hf
  refine lv_iconst (v := 0) hx hb dX0_toldBy_0 (by decide) ?_
  refine lv_istore_n (lv' := [(3, .int 0), (0, .ref h), (1, .int a1), (2, .int a2)]) hx hb dX0_toldBy_1 rfl hl (by decide) rfl (fun ls hl => ?_)
  refine lv_iconst (v := 0) hx hb dX0_toldBy_2 (by decide) ?_
  refine lv_istore (lv' := [(4, .int 0), (3, .int 0), (0, .ref h), (1, .int a1), (2, .int a2)]) hx hb dX0_toldBy_3 hl (by decide) rfl (fun ls hl => ?_)
  have loop5 : ∀ (n : Nat) (x1 : Int32) (x2 : Int32), ∀ (ls : Array Slot), lv_has ls 5 [(0, .ref h), (1, .int a1), (2, .int a2), (3, .int x1), (4, .int x2)] → ∀ (x3 : Int32), L_X0_toldBy_5 h_deeds h_places_c a2 a1 h_kinds_c h_hours_c h_weights_c n x1 x2 = some x3 → (∀ (ls : Array Slot), lv_has ls 5 [(3, .int x3)] → W p l e (headSpec wsX0_toldBy ({ frames := 2, cells := 0, slots := 0, locals := 51 })).room s m ([.ref h, .int a1, .int a2] : List Value).toArray below meth c s.heap [] 0 0 (MQ below (vp_Si (fun r' => r' = r)) ([.ref h, .int a1, .int a2] : List Value).toArray s 0 0 (fun _ => False)) (F0 m 68 ls [])) → W p l e (headSpec wsX0_toldBy ({ frames := 2, cells := 0, slots := 0, locals := 51 })).room s m ([.ref h, .int a1, .int a2] : List Value).toArray below meth c s.heap [] 0 0 (MQ below (vp_Si (fun r' => r' = r)) ([.ref h, .int a1, .int a2] : List Value).toArray s 0 0 (fun _ => False)) (F0 m 5 ls []) := by
    intro n
    induction n with
    | zero =>
      intro x1 x2 ls hl x3 hf KX
      rw [L_X0_toldBy_5] at hf
      cases hf
    | succ n ih =>
      intro x1 x2 ls hl x3 hf KX
      rw [L_X0_toldBy_5] at hf
      refine lv_iload hx hb dX0_toldBy_5 (lv_at hl 4 rfl) ?_
      refine lv_aload_n hx hb dX0_toldBy_7 rfl (lv_at hl 0 rfl) ?_
      refine va_get (D := D) (ci := 0) (v := .int h_deeds) (C := RX0) (T := TX0) (N := 12) hx hb hts uX0_toldBy_X0 hown hK hP 0 rfl rfl 4 (by decide) (hts (.fieldLink RX0 37 "SpeaksForTheChair$House" "deeds" "I") (List.mem_of_getElem? (i := 1) rfl)) (fun _ h9 => h9) rfl dX0_toldBy_8 ?_
      refine lv_icmp_ge (tgt := 68) hx hb dX0_toldBy_11 (by decide) (fun c_14 => ?_) (fun c_14 => ?_)
      · have hf := ip c_14 hf
        cases hf
        exact KX ls (lv_sub hl [3] rfl)
      · have hf := im c_14 hf
        refine lv_aload_n hx hb dX0_toldBy_14 rfl (lv_at hl 0 rfl) ?_
        refine va_get (D := D) (ci := 0) (v := .ref h_places) (C := RX0) (T := TX0) (N := 12) hx hb hts uX0_toldBy_X0 hown hK hP 0 rfl rfl 6 (by decide) (hts (.fieldLink RX0 21 "SpeaksForTheChair$House" "places" "[I") (List.mem_of_getElem? (i := 2) rfl)) (fun _ h9 => h9) rfl dX0_toldBy_15 ?_
        refine lv_iload hx hb dX0_toldBy_18 (lv_at hl 4 rfl) ?_
        obtain ⟨g_15, hf⟩ := gu_in hf
        refine va_iald hx hb hK hP 1 0 rfl rfl g_15 dX0_toldBy_20 ?_
        refine lv_iload_n hx hb dX0_toldBy_21 rfl (lv_at hl 2 rfl) ?_
        refine lv_icmp_ne (tgt := 62) hx hb dX0_toldBy_22 (by decide) (fun c_16 => ?_) (fun c_16 => ?_)
        · have hf := im c_16 hf
          obtain ⟨x4, ex4⟩ : ∃ y : Int32, y = (x2 + 1) := ⟨_, rfl⟩
          have hf := pv_eq ex4 hf
          refine lv_iinc (v := x4) (lv' := [(4, .int x4), (0, .ref h), (1, .int a1), (2, .int a2), (3, .int x1)]) hx hb dX0_toldBy_62 hl (k := 4) rfl (by rw [ex4]; rfl) (by decide) rfl (fun ls hl => ?_)
          refine lv_goto (tgt := 5) hx hb dX0_toldBy_65 (by decide) ?_
          exact ih _ _ ls (lv_sub hl [1, 2, 3, 4, 0] rfl) _ hf KX
        · have hf := ip c_16 hf
          refine lv_aload_n hx hb dX0_toldBy_25 rfl (lv_at hl 0 rfl) ?_
          refine lv_aload_n hx hb dX0_toldBy_26 rfl (lv_at hl 0 rfl) ?_
          refine va_get (D := D) (ci := 0) (v := .ref h_kinds) (C := RX0) (T := TX0) (N := 12) hx hb hts uX0_toldBy_X0 hown hK hP 0 rfl rfl 1 (by decide) (hts (.fieldLink RX0 9 "SpeaksForTheChair$House" "kinds" "[I") (List.mem_of_getElem? (i := 3) rfl)) (fun _ h9 => h9) rfl dX0_toldBy_27 ?_
          refine lv_iload_n hx hb dX0_toldBy_30 rfl (lv_at hl 1 rfl) ?_
          obtain ⟨g_17, hf⟩ := gu_in hf
          refine va_iald hx hb hK hP 2 0 rfl rfl g_17 dX0_toldBy_31 ?_
          refine lv_iload_n hx hb dX0_toldBy_32 rfl (lv_at hl 2 rfl) ?_
          refine lv_iload hx hb dX0_toldBy_33 (lv_at hl 4 rfl) ?_
          refine lv_aload_n hx hb dX0_toldBy_35 rfl (lv_at hl 0 rfl) ?_
          refine va_get (D := D) (ci := 0) (v := .ref h_hours) (C := RX0) (T := TX0) (N := 12) hx hb hts uX0_toldBy_X0 hown hK hP 0 rfl rfl 7 (by decide) (hts (.fieldLink RX0 24 "SpeaksForTheChair$House" "hours" "[I") (List.mem_of_getElem? (i := 4) rfl)) (fun _ h9 => h9) rfl dX0_toldBy_36 ?_
          refine lv_iload hx hb dX0_toldBy_39 (lv_at hl 4 rfl) ?_
          obtain ⟨g_18, hf⟩ := gu_in hf
          refine va_iald hx hb hK hP 3 0 rfl rfl g_18 dX0_toldBy_41 ?_
          refine lv_aload_n hx hb dX0_toldBy_42 rfl (lv_at hl 0 rfl) ?_
          refine va_get (D := D) (ci := 0) (v := .ref h_weights) (C := RX0) (T := TX0) (N := 12) hx hb hts uX0_toldBy_X0 hown hK hP 0 rfl rfl 8 (by decide) (hts (.fieldLink RX0 27 "SpeaksForTheChair$House" "weights" "[I") (List.mem_of_getElem? (i := 5) rfl)) (fun _ h9 => h9) rfl dX0_toldBy_43 ?_
          refine lv_iload hx hb dX0_toldBy_46 (lv_at hl 4 rfl) ?_
          obtain ⟨g_19, hf⟩ := gu_in hf
          refine va_iald hx hb hK hP 4 0 rfl rfl g_19 dX0_toldBy_48 ?_
          obtain ⟨x5, hv_20, hf⟩ := ob1_some hf
          refine q_rVi (As := [.int (h_kinds_c a1.toNatClampNeg), .int a2, .int x2, .int (h_hours_c x2.toNatClampNeg), .int (h_weights_c x2.toNatClampNeg)]) (rest := []) (r := x5) ⟨hx, hb, hml, hown, hts⟩ (c_X0_wouldTell l D cI cC cL cB h h_kinds h_prices h_persons h_places h_hours h_weights h_numbers ((h_kinds_c a1.toNatClampNeg)) a2 x2 ((h_hours_c x2.toNatClampNeg)) ((h_weights_c x2.toNatClampNeg)) h_pieces h_roomsAtFirst h_deeds h_coins h_law h_hours_c h_places_c x5 hv_20) (cwV 5 hts gX0_toldBy_X0_wouldTell rfl rfl rfl (by decide +kernel) ⟨Nat.le_of_ble_eq_true rfl, Nat.le_of_ble_eq_true rfl⟩) hK hP [0, 3, 1] rfl (va_recv hK hP (ci := 0) (q0 := 0) rfl rfl) rfl hl.1 rfl (Nat.le_of_ble_eq_true rfl) dX0_toldBy_49 ⟨Nat.le_of_ble_eq_true rfl, Nat.le_of_ble_eq_true rfl⟩ ?_
          refine lv_if_eq (tgt := 62) hx hb dX0_toldBy_52 (by decide) (fun c_21 => ?_) (fun c_21 => ?_)
          · have hf := ip c_21 hf
            obtain ⟨x6, ex6⟩ : ∃ y : Int32, y = (x2 + 1) := ⟨_, rfl⟩
            have hf := pv_eq ex6 hf
            refine lv_iinc (v := x6) (lv' := [(4, .int x6), (0, .ref h), (1, .int a1), (2, .int a2), (3, .int x1)]) hx hb dX0_toldBy_62 hl (k := 4) rfl (by rw [ex6]; rfl) (by decide) rfl (fun ls hl => ?_)
            refine lv_goto (tgt := 5) hx hb dX0_toldBy_65 (by decide) ?_
            exact ih _ _ ls (lv_sub hl [1, 2, 3, 4, 0] rfl) _ hf KX
          · have hf := im c_21 hf
            refine lv_iload_n hx hb dX0_toldBy_55 rfl (lv_at hl 3 rfl) ?_
            refine lv_iconst (v := 1) hx hb dX0_toldBy_56 (by decide) ?_
            refine lv_iload hx hb dX0_toldBy_57 (lv_at hl 4 rfl) ?_
            refine lv_ishl hx hb dX0_toldBy_59 ?_
            refine lv_ior hx hb dX0_toldBy_60 ?_
            refine lv_topi (fun x7 ex7 => ?_)
            have hf := pv_eq ex7 hf
            refine lv_istore_n (lv' := [(3, .int x7), (0, .ref h), (1, .int a1), (2, .int a2), (4, .int x2)]) hx hb dX0_toldBy_61 rfl hl (by decide) rfl (fun ls hl => ?_)
            obtain ⟨x8, ex8⟩ : ∃ y : Int32, y = (x2 + 1) := ⟨_, rfl⟩
            have hf := pv_eq ex8 hf
            refine lv_iinc (v := x8) (lv' := [(4, .int x8), (3, .int x7), (0, .ref h), (1, .int a1), (2, .int a2)]) hx hb dX0_toldBy_62 hl (k := 4) rfl (by rw [ex8]; rfl) (by decide) rfl (fun ls hl => ?_)
            refine lv_goto (tgt := 5) hx hb dX0_toldBy_65 (by decide) ?_
            exact ih _ _ ls (lv_sub hl [2, 3, 4, 1, 0] rfl) _ hf KX
  obtain ⟨x3, hr5, hf⟩ := ob1_some hf
  refine loop5 300 _ _ ls (lv_sub hl [2, 3, 4, 1, 0] rfl) _ hr5 (fun ls hl => ?_)
  refine lv_iload_n hx hb dX0_toldBy_68 rfl (lv_at hl 0 rfl) ?_
  cases hf
  exact W.iret hx hb hr (fun t ht hW => ⟨_, rfl, rfl, ht⟩) (fun _ h => by cases h) dX0_toldBy_69
theorem uX0_forbids_X0 : ∀ w ∈ wsX00, w ∈ wsX0_forbids := fun w h => List.mem_cons_of_mem _ (List.mem_append_right _ h)
set_option maxHeartbeats 4000000 in
set_option maxRecDepth 100000 in
theorem c_X0_forbids (l : Launch) (D : va_G) (cI cC cL cB : ClassId) (h : Nat) (h_kinds : Nat) (h_prices : Nat) (h_persons : Nat) (h_places : Nat) (h_hours : Nat) (h_weights : Nat) (h_numbers : Nat) (a1 : Int32) (h_pieces : Int32) (h_roomsAtFirst : Int32) (h_deeds : Int32) (h_coins : Int32) (h_law : Int32) (r : Int32) (hf : m_X0_forbids a1 h_law = some r) : Met l yX0_forbids wsX0_forbids ({ frames := 0, cells := 0, slots := 0, locals := 0 }) (va_Pc [.ref h, .int a1] (q_R D vwCl (tyL cI cC cL cB) [(h, .inr (0, [.int h_pieces, .ref h_kinds, .ref h_prices, .int h_roomsAtFirst, .int h_deeds, .ref h_persons, .ref h_places, .ref h_hours, .ref h_weights, .int h_coins, .int h_law, .ref h_numbers]))])) (vp_Si (fun r' => r' = r)) 0 0 (fun _ => False) := by
  refine Met.ofW (cc := cX0_forbids) (maxL := 2) (ret := (some .boolean)) (by decide) rfl ?_
  intro p e s m args below meth c s₁ B hml hv
  obtain ⟨rfl, hP, hK⟩ := hv
  have hx := B.exec
  have hb := B.bytes
  have hr := B.returns
  have hts := atoms_spec (ws := wsX0_forbids) B.pre
  have hown : s.vm.findClass RX0 = some m.cls := findClass_of_methodNamed B.named
  have hlocks := B.notSynchronized
  have hl := lv_entry ([.ref h, .int a1]) (n := 2) (Nat.le_of_ble_eq_true rfl)
  rw [lg_entry_eq]
  generalize (lg_sl ([.ref h, .int a1]) ++ List.replicate (2 - (lg_sl ([.ref h, .int a1])).length) Slot.unset).toArray = ls at hl ⊢
  have hl : lv_has ls 2 [(0, .ref h), (1, .int a1)] := hl
  unfold m_X0_forbids at hf
  refine lv_aload_n hx hb dX0_forbids_0 rfl (lv_at hl 0 rfl) ?_
  refine va_get (D := D) (ci := 0) (v := .int h_law) (C := RX0) (T := TX0) (N := 12) hx hb hts uX0_forbids_X0 hown hK hP 0 rfl rfl 10 (by decide) (hts (.fieldLink RX0 43 "SpeaksForTheChair$House" "law" "I") (List.mem_of_getElem? (i := 1) rfl)) (fun _ h9 => h9) rfl dX0_forbids_1 ?_
  refine lv_iload_n hx hb dX0_forbids_4 rfl (lv_at hl 1 rfl) ?_
  refine lv_ishr hx hb dX0_forbids_5 ?_
  refine lv_iconst (v := 1) hx hb dX0_forbids_6 (by decide) ?_
  refine lv_iand hx hb dX0_forbids_7 ?_
  refine lv_iconst (v := 1) hx hb dX0_forbids_8 (by decide) ?_
  refine lv_icmp_ne (tgt := 16) hx hb dX0_forbids_9 (by decide) (fun c_1 => ?_) (fun c_1 => ?_)
  · have hf := im c_1 hf
    refine lv_iconst (v := 0) hx hb dX0_forbids_16 (by decide) ?_
    cases hf
    exact W.zret hx hb hr rfl (fun t ht hW => ⟨_, rfl, rfl, ht⟩) (fun _ h => by cases h) dX0_forbids_17
  · have hf := ip c_1 hf
    refine lv_iconst (v := 1) hx hb dX0_forbids_12 (by decide) ?_
    refine lv_goto (tgt := 17) hx hb dX0_forbids_13 (by decide) ?_
    cases hf
    exact W.zret hx hb hr rfl (fun t ht hW => ⟨_, rfl, rfl, ht⟩) (fun _ h => by cases h) dX0_forbids_17
theorem uX5_isLoose_X0 : ∀ w ∈ wsX00, w ∈ wsX5_isLoose := fun w h => List.mem_cons_of_mem _ (List.mem_append_left _ (List.mem_append_right _ h))
theorem uX5_isLoose_X5 : ∀ w ∈ wsX50, w ∈ wsX5_isLoose := fun w h => List.mem_cons_of_mem _ (List.mem_append_left _ (List.mem_append_left _ (List.mem_append_right _ h)))
set_option maxHeartbeats 4000000 in
set_option maxRecDepth 100000 in
theorem c_X5_isLoose (l : Launch) (D : va_G) (cI cC cL cB : ClassId) (h : Nat) (a1 : Nat) (h_page : Nat) (h_laid : Nat) (h_draft : Nat) (h_now : Nat) (h_trial : Nat) (h_past : Nat) (h_sightings : Nat) (h_kept : Nat) (h_told : Nat) (h_laid_kinds : Nat) (h_laid_prices : Nat) (h_laid_persons : Nat) (h_laid_places : Nat) (h_laid_hours : Nat) (h_laid_weights : Nat) (h_laid_numbers : Nat) (a2 : Int32) (a1_rooms : Int32) (a1_bought : Int32) (a1_spoken : Int32) (a1_out : Int32) (a1_coins : Int32) (h_keptCount : Int32) (h_laid_pieces : Int32) (h_laid_roomsAtFirst : Int32) (h_laid_deeds : Int32) (h_laid_coins : Int32) (h_laid_law : Int32) (h_laid_kinds_c : Nat → Int32) (r : Int32) (hf : m_X5_isLoose a2 a1_bought a1_spoken h_laid_law h_laid_kinds_c = some r) : Met l yX5_isLoose wsX5_isLoose ({ frames := 1, cells := 0, slots := 0, locals := 21 }) (va_Pc [.ref h, .ref a1, .int a2] (q_R D vwCl (tyL cI cC cL cB) [(a1, .inr (4, [.int a1_rooms, .int a1_bought, .int a1_spoken, .int a1_out, .int a1_coins])), (h, .inr (5, [.ref h_page, .ref h_laid, .ref h_draft, .ref h_now, .ref h_trial, .ref h_past, .ref h_sightings, .ref h_kept, .int h_keptCount, .ref h_told])), (h_laid, .inr (0, [.int h_laid_pieces, .ref h_laid_kinds, .ref h_laid_prices, .int h_laid_roomsAtFirst, .int h_laid_deeds, .ref h_laid_persons, .ref h_laid_places, .ref h_laid_hours, .ref h_laid_weights, .int h_laid_coins, .int h_laid_law, .ref h_laid_numbers])), (h_laid_kinds, .inl (cI, 8, .inl h_laid_kinds_c))])) (vp_Si (fun r' => r' = r)) 0 0 (fun _ => False) := by
  refine Met.ofW (cc := cX5_isLoose) (maxL := 3) (ret := (some .boolean)) (by decide) rfl ?_
  intro p e s m args below meth c s₁ B hml hv
  obtain ⟨rfl, hP, hK⟩ := hv
  have hx := B.exec
  have hb := B.bytes
  have hr := B.returns
  have hts := atoms_spec (ws := wsX5_isLoose) B.pre
  have hown : s.vm.findClass RX5 = some m.cls := findClass_of_methodNamed B.named
  have hlocks := B.notSynchronized
  have hl := lv_entry ([.ref h, .ref a1, .int a2]) (n := 3) (Nat.le_of_ble_eq_true rfl)
  rw [lg_entry_eq]
  generalize (lg_sl ([.ref h, .ref a1, .int a2]) ++ List.replicate (3 - (lg_sl ([.ref h, .ref a1, .int a2])).length) Slot.unset).toArray = ls at hl ⊢
  have hl : lv_has ls 3 [(0, .ref h), (1, .ref a1), (2, .int a2)] := hl
  unfold m_X5_isLoose at hf
  refine lv_aload_n hx hb dX5_isLoose_0 rfl (lv_at hl 1 rfl) ?_
  refine lv_iload_n hx hb dX5_isLoose_1 rfl (lv_at hl 2 rfl) ?_
  obtain ⟨x1, hv_1, hf⟩ := ob1_some hf
  refine q_rVi (As := [.int a2]) (rest := []) (r := x1) ⟨hx, hb, hml, hown, hts⟩ (c_X4_howIs l D cI cC cL cB a1 a2 a1_rooms a1_bought a1_spoken a1_out a1_coins x1 hv_1) (cwV 1 hts gX5_isLoose_X4_howIs rfl rfl rfl (by decide +kernel) ⟨Nat.le_of_ble_eq_true rfl, Nat.le_of_ble_eq_true rfl⟩) hK hP [0] rfl (va_recv hK hP (ci := 4) (q0 := 0) rfl rfl) rfl hl.1 rfl (Nat.le_of_ble_eq_true rfl) dX5_isLoose_2 ⟨Nat.le_of_ble_eq_true rfl, Nat.le_of_ble_eq_true rfl⟩ ?_
  refine lv_if_ne (tgt := 31) hx hb dX5_isLoose_5 (by decide) (fun c_2 => ?_) (fun c_2 => ?_)
  · have hf := im c_2 hf
    refine lv_iconst (v := 0) hx hb dX5_isLoose_31 (by decide) ?_
    cases hf
    exact W.zret hx hb hr rfl (fun t ht hW => ⟨_, rfl, rfl, ht⟩) (fun _ h => by cases h) dX5_isLoose_32
  · have hf := ip c_2 hf
    refine lv_aload_n hx hb dX5_isLoose_8 rfl (lv_at hl 0 rfl) ?_
    refine va_get (D := D) (ci := 5) (v := .ref h_laid) (C := RX5) (T := TX5) (N := 10) hx hb hts uX5_isLoose_X5 hown hK hP 1 rfl rfl 1 (by decide) (hts (.fieldLink RX5 19 "SpeaksForTheChair" "laid" "LSpeaksForTheChair$House;") (List.mem_of_getElem? (i := 1) rfl)) (fun _ h9 => h9) rfl dX5_isLoose_9 ?_
    refine lv_aload_n hx hb dX5_isLoose_12 rfl (lv_at hl 0 rfl) ?_
    refine va_get (D := D) (ci := 5) (v := .ref h_laid) (C := RX5) (T := TX5) (N := 10) hx hb hts uX5_isLoose_X5 hown hK hP 1 rfl rfl 1 (by decide) (hts (.fieldLink RX5 19 "SpeaksForTheChair" "laid" "LSpeaksForTheChair$House;") (List.mem_of_getElem? (i := 1) rfl)) (fun _ h9 => h9) rfl dX5_isLoose_13 ?_
    refine va_get (D := D) (ci := 0) (v := .ref h_laid_kinds) (C := RX0) (T := TX0) (N := 12) hx hb hts uX5_isLoose_X0 hown hK hP 2 rfl rfl 1 (by decide) (hts (.fieldLink RX5 113 "SpeaksForTheChair$House" "kinds" "[I") (List.mem_of_getElem? (i := 2) rfl)) (fun _ h9 => h9) rfl dX5_isLoose_16 ?_
    refine lv_iload_n hx hb dX5_isLoose_19 rfl (lv_at hl 2 rfl) ?_
    obtain ⟨g_3, hf⟩ := gu_in hf
    refine va_iald hx hb hK hP 3 0 rfl rfl g_3 dX5_isLoose_20 ?_
    obtain ⟨x2, hv_4, hf⟩ := ob1_some hf
    refine q_rVi (As := [.int (h_laid_kinds_c a2.toNatClampNeg)]) (rest := []) (r := x2) ⟨hx, hb, hml, hown, hts⟩ (c_X0_forbids l D cI cC cL cB h_laid h_laid_kinds h_laid_prices h_laid_persons h_laid_places h_laid_hours h_laid_weights h_laid_numbers ((h_laid_kinds_c a2.toNatClampNeg)) h_laid_pieces h_laid_roomsAtFirst h_laid_deeds h_laid_coins h_laid_law x2 hv_4) (cwV 1 hts gX5_isLoose_X0_forbids rfl rfl rfl (by decide +kernel) ⟨Nat.le_of_ble_eq_true rfl, Nat.le_of_ble_eq_true rfl⟩) hK hP [2] rfl (va_recv hK hP (ci := 0) (q0 := 2) rfl rfl) rfl hl.1 rfl (Nat.le_of_ble_eq_true rfl) dX5_isLoose_21 ⟨Nat.le_of_ble_eq_true rfl, Nat.le_of_ble_eq_true rfl⟩ ?_
    refine lv_if_ne (tgt := 31) hx hb dX5_isLoose_24 (by decide) (fun c_5 => ?_) (fun c_5 => ?_)
    · have hf := im c_5 hf
      refine lv_iconst (v := 0) hx hb dX5_isLoose_31 (by decide) ?_
      cases hf
      exact W.zret hx hb hr rfl (fun t ht hW => ⟨_, rfl, rfl, ht⟩) (fun _ h => by cases h) dX5_isLoose_32
    · have hf := ip c_5 hf
      refine lv_iconst (v := 1) hx hb dX5_isLoose_27 (by decide) ?_
      refine lv_goto (tgt := 32) hx hb dX5_isLoose_28 (by decide) ?_
      cases hf
      exact W.zret hx hb hr rfl (fun t ht hW => ⟨_, rfl, rfl, ht⟩) (fun _ h => by cases h) dX5_isLoose_32
theorem uX5_piece_X0 : ∀ w ∈ wsX00, w ∈ wsX5_piece := fun w h => List.mem_cons_of_mem _ (List.mem_append_left _ (List.mem_append_right _ h))
theorem uX5_piece_X5 : ∀ w ∈ wsX50, w ∈ wsX5_piece := fun w h => List.mem_cons_of_mem _ (List.mem_append_left _ (List.mem_append_left _ (List.mem_append_right _ h)))
set_option maxHeartbeats 4000000 in
set_option maxRecDepth 100000 in
theorem c_X5_piece (l : Launch) (D : va_G) (cI cC cL cB : ClassId) (h : Nat) (h_page : Nat) (h_laid : Nat) (h_draft : Nat) (h_now : Nat) (h_trial : Nat) (h_past : Nat) (h_sightings : Nat) (h_kept : Nat) (h_told : Nat) (h_laid_kinds : Nat) (h_laid_prices : Nat) (h_laid_persons : Nat) (h_laid_places : Nat) (h_laid_hours : Nat) (h_laid_weights : Nat) (h_laid_numbers : Nat) (a1 : Int32) (a2 : Int32) (h_keptCount : Int32) (h_laid_pieces : Int32) (h_laid_roomsAtFirst : Int32) (h_laid_deeds : Int32) (h_laid_coins : Int32) (h_laid_law : Int32) (h_now_rooms : Int32) (h_now_bought : Int32) (h_now_spoken : Int32) (h_now_out : Int32) (h_now_coins : Int32) (h_laid_kinds_c : Nat → Int32) (h_laid_places_c : Nat → Int32) (h_laid_hours_c : Nat → Int32) (h_laid_weights_c : Nat → Int32) (h_laid_prices_c : Nat → Int32) (r : Int32) (hf : m_X5_piece a1 a2 h_laid_pieces h_laid_deeds h_laid_law h_now_rooms h_now_bought h_now_spoken h_laid_kinds_c h_laid_places_c h_laid_hours_c h_laid_weights_c h_laid_prices_c = some r) : Met l yX5_piece wsX5_piece ({ frames := 3, cells := 0, slots := 0, locals := 75 }) (va_Pc [.ref h, .int a1, .int a2] (q_R D vwCl (tyL cI cC cL cB) [(h, .inr (5, [.ref h_page, .ref h_laid, .ref h_draft, .ref h_now, .ref h_trial, .ref h_past, .ref h_sightings, .ref h_kept, .int h_keptCount, .ref h_told])), (h_laid, .inr (0, [.int h_laid_pieces, .ref h_laid_kinds, .ref h_laid_prices, .int h_laid_roomsAtFirst, .int h_laid_deeds, .ref h_laid_persons, .ref h_laid_places, .ref h_laid_hours, .ref h_laid_weights, .int h_laid_coins, .int h_laid_law, .ref h_laid_numbers])), (h_now, .inr (4, [.int h_now_rooms, .int h_now_bought, .int h_now_spoken, .int h_now_out, .int h_now_coins])), (h_laid_kinds, .inl (cI, 8, .inl h_laid_kinds_c)), (h_laid_places, .inl (cI, 9, .inl h_laid_places_c)), (h_laid_hours, .inl (cI, 9, .inl h_laid_hours_c)), (h_laid_weights, .inl (cI, 9, .inl h_laid_weights_c)), (h_laid_prices, .inl (cI, 8, .inl h_laid_prices_c))])) (vp_Si (fun r' => r' = r)) 0 0 (fun _ => False) := by
  refine Met.ofW (cc := cX5_piece) (maxL := 3) (ret := (some .int)) (by decide) rfl ?_
  intro p e s m args below meth c s₁ B hml hv
  obtain ⟨rfl, hP, hK⟩ := hv
  have hx := B.exec
  have hb := B.bytes
  have hr := B.returns
  have hts := atoms_spec (ws := wsX5_piece) B.pre
  have hown : s.vm.findClass RX5 = some m.cls := findClass_of_methodNamed B.named
  have hlocks := B.notSynchronized
  have hl := lv_entry ([.ref h, .int a1, .int a2]) (n := 3) (Nat.le_of_ble_eq_true rfl)
  rw [lg_entry_eq]
  generalize (lg_sl ([.ref h, .int a1, .int a2]) ++ List.replicate (3 - (lg_sl ([.ref h, .int a1, .int a2])).length) Slot.unset).toArray = ls at hl ⊢
  have hl : lv_has ls 3 [(0, .ref h), (1, .int a1), (2, .int a2)] := hl
  unfold m_X5_piece at hf
  refine lv_aload_n hx hb dX5_piece_0 rfl (lv_at hl 0 rfl) ?_
  refine lv_iload_n hx hb dX5_piece_1 rfl (lv_at hl 1 rfl) ?_
  obtain ⟨x1, hv_1, hf⟩ := ob1_some hf
  refine q_rVi (As := [.int a1]) (rest := []) (r := x1) ⟨hx, hb, hml, hown, hts⟩ (c_X5_isPiece l D cI cC cL cB h h_page h_laid h_draft h_now h_trial h_past h_sightings h_kept h_told h_laid_kinds h_laid_prices h_laid_persons h_laid_places h_laid_hours h_laid_weights h_laid_numbers a1 h_keptCount h_laid_pieces h_laid_roomsAtFirst h_laid_deeds h_laid_coins h_laid_law x1 hv_1) (cwV 1 hts gX5_piece_X5_isPiece rfl rfl rfl (by decide +kernel) ⟨Nat.le_of_ble_eq_true rfl, Nat.le_of_ble_eq_true rfl⟩) hK hP [0, 1] rfl (va_recv hK hP (ci := 5) (q0 := 0) rfl rfl) rfl hl.1 rfl (Nat.le_of_ble_eq_true rfl) dX5_piece_2 ⟨Nat.le_of_ble_eq_true rfl, Nat.le_of_ble_eq_true rfl⟩ ?_
  refine lv_if_ne (tgt := 10) hx hb dX5_piece_5 (by decide) (fun c_2 => ?_) (fun c_2 => ?_)
  · have hf := im c_2 hf
    refine lv_iload_n hx hb dX5_piece_10 rfl (lv_at hl 2 rfl) ?_
    by_cases k0 : a2 = 0
    · have hf := ip k0 hf
      refine lv_tableIn (tgt := 48) hx hb dX5_piece_11 (by rw [k0]; decide) (by rw [k0]; decide) (by rw [k0] <;> rfl) (by decide) ?_
      refine lv_aload_n hx hb dX5_piece_48 rfl (lv_at hl 0 rfl) ?_
      refine va_get (D := D) (ci := 5) (v := .ref h_laid) (C := RX5) (T := TX5) (N := 10) hx hb hts uX5_piece_X5 hown hK hP 0 rfl rfl 1 (by decide) (hts (.fieldLink RX5 19 "SpeaksForTheChair" "laid" "LSpeaksForTheChair$House;") (List.mem_of_getElem? (i := 1) rfl)) (fun _ h9 => h9) rfl dX5_piece_49 ?_
      refine va_get (D := D) (ci := 0) (v := .ref h_laid_kinds) (C := RX0) (T := TX0) (N := 12) hx hb hts uX5_piece_X0 hown hK hP 1 rfl rfl 1 (by decide) (hts (.fieldLink RX5 113 "SpeaksForTheChair$House" "kinds" "[I") (List.mem_of_getElem? (i := 2) rfl)) (fun _ h9 => h9) rfl dX5_piece_52 ?_
      refine lv_iload_n hx hb dX5_piece_55 rfl (lv_at hl 1 rfl) ?_
      obtain ⟨g_10, hf⟩ := gu_in hf
      refine va_iald hx hb hK hP 3 0 rfl rfl g_10 dX5_piece_56 ?_
      cases hf
      exact W.iret hx hb hr (fun t ht hW => ⟨_, rfl, rfl, ht⟩) (fun _ h => by cases h) dX5_piece_57
    · have hf := im k0 hf
      by_cases k1 : a2 = 1
      · have hf := ip k1 hf
        refine lv_tableIn (tgt := 58) hx hb dX5_piece_11 (by rw [k1]; decide) (by rw [k1]; decide) (by rw [k1] <;> rfl) (by decide) ?_
        refine lv_aload_n hx hb dX5_piece_58 rfl (lv_at hl 0 rfl) ?_
        refine va_get (D := D) (ci := 5) (v := .ref h_now) (C := RX5) (T := TX5) (N := 10) hx hb hts uX5_piece_X5 hown hK hP 0 rfl rfl 3 (by decide) (hts (.fieldLink RX5 29 "SpeaksForTheChair" "now" "LSpeaksForTheChair$Standing;") (List.mem_of_getElem? (i := 3) rfl)) (fun _ h9 => h9) rfl dX5_piece_59 ?_
        refine lv_iload_n hx hb dX5_piece_62 rfl (lv_at hl 1 rfl) ?_
        obtain ⟨x6, hv_9, hf⟩ := ob1_some hf
        refine q_rVi (As := [.int a1]) (rest := []) (r := x6) ⟨hx, hb, hml, hown, hts⟩ (c_X4_roomOf l D cI cC cL cB h_now a1 h_now_rooms h_now_bought h_now_spoken h_now_out h_now_coins x6 hv_9) (cwV 1 hts gX5_piece_X4_roomOf rfl rfl rfl (by decide +kernel) ⟨Nat.le_of_ble_eq_true rfl, Nat.le_of_ble_eq_true rfl⟩) hK hP [2] rfl (va_recv hK hP (ci := 4) (q0 := 2) rfl rfl) rfl hl.1 rfl (Nat.le_of_ble_eq_true rfl) dX5_piece_63 ⟨Nat.le_of_ble_eq_true rfl, Nat.le_of_ble_eq_true rfl⟩ ?_
        cases hf
        exact W.iret hx hb hr (fun t ht hW => ⟨_, rfl, rfl, ht⟩) (fun _ h => by cases h) dX5_piece_66
      · have hf := im k1 hf
        by_cases k2 : a2 = 2
        · have hf := ip k2 hf
          refine lv_tableIn (tgt := 67) hx hb dX5_piece_11 (by rw [k2]; decide) (by rw [k2]; decide) (by rw [k2] <;> rfl) (by decide) ?_
          refine lv_aload_n hx hb dX5_piece_67 rfl (lv_at hl 0 rfl) ?_
          refine va_get (D := D) (ci := 5) (v := .ref h_laid) (C := RX5) (T := TX5) (N := 10) hx hb hts uX5_piece_X5 hown hK hP 0 rfl rfl 1 (by decide) (hts (.fieldLink RX5 19 "SpeaksForTheChair" "laid" "LSpeaksForTheChair$House;") (List.mem_of_getElem? (i := 1) rfl)) (fun _ h9 => h9) rfl dX5_piece_68 ?_
          refine va_get (D := D) (ci := 0) (v := .ref h_laid_prices) (C := RX0) (T := TX0) (N := 12) hx hb hts uX5_piece_X0 hown hK hP 1 rfl rfl 2 (by decide) (hts (.fieldLink RX5 120 "SpeaksForTheChair$House" "prices" "[I") (List.mem_of_getElem? (i := 4) rfl)) (fun _ h9 => h9) rfl dX5_piece_71 ?_
          refine lv_iload_n hx hb dX5_piece_74 rfl (lv_at hl 1 rfl) ?_
          obtain ⟨g_8, hf⟩ := gu_in hf
          refine va_iald hx hb hK hP 7 0 rfl rfl g_8 dX5_piece_75 ?_
          cases hf
          exact W.iret hx hb hr (fun t ht hW => ⟨_, rfl, rfl, ht⟩) (fun _ h => by cases h) dX5_piece_76
        · have hf := im k2 hf
          by_cases k3 : a2 = 3
          · have hf := ip k3 hf
            refine lv_tableIn (tgt := 77) hx hb dX5_piece_11 (by rw [k3]; decide) (by rw [k3]; decide) (by rw [k3] <;> rfl) (by decide) ?_
            refine lv_aload_n hx hb dX5_piece_77 rfl (lv_at hl 0 rfl) ?_
            refine va_get (D := D) (ci := 5) (v := .ref h_now) (C := RX5) (T := TX5) (N := 10) hx hb hts uX5_piece_X5 hown hK hP 0 rfl rfl 3 (by decide) (hts (.fieldLink RX5 29 "SpeaksForTheChair" "now" "LSpeaksForTheChair$Standing;") (List.mem_of_getElem? (i := 3) rfl)) (fun _ h9 => h9) rfl dX5_piece_78 ?_
            refine lv_iload_n hx hb dX5_piece_81 rfl (lv_at hl 1 rfl) ?_
            obtain ⟨x5, hv_7, hf⟩ := ob1_some hf
            refine q_rVi (As := [.int a1]) (rest := []) (r := x5) ⟨hx, hb, hml, hown, hts⟩ (c_X4_howIs l D cI cC cL cB h_now a1 h_now_rooms h_now_bought h_now_spoken h_now_out h_now_coins x5 hv_7) (cwV 1 hts gX5_piece_X4_howIs rfl rfl rfl (by decide +kernel) ⟨Nat.le_of_ble_eq_true rfl, Nat.le_of_ble_eq_true rfl⟩) hK hP [2] rfl (va_recv hK hP (ci := 4) (q0 := 2) rfl rfl) rfl hl.1 rfl (Nat.le_of_ble_eq_true rfl) dX5_piece_82 ⟨Nat.le_of_ble_eq_true rfl, Nat.le_of_ble_eq_true rfl⟩ ?_
            cases hf
            exact W.iret hx hb hr (fun t ht hW => ⟨_, rfl, rfl, ht⟩) (fun _ h => by cases h) dX5_piece_85
          · have hf := im k3 hf
            by_cases k4 : a2 = 4
            · have hf := ip k4 hf
              refine lv_tableIn (tgt := 86) hx hb dX5_piece_11 (by rw [k4]; decide) (by rw [k4]; decide) (by rw [k4] <;> rfl) (by decide) ?_
              refine lv_aload_n hx hb dX5_piece_86 rfl (lv_at hl 0 rfl) ?_
              refine va_get (D := D) (ci := 5) (v := .ref h_laid) (C := RX5) (T := TX5) (N := 10) hx hb hts uX5_piece_X5 hown hK hP 0 rfl rfl 1 (by decide) (hts (.fieldLink RX5 19 "SpeaksForTheChair" "laid" "LSpeaksForTheChair$House;") (List.mem_of_getElem? (i := 1) rfl)) (fun _ h9 => h9) rfl dX5_piece_87 ?_
              refine lv_iload_n hx hb dX5_piece_90 rfl (lv_at hl 1 rfl) ?_
              refine lv_aload_n hx hb dX5_piece_91 rfl (lv_at hl 0 rfl) ?_
              refine va_get (D := D) (ci := 5) (v := .ref h_now) (C := RX5) (T := TX5) (N := 10) hx hb hts uX5_piece_X5 hown hK hP 0 rfl rfl 3 (by decide) (hts (.fieldLink RX5 29 "SpeaksForTheChair" "now" "LSpeaksForTheChair$Standing;") (List.mem_of_getElem? (i := 3) rfl)) (fun _ h9 => h9) rfl dX5_piece_92 ?_
              refine lv_iload_n hx hb dX5_piece_95 rfl (lv_at hl 1 rfl) ?_
              obtain ⟨x3, hv_5, hf⟩ := ob1_some hf
              refine q_rVi (As := [.int a1]) (rest := [.int a1, .ref h_laid]) (r := x3) ⟨hx, hb, hml, hown, hts⟩ (c_X4_roomOf l D cI cC cL cB h_now a1 h_now_rooms h_now_bought h_now_spoken h_now_out h_now_coins x3 hv_5) (cwV 1 hts gX5_piece_X4_roomOf rfl rfl rfl (by decide +kernel) ⟨Nat.le_of_ble_eq_true rfl, Nat.le_of_ble_eq_true rfl⟩) hK hP [2] rfl (va_recv hK hP (ci := 4) (q0 := 2) rfl rfl) rfl hl.1 rfl (Nat.le_of_ble_eq_true rfl) dX5_piece_96 ⟨Nat.le_of_ble_eq_true rfl, Nat.le_of_ble_eq_true rfl⟩ ?_
              obtain ⟨x4, hv_6, hf⟩ := ob1_some hf
              refine q_rVi (As := [.int a1, .int x3]) (rest := []) (r := x4) ⟨hx, hb, hml, hown, hts⟩ (c_X0_toldBy l D cI cC cL cB h_laid h_laid_kinds h_laid_prices h_laid_persons h_laid_places h_laid_hours h_laid_weights h_laid_numbers a1 x3 h_laid_pieces h_laid_roomsAtFirst h_laid_deeds h_laid_coins h_laid_law h_laid_places_c h_laid_kinds_c h_laid_hours_c h_laid_weights_c x4 hv_6) (cwV 2 hts gX5_piece_X0_toldBy rfl rfl rfl (by decide +kernel) ⟨Nat.le_of_ble_eq_true rfl, Nat.le_of_ble_eq_true rfl⟩) hK hP [1, 4, 3, 5, 6] rfl (va_recv hK hP (ci := 0) (q0 := 1) rfl rfl) rfl hl.1 rfl (Nat.le_of_ble_eq_true rfl) dX5_piece_99 ⟨Nat.le_of_ble_eq_true rfl, Nat.le_of_ble_eq_true rfl⟩ ?_
              cases hf
              exact W.iret hx hb hr (fun t ht hW => ⟨_, rfl, rfl, ht⟩) (fun _ h => by cases h) dX5_piece_102
            · have hf := im k4 hf
              by_cases k5 : a2 = 5
              · have hf := ip k5 hf
                refine lv_tableIn (tgt := 103) hx hb dX5_piece_11 (by rw [k5]; decide) (by rw [k5]; decide) (by rw [k5] <;> rfl) (by decide) ?_
                refine lv_aload_n hx hb dX5_piece_103 rfl (lv_at hl 0 rfl) ?_
                refine lv_aload_n hx hb dX5_piece_104 rfl (lv_at hl 0 rfl) ?_
                refine va_get (D := D) (ci := 5) (v := .ref h_now) (C := RX5) (T := TX5) (N := 10) hx hb hts uX5_piece_X5 hown hK hP 0 rfl rfl 3 (by decide) (hts (.fieldLink RX5 29 "SpeaksForTheChair" "now" "LSpeaksForTheChair$Standing;") (List.mem_of_getElem? (i := 3) rfl)) (fun _ h9 => h9) rfl dX5_piece_105 ?_
                refine lv_iload_n hx hb dX5_piece_108 rfl (lv_at hl 1 rfl) ?_
                obtain ⟨x2, hv_3, hf⟩ := ob1_some hf
                refine q_rVi (As := [.ref h_now, .int a1]) (rest := []) (r := x2) ⟨hx, hb, hml, hown, hts⟩ (c_X5_isLoose l D cI cC cL cB h h_now h_page h_laid h_draft h_now h_trial h_past h_sightings h_kept h_told h_laid_kinds h_laid_prices h_laid_persons h_laid_places h_laid_hours h_laid_weights h_laid_numbers a1 h_now_rooms h_now_bought h_now_spoken h_now_out h_now_coins h_keptCount h_laid_pieces h_laid_roomsAtFirst h_laid_deeds h_laid_coins h_laid_law h_laid_kinds_c x2 hv_3) (cwV 2 hts gX5_piece_X5_isLoose rfl rfl rfl (by decide +kernel) ⟨Nat.le_of_ble_eq_true rfl, Nat.le_of_ble_eq_true rfl⟩) hK hP [2, 0, 1, 3] rfl (va_recv hK hP (ci := 5) (q0 := 0) rfl rfl) rfl hl.1 rfl (Nat.le_of_ble_eq_true rfl) dX5_piece_109 ⟨Nat.le_of_ble_eq_true rfl, Nat.le_of_ble_eq_true rfl⟩ ?_
                refine lv_if_eq (tgt := 119) hx hb dX5_piece_112 (by decide) (fun c_4 => ?_) (fun c_4 => ?_)
                · have hf := ip c_4 hf
                  refine lv_iconst (v := 0) hx hb dX5_piece_119 (by decide) ?_
                  cases hf
                  exact W.iret hx hb hr (fun t ht hW => ⟨_, rfl, rfl, ht⟩) (fun _ h => by cases h) dX5_piece_120
                · have hf := im c_4 hf
                  refine lv_iconst (v := 1) hx hb dX5_piece_115 (by decide) ?_
                  refine lv_goto (tgt := 120) hx hb dX5_piece_116 (by decide) ?_
                  cases hf
                  exact W.iret hx hb hr (fun t ht hW => ⟨_, rfl, rfl, ht⟩) (fun _ h => by cases h) dX5_piece_120
              · have hf := im k5 hf
                refine lv_tableOut (tgt := 121) hx hb dX5_piece_11 (sw_out 6 (fun k hk => ?_)) (by decide) ?_
                · rcases (show k = 0 ∨ k = 1 ∨ k = 2 ∨ k = 3 ∨ k = 4 ∨ k = 5 by omega) with rfl | rfl | rfl | rfl | rfl | rfl
                  · exact lv_neT k0 rfl
                  · exact lv_neT k1 rfl
                  · exact lv_neT k2 rfl
                  · exact lv_neT k3 rfl
                  · exact lv_neT k4 rfl
                  · exact lv_neT k5 rfl
                · refine lv_iconst (v := (-1)) hx hb dX5_piece_121 (by decide) ?_
                  cases hf
                  exact W.iret hx hb hr (fun t ht hW => ⟨_, rfl, rfl, ht⟩) (fun _ h => by cases h) dX5_piece_122
  · have hf := ip c_2 hf
    refine lv_iconst (v := (-1)) hx hb dX5_piece_8 (by decide) ?_
    cases hf
    exact W.iret hx hb hr (fun t ht hW => ⟨_, rfl, rfl, ht⟩) (fun _ h => by cases h) dX5_piece_9
theorem uX5_isDeed_X0 : ∀ w ∈ wsX00, w ∈ wsX5_isDeed := fun w h => List.mem_cons_of_mem _ (List.mem_append_right _ h)
theorem uX5_isDeed_X5 : ∀ w ∈ wsX50, w ∈ wsX5_isDeed := fun w h => List.mem_cons_of_mem _ (List.mem_append_left _ (List.mem_append_right _ h))
set_option maxHeartbeats 4000000 in
set_option maxRecDepth 100000 in
theorem c_X5_isDeed (l : Launch) (D : va_G) (cI cC cL cB : ClassId) (h : Nat) (h_page : Nat) (h_laid : Nat) (h_draft : Nat) (h_now : Nat) (h_trial : Nat) (h_past : Nat) (h_sightings : Nat) (h_kept : Nat) (h_told : Nat) (h_laid_kinds : Nat) (h_laid_prices : Nat) (h_laid_persons : Nat) (h_laid_places : Nat) (h_laid_hours : Nat) (h_laid_weights : Nat) (h_laid_numbers : Nat) (a1 : Int32) (h_keptCount : Int32) (h_laid_pieces : Int32) (h_laid_roomsAtFirst : Int32) (h_laid_deeds : Int32) (h_laid_coins : Int32) (h_laid_law : Int32) (r : Int32) (hf : m_X5_isDeed a1 h_laid_deeds = some r) : Met l yX5_isDeed wsX5_isDeed ({ frames := 1, cells := 0, slots := 0, locals := 22 }) (va_Pc [.ref h, .int a1] (q_R D vwCl (tyL cI cC cL cB) [(h, .inr (5, [.ref h_page, .ref h_laid, .ref h_draft, .ref h_now, .ref h_trial, .ref h_past, .ref h_sightings, .ref h_kept, .int h_keptCount, .ref h_told])), (h_laid, .inr (0, [.int h_laid_pieces, .ref h_laid_kinds, .ref h_laid_prices, .int h_laid_roomsAtFirst, .int h_laid_deeds, .ref h_laid_persons, .ref h_laid_places, .ref h_laid_hours, .ref h_laid_weights, .int h_laid_coins, .int h_laid_law, .ref h_laid_numbers]))])) (vp_Si (fun r' => r' = r)) 0 0 (fun _ => False) := by
  refine Met.ofW (cc := cX5_isDeed) (maxL := 2) (ret := (some .boolean)) (by decide) rfl ?_
  intro p e s m args below meth c s₁ B hml hv
  obtain ⟨rfl, hP, hK⟩ := hv
  have hx := B.exec
  have hb := B.bytes
  have hr := B.returns
  have hts := atoms_spec (ws := wsX5_isDeed) B.pre
  have hown : s.vm.findClass RX5 = some m.cls := findClass_of_methodNamed B.named
  have hlocks := B.notSynchronized
  have hl := lv_entry ([.ref h, .int a1]) (n := 2) (Nat.le_of_ble_eq_true rfl)
  rw [lg_entry_eq]
  generalize (lg_sl ([.ref h, .int a1]) ++ List.replicate (2 - (lg_sl ([.ref h, .int a1])).length) Slot.unset).toArray = ls at hl ⊢
  have hl : lv_has ls 2 [(0, .ref h), (1, .int a1)] := hl
  unfold m_X5_isDeed at hf
  refine lv_iload_n hx hb dX5_isDeed_0 rfl (lv_at hl 1 rfl) ?_
  refine lv_iconst (v := 0) hx hb dX5_isDeed_1 (by decide) ?_
  refine lv_aload_n hx hb dX5_isDeed_2 rfl (lv_at hl 0 rfl) ?_
  refine va_get (D := D) (ci := 5) (v := .ref h_laid) (C := RX5) (T := TX5) (N := 10) hx hb hts uX5_isDeed_X5 hown hK hP 0 rfl rfl 1 (by decide) (hts (.fieldLink RX5 19 "SpeaksForTheChair" "laid" "LSpeaksForTheChair$House;") (List.mem_of_getElem? (i := 1) rfl)) (fun _ h9 => h9) rfl dX5_isDeed_3 ?_
  refine va_get (D := D) (ci := 0) (v := .int h_laid_deeds) (C := RX0) (T := TX0) (N := 12) hx hb hts uX5_isDeed_X0 hown hK hP 1 rfl rfl 4 (by decide) (hts (.fieldLink RX5 220 "SpeaksForTheChair$House" "deeds" "I") (List.mem_of_getElem? (i := 2) rfl)) (fun _ h9 => h9) rfl dX5_isDeed_6 ?_
  refine lv_iconst (v := 1) hx hb dX5_isDeed_9 (by decide) ?_
  refine lv_isub hx hb dX5_isDeed_10 ?_
  obtain ⟨x1, hv_1, hf⟩ := ob1_some hf
  refine q_rSi (As := [.int a1, .int 0, .int (h_laid_deeds - 1)]) (rest := []) (r := x1) ⟨hx, hb, hml, hown, hts⟩ (c_X5_isWithin l D cI cC cL cB a1 ((0 : Int32)) ((h_laid_deeds - 1)) x1 hv_1) (va_cwS 3 hts gX5_isDeed_X5_isWithin rfl rfl rfl (by decide +kernel) ⟨Nat.le_of_ble_eq_true rfl, Nat.le_of_ble_eq_true rfl⟩) hK hP [] rfl rfl hl.1 rfl (Nat.le_of_ble_eq_true rfl) dX5_isDeed_11 ⟨Nat.le_of_ble_eq_true rfl, Nat.le_of_ble_eq_true rfl⟩ ?_
  obtain ⟨g_2, hf⟩ := gu_bool hf
  cases hf
  exact W.zret hx hb hr g_2 (fun t ht hW => ⟨_, rfl, rfl, ht⟩) (fun _ h => by cases h) dX5_isDeed_14
theorem uX5_hasComeOut_X4 : ∀ w ∈ wsX40, w ∈ wsX5_hasComeOut := fun w h => List.mem_cons_of_mem _ (List.mem_append_right _ h)
theorem uX5_hasComeOut_X5 : ∀ w ∈ wsX50, w ∈ wsX5_hasComeOut := fun w h => List.mem_cons_of_mem _ (List.mem_append_left _ (List.mem_append_right _ h))
set_option maxHeartbeats 4000000 in
set_option maxRecDepth 100000 in
theorem c_X5_hasComeOut (l : Launch) (D : va_G) (cI cC cL cB : ClassId) (h : Nat) (h_page : Nat) (h_laid : Nat) (h_draft : Nat) (h_now : Nat) (h_trial : Nat) (h_past : Nat) (h_sightings : Nat) (h_kept : Nat) (h_told : Nat) (a1 : Int32) (h_keptCount : Int32) (h_now_rooms : Int32) (h_now_bought : Int32) (h_now_spoken : Int32) (h_now_out : Int32) (h_now_coins : Int32) (r : Int32) (hf : m_X5_hasComeOut a1 h_now_out = some r) : Met l yX5_hasComeOut wsX5_hasComeOut ({ frames := 0, cells := 0, slots := 0, locals := 0 }) (va_Pc [.ref h, .int a1] (q_R D vwCl (tyL cI cC cL cB) [(h, .inr (5, [.ref h_page, .ref h_laid, .ref h_draft, .ref h_now, .ref h_trial, .ref h_past, .ref h_sightings, .ref h_kept, .int h_keptCount, .ref h_told])), (h_now, .inr (4, [.int h_now_rooms, .int h_now_bought, .int h_now_spoken, .int h_now_out, .int h_now_coins]))])) (vp_Si (fun r' => r' = r)) 0 0 (fun _ => False) := by
  refine Met.ofW (cc := cX5_hasComeOut) (maxL := 2) (ret := (some .boolean)) (by decide) rfl ?_
  intro p e s m args below meth c s₁ B hml hv
  obtain ⟨rfl, hP, hK⟩ := hv
  have hx := B.exec
  have hb := B.bytes
  have hr := B.returns
  have hts := atoms_spec (ws := wsX5_hasComeOut) B.pre
  have hown : s.vm.findClass RX5 = some m.cls := findClass_of_methodNamed B.named
  have hlocks := B.notSynchronized
  have hl := lv_entry ([.ref h, .int a1]) (n := 2) (Nat.le_of_ble_eq_true rfl)
  rw [lg_entry_eq]
  generalize (lg_sl ([.ref h, .int a1]) ++ List.replicate (2 - (lg_sl ([.ref h, .int a1])).length) Slot.unset).toArray = ls at hl ⊢
  have hl : lv_has ls 2 [(0, .ref h), (1, .int a1)] := hl
  unfold m_X5_hasComeOut at hf
  refine lv_aload_n hx hb dX5_hasComeOut_0 rfl (lv_at hl 0 rfl) ?_
  refine va_get (D := D) (ci := 5) (v := .ref h_now) (C := RX5) (T := TX5) (N := 10) hx hb hts uX5_hasComeOut_X5 hown hK hP 0 rfl rfl 3 (by decide) (hts (.fieldLink RX5 29 "SpeaksForTheChair" "now" "LSpeaksForTheChair$Standing;") (List.mem_of_getElem? (i := 1) rfl)) (fun _ h9 => h9) rfl dX5_hasComeOut_1 ?_
  refine va_get (D := D) (ci := 4) (v := .int h_now_out) (C := RX4) (T := TX4) (N := 5) hx hb hts uX5_hasComeOut_X4 hown hK hP 1 rfl rfl 3 (by decide) (hts (.fieldLink RX5 191 "SpeaksForTheChair$Standing" "out" "I") (List.mem_of_getElem? (i := 2) rfl)) (fun _ h9 => h9) rfl dX5_hasComeOut_4 ?_
  refine lv_iload_n hx hb dX5_hasComeOut_7 rfl (lv_at hl 1 rfl) ?_
  refine lv_ishr hx hb dX5_hasComeOut_8 ?_
  refine lv_iconst (v := 1) hx hb dX5_hasComeOut_9 (by decide) ?_
  refine lv_iand hx hb dX5_hasComeOut_10 ?_
  refine lv_iconst (v := 1) hx hb dX5_hasComeOut_11 (by decide) ?_
  refine lv_icmp_ne (tgt := 19) hx hb dX5_hasComeOut_12 (by decide) (fun c_1 => ?_) (fun c_1 => ?_)
  · have hf := im c_1 hf
    refine lv_iconst (v := 0) hx hb dX5_hasComeOut_19 (by decide) ?_
    cases hf
    exact W.zret hx hb hr rfl (fun t ht hW => ⟨_, rfl, rfl, ht⟩) (fun _ h => by cases h) dX5_hasComeOut_20
  · have hf := ip c_1 hf
    refine lv_iconst (v := 1) hx hb dX5_hasComeOut_15 (by decide) ?_
    refine lv_goto (tgt := 20) hx hb dX5_hasComeOut_16 (by decide) ?_
    cases hf
    exact W.zret hx hb hr rfl (fun t ht hW => ⟨_, rfl, rfl, ht⟩) (fun _ h => by cases h) dX5_hasComeOut_20
theorem uX5_looseTellers_X0 : ∀ w ∈ wsX00, w ∈ wsX5_looseTellers := fun w h => List.mem_cons_of_mem _ (List.mem_append_left _ (List.mem_append_right _ h))
theorem uX5_looseTellers_X5 : ∀ w ∈ wsX50, w ∈ wsX5_looseTellers := fun w h => List.mem_cons_of_mem _ (List.mem_append_left _ (List.mem_append_left _ (List.mem_append_right _ h)))
set_option maxHeartbeats 4000000 in
set_option maxRecDepth 100000 in
theorem c_X5_looseTellers (l : Launch) (D : va_G) (cI cC cL cB : ClassId) (h : Nat) (h_page : Nat) (h_laid : Nat) (h_draft : Nat) (h_now : Nat) (h_trial : Nat) (h_past : Nat) (h_sightings : Nat) (h_kept : Nat) (h_told : Nat) (h_laid_kinds : Nat) (h_laid_prices : Nat) (h_laid_persons : Nat) (h_laid_places : Nat) (h_laid_hours : Nat) (h_laid_weights : Nat) (h_laid_numbers : Nat) (a1 : Int32) (h_keptCount : Int32) (h_laid_pieces : Int32) (h_laid_roomsAtFirst : Int32) (h_laid_deeds : Int32) (h_laid_coins : Int32) (h_laid_law : Int32) (h_now_rooms : Int32) (h_now_bought : Int32) (h_now_spoken : Int32) (h_now_out : Int32) (h_now_coins : Int32) (h_laid_kinds_c : Nat → Int32) (h_laid_places_c : Nat → Int32) (h_laid_hours_c : Nat → Int32) (h_laid_weights_c : Nat → Int32) (r : Int32) (hf : m_X5_looseTellers a1 h_laid_pieces h_laid_deeds h_laid_law h_now_rooms h_now_bought h_now_spoken h_laid_kinds_c h_laid_places_c h_laid_hours_c h_laid_weights_c = some r) : Met l yX5_looseTellers wsX5_looseTellers ({ frames := 3, cells := 0, slots := 0, locals := 75 }) (va_Pc [.ref h, .int a1] (q_R D vwCl (tyL cI cC cL cB) [(h, .inr (5, [.ref h_page, .ref h_laid, .ref h_draft, .ref h_now, .ref h_trial, .ref h_past, .ref h_sightings, .ref h_kept, .int h_keptCount, .ref h_told])), (h_laid, .inr (0, [.int h_laid_pieces, .ref h_laid_kinds, .ref h_laid_prices, .int h_laid_roomsAtFirst, .int h_laid_deeds, .ref h_laid_persons, .ref h_laid_places, .ref h_laid_hours, .ref h_laid_weights, .int h_laid_coins, .int h_laid_law, .ref h_laid_numbers])), (h_now, .inr (4, [.int h_now_rooms, .int h_now_bought, .int h_now_spoken, .int h_now_out, .int h_now_coins])), (h_laid_kinds, .inl (cI, 8, .inl h_laid_kinds_c)), (h_laid_places, .inl (cI, 9, .inl h_laid_places_c)), (h_laid_hours, .inl (cI, 9, .inl h_laid_hours_c)), (h_laid_weights, .inl (cI, 9, .inl h_laid_weights_c))])) (vp_Si (fun r' => r' = r)) 0 0 (fun _ => False) := by
  refine Met.ofW (cc := cX5_looseTellers) (maxL := 4) (ret := (some .int)) (by decide) rfl ?_
  intro p e s m args below meth c s₁ B hml hv
  obtain ⟨rfl, hP, hK⟩ := hv
  have hx := B.exec
  have hb := B.bytes
  have hr := B.returns
  have hts := atoms_spec (ws := wsX5_looseTellers) B.pre
  have hown : s.vm.findClass RX5 = some m.cls := findClass_of_methodNamed B.named
  have hlocks := B.notSynchronized
  have hl := lv_entry ([.ref h, .int a1]) (n := 4) (Nat.le_of_ble_eq_true rfl)
  rw [lg_entry_eq]
  generalize (lg_sl ([.ref h, .int a1]) ++ List.replicate (4 - (lg_sl ([.ref h, .int a1])).length) Slot.unset).toArray = ls at hl ⊢
  have hl : lv_has ls 4 [(0, .ref h), (1, .int a1)] := hl
  unfold m_X5_looseTellers at hf
  refine lv_iconst (v := 0) hx hb dX5_looseTellers_0 (by decide) ?_
  refine lv_istore_n (lv' := [(2, .int 0), (0, .ref h), (1, .int a1)]) hx hb dX5_looseTellers_1 rfl hl (by decide) rfl (fun ls hl => ?_)
  refine lv_iconst (v := 0) hx hb dX5_looseTellers_2 (by decide) ?_
  refine lv_istore_n (lv' := [(3, .int 0), (2, .int 0), (0, .ref h), (1, .int a1)]) hx hb dX5_looseTellers_3 rfl hl (by decide) rfl (fun ls hl => ?_)
  have loop4 : ∀ (n : Nat) (x1 : Int32) (x2 : Int32), ∀ (ls : Array Slot), lv_has ls 4 [(0, .ref h), (1, .int a1), (2, .int x1), (3, .int x2)] → ∀ (x3 : Int32), L_X5_looseTellers_4 h_laid_pieces h_now_bought h_now_spoken h_laid_law h_laid_kinds_c h_now_rooms h_laid_deeds h_laid_places_c h_laid_hours_c h_laid_weights_c a1 n x1 x2 = some x3 → (∀ (ls : Array Slot), lv_has ls 4 [(2, .int x3)] → W p l e (headSpec wsX5_looseTellers ({ frames := 3, cells := 0, slots := 0, locals := 75 })).room s m ([.ref h, .int a1] : List Value).toArray below meth c s.heap [] 0 0 (MQ below (vp_Si (fun r' => r' = r)) ([.ref h, .int a1] : List Value).toArray s 0 0 (fun _ => False)) (F0 m 60 ls [])) → W p l e (headSpec wsX5_looseTellers ({ frames := 3, cells := 0, slots := 0, locals := 75 })).room s m ([.ref h, .int a1] : List Value).toArray below meth c s.heap [] 0 0 (MQ below (vp_Si (fun r' => r' = r)) ([.ref h, .int a1] : List Value).toArray s 0 0 (fun _ => False)) (F0 m 4 ls []) := by
    intro n
    induction n with
    | zero =>
      intro x1 x2 ls hl x3 hf KX
      rw [L_X5_looseTellers_4] at hf
      cases hf
    | succ n ih =>
      intro x1 x2 ls hl x3 hf KX
      rw [L_X5_looseTellers_4] at hf
      refine lv_iload_n hx hb dX5_looseTellers_4 rfl (lv_at hl 3 rfl) ?_
      refine lv_aload_n hx hb dX5_looseTellers_5 rfl (lv_at hl 0 rfl) ?_
      refine va_get (D := D) (ci := 5) (v := .ref h_laid) (C := RX5) (T := TX5) (N := 10) hx hb hts uX5_looseTellers_X5 hown hK hP 0 rfl rfl 1 (by decide) (hts (.fieldLink RX5 19 "SpeaksForTheChair" "laid" "LSpeaksForTheChair$House;") (List.mem_of_getElem? (i := 1) rfl)) (fun _ h9 => h9) rfl dX5_looseTellers_6 ?_
      refine va_get (D := D) (ci := 0) (v := .int h_laid_pieces) (C := RX0) (T := TX0) (N := 12) hx hb hts uX5_looseTellers_X0 hown hK hP 1 rfl rfl 0 (by decide) (hts (.fieldLink RX5 91 "SpeaksForTheChair$House" "pieces" "I") (List.mem_of_getElem? (i := 2) rfl)) (fun _ h9 => h9) rfl dX5_looseTellers_9 ?_
      refine lv_icmp_ge (tgt := 60) hx hb dX5_looseTellers_12 (by decide) (fun c_13 => ?_) (fun c_13 => ?_)
      · have hf := ip c_13 hf
        cases hf
        exact KX ls (lv_sub hl [2] rfl)
      · have hf := im c_13 hf
        refine lv_aload_n hx hb dX5_looseTellers_15 rfl (lv_at hl 0 rfl) ?_
        refine lv_aload_n hx hb dX5_looseTellers_16 rfl (lv_at hl 0 rfl) ?_
        refine va_get (D := D) (ci := 5) (v := .ref h_now) (C := RX5) (T := TX5) (N := 10) hx hb hts uX5_looseTellers_X5 hown hK hP 0 rfl rfl 3 (by decide) (hts (.fieldLink RX5 29 "SpeaksForTheChair" "now" "LSpeaksForTheChair$Standing;") (List.mem_of_getElem? (i := 3) rfl)) (fun _ h9 => h9) rfl dX5_looseTellers_17 ?_
        refine lv_iload_n hx hb dX5_looseTellers_20 rfl (lv_at hl 3 rfl) ?_
        obtain ⟨x4, hv_14, hf⟩ := ob1_some hf
        refine q_rVi (As := [.ref h_now, .int x2]) (rest := []) (r := x4) ⟨hx, hb, hml, hown, hts⟩ (c_X5_isLoose l D cI cC cL cB h h_now h_page h_laid h_draft h_now h_trial h_past h_sightings h_kept h_told h_laid_kinds h_laid_prices h_laid_persons h_laid_places h_laid_hours h_laid_weights h_laid_numbers x2 h_now_rooms h_now_bought h_now_spoken h_now_out h_now_coins h_keptCount h_laid_pieces h_laid_roomsAtFirst h_laid_deeds h_laid_coins h_laid_law h_laid_kinds_c x4 hv_14) (cwV 2 hts gX5_looseTellers_X5_isLoose rfl rfl rfl (by decide +kernel) ⟨Nat.le_of_ble_eq_true rfl, Nat.le_of_ble_eq_true rfl⟩) hK hP [2, 0, 1, 3] rfl (va_recv hK hP (ci := 5) (q0 := 0) rfl rfl) rfl hl.1 rfl (Nat.le_of_ble_eq_true rfl) dX5_looseTellers_21 ⟨Nat.le_of_ble_eq_true rfl, Nat.le_of_ble_eq_true rfl⟩ ?_
        refine lv_if_eq (tgt := 54) hx hb dX5_looseTellers_24 (by decide) (fun c_15 => ?_) (fun c_15 => ?_)
        · have hf := ip c_15 hf
          obtain ⟨x5, ex5⟩ : ∃ y : Int32, y = (x2 + 1) := ⟨_, rfl⟩
          have hf := pv_eq ex5 hf
          refine lv_iinc (v := x5) (lv' := [(3, .int x5), (0, .ref h), (1, .int a1), (2, .int x1)]) hx hb dX5_looseTellers_54 hl (k := 3) rfl (by rw [ex5]; rfl) (by decide) rfl (fun ls hl => ?_)
          refine lv_goto (tgt := 4) hx hb dX5_looseTellers_57 (by decide) ?_
          exact ih _ _ ls (lv_sub hl [1, 2, 3, 0] rfl) _ hf KX
        · have hf := im c_15 hf
          refine lv_aload_n hx hb dX5_looseTellers_27 rfl (lv_at hl 0 rfl) ?_
          refine va_get (D := D) (ci := 5) (v := .ref h_laid) (C := RX5) (T := TX5) (N := 10) hx hb hts uX5_looseTellers_X5 hown hK hP 0 rfl rfl 1 (by decide) (hts (.fieldLink RX5 19 "SpeaksForTheChair" "laid" "LSpeaksForTheChair$House;") (List.mem_of_getElem? (i := 1) rfl)) (fun _ h9 => h9) rfl dX5_looseTellers_28 ?_
          refine lv_iload_n hx hb dX5_looseTellers_31 rfl (lv_at hl 3 rfl) ?_
          refine lv_aload_n hx hb dX5_looseTellers_32 rfl (lv_at hl 0 rfl) ?_
          refine va_get (D := D) (ci := 5) (v := .ref h_now) (C := RX5) (T := TX5) (N := 10) hx hb hts uX5_looseTellers_X5 hown hK hP 0 rfl rfl 3 (by decide) (hts (.fieldLink RX5 29 "SpeaksForTheChair" "now" "LSpeaksForTheChair$Standing;") (List.mem_of_getElem? (i := 3) rfl)) (fun _ h9 => h9) rfl dX5_looseTellers_33 ?_
          refine lv_iload_n hx hb dX5_looseTellers_36 rfl (lv_at hl 3 rfl) ?_
          obtain ⟨x6, hv_16, hf⟩ := ob1_some hf
          refine q_rVi (As := [.int x2]) (rest := [.int x2, .ref h_laid]) (r := x6) ⟨hx, hb, hml, hown, hts⟩ (c_X4_roomOf l D cI cC cL cB h_now x2 h_now_rooms h_now_bought h_now_spoken h_now_out h_now_coins x6 hv_16) (cwV 1 hts gX5_looseTellers_X4_roomOf rfl rfl rfl (by decide +kernel) ⟨Nat.le_of_ble_eq_true rfl, Nat.le_of_ble_eq_true rfl⟩) hK hP [2] rfl (va_recv hK hP (ci := 4) (q0 := 2) rfl rfl) rfl hl.1 rfl (Nat.le_of_ble_eq_true rfl) dX5_looseTellers_37 ⟨Nat.le_of_ble_eq_true rfl, Nat.le_of_ble_eq_true rfl⟩ ?_
          obtain ⟨x7, hv_17, hf⟩ := ob1_some hf
          refine q_rVi (As := [.int x2, .int x6]) (rest := []) (r := x7) ⟨hx, hb, hml, hown, hts⟩ (c_X0_toldBy l D cI cC cL cB h_laid h_laid_kinds h_laid_prices h_laid_persons h_laid_places h_laid_hours h_laid_weights h_laid_numbers x2 x6 h_laid_pieces h_laid_roomsAtFirst h_laid_deeds h_laid_coins h_laid_law h_laid_places_c h_laid_kinds_c h_laid_hours_c h_laid_weights_c x7 hv_17) (cwV 2 hts gX5_looseTellers_X0_toldBy rfl rfl rfl (by decide +kernel) ⟨Nat.le_of_ble_eq_true rfl, Nat.le_of_ble_eq_true rfl⟩) hK hP [1, 4, 3, 5, 6] rfl (va_recv hK hP (ci := 0) (q0 := 1) rfl rfl) rfl hl.1 rfl (Nat.le_of_ble_eq_true rfl) dX5_looseTellers_40 ⟨Nat.le_of_ble_eq_true rfl, Nat.le_of_ble_eq_true rfl⟩ ?_
          refine lv_iload_n hx hb dX5_looseTellers_43 rfl (lv_at hl 1 rfl) ?_
          refine lv_iand hx hb dX5_looseTellers_44 ?_
          refine lv_if_eq (tgt := 54) hx hb dX5_looseTellers_45 (by decide) (fun c_18 => ?_) (fun c_18 => ?_)
          · have hf := ip c_18 hf
            obtain ⟨x8, ex8⟩ : ∃ y : Int32, y = (x2 + 1) := ⟨_, rfl⟩
            have hf := pv_eq ex8 hf
            refine lv_iinc (v := x8) (lv' := [(3, .int x8), (0, .ref h), (1, .int a1), (2, .int x1)]) hx hb dX5_looseTellers_54 hl (k := 3) rfl (by rw [ex8]; rfl) (by decide) rfl (fun ls hl => ?_)
            refine lv_goto (tgt := 4) hx hb dX5_looseTellers_57 (by decide) ?_
            exact ih _ _ ls (lv_sub hl [1, 2, 3, 0] rfl) _ hf KX
          · have hf := im c_18 hf
            refine lv_iload_n hx hb dX5_looseTellers_48 rfl (lv_at hl 2 rfl) ?_
            refine lv_iconst (v := 1) hx hb dX5_looseTellers_49 (by decide) ?_
            refine lv_iload_n hx hb dX5_looseTellers_50 rfl (lv_at hl 3 rfl) ?_
            refine lv_ishl hx hb dX5_looseTellers_51 ?_
            refine lv_ior hx hb dX5_looseTellers_52 ?_
            refine lv_topi (fun x9 ex9 => ?_)
            have hf := pv_eq ex9 hf
            refine lv_istore_n (lv' := [(2, .int x9), (0, .ref h), (1, .int a1), (3, .int x2)]) hx hb dX5_looseTellers_53 rfl hl (by decide) rfl (fun ls hl => ?_)
            obtain ⟨x10, ex10⟩ : ∃ y : Int32, y = (x2 + 1) := ⟨_, rfl⟩
            have hf := pv_eq ex10 hf
            refine lv_iinc (v := x10) (lv' := [(3, .int x10), (2, .int x9), (0, .ref h), (1, .int a1)]) hx hb dX5_looseTellers_54 hl (k := 3) rfl (by rw [ex10]; rfl) (by decide) rfl (fun ls hl => ?_)
            refine lv_goto (tgt := 4) hx hb dX5_looseTellers_57 (by decide) ?_
            exact ih _ _ ls (lv_sub hl [2, 3, 1, 0] rfl) _ hf KX
  obtain ⟨x3, hr4, hf⟩ := ob1_some hf
  refine loop4 300 _ _ ls (lv_sub hl [2, 3, 1, 0] rfl) _ hr4 (fun ls hl => ?_)
  refine lv_iload_n hx hb dX5_looseTellers_60 rfl (lv_at hl 0 rfl) ?_
  cases hf
  exact W.iret hx hb hr (fun t ht hW => ⟨_, rfl, rfl, ht⟩) (fun _ h => by cases h) dX5_looseTellers_61
theorem uX5_deed_X0 : ∀ w ∈ wsX00, w ∈ wsX5_deed := fun w h => List.mem_cons_of_mem _ (List.mem_append_left _ (List.mem_append_right _ h))
theorem uX5_deed_X5 : ∀ w ∈ wsX50, w ∈ wsX5_deed := fun w h => List.mem_cons_of_mem _ (List.mem_append_left _ (List.mem_append_left _ (List.mem_append_right _ h)))
set_option maxHeartbeats 4000000 in
set_option maxRecDepth 100000 in
theorem c_X5_deed (l : Launch) (D : va_G) (cI cC cL cB : ClassId) (h : Nat) (h_page : Nat) (h_laid : Nat) (h_draft : Nat) (h_now : Nat) (h_trial : Nat) (h_past : Nat) (h_sightings : Nat) (h_kept : Nat) (h_told : Nat) (h_laid_kinds : Nat) (h_laid_prices : Nat) (h_laid_persons : Nat) (h_laid_places : Nat) (h_laid_hours : Nat) (h_laid_weights : Nat) (h_laid_numbers : Nat) (a1 : Int32) (a2 : Int32) (h_keptCount : Int32) (h_laid_pieces : Int32) (h_laid_roomsAtFirst : Int32) (h_laid_deeds : Int32) (h_laid_coins : Int32) (h_laid_law : Int32) (h_now_rooms : Int32) (h_now_bought : Int32) (h_now_spoken : Int32) (h_now_out : Int32) (h_now_coins : Int32) (h_laid_kinds_c : Nat → Int32) (h_laid_places_c : Nat → Int32) (h_laid_hours_c : Nat → Int32) (h_laid_weights_c : Nat → Int32) (h_laid_persons_c : Nat → Int32) (r : Int32) (hf : m_X5_deed a1 a2 h_laid_pieces h_laid_deeds h_laid_law h_now_rooms h_now_bought h_now_spoken h_now_out h_laid_kinds_c h_laid_places_c h_laid_hours_c h_laid_weights_c h_laid_persons_c = some r) : Met l yX5_deed wsX5_deed ({ frames := 4, cells := 0, slots := 0, locals := 98 }) (va_Pc [.ref h, .int a1, .int a2] (q_R D vwCl (tyL cI cC cL cB) [(h, .inr (5, [.ref h_page, .ref h_laid, .ref h_draft, .ref h_now, .ref h_trial, .ref h_past, .ref h_sightings, .ref h_kept, .int h_keptCount, .ref h_told])), (h_laid, .inr (0, [.int h_laid_pieces, .ref h_laid_kinds, .ref h_laid_prices, .int h_laid_roomsAtFirst, .int h_laid_deeds, .ref h_laid_persons, .ref h_laid_places, .ref h_laid_hours, .ref h_laid_weights, .int h_laid_coins, .int h_laid_law, .ref h_laid_numbers])), (h_now, .inr (4, [.int h_now_rooms, .int h_now_bought, .int h_now_spoken, .int h_now_out, .int h_now_coins])), (h_laid_kinds, .inl (cI, 8, .inl h_laid_kinds_c)), (h_laid_places, .inl (cI, 9, .inl h_laid_places_c)), (h_laid_hours, .inl (cI, 9, .inl h_laid_hours_c)), (h_laid_weights, .inl (cI, 9, .inl h_laid_weights_c)), (h_laid_persons, .inl (cI, 9, .inl h_laid_persons_c))])) (vp_Si (fun r' => r' = r)) 0 0 (fun _ => False) := by
  refine Met.ofW (cc := cX5_deed) (maxL := 3) (ret := (some .int)) (by decide) rfl ?_
  intro p e s m args below meth c s₁ B hml hv
  obtain ⟨rfl, hP, hK⟩ := hv
  have hx := B.exec
  have hb := B.bytes
  have hr := B.returns
  have hts := atoms_spec (ws := wsX5_deed) B.pre
  have hown : s.vm.findClass RX5 = some m.cls := findClass_of_methodNamed B.named
  have hlocks := B.notSynchronized
  have hl := lv_entry ([.ref h, .int a1, .int a2]) (n := 3) (Nat.le_of_ble_eq_true rfl)
  rw [lg_entry_eq]
  generalize (lg_sl ([.ref h, .int a1, .int a2]) ++ List.replicate (3 - (lg_sl ([.ref h, .int a1, .int a2])).length) Slot.unset).toArray = ls at hl ⊢
  have hl : lv_has ls 3 [(0, .ref h), (1, .int a1), (2, .int a2)] := hl
  unfold m_X5_deed at hf
  refine lv_aload_n hx hb dX5_deed_0 rfl (lv_at hl 0 rfl) ?_
  refine lv_iload_n hx hb dX5_deed_1 rfl (lv_at hl 1 rfl) ?_
  obtain ⟨x1, hv_1, hf⟩ := ob1_some hf
  refine q_rVi (As := [.int a1]) (rest := []) (r := x1) ⟨hx, hb, hml, hown, hts⟩ (c_X5_isDeed l D cI cC cL cB h h_page h_laid h_draft h_now h_trial h_past h_sightings h_kept h_told h_laid_kinds h_laid_prices h_laid_persons h_laid_places h_laid_hours h_laid_weights h_laid_numbers a1 h_keptCount h_laid_pieces h_laid_roomsAtFirst h_laid_deeds h_laid_coins h_laid_law x1 hv_1) (cwV 1 hts gX5_deed_X5_isDeed rfl rfl rfl (by decide +kernel) ⟨Nat.le_of_ble_eq_true rfl, Nat.le_of_ble_eq_true rfl⟩) hK hP [0, 1] rfl (va_recv hK hP (ci := 5) (q0 := 0) rfl rfl) rfl hl.1 rfl (Nat.le_of_ble_eq_true rfl) dX5_deed_2 ⟨Nat.le_of_ble_eq_true rfl, Nat.le_of_ble_eq_true rfl⟩ ?_
  refine lv_if_ne (tgt := 10) hx hb dX5_deed_5 (by decide) (fun c_2 => ?_) (fun c_2 => ?_)
  · have hf := im c_2 hf
    refine lv_iload_n hx hb dX5_deed_10 rfl (lv_at hl 2 rfl) ?_
    by_cases k0 : a2 = 0
    · have hf := ip k0 hf
      refine lv_tableIn (tgt := 48) hx hb dX5_deed_11 (by rw [k0]; decide) (by rw [k0]; decide) (by rw [k0] <;> rfl) (by decide) ?_
      refine lv_aload_n hx hb dX5_deed_48 rfl (lv_at hl 0 rfl) ?_
      refine va_get (D := D) (ci := 5) (v := .ref h_laid) (C := RX5) (T := TX5) (N := 10) hx hb hts uX5_deed_X5 hown hK hP 0 rfl rfl 1 (by decide) (hts (.fieldLink RX5 19 "SpeaksForTheChair" "laid" "LSpeaksForTheChair$House;") (List.mem_of_getElem? (i := 1) rfl)) (fun _ h9 => h9) rfl dX5_deed_49 ?_
      refine va_get (D := D) (ci := 0) (v := .ref h_laid_persons) (C := RX0) (T := TX0) (N := 12) hx hb hts uX5_deed_X0 hown hK hP 1 rfl rfl 5 (by decide) (hts (.fieldLink RX5 137 "SpeaksForTheChair$House" "persons" "[I") (List.mem_of_getElem? (i := 2) rfl)) (fun _ h9 => h9) rfl dX5_deed_52 ?_
      refine lv_iload_n hx hb dX5_deed_55 rfl (lv_at hl 1 rfl) ?_
      obtain ⟨g_9, hf⟩ := gu_in hf
      refine va_iald hx hb hK hP 7 0 rfl rfl g_9 dX5_deed_56 ?_
      cases hf
      exact W.iret hx hb hr (fun t ht hW => ⟨_, rfl, rfl, ht⟩) (fun _ h => by cases h) dX5_deed_57
    · have hf := im k0 hf
      by_cases k1 : a2 = 1
      · have hf := ip k1 hf
        refine lv_tableIn (tgt := 58) hx hb dX5_deed_11 (by rw [k1]; decide) (by rw [k1]; decide) (by rw [k1] <;> rfl) (by decide) ?_
        refine lv_aload_n hx hb dX5_deed_58 rfl (lv_at hl 0 rfl) ?_
        refine va_get (D := D) (ci := 5) (v := .ref h_laid) (C := RX5) (T := TX5) (N := 10) hx hb hts uX5_deed_X5 hown hK hP 0 rfl rfl 1 (by decide) (hts (.fieldLink RX5 19 "SpeaksForTheChair" "laid" "LSpeaksForTheChair$House;") (List.mem_of_getElem? (i := 1) rfl)) (fun _ h9 => h9) rfl dX5_deed_59 ?_
        refine va_get (D := D) (ci := 0) (v := .ref h_laid_places) (C := RX0) (T := TX0) (N := 12) hx hb hts uX5_deed_X0 hown hK hP 1 rfl rfl 6 (by decide) (hts (.fieldLink RX5 140 "SpeaksForTheChair$House" "places" "[I") (List.mem_of_getElem? (i := 3) rfl)) (fun _ h9 => h9) rfl dX5_deed_62 ?_
        refine lv_iload_n hx hb dX5_deed_65 rfl (lv_at hl 1 rfl) ?_
        obtain ⟨g_8, hf⟩ := gu_in hf
        refine va_iald hx hb hK hP 4 0 rfl rfl g_8 dX5_deed_66 ?_
        cases hf
        exact W.iret hx hb hr (fun t ht hW => ⟨_, rfl, rfl, ht⟩) (fun _ h => by cases h) dX5_deed_67
      · have hf := im k1 hf
        by_cases k2 : a2 = 2
        · have hf := ip k2 hf
          refine lv_tableIn (tgt := 68) hx hb dX5_deed_11 (by rw [k2]; decide) (by rw [k2]; decide) (by rw [k2] <;> rfl) (by decide) ?_
          refine lv_aload_n hx hb dX5_deed_68 rfl (lv_at hl 0 rfl) ?_
          refine va_get (D := D) (ci := 5) (v := .ref h_laid) (C := RX5) (T := TX5) (N := 10) hx hb hts uX5_deed_X5 hown hK hP 0 rfl rfl 1 (by decide) (hts (.fieldLink RX5 19 "SpeaksForTheChair" "laid" "LSpeaksForTheChair$House;") (List.mem_of_getElem? (i := 1) rfl)) (fun _ h9 => h9) rfl dX5_deed_69 ?_
          refine va_get (D := D) (ci := 0) (v := .ref h_laid_hours) (C := RX0) (T := TX0) (N := 12) hx hb hts uX5_deed_X0 hown hK hP 1 rfl rfl 7 (by decide) (hts (.fieldLink RX5 143 "SpeaksForTheChair$House" "hours" "[I") (List.mem_of_getElem? (i := 4) rfl)) (fun _ h9 => h9) rfl dX5_deed_72 ?_
          refine lv_iload_n hx hb dX5_deed_75 rfl (lv_at hl 1 rfl) ?_
          obtain ⟨g_7, hf⟩ := gu_in hf
          refine va_iald hx hb hK hP 5 0 rfl rfl g_7 dX5_deed_76 ?_
          cases hf
          exact W.iret hx hb hr (fun t ht hW => ⟨_, rfl, rfl, ht⟩) (fun _ h => by cases h) dX5_deed_77
        · have hf := im k2 hf
          by_cases k3 : a2 = 3
          · have hf := ip k3 hf
            refine lv_tableIn (tgt := 78) hx hb dX5_deed_11 (by rw [k3]; decide) (by rw [k3]; decide) (by rw [k3] <;> rfl) (by decide) ?_
            refine lv_aload_n hx hb dX5_deed_78 rfl (lv_at hl 0 rfl) ?_
            refine va_get (D := D) (ci := 5) (v := .ref h_laid) (C := RX5) (T := TX5) (N := 10) hx hb hts uX5_deed_X5 hown hK hP 0 rfl rfl 1 (by decide) (hts (.fieldLink RX5 19 "SpeaksForTheChair" "laid" "LSpeaksForTheChair$House;") (List.mem_of_getElem? (i := 1) rfl)) (fun _ h9 => h9) rfl dX5_deed_79 ?_
            refine va_get (D := D) (ci := 0) (v := .ref h_laid_weights) (C := RX0) (T := TX0) (N := 12) hx hb hts uX5_deed_X0 hown hK hP 1 rfl rfl 8 (by decide) (hts (.fieldLink RX5 146 "SpeaksForTheChair$House" "weights" "[I") (List.mem_of_getElem? (i := 5) rfl)) (fun _ h9 => h9) rfl dX5_deed_82 ?_
            refine lv_iload_n hx hb dX5_deed_85 rfl (lv_at hl 1 rfl) ?_
            obtain ⟨g_6, hf⟩ := gu_in hf
            refine va_iald hx hb hK hP 6 0 rfl rfl g_6 dX5_deed_86 ?_
            cases hf
            exact W.iret hx hb hr (fun t ht hW => ⟨_, rfl, rfl, ht⟩) (fun _ h => by cases h) dX5_deed_87
          · have hf := im k3 hf
            by_cases k4 : a2 = 4
            · have hf := ip k4 hf
              refine lv_tableIn (tgt := 88) hx hb dX5_deed_11 (by rw [k4]; decide) (by rw [k4]; decide) (by rw [k4] <;> rfl) (by decide) ?_
              refine lv_aload_n hx hb dX5_deed_88 rfl (lv_at hl 0 rfl) ?_
              refine lv_iload_n hx hb dX5_deed_89 rfl (lv_at hl 1 rfl) ?_
              obtain ⟨x3, hv_4, hf⟩ := ob1_some hf
              refine q_rVi (As := [.int a1]) (rest := []) (r := x3) ⟨hx, hb, hml, hown, hts⟩ (c_X5_hasComeOut l D cI cC cL cB h h_page h_laid h_draft h_now h_trial h_past h_sightings h_kept h_told a1 h_keptCount h_now_rooms h_now_bought h_now_spoken h_now_out h_now_coins x3 hv_4) (cwV 1 hts gX5_deed_X5_hasComeOut rfl rfl rfl (by decide +kernel) ⟨Nat.le_of_ble_eq_true rfl, Nat.le_of_ble_eq_true rfl⟩) hK hP [0, 2] rfl (va_recv hK hP (ci := 5) (q0 := 0) rfl rfl) rfl hl.1 rfl (Nat.le_of_ble_eq_true rfl) dX5_deed_90 ⟨Nat.le_of_ble_eq_true rfl, Nat.le_of_ble_eq_true rfl⟩ ?_
              refine lv_if_eq (tgt := 100) hx hb dX5_deed_93 (by decide) (fun c_5 => ?_) (fun c_5 => ?_)
              · have hf := ip c_5 hf
                refine lv_iconst (v := 0) hx hb dX5_deed_100 (by decide) ?_
                cases hf
                exact W.iret hx hb hr (fun t ht hW => ⟨_, rfl, rfl, ht⟩) (fun _ h => by cases h) dX5_deed_101
              · have hf := im c_5 hf
                refine lv_iconst (v := 1) hx hb dX5_deed_96 (by decide) ?_
                refine lv_goto (tgt := 101) hx hb dX5_deed_97 (by decide) ?_
                cases hf
                exact W.iret hx hb hr (fun t ht hW => ⟨_, rfl, rfl, ht⟩) (fun _ h => by cases h) dX5_deed_101
            · have hf := im k4 hf
              by_cases k5 : a2 = 5
              · have hf := ip k5 hf
                refine lv_tableIn (tgt := 102) hx hb dX5_deed_11 (by rw [k5]; decide) (by rw [k5]; decide) (by rw [k5] <;> rfl) (by decide) ?_
                refine lv_aload_n hx hb dX5_deed_102 rfl (lv_at hl 0 rfl) ?_
                refine lv_iconst (v := 1) hx hb dX5_deed_103 (by decide) ?_
                refine lv_iload_n hx hb dX5_deed_104 rfl (lv_at hl 1 rfl) ?_
                refine lv_ishl hx hb dX5_deed_105 ?_
                obtain ⟨x2, hv_3, hf⟩ := ob1_some hf
                refine q_rVi (As := [.int ((1 : Int32) <<< (a1 &&& 31))]) (rest := []) (r := x2) ⟨hx, hb, hml, hown, hts⟩ (c_X5_looseTellers l D cI cC cL cB h h_page h_laid h_draft h_now h_trial h_past h_sightings h_kept h_told h_laid_kinds h_laid_prices h_laid_persons h_laid_places h_laid_hours h_laid_weights h_laid_numbers (((1 : Int32) <<< (a1 &&& 31))) h_keptCount h_laid_pieces h_laid_roomsAtFirst h_laid_deeds h_laid_coins h_laid_law h_now_rooms h_now_bought h_now_spoken h_now_out h_now_coins h_laid_kinds_c h_laid_places_c h_laid_hours_c h_laid_weights_c x2 hv_3) (cwV 1 hts gX5_deed_X5_looseTellers rfl rfl rfl (by decide +kernel) ⟨Nat.le_of_ble_eq_true rfl, Nat.le_of_ble_eq_true rfl⟩) hK hP [0, 1, 2, 3, 4, 5, 6] rfl (va_recv hK hP (ci := 5) (q0 := 0) rfl rfl) rfl hl.1 rfl (Nat.le_of_ble_eq_true rfl) dX5_deed_106 ⟨Nat.le_of_ble_eq_true rfl, Nat.le_of_ble_eq_true rfl⟩ ?_
                cases hf
                exact W.iret hx hb hr (fun t ht hW => ⟨_, rfl, rfl, ht⟩) (fun _ h => by cases h) dX5_deed_109
              · have hf := im k5 hf
                refine lv_tableOut (tgt := 110) hx hb dX5_deed_11 (sw_out 6 (fun k hk => ?_)) (by decide) ?_
                · rcases (show k = 0 ∨ k = 1 ∨ k = 2 ∨ k = 3 ∨ k = 4 ∨ k = 5 by omega) with rfl | rfl | rfl | rfl | rfl | rfl
                  · exact lv_neT k0 rfl
                  · exact lv_neT k1 rfl
                  · exact lv_neT k2 rfl
                  · exact lv_neT k3 rfl
                  · exact lv_neT k4 rfl
                  · exact lv_neT k5 rfl
                · refine lv_iconst (v := (-1)) hx hb dX5_deed_110 (by decide) ?_
                  cases hf
                  exact W.iret hx hb hr (fun t ht hW => ⟨_, rfl, rfl, ht⟩) (fun _ h => by cases h) dX5_deed_111
  · have hf := ip c_2 hf
    refine lv_iconst (v := (-1)) hx hb dX5_deed_8 (by decide) ?_
    cases hf
    exact W.iret hx hb hr (fun t ht hW => ⟨_, rfl, rfl, ht⟩) (fun _ h => by cases h) dX5_deed_9
theorem uX4_packed_X4 : ∀ w ∈ wsX40, w ∈ wsX4_packed := fun w h => List.mem_cons_of_mem _ (List.mem_append_right _ h)
set_option maxHeartbeats 4000000 in
set_option maxRecDepth 100000 in
theorem c_X4_packed (l : Launch) (D : va_G) (cI cC cL cB : ClassId) (h : Nat) (h_rooms : Int32) (h_bought : Int32) (h_spoken : Int32) (h_out : Int32) (h_coins : Int32) (r : Int64) (hf : m_X4_packed h_rooms h_bought h_spoken h_out h_coins = some r) : Met l yX4_packed wsX4_packed ({ frames := 0, cells := 0, slots := 0, locals := 0 }) (va_Pc [.ref h] (q_R D vwCl (tyL cI cC cL cB) [(h, .inr (4, [.int h_rooms, .int h_bought, .int h_spoken, .int h_out, .int h_coins]))])) (vp_Sl (fun r' => r' = r)) 0 0 (fun _ => False) := by
  refine Met.ofW (cc := cX4_packed) (maxL := 1) (ret := (some .long)) (by decide) rfl ?_
  intro p e s m args below meth c s₁ B hml hv
  obtain ⟨rfl, hP, hK⟩ := hv
  have hx := B.exec
  have hb := B.bytes
  have hr := B.returns
  have hts := atoms_spec (ws := wsX4_packed) B.pre
  have hown : s.vm.findClass RX4 = some m.cls := findClass_of_methodNamed B.named
  have hlocks := B.notSynchronized
  have hl := lv_entry ([.ref h]) (n := 1) (Nat.le_of_ble_eq_true rfl)
  rw [lg_entry_eq]
  generalize (lg_sl ([.ref h]) ++ List.replicate (1 - (lg_sl ([.ref h])).length) Slot.unset).toArray = ls at hl ⊢
  have hl : lv_has ls 1 [(0, .ref h)] := hl
  unfold m_X4_packed at hf
  refine lv_aload_n hx hb dX4_packed_0 rfl (lv_at hl 0 rfl) ?_
  refine va_get (D := D) (ci := 4) (v := .int h_coins) (C := RX4) (T := TX4) (N := 5) hx hb hts uX4_packed_X4 hown hK hP 0 rfl rfl 4 (by decide) (hts (.fieldLink RX4 24 "SpeaksForTheChair$Standing" "coins" "I") (List.mem_of_getElem? (i := 1) rfl)) (fun _ h9 => h9) rfl dX4_packed_1 ?_
  refine lv_i2l hx hb dX4_packed_4 rfl ?_
  refine lv_bipush (v := 48) hx hb dX4_packed_5 (by decide) ?_
  refine lv_lshl hx hb dX4_packed_7 rfl ?_
  refine lv_aload_n hx hb dX4_packed_8 rfl (lv_at hl 0 rfl) ?_
  refine va_get (D := D) (ci := 4) (v := .int h_out) (C := RX4) (T := TX4) (N := 5) hx hb hts uX4_packed_X4 hown hK hP 0 rfl rfl 3 (by decide) (hts (.fieldLink RX4 21 "SpeaksForTheChair$Standing" "out" "I") (List.mem_of_getElem? (i := 2) rfl)) (fun _ h9 => h9) rfl dX4_packed_9 ?_
  refine lv_i2l hx hb dX4_packed_12 rfl ?_
  refine lv_bipush (v := 32) hx hb dX4_packed_13 (by decide) ?_
  refine lv_lshl hx hb dX4_packed_15 rfl ?_
  refine lv_lor hx hb dX4_packed_16 ?_
  refine lv_aload_n hx hb dX4_packed_17 rfl (lv_at hl 0 rfl) ?_
  refine va_get (D := D) (ci := 4) (v := .int h_spoken) (C := RX4) (T := TX4) (N := 5) hx hb hts uX4_packed_X4 hown hK hP 0 rfl rfl 2 (by decide) (hts (.fieldLink RX4 18 "SpeaksForTheChair$Standing" "spoken" "I") (List.mem_of_getElem? (i := 3) rfl)) (fun _ h9 => h9) rfl dX4_packed_18 ?_
  refine lv_i2l hx hb dX4_packed_21 rfl ?_
  refine lv_bipush (v := 24) hx hb dX4_packed_22 (by decide) ?_
  refine lv_lshl hx hb dX4_packed_24 rfl ?_
  refine lv_lor hx hb dX4_packed_25 ?_
  refine lv_aload_n hx hb dX4_packed_26 rfl (lv_at hl 0 rfl) ?_
  refine va_get (D := D) (ci := 4) (v := .int h_bought) (C := RX4) (T := TX4) (N := 5) hx hb hts uX4_packed_X4 hown hK hP 0 rfl rfl 1 (by decide) (hts (.fieldLink RX4 15 "SpeaksForTheChair$Standing" "bought" "I") (List.mem_of_getElem? (i := 4) rfl)) (fun _ h9 => h9) rfl dX4_packed_27 ?_
  refine lv_i2l hx hb dX4_packed_30 rfl ?_
  refine lv_bipush (v := 16) hx hb dX4_packed_31 (by decide) ?_
  refine lv_lshl hx hb dX4_packed_33 rfl ?_
  refine lv_lor hx hb dX4_packed_34 ?_
  refine lv_aload_n hx hb dX4_packed_35 rfl (lv_at hl 0 rfl) ?_
  refine va_get (D := D) (ci := 4) (v := .int h_rooms) (C := RX4) (T := TX4) (N := 5) hx hb hts uX4_packed_X4 hown hK hP 0 rfl rfl 0 (by decide) (hts (.fieldLink RX4 9 "SpeaksForTheChair$Standing" "rooms" "I") (List.mem_of_getElem? (i := 5) rfl)) (fun _ h9 => h9) rfl dX4_packed_36 ?_
  refine lv_i2l hx hb dX4_packed_39 rfl ?_
  refine lv_lor hx hb dX4_packed_40 ?_
  cases hf
  exact W.lret hx hb hr (fun t ht hW => ⟨_, rfl, rfl, ht⟩) (fun _ h => by cases h) dX4_packed_41
