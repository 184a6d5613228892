/-! contracts: X6_lay, X6_asItIs, X6_roomOf, X6_hourOf, X6_weighs, X6_laterThan, X6_doesTell, X6_toldBy, X6_isLoose, X6_loose, X6_tellers, X6_priceOf, X6_allWeigh, X6_toldByAll, X6_piece, X6_deed, X6_remembers -/
theorem uX6_lay_X6 : ∀ w ∈ wsX60, w ∈ wsX6_lay := fun w h => List.mem_cons_of_mem _ (List.mem_append_right _ h)
set_option maxHeartbeats 4000000 in
set_option maxRecDepth 100000 in
theorem c_X6_lay (l : Launch) (D : va_G) (cI cC cL cB : ClassId) (sz : Nat) (h : Nat) (h_piece : Nat) (h_deed : Nat) (h_st : Nat) (h_was : Nat) (h_kept : Nat) (h_seen : Nat) (h_text : Nat) (h_told : Nat) (h_readPiece : Nat) (h_readRoom : Nat) (h_readDeed : Nat) (h_now : Nat) (h_pieces : Int32) (h_deeds : Int32) (h_law : Int32) (h_acts : Int32) (h_keeps : Int32) (h_seens : Int32) (h_texted : Int32) (h_at : Int32) (h_readPieces : Int32) (h_readDeeds : Int32) (h_readCoins : Int32) (h_readLaw : Int32) (h_text_c : Nat → Int32) (h_told_c : Nat → Int32) (h_readPiece_c : Nat → Int32) (h_readRoom_c : Nat → Int32) (h_readDeed_c : Nat → Int32) (h_piece_c : Nat → Int32) (h_deed_c : Nat → Int32) (h_st_c : Nat → Int32) (r : Int32) (o0 : Int32) (o1 : Int32) (o2 : Int32) (o3 : Int32) (o4 : Int32) (o5 : Int32) (o6 : Int32) (o7 : Int32) (o8 : Int32) (o9 : Int32) (o10 : Int32) (o11 : Nat → Int32) (o12 : Nat → Int32) (o13 : Nat → Int32) (o14 : Nat → Int32) (o15 : Nat → Int32) (o16 : Nat → Int32) (o17 : Nat → Int32) (hf : m_X6_lay h_pieces h_deeds h_law h_acts h_keeps h_seens h_texted h_text_c h_told_c h_readPiece_c h_readRoom_c h_readDeed_c h_piece_c h_deed_c h_st_c = some (r, o0, o1, o2, o3, o4, o5, o6, o7, o8, o9, o10, o11, o12, o13, o14, o15, o16, o17)) : Met l yX6_lay wsX6_lay ({ frames := 6, cells := 0, slots := 0, locals := 127 }) (va_Pc [.ref h] (q_W D vwCl (tyL cI cC cL cB) [(h, .inr (6, [.int h_pieces, .ref h_piece, .int h_deeds, .ref h_deed, .int h_law, .ref h_st, .int h_acts, .ref h_was, .int h_keeps, .ref h_kept, .int h_seens, .ref h_seen, .ref h_text, .int h_texted, .int h_at, .ref h_told, .int h_readPieces, .ref h_readPiece, .ref h_readRoom, .int h_readDeeds, .ref h_readDeed, .int h_readCoins, .int h_readLaw, .ref h_now])), (h_text, .inl (cI, 200, .inl h_text_c)), (h_told, .inl (cI, 4, .inl h_told_c)), (h_readPiece, .inl (cI, 16, .inl h_readPiece_c)), (h_readRoom, .inl (cI, 8, .inl h_readRoom_c)), (h_readDeed, .inl (cI, 40, .inl h_readDeed_c)), (h_piece, .inl (cI, 16, .inl h_piece_c)), (h_deed, .inl (cI, 40, .inl h_deed_c)), (h_st, .inl (cI, 18, .inl h_st_c))] sz)) (va_Qi (fun r' _ => r' = r) (q_E D vwCl (tyL cI cC cL cB) (va_A [(h, .inr (6, [.int h_pieces, .ref h_piece, .int h_deeds, .ref h_deed, .int h_law, .ref h_st, .int h_acts, .ref h_was, .int h_keeps, .ref h_kept, .int h_seens, .ref h_seen, .ref h_text, .int h_texted, .int h_at, .ref h_told, .int h_readPieces, .ref h_readPiece, .ref h_readRoom, .int h_readDeeds, .ref h_readDeed, .int h_readCoins, .int h_readLaw, .ref h_now])), (h_text, .inl (cI, 200, .inl h_text_c)), (h_told, .inl (cI, 4, .inl h_told_c)), (h_readPiece, .inl (cI, 16, .inl h_readPiece_c)), (h_readRoom, .inl (cI, 8, .inl h_readRoom_c)), (h_readDeed, .inl (cI, 40, .inl h_readDeed_c)), (h_piece, .inl (cI, 16, .inl h_piece_c)), (h_deed, .inl (cI, 40, .inl h_deed_c)), (h_st, .inl (cI, 18, .inl h_st_c))] sz) [(h, .inr (6, [.int o0, .ref h_piece, .int o1, .ref h_deed, .int o2, .ref h_st, .int o3, .ref h_was, .int o4, .ref h_kept, .int o5, .ref h_seen, .ref h_text, .int h_texted, .int o6, .ref h_told, .int o7, .ref h_readPiece, .ref h_readRoom, .int o8, .ref h_readDeed, .int o9, .int o10, .ref h_now])), (h_text, .inl (cI, 200, .inl h_text_c)), (h_told, .inl (cI, 4, .inl o11)), (h_readPiece, .inl (cI, 16, .inl o12)), (h_readRoom, .inl (cI, 8, .inl o13)), (h_readDeed, .inl (cI, 40, .inl o14)), (h_piece, .inl (cI, 16, .inl o15)), (h_deed, .inl (cI, 40, .inl o16)), (h_st, .inl (cI, 18, .inl o17))]) (va_A [(h, .inr (6, [.int h_pieces, .ref h_piece, .int h_deeds, .ref h_deed, .int h_law, .ref h_st, .int h_acts, .ref h_was, .int h_keeps, .ref h_kept, .int h_seens, .ref h_seen, .ref h_text, .int h_texted, .int h_at, .ref h_told, .int h_readPieces, .ref h_readPiece, .ref h_readRoom, .int h_readDeeds, .ref h_readDeed, .int h_readCoins, .int h_readLaw, .ref h_now])), (h_text, .inl (cI, 200, .inl h_text_c)), (h_told, .inl (cI, 4, .inl h_told_c)), (h_readPiece, .inl (cI, 16, .inl h_readPiece_c)), (h_readRoom, .inl (cI, 8, .inl h_readRoom_c)), (h_readDeed, .inl (cI, 40, .inl h_readDeed_c)), (h_piece, .inl (cI, 16, .inl h_piece_c)), (h_deed, .inl (cI, 40, .inl h_deed_c)), (h_st, .inl (cI, 18, .inl h_st_c))] sz)) 0 0 (va_A [(h, .inr (6, [.int h_pieces, .ref h_piece, .int h_deeds, .ref h_deed, .int h_law, .ref h_st, .int h_acts, .ref h_was, .int h_keeps, .ref h_kept, .int h_seens, .ref h_seen, .ref h_text, .int h_texted, .int h_at, .ref h_told, .int h_readPieces, .ref h_readPiece, .ref h_readRoom, .int h_readDeeds, .ref h_readDeed, .int h_readCoins, .int h_readLaw, .ref h_now])), (h_text, .inl (cI, 200, .inl h_text_c)), (h_told, .inl (cI, 4, .inl h_told_c)), (h_readPiece, .inl (cI, 16, .inl h_readPiece_c)), (h_readRoom, .inl (cI, 8, .inl h_readRoom_c)), (h_readDeed, .inl (cI, 40, .inl h_readDeed_c)), (h_piece, .inl (cI, 16, .inl h_piece_c)), (h_deed, .inl (cI, 40, .inl h_deed_c)), (h_st, .inl (cI, 18, .inl h_st_c))] sz) := by
  refine Met.ofW (cc := cX6_lay) (maxL := 1) (ret := (some .int)) (by decide) rfl ?_
  intro p e s m args below meth c s₁ B hml hv
  obtain ⟨rfl, hsz, hP, hK, hD0⟩ := hv
  have hx := B.exec
  have hb := B.bytes
  have hr := B.returns
  have hts := atoms_spec (ws := wsX6_lay) B.pre
  have hown : s.vm.findClass RX6 = some m.cls := findClass_of_methodNamed B.named
  have hlocks := B.notSynchronized
  subst hsz
  have hD := hD0.self (sz := s.heap.size)
  generalize hAe : va_A [(h, .inr (6, [.int h_pieces, .ref h_piece, .int h_deeds, .ref h_deed, .int h_law, .ref h_st, .int h_acts, .ref h_was, .int h_keeps, .ref h_kept, .int h_seens, .ref h_seen, .ref h_text, .int h_texted, .int h_at, .ref h_told, .int h_readPieces, .ref h_readPiece, .ref h_readRoom, .int h_readDeeds, .ref h_readDeed, .int h_readCoins, .int h_readLaw, .ref h_now])), (h_text, .inl (cI, 200, .inl h_text_c)), (h_told, .inl (cI, 4, .inl h_told_c)), (h_readPiece, .inl (cI, 16, .inl h_readPiece_c)), (h_readRoom, .inl (cI, 8, .inl h_readRoom_c)), (h_readDeed, .inl (cI, 40, .inl h_readDeed_c)), (h_piece, .inl (cI, 16, .inl h_piece_c)), (h_deed, .inl (cI, 40, .inl h_deed_c)), (h_st, .inl (cI, 18, .inl h_st_c))] s.heap.size = A at hD ⊢
  have hA : ∀ q : Nat, s.heap.size ≤ q → A q := fun q h => by rw [← hAe]; exact Or.inr h
  have hS : va_S A s.heap s.heap [] := va_S.rf
  have hP : va_P D vwCl [(h, .inr (6, [.int h_pieces, .ref h_piece, .int h_deeds, .ref h_deed, .int h_law, .ref h_st, .int h_acts, .ref h_was, .int h_keeps, .ref h_kept, .int h_seens, .ref h_seen, .ref h_text, .int h_texted, .int h_at, .ref h_told, .int h_readPieces, .ref h_readPiece, .ref h_readRoom, .int h_readDeeds, .ref h_readDeed, .int h_readCoins, .int h_readLaw, .ref h_now])), (h_text, .inl (cI, 200, .inl h_text_c)), (h_told, .inl (cI, 4, .inl h_told_c)), (h_readPiece, .inl (cI, 16, .inl h_readPiece_c)), (h_readRoom, .inl (cI, 8, .inl h_readRoom_c)), (h_readDeed, .inl (cI, 40, .inl h_readDeed_c)), (h_piece, .inl (cI, 16, .inl h_piece_c)), (h_deed, .inl (cI, 40, .inl h_deed_c)), (h_st, .inl (cI, 18, .inl h_st_c))] s.heap := hP
  have hl := lv_entry ([.ref h]) (n := 1) (Nat.le_of_ble_eq_true rfl)
  rw [lg_entry_eq]
  generalize (lg_sl ([.ref h]) ++ List.replicate (1 - (lg_sl ([.ref h])).length) Slot.unset).toArray = ls at hl ⊢
  have hl : lv_has ls 1 [(0, .ref h)] := hl
  unfold m_X6_lay at hf
  refine lv_aload_n hx hb dX6_lay_0 rfl (lv_at hl 0 rfl) ?_
  obtain ⟨x1, f2, f3, f4, f5, f6, c7, c8, c9, c10, hv_1, hf⟩ := ob10_some hf
  refine q_wVi (As := []) (rest := []) (r := x1) (w1 := [(h, .inr (6, [.int h_pieces, .ref h_piece, .int h_deeds, .ref h_deed, .int h_law, .ref h_st, .int h_acts, .ref h_was, .int h_keeps, .ref h_kept, .int h_seens, .ref h_seen, .ref h_text, .int h_texted, .int f2, .ref h_told, .int f3, .ref h_readPiece, .ref h_readRoom, .int f4, .ref h_readDeed, .int f5, .int f6, .ref h_now])), (h_text, .inl (cI, 200, .inl h_text_c)), (h_told, .inl (cI, 4, .inl c7)), (h_readPiece, .inl (cI, 16, .inl c8)), (h_readRoom, .inl (cI, 8, .inl c9)), (h_readDeed, .inl (cI, 40, .inl c10))]) (wr := [(h_piece, .inl (cI, 16, .inl h_piece_c)), (h_deed, .inl (cI, 40, .inl h_deed_c)), (h_st, .inl (cI, 18, .inl h_st_c))]) (w2 := [(h, .inr (6, [.int h_pieces, .ref h_piece, .int h_deeds, .ref h_deed, .int h_law, .ref h_st, .int h_acts, .ref h_was, .int h_keeps, .ref h_kept, .int h_seens, .ref h_seen, .ref h_text, .int h_texted, .int f2, .ref h_told, .int f3, .ref h_readPiece, .ref h_readRoom, .int f4, .ref h_readDeed, .int f5, .int f6, .ref h_now])), (h_text, .inl (cI, 200, .inl h_text_c)), (h_told, .inl (cI, 4, .inl c7)), (h_readPiece, .inl (cI, 16, .inl c8)), (h_readRoom, .inl (cI, 8, .inl c9)), (h_readDeed, .inl (cI, 40, .inl c10)), (h_piece, .inl (cI, 16, .inl h_piece_c)), (h_deed, .inl (cI, 40, .inl h_deed_c)), (h_st, .inl (cI, 18, .inl h_st_c))]) ⟨hx, hb, hml, hown, hts⟩ (c_X6_fault l D cI cC cL cB s.heap.size h h_piece h_deed h_st h_was h_kept h_seen h_text h_told h_readPiece h_readRoom h_readDeed h_now h_pieces h_deeds h_law h_acts h_keeps h_seens h_texted h_at h_readPieces h_readDeeds h_readCoins h_readLaw h_text_c h_told_c h_readPiece_c h_readRoom_c h_readDeed_c x1 f2 f3 f4 f5 f6 c7 c8 c9 c10 hv_1) (cwV 0 hts gX6_lay_X6_fault rfl rfl rfl (by decide +kernel) ⟨Nat.le_of_ble_eq_true rfl, Nat.le_of_ble_eq_true rfl⟩) hK hP hD hS hA [0, 1, 2, 3, 4, 5] rfl (by decide) [6, 7, 8] rfl (by decide) (by decide) [3, 4, 5, 6, 7, 8, 0, 1, 2] rfl (by decide) (va_recv hK hP (ci := 6) (q0 := 0) rfl rfl) rfl hl.1 rfl (Nat.le_of_ble_eq_true rfl) dX6_lay_1 ⟨Nat.le_of_ble_eq_true rfl, Nat.le_of_ble_eq_true rfl⟩ (fun H locs hP hD hS => ?_)
  have hP : va_P D vwCl [(h, .inr (6, [.int h_pieces, .ref h_piece, .int h_deeds, .ref h_deed, .int h_law, .ref h_st, .int h_acts, .ref h_was, .int h_keeps, .ref h_kept, .int h_seens, .ref h_seen, .ref h_text, .int h_texted, .int f2, .ref h_told, .int f3, .ref h_readPiece, .ref h_readRoom, .int f4, .ref h_readDeed, .int f5, .int f6, .ref h_now])), (h_text, .inl (cI, 200, .inl h_text_c)), (h_told, .inl (cI, 4, .inl c7)), (h_readPiece, .inl (cI, 16, .inl c8)), (h_readRoom, .inl (cI, 8, .inl c9)), (h_readDeed, .inl (cI, 40, .inl c10)), (h_piece, .inl (cI, 16, .inl h_piece_c)), (h_deed, .inl (cI, 40, .inl h_deed_c)), (h_st, .inl (cI, 18, .inl h_st_c))] H := hP
  have hD : va_D A [(h, .inr (6, [.int h_pieces, .ref h_piece, .int h_deeds, .ref h_deed, .int h_law, .ref h_st, .int h_acts, .ref h_was, .int h_keeps, .ref h_kept, .int h_seens, .ref h_seen, .ref h_text, .int h_texted, .int f2, .ref h_told, .int f3, .ref h_readPiece, .ref h_readRoom, .int f4, .ref h_readDeed, .int f5, .int f6, .ref h_now])), (h_text, .inl (cI, 200, .inl h_text_c)), (h_told, .inl (cI, 4, .inl c7)), (h_readPiece, .inl (cI, 16, .inl c8)), (h_readRoom, .inl (cI, 8, .inl c9)), (h_readDeed, .inl (cI, 40, .inl c10)), (h_piece, .inl (cI, 16, .inl h_piece_c)), (h_deed, .inl (cI, 40, .inl h_deed_c)), (h_st, .inl (cI, 18, .inl h_st_c))] := hD
  refine lv_bipush (v := (-4)) hx hb dX6_lay_4 (by decide) ?_
  refine lv_icmp_ne (tgt := 16) hx hb dX6_lay_6 (by decide) (fun c_2 => ?_) (fun c_2 => ?_)
  · have hf := im c_2 hf
    refine lv_bipush (v := (-2)) hx hb dX6_lay_16 (by decide) ?_
    cases hf
    exact W.iret hx hb hr (fun t ht hW => ⟨⟨_, (), rfl, rfl, by rw [ht]; exact hP, va_K.moved hW.alike hK, hD⟩, hS.F ht⟩) hS.2.2 dX6_lay_18
  · have hf := ip c_2 hf
    refine lv_aload_n hx hb dX6_lay_9 rfl (lv_at hl 0 rfl) ?_
    refine va_get (D := D) (ci := 6) (v := .int f3) (C := RX6) (T := TX6) (N := 24) hx hb hts uX6_lay_X6 hown hK hP 0 rfl rfl 16 (by decide) (hts (.fieldLink RX6 67 "SpeaksForTheChairModel" "readPieces" "I") (List.mem_of_getElem? (i := 1) rfl)) (fun _ h9 => h9) rfl dX6_lay_10 ?_
    refine lv_if_ne (tgt := 19) hx hb dX6_lay_13 (by decide) (fun c_3 => ?_) (fun c_3 => ?_)
    · have hf := im c_3 hf
      refine lv_aload_n hx hb dX6_lay_19 rfl (lv_at hl 0 rfl) ?_
      obtain ⟨f11, f12, f13, f14, f15, f16, c17, c18, c19, hv_4, hf⟩ := ob9_some hf
      refine q_wVv (As := []) (rest := []) (w1 := [(h, .inr (6, [.int f11, .ref h_piece, .int f12, .ref h_deed, .int f13, .ref h_st, .int f14, .ref h_was, .int f15, .ref h_kept, .int f16, .ref h_seen, .ref h_text, .int h_texted, .int f2, .ref h_told, .int f3, .ref h_readPiece, .ref h_readRoom, .int f4, .ref h_readDeed, .int f5, .int f6, .ref h_now])), (h_readPiece, .inl (cI, 16, .inl c8)), (h_piece, .inl (cI, 16, .inl c17)), (h_readDeed, .inl (cI, 40, .inl c10)), (h_deed, .inl (cI, 40, .inl c18)), (h_st, .inl (cI, 18, .inl c19)), (h_readRoom, .inl (cI, 8, .inl c9))]) (wr := [(h_text, .inl (cI, 200, .inl h_text_c)), (h_told, .inl (cI, 4, .inl c7))]) (w2 := [(h, .inr (6, [.int f11, .ref h_piece, .int f12, .ref h_deed, .int f13, .ref h_st, .int f14, .ref h_was, .int f15, .ref h_kept, .int f16, .ref h_seen, .ref h_text, .int h_texted, .int f2, .ref h_told, .int f3, .ref h_readPiece, .ref h_readRoom, .int f4, .ref h_readDeed, .int f5, .int f6, .ref h_now])), (h_text, .inl (cI, 200, .inl h_text_c)), (h_told, .inl (cI, 4, .inl c7)), (h_readPiece, .inl (cI, 16, .inl c8)), (h_readRoom, .inl (cI, 8, .inl c9)), (h_readDeed, .inl (cI, 40, .inl c10)), (h_piece, .inl (cI, 16, .inl c17)), (h_deed, .inl (cI, 40, .inl c18)), (h_st, .inl (cI, 18, .inl c19))]) ⟨hx, hb, hml, hown, hts⟩ (c_X6_settles l D cI cC cL cB H.size h h_piece h_deed h_st h_was h_kept h_seen h_text h_told h_readPiece h_readRoom h_readDeed h_now h_pieces h_deeds h_law h_acts h_keeps h_seens h_texted f2 f3 f4 f5 f6 c8 h_piece_c c10 h_deed_c h_st_c c9 f11 f12 f13 f14 f15 f16 c17 c18 c19 hv_4) (cwV 0 hts gX6_lay_X6_settles rfl rfl rfl (by decide +kernel) ⟨Nat.le_of_ble_eq_true rfl, Nat.le_of_ble_eq_true rfl⟩) hK hP hD hS hA [0, 3, 6, 5, 7, 8, 4] rfl (by decide) [1, 2] rfl (by decide) (by decide) [2, 0, 1, 3, 8, 5, 4, 6, 7] rfl (by decide) (va_recv hK hP (ci := 6) (q0 := 0) rfl rfl) rfl hl.1 rfl (Nat.le_of_ble_eq_true rfl) dX6_lay_20 ⟨Nat.le_of_ble_eq_true rfl, Nat.le_of_ble_eq_true rfl⟩ (fun H locs hP hD hS => ?_)
      have hP : va_P D vwCl [(h, .inr (6, [.int f11, .ref h_piece, .int f12, .ref h_deed, .int f13, .ref h_st, .int f14, .ref h_was, .int f15, .ref h_kept, .int f16, .ref h_seen, .ref h_text, .int h_texted, .int f2, .ref h_told, .int f3, .ref h_readPiece, .ref h_readRoom, .int f4, .ref h_readDeed, .int f5, .int f6, .ref h_now])), (h_text, .inl (cI, 200, .inl h_text_c)), (h_told, .inl (cI, 4, .inl c7)), (h_readPiece, .inl (cI, 16, .inl c8)), (h_readRoom, .inl (cI, 8, .inl c9)), (h_readDeed, .inl (cI, 40, .inl c10)), (h_piece, .inl (cI, 16, .inl c17)), (h_deed, .inl (cI, 40, .inl c18)), (h_st, .inl (cI, 18, .inl c19))] H := hP
      have hD : va_D A [(h, .inr (6, [.int f11, .ref h_piece, .int f12, .ref h_deed, .int f13, .ref h_st, .int f14, .ref h_was, .int f15, .ref h_kept, .int f16, .ref h_seen, .ref h_text, .int h_texted, .int f2, .ref h_told, .int f3, .ref h_readPiece, .ref h_readRoom, .int f4, .ref h_readDeed, .int f5, .int f6, .ref h_now])), (h_text, .inl (cI, 200, .inl h_text_c)), (h_told, .inl (cI, 4, .inl c7)), (h_readPiece, .inl (cI, 16, .inl c8)), (h_readRoom, .inl (cI, 8, .inl c9)), (h_readDeed, .inl (cI, 40, .inl c10)), (h_piece, .inl (cI, 16, .inl c17)), (h_deed, .inl (cI, 40, .inl c18)), (h_st, .inl (cI, 18, .inl c19))] := hD
      refine lv_aload_n hx hb dX6_lay_23 rfl (lv_at hl 0 rfl) ?_
      refine va_get (D := D) (ci := 6) (v := .int f11) (C := RX6) (T := TX6) (N := 24) hx hb hts uX6_lay_X6 hown hK hP 0 rfl rfl 0 (by decide) (hts (.fieldLink RX6 73 "SpeaksForTheChairModel" "pieces" "I") (List.mem_of_getElem? (i := 2) rfl)) (fun _ h9 => h9) rfl dX6_lay_24 ?_
      cases hf
      exact W.iret hx hb hr (fun t ht hW => ⟨⟨_, (), rfl, rfl, by rw [ht]; exact hP, va_K.moved hW.alike hK, hD⟩, hS.F ht⟩) hS.2.2 dX6_lay_27
    · have hf := ip c_3 hf
      refine lv_bipush (v := (-2)) hx hb dX6_lay_16 (by decide) ?_
      cases hf
      exact W.iret hx hb hr (fun t ht hW => ⟨⟨_, (), rfl, rfl, by rw [ht]; exact hP, va_K.moved hW.alike hK, hD⟩, hS.F ht⟩) hS.2.2 dX6_lay_18
theorem uX6_asItIs_X6 : ∀ w ∈ wsX60, w ∈ wsX6_asItIs := fun w h => List.mem_cons_of_mem _ (List.mem_append_right _ h)
set_option maxHeartbeats 4000000 in
set_option maxRecDepth 100000 in
theorem c_X6_asItIs (l : Launch) (D : va_G) (cI cC cL cB : ClassId) (sz : Nat) (h : Nat) (h_piece : Nat) (h_deed : Nat) (h_st : Nat) (h_was : Nat) (h_kept : Nat) (h_seen : Nat) (h_text : Nat) (h_told : Nat) (h_readPiece : Nat) (h_readRoom : Nat) (h_readDeed : Nat) (h_now : Nat) (h_pieces : Int32) (h_deeds : Int32) (h_law : Int32) (h_acts : Int32) (h_keeps : Int32) (h_seens : Int32) (h_texted : Int32) (h_at : Int32) (h_readPieces : Int32) (h_readDeeds : Int32) (h_readCoins : Int32) (h_readLaw : Int32) (h_st_c : Nat → Int32) (h_now_c : Nat → Int32) (o0 : Nat → Int32) (hf : m_X6_asItIs h_st_c h_now_c = some o0) : Met l yX6_asItIs wsX6_asItIs ({ frames := 1, cells := 0, slots := 0, locals := 25 }) (va_Pc [.ref h] (q_W D vwCl (tyL cI cC cL cB) [(h, .inr (6, [.int h_pieces, .ref h_piece, .int h_deeds, .ref h_deed, .int h_law, .ref h_st, .int h_acts, .ref h_was, .int h_keeps, .ref h_kept, .int h_seens, .ref h_seen, .ref h_text, .int h_texted, .int h_at, .ref h_told, .int h_readPieces, .ref h_readPiece, .ref h_readRoom, .int h_readDeeds, .ref h_readDeed, .int h_readCoins, .int h_readLaw, .ref h_now])), (h_st, .inl (cI, 18, .inl h_st_c)), (h_now, .inl (cI, 18, .inl h_now_c))] sz)) (va_Qv (fun _ : Unit => True) (q_E D vwCl (tyL cI cC cL cB) (va_A [(h, .inr (6, [.int h_pieces, .ref h_piece, .int h_deeds, .ref h_deed, .int h_law, .ref h_st, .int h_acts, .ref h_was, .int h_keeps, .ref h_kept, .int h_seens, .ref h_seen, .ref h_text, .int h_texted, .int h_at, .ref h_told, .int h_readPieces, .ref h_readPiece, .ref h_readRoom, .int h_readDeeds, .ref h_readDeed, .int h_readCoins, .int h_readLaw, .ref h_now])), (h_st, .inl (cI, 18, .inl h_st_c)), (h_now, .inl (cI, 18, .inl h_now_c))] sz) [(h, .inr (6, [.int h_pieces, .ref h_piece, .int h_deeds, .ref h_deed, .int h_law, .ref h_st, .int h_acts, .ref h_was, .int h_keeps, .ref h_kept, .int h_seens, .ref h_seen, .ref h_text, .int h_texted, .int h_at, .ref h_told, .int h_readPieces, .ref h_readPiece, .ref h_readRoom, .int h_readDeeds, .ref h_readDeed, .int h_readCoins, .int h_readLaw, .ref h_now])), (h_st, .inl (cI, 18, .inl h_st_c)), (h_now, .inl (cI, 18, .inl o0))]) (va_A [(h, .inr (6, [.int h_pieces, .ref h_piece, .int h_deeds, .ref h_deed, .int h_law, .ref h_st, .int h_acts, .ref h_was, .int h_keeps, .ref h_kept, .int h_seens, .ref h_seen, .ref h_text, .int h_texted, .int h_at, .ref h_told, .int h_readPieces, .ref h_readPiece, .ref h_readRoom, .int h_readDeeds, .ref h_readDeed, .int h_readCoins, .int h_readLaw, .ref h_now])), (h_st, .inl (cI, 18, .inl h_st_c)), (h_now, .inl (cI, 18, .inl h_now_c))] sz)) 0 0 (va_A [(h, .inr (6, [.int h_pieces, .ref h_piece, .int h_deeds, .ref h_deed, .int h_law, .ref h_st, .int h_acts, .ref h_was, .int h_keeps, .ref h_kept, .int h_seens, .ref h_seen, .ref h_text, .int h_texted, .int h_at, .ref h_told, .int h_readPieces, .ref h_readPiece, .ref h_readRoom, .int h_readDeeds, .ref h_readDeed, .int h_readCoins, .int h_readLaw, .ref h_now])), (h_st, .inl (cI, 18, .inl h_st_c)), (h_now, .inl (cI, 18, .inl h_now_c))] sz) := by
  refine Met.ofW (cc := cX6_asItIs) (maxL := 1) (ret := none) (by decide) rfl ?_
  intro p e s m args below meth c s₁ B hml hv
  obtain ⟨rfl, hsz, hP, hK, hD0⟩ := hv
  have hx := B.exec
  have hb := B.bytes
  have hr := B.returns
  have hts := atoms_spec (ws := wsX6_asItIs) B.pre
  have hown : s.vm.findClass RX6 = some m.cls := findClass_of_methodNamed B.named
  have hlocks := B.notSynchronized
  subst hsz
  have hD := hD0.self (sz := s.heap.size)
  generalize hAe : va_A [(h, .inr (6, [.int h_pieces, .ref h_piece, .int h_deeds, .ref h_deed, .int h_law, .ref h_st, .int h_acts, .ref h_was, .int h_keeps, .ref h_kept, .int h_seens, .ref h_seen, .ref h_text, .int h_texted, .int h_at, .ref h_told, .int h_readPieces, .ref h_readPiece, .ref h_readRoom, .int h_readDeeds, .ref h_readDeed, .int h_readCoins, .int h_readLaw, .ref h_now])), (h_st, .inl (cI, 18, .inl h_st_c)), (h_now, .inl (cI, 18, .inl h_now_c))] s.heap.size = A at hD ⊢
  have hA : ∀ q : Nat, s.heap.size ≤ q → A q := fun q h => by rw [← hAe]; exact Or.inr h
  have hS : va_S A s.heap s.heap [] := va_S.rf
  have hP : va_P D vwCl [(h, .inr (6, [.int h_pieces, .ref h_piece, .int h_deeds, .ref h_deed, .int h_law, .ref h_st, .int h_acts, .ref h_was, .int h_keeps, .ref h_kept, .int h_seens, .ref h_seen, .ref h_text, .int h_texted, .int h_at, .ref h_told, .int h_readPieces, .ref h_readPiece, .ref h_readRoom, .int h_readDeeds, .ref h_readDeed, .int h_readCoins, .int h_readLaw, .ref h_now])), (h_st, .inl (cI, 18, .inl h_st_c)), (h_now, .inl (cI, 18, .inl h_now_c))] s.heap := hP
  have hl := lv_entry ([.ref h]) (n := 1) (Nat.le_of_ble_eq_true rfl)
  rw [lg_entry_eq]
  generalize (lg_sl ([.ref h]) ++ List.replicate (1 - (lg_sl ([.ref h])).length) Slot.unset).toArray = ls at hl ⊢
  have hl : lv_has ls 1 [(0, .ref h)] := hl
  unfold m_X6_asItIs at hf
  refine lv_aload_n hx hb dX6_asItIs_0 rfl (lv_at hl 0 rfl) ?_
  refine va_get (D := D) (ci := 6) (v := .ref h_now) (C := RX6) (T := TX6) (N := 24) hx hb hts uX6_asItIs_X6 hown hK hP 0 rfl rfl 23 (by decide) (hts (.fieldLink RX6 43 "SpeaksForTheChairModel" "now" "[I") (List.mem_of_getElem? (i := 1) rfl)) (fun _ h9 => h9) rfl dX6_asItIs_1 ?_
  refine lv_iconst (v := 0) hx hb dX6_asItIs_4 (by decide) ?_
  refine lv_aload_n hx hb dX6_asItIs_5 rfl (lv_at hl 0 rfl) ?_
  refine va_get (D := D) (ci := 6) (v := .ref h_st) (C := RX6) (T := TX6) (N := 24) hx hb hts uX6_asItIs_X6 hown hK hP 0 rfl rfl 5 (by decide) (hts (.fieldLink RX6 16 "SpeaksForTheChairModel" "st" "[I") (List.mem_of_getElem? (i := 2) rfl)) (fun _ h9 => h9) rfl dX6_asItIs_6 ?_
  refine lv_iconst (v := 0) hx hb dX6_asItIs_9 (by decide) ?_
  refine lv_bipush (v := 18) hx hb dX6_asItIs_10 (by decide) ?_
  obtain ⟨c1, hv_1, hf⟩ := ob1_some hf
  refine q_wSv (As := [.ref h_now, .int 0, .ref h_st, .int 0, .int 18]) (rest := []) (w1 := [(h_st, .inl (cI, 18, .inl h_st_c)), (h_now, .inl (cI, 18, .inl c1))]) (wr := [(h, .inr (6, [.int h_pieces, .ref h_piece, .int h_deeds, .ref h_deed, .int h_law, .ref h_st, .int h_acts, .ref h_was, .int h_keeps, .ref h_kept, .int h_seens, .ref h_seen, .ref h_text, .int h_texted, .int h_at, .ref h_told, .int h_readPieces, .ref h_readPiece, .ref h_readRoom, .int h_readDeeds, .ref h_readDeed, .int h_readCoins, .int h_readLaw, .ref h_now]))]) (w2 := [(h, .inr (6, [.int h_pieces, .ref h_piece, .int h_deeds, .ref h_deed, .int h_law, .ref h_st, .int h_acts, .ref h_was, .int h_keeps, .ref h_kept, .int h_seens, .ref h_seen, .ref h_text, .int h_texted, .int h_at, .ref h_told, .int h_readPieces, .ref h_readPiece, .ref h_readRoom, .int h_readDeeds, .ref h_readDeed, .int h_readCoins, .int h_readLaw, .ref h_now])), (h_st, .inl (cI, 18, .inl h_st_c)), (h_now, .inl (cI, 18, .inl c1))]) ⟨hx, hb, hml, hown, hts⟩ (c_X6_copies l D cI cC cL cB s.heap.size h_now h_st ((0 : Int32)) ((0 : Int32)) ((18 : Int32)) ((18 : Nat)) h_st_c ((18 : Nat)) h_now_c c1 hv_1) (va_cwS 5 hts gX6_asItIs_X6_copies rfl rfl rfl (by decide +kernel) ⟨Nat.le_of_ble_eq_true rfl, Nat.le_of_ble_eq_true rfl⟩) hK hP hD hS hA [1, 2] rfl (by decide) [0] rfl (by decide) (by decide) [0, 1, 2] rfl (by decide) rfl hl.1 rfl (Nat.le_of_ble_eq_true rfl) dX6_asItIs_12 ⟨Nat.le_of_ble_eq_true rfl, Nat.le_of_ble_eq_true rfl⟩ (fun H locs hP hD hS => ?_)
  have hP : va_P D vwCl [(h, .inr (6, [.int h_pieces, .ref h_piece, .int h_deeds, .ref h_deed, .int h_law, .ref h_st, .int h_acts, .ref h_was, .int h_keeps, .ref h_kept, .int h_seens, .ref h_seen, .ref h_text, .int h_texted, .int h_at, .ref h_told, .int h_readPieces, .ref h_readPiece, .ref h_readRoom, .int h_readDeeds, .ref h_readDeed, .int h_readCoins, .int h_readLaw, .ref h_now])), (h_st, .inl (cI, 18, .inl h_st_c)), (h_now, .inl (cI, 18, .inl c1))] H := hP
  have hD : va_D A [(h, .inr (6, [.int h_pieces, .ref h_piece, .int h_deeds, .ref h_deed, .int h_law, .ref h_st, .int h_acts, .ref h_was, .int h_keeps, .ref h_kept, .int h_seens, .ref h_seen, .ref h_text, .int h_texted, .int h_at, .ref h_told, .int h_readPieces, .ref h_readPiece, .ref h_readRoom, .int h_readDeeds, .ref h_readDeed, .int h_readCoins, .int h_readLaw, .ref h_now])), (h_st, .inl (cI, 18, .inl h_st_c)), (h_now, .inl (cI, 18, .inl c1))] := hD
  cases hf
  exact W.vret hx hb hr (fun t ht hW => ⟨⟨(), rfl, trivial, by rw [ht]; exact hP, va_K.moved hW.alike hK, hD⟩, hS.F ht⟩) hS.2.2 dX6_asItIs_15
theorem uX6_roomOf_X6 : ∀ w ∈ wsX60, w ∈ wsX6_roomOf := fun w h => List.mem_cons_of_mem _ (List.mem_append_right _ h)
set_option maxHeartbeats 4000000 in
set_option maxRecDepth 100000 in
theorem c_X6_roomOf (l : Launch) (D : va_G) (cI cC cL cB : ClassId) (h : Nat) (h_piece : Nat) (h_deed : Nat) (h_st : Nat) (h_was : Nat) (h_kept : Nat) (h_seen : Nat) (h_text : Nat) (h_told : Nat) (h_readPiece : Nat) (h_readRoom : Nat) (h_readDeed : Nat) (h_now : Nat) (a1 : Int32) (h_pieces : Int32) (h_deeds : Int32) (h_law : Int32) (h_acts : Int32) (h_keeps : Int32) (h_seens : Int32) (h_texted : Int32) (h_at : Int32) (h_readPieces : Int32) (h_readDeeds : Int32) (h_readCoins : Int32) (h_readLaw : Int32) (h_deed_c : Nat → Int32) (r : Int32) (hf : m_X6_roomOf a1 h_deed_c = some r) : Met l yX6_roomOf wsX6_roomOf ({ frames := 0, cells := 0, slots := 0, locals := 0 }) (va_Pc [.ref h, .int a1] (q_R D vwCl (tyL cI cC cL cB) [(h, .inr (6, [.int h_pieces, .ref h_piece, .int h_deeds, .ref h_deed, .int h_law, .ref h_st, .int h_acts, .ref h_was, .int h_keeps, .ref h_kept, .int h_seens, .ref h_seen, .ref h_text, .int h_texted, .int h_at, .ref h_told, .int h_readPieces, .ref h_readPiece, .ref h_readRoom, .int h_readDeeds, .ref h_readDeed, .int h_readCoins, .int h_readLaw, .ref h_now])), (h_deed, .inl (cI, 40, .inl h_deed_c))])) (vp_Si (fun r' => r' = r)) 0 0 (fun _ => False) := by
  refine Met.ofW (cc := cX6_roomOf) (maxL := 2) (ret := (some .int)) (by decide) rfl ?_
  intro p e s m args below meth c s₁ B hml hv
  obtain ⟨rfl, hP, hK⟩ := hv
  have hx := B.exec
  have hb := B.bytes
  have hr := B.returns
  have hts := atoms_spec (ws := wsX6_roomOf) B.pre
  have hown : s.vm.findClass RX6 = some m.cls := findClass_of_methodNamed B.named
  have hlocks := B.notSynchronized
  have hl := lv_entry ([.ref h, .int a1]) (n := 2) (Nat.le_of_ble_eq_true rfl)
  rw [lg_entry_eq]
  generalize (lg_sl ([.ref h, .int a1]) ++ List.replicate (2 - (lg_sl ([.ref h, .int a1])).length) Slot.unset).toArray = ls at hl ⊢
  have hl : lv_has ls 2 [(0, .ref h), (1, .int a1)] := hl
  unfold m_X6_roomOf at hf
  refine lv_aload_n hx hb dX6_roomOf_0 rfl (lv_at hl 0 rfl) ?_
  refine va_get (D := D) (ci := 6) (v := .ref h_deed) (C := RX6) (T := TX6) (N := 24) hx hb hts uX6_roomOf_X6 hown hK hP 0 rfl rfl 3 (by decide) (hts (.fieldLink RX6 13 "SpeaksForTheChairModel" "deed" "[I") (List.mem_of_getElem? (i := 1) rfl)) (fun _ h9 => h9) rfl dX6_roomOf_1 ?_
  refine lv_iconst (v := 4) hx hb dX6_roomOf_4 (by decide) ?_
  refine lv_iload_n hx hb dX6_roomOf_5 rfl (lv_at hl 1 rfl) ?_
  refine lv_imul hx hb dX6_roomOf_6 ?_
  refine lv_iconst (v := 1) hx hb dX6_roomOf_7 (by decide) ?_
  refine lv_iadd hx hb dX6_roomOf_8 ?_
  obtain ⟨g_1, hf⟩ := gu_in hf
  refine va_iald hx hb hK hP 1 0 rfl rfl g_1 dX6_roomOf_9 ?_
  cases hf
  exact W.iret hx hb hr (fun t ht hW => ⟨_, rfl, rfl, ht⟩) (fun _ h => by cases h) dX6_roomOf_10
theorem uX6_hourOf_X6 : ∀ w ∈ wsX60, w ∈ wsX6_hourOf := fun w h => List.mem_cons_of_mem _ (List.mem_append_right _ h)
set_option maxHeartbeats 4000000 in
set_option maxRecDepth 100000 in
theorem c_X6_hourOf (l : Launch) (D : va_G) (cI cC cL cB : ClassId) (h : Nat) (h_piece : Nat) (h_deed : Nat) (h_st : Nat) (h_was : Nat) (h_kept : Nat) (h_seen : Nat) (h_text : Nat) (h_told : Nat) (h_readPiece : Nat) (h_readRoom : Nat) (h_readDeed : Nat) (h_now : Nat) (a1 : Int32) (h_pieces : Int32) (h_deeds : Int32) (h_law : Int32) (h_acts : Int32) (h_keeps : Int32) (h_seens : Int32) (h_texted : Int32) (h_at : Int32) (h_readPieces : Int32) (h_readDeeds : Int32) (h_readCoins : Int32) (h_readLaw : Int32) (h_deed_c : Nat → Int32) (r : Int32) (hf : m_X6_hourOf a1 h_deed_c = some r) : Met l yX6_hourOf wsX6_hourOf ({ frames := 0, cells := 0, slots := 0, locals := 0 }) (va_Pc [.ref h, .int a1] (q_R D vwCl (tyL cI cC cL cB) [(h, .inr (6, [.int h_pieces, .ref h_piece, .int h_deeds, .ref h_deed, .int h_law, .ref h_st, .int h_acts, .ref h_was, .int h_keeps, .ref h_kept, .int h_seens, .ref h_seen, .ref h_text, .int h_texted, .int h_at, .ref h_told, .int h_readPieces, .ref h_readPiece, .ref h_readRoom, .int h_readDeeds, .ref h_readDeed, .int h_readCoins, .int h_readLaw, .ref h_now])), (h_deed, .inl (cI, 40, .inl h_deed_c))])) (vp_Si (fun r' => r' = r)) 0 0 (fun _ => False) := by
  refine Met.ofW (cc := cX6_hourOf) (maxL := 2) (ret := (some .int)) (by decide) rfl ?_
  intro p e s m args below meth c s₁ B hml hv
  obtain ⟨rfl, hP, hK⟩ := hv
  have hx := B.exec
  have hb := B.bytes
  have hr := B.returns
  have hts := atoms_spec (ws := wsX6_hourOf) B.pre
  have hown : s.vm.findClass RX6 = some m.cls := findClass_of_methodNamed B.named
  have hlocks := B.notSynchronized
  have hl := lv_entry ([.ref h, .int a1]) (n := 2) (Nat.le_of_ble_eq_true rfl)
  rw [lg_entry_eq]
  generalize (lg_sl ([.ref h, .int a1]) ++ List.replicate (2 - (lg_sl ([.ref h, .int a1])).length) Slot.unset).toArray = ls at hl ⊢
  have hl : lv_has ls 2 [(0, .ref h), (1, .int a1)] := hl
  unfold m_X6_hourOf at hf
  refine lv_aload_n hx hb dX6_hourOf_0 rfl (lv_at hl 0 rfl) ?_
  refine va_get (D := D) (ci := 6) (v := .ref h_deed) (C := RX6) (T := TX6) (N := 24) hx hb hts uX6_hourOf_X6 hown hK hP 0 rfl rfl 3 (by decide) (hts (.fieldLink RX6 13 "SpeaksForTheChairModel" "deed" "[I") (List.mem_of_getElem? (i := 1) rfl)) (fun _ h9 => h9) rfl dX6_hourOf_1 ?_
  refine lv_iconst (v := 4) hx hb dX6_hourOf_4 (by decide) ?_
  refine lv_iload_n hx hb dX6_hourOf_5 rfl (lv_at hl 1 rfl) ?_
  refine lv_imul hx hb dX6_hourOf_6 ?_
  refine lv_iconst (v := 2) hx hb dX6_hourOf_7 (by decide) ?_
  refine lv_iadd hx hb dX6_hourOf_8 ?_
  obtain ⟨g_1, hf⟩ := gu_in hf
  refine va_iald hx hb hK hP 1 0 rfl rfl g_1 dX6_hourOf_9 ?_
  cases hf
  exact W.iret hx hb hr (fun t ht hW => ⟨_, rfl, rfl, ht⟩) (fun _ h => by cases h) dX6_hourOf_10
theorem uX6_weighs_X6 : ∀ w ∈ wsX60, w ∈ wsX6_weighs := fun w h => List.mem_cons_of_mem _ (List.mem_append_right _ h)
set_option maxHeartbeats 4000000 in
set_option maxRecDepth 100000 in
theorem c_X6_weighs (l : Launch) (D : va_G) (cI cC cL cB : ClassId) (h : Nat) (h_piece : Nat) (h_deed : Nat) (h_st : Nat) (h_was : Nat) (h_kept : Nat) (h_seen : Nat) (h_text : Nat) (h_told : Nat) (h_readPiece : Nat) (h_readRoom : Nat) (h_readDeed : Nat) (h_now : Nat) (a1 : Int32) (h_pieces : Int32) (h_deeds : Int32) (h_law : Int32) (h_acts : Int32) (h_keeps : Int32) (h_seens : Int32) (h_texted : Int32) (h_at : Int32) (h_readPieces : Int32) (h_readDeeds : Int32) (h_readCoins : Int32) (h_readLaw : Int32) (h_deed_c : Nat → Int32) (r : Int32) (hf : m_X6_weighs a1 h_deed_c = some r) : Met l yX6_weighs wsX6_weighs ({ frames := 0, cells := 0, slots := 0, locals := 0 }) (va_Pc [.ref h, .int a1] (q_R D vwCl (tyL cI cC cL cB) [(h, .inr (6, [.int h_pieces, .ref h_piece, .int h_deeds, .ref h_deed, .int h_law, .ref h_st, .int h_acts, .ref h_was, .int h_keeps, .ref h_kept, .int h_seens, .ref h_seen, .ref h_text, .int h_texted, .int h_at, .ref h_told, .int h_readPieces, .ref h_readPiece, .ref h_readRoom, .int h_readDeeds, .ref h_readDeed, .int h_readCoins, .int h_readLaw, .ref h_now])), (h_deed, .inl (cI, 40, .inl h_deed_c))])) (vp_Si (fun r' => r' = r)) 0 0 (fun _ => False) := by
  refine Met.ofW (cc := cX6_weighs) (maxL := 2) (ret := (some .int)) (by decide) rfl ?_
  intro p e s m args below meth c s₁ B hml hv
  obtain ⟨rfl, hP, hK⟩ := hv
  have hx := B.exec
  have hb := B.bytes
  have hr := B.returns
  have hts := atoms_spec (ws := wsX6_weighs) B.pre
  have hown : s.vm.findClass RX6 = some m.cls := findClass_of_methodNamed B.named
  have hlocks := B.notSynchronized
  have hl := lv_entry ([.ref h, .int a1]) (n := 2) (Nat.le_of_ble_eq_true rfl)
  rw [lg_entry_eq]
  generalize (lg_sl ([.ref h, .int a1]) ++ List.replicate (2 - (lg_sl ([.ref h, .int a1])).length) Slot.unset).toArray = ls at hl ⊢
  have hl : lv_has ls 2 [(0, .ref h), (1, .int a1)] := hl
  unfold m_X6_weighs at hf
  refine lv_aload_n hx hb dX6_weighs_0 rfl (lv_at hl 0 rfl) ?_
  refine va_get (D := D) (ci := 6) (v := .ref h_deed) (C := RX6) (T := TX6) (N := 24) hx hb hts uX6_weighs_X6 hown hK hP 0 rfl rfl 3 (by decide) (hts (.fieldLink RX6 13 "SpeaksForTheChairModel" "deed" "[I") (List.mem_of_getElem? (i := 1) rfl)) (fun _ h9 => h9) rfl dX6_weighs_1 ?_
  refine lv_iconst (v := 4) hx hb dX6_weighs_4 (by decide) ?_
  refine lv_iload_n hx hb dX6_weighs_5 rfl (lv_at hl 1 rfl) ?_
  refine lv_imul hx hb dX6_weighs_6 ?_
  refine lv_iconst (v := 3) hx hb dX6_weighs_7 (by decide) ?_
  refine lv_iadd hx hb dX6_weighs_8 ?_
  obtain ⟨g_1, hf⟩ := gu_in hf
  refine va_iald hx hb hK hP 1 0 rfl rfl g_1 dX6_weighs_9 ?_
  cases hf
  exact W.iret hx hb hr (fun t ht hW => ⟨_, rfl, rfl, ht⟩) (fun _ h => by cases h) dX6_weighs_10
set_option maxHeartbeats 4000000 in
set_option maxRecDepth 100000 in
theorem c_X6_laterThan (l : Launch) (D : va_G) (cI cC cL cB : ClassId) (h : Nat) (h_piece : Nat) (h_deed : Nat) (h_st : Nat) (h_was : Nat) (h_kept : Nat) (h_seen : Nat) (h_text : Nat) (h_told : Nat) (h_readPiece : Nat) (h_readRoom : Nat) (h_readDeed : Nat) (h_now : Nat) (a1 : Int32) (a2 : Int32) (h_pieces : Int32) (h_deeds : Int32) (h_law : Int32) (h_acts : Int32) (h_keeps : Int32) (h_seens : Int32) (h_texted : Int32) (h_at : Int32) (h_readPieces : Int32) (h_readDeeds : Int32) (h_readCoins : Int32) (h_readLaw : Int32) (h_deed_c : Nat → Int32) (r : Int32) (hf : m_X6_laterThan a1 a2 h_deed_c = some r) : Met l yX6_laterThan wsX6_laterThan ({ frames := 1, cells := 0, slots := 0, locals := 21 }) (va_Pc [.ref h, .int a1, .int a2] (q_R D vwCl (tyL cI cC cL cB) [(h, .inr (6, [.int h_pieces, .ref h_piece, .int h_deeds, .ref h_deed, .int h_law, .ref h_st, .int h_acts, .ref h_was, .int h_keeps, .ref h_kept, .int h_seens, .ref h_seen, .ref h_text, .int h_texted, .int h_at, .ref h_told, .int h_readPieces, .ref h_readPiece, .ref h_readRoom, .int h_readDeeds, .ref h_readDeed, .int h_readCoins, .int h_readLaw, .ref h_now])), (h_deed, .inl (cI, 40, .inl h_deed_c))])) (vp_Si (fun r' => r' = r)) 0 0 (fun _ => False) := by
  refine Met.ofW (cc := cX6_laterThan) (maxL := 6) (ret := (some .int)) (by decide) rfl ?_
  intro p e s m args below meth c s₁ B hml hv
  obtain ⟨rfl, hP, hK⟩ := hv
  have hx := B.exec
  have hb := B.bytes
  have hr := B.returns
  have hts := atoms_spec (ws := wsX6_laterThan) B.pre
  have hown : s.vm.findClass RX6 = some m.cls := findClass_of_methodNamed B.named
  have hlocks := B.notSynchronized
  have hl := lv_entry ([.ref h, .int a1, .int a2]) (n := 6) (Nat.le_of_ble_eq_true rfl)
  rw [lg_entry_eq]
  generalize (lg_sl ([.ref h, .int a1, .int a2]) ++ List.replicate (6 - (lg_sl ([.ref h, .int a1, .int a2])).length) Slot.unset).toArray = ls at hl ⊢
  have hl : lv_has ls 6 [(0, .ref h), (1, .int a1), (2, .int a2)] := hl
  unfold m_X6_laterThan at hf
  refine lv_iconst (v := 0) hx hb dX6_laterThan_0 (by decide) ?_
  refine lv_istore_n (lv' := [(3, .int 0), (0, .ref h), (1, .int a1), (2, .int a2)]) hx hb dX6_laterThan_1 rfl hl (by decide) rfl (fun ls hl => ?_)
  refine lv_iconst (v := 0) hx hb dX6_laterThan_2 (by decide) ?_
  refine lv_istore (lv' := [(4, .int 0), (3, .int 0), (0, .ref h), (1, .int a1), (2, .int a2)]) hx hb dX6_laterThan_3 hl (by decide) rfl (fun ls hl => ?_)
  have loop5 : ∀ (n : Nat) (x1 : Int32) (x2 : Int32), ∀ (ls : Array Slot), lv_has ls 6 [(0, .ref h), (1, .int a1), (2, .int a2), (3, .int x1), (4, .int x2)] → ∀ (x3 : Int32), L_X6_laterThan_5 a2 h_deed_c a1 n x1 x2 = some x3 → (∀ (ls : Array Slot), lv_has ls 6 [(3, .int x3)] → W p l e (headSpec wsX6_laterThan ({ frames := 1, cells := 0, slots := 0, locals := 21 })).room s m ([.ref h, .int a1, .int a2] : List Value).toArray below meth c s.heap [] 0 0 (MQ below (vp_Si (fun r' => r' = r)) ([.ref h, .int a1, .int a2] : List Value).toArray s 0 0 (fun _ => False)) (F0 m 91 ls [])) → W p l e (headSpec wsX6_laterThan ({ frames := 1, cells := 0, slots := 0, locals := 21 })).room s m ([.ref h, .int a1, .int a2] : List Value).toArray below meth c s.heap [] 0 0 (MQ below (vp_Si (fun r' => r' = r)) ([.ref h, .int a1, .int a2] : List Value).toArray s 0 0 (fun _ => False)) (F0 m 5 ls []) := by
    intro n
    induction n with
    | zero =>
      intro x1 x2 ls hl x3 hf KX
      rw [L_X6_laterThan_5] at hf
      cases hf
    | succ n ih =>
      intro x1 x2 ls hl x3 hf KX
      rw [L_X6_laterThan_5] at hf
      refine lv_iload hx hb dX6_laterThan_5 (lv_at hl 4 rfl) ?_
      refine lv_iload_n hx hb dX6_laterThan_7 rfl (lv_at hl 2 rfl) ?_
      refine lv_icmp_ge (tgt := 91) hx hb dX6_laterThan_8 (by decide) (fun c_35 => ?_) (fun c_35 => ?_)
      · have hf := ip c_35 hf
        cases hf
        exact KX ls (lv_sub hl [3] rfl)
      · have hf := im c_35 hf
        refine lv_aload_n hx hb dX6_laterThan_11 rfl (lv_at hl 0 rfl) ?_
        refine lv_iload hx hb dX6_laterThan_12 (lv_at hl 4 rfl) ?_
        obtain ⟨x4, hv_36, hf⟩ := ob1_some hf
        refine q_rVi (As := [.int x2]) (rest := []) (r := x4) ⟨hx, hb, hml, hown, hts⟩ (c_X6_hourOf l D cI cC cL cB h h_piece h_deed h_st h_was h_kept h_seen h_text h_told h_readPiece h_readRoom h_readDeed h_now x2 h_pieces h_deeds h_law h_acts h_keeps h_seens h_texted h_at h_readPieces h_readDeeds h_readCoins h_readLaw h_deed_c x4 hv_36) (cwV 1 hts gX6_laterThan_X6_hourOf rfl rfl rfl (by decide +kernel) ⟨Nat.le_of_ble_eq_true rfl, Nat.le_of_ble_eq_true rfl⟩) hK hP [0, 1] rfl (va_recv hK hP (ci := 6) (q0 := 0) rfl rfl) rfl hl.1 rfl (Nat.le_of_ble_eq_true rfl) dX6_laterThan_14 ⟨Nat.le_of_ble_eq_true rfl, Nat.le_of_ble_eq_true rfl⟩ ?_
        refine lv_aload_n hx hb dX6_laterThan_17 rfl (lv_at hl 0 rfl) ?_
        refine lv_iload_n hx hb dX6_laterThan_18 rfl (lv_at hl 1 rfl) ?_
        obtain ⟨x5, hv_37, hf⟩ := ob1_some hf
        refine q_rVi (As := [.int a1]) (rest := [.int x4]) (r := x5) ⟨hx, hb, hml, hown, hts⟩ (c_X6_hourOf l D cI cC cL cB h h_piece h_deed h_st h_was h_kept h_seen h_text h_told h_readPiece h_readRoom h_readDeed h_now a1 h_pieces h_deeds h_law h_acts h_keeps h_seens h_texted h_at h_readPieces h_readDeeds h_readCoins h_readLaw h_deed_c x5 hv_37) (cwV 1 hts gX6_laterThan_X6_hourOf rfl rfl rfl (by decide +kernel) ⟨Nat.le_of_ble_eq_true rfl, Nat.le_of_ble_eq_true rfl⟩) hK hP [0, 1] rfl (va_recv hK hP (ci := 6) (q0 := 0) rfl rfl) rfl hl.1 rfl (Nat.le_of_ble_eq_true rfl) dX6_laterThan_19 ⟨Nat.le_of_ble_eq_true rfl, Nat.le_of_ble_eq_true rfl⟩ ?_
        obtain ⟨x6, hr50, hf⟩ := ob1_some hf
        refine q_jn (pcJ := 50) (nL := 6) (vs := [(0, .ref h), (1, .int a1), (2, .int a2), (3, .int x1), (4, .int x2)]) (st := [.int x6]) (fun ls hl => ?_) (fun J50 => ?_)
        · clear hr50
          refine lv_istore (lv' := [(5, .int x6), (0, .ref h), (1, .int a1), (2, .int a2), (3, .int x1), (4, .int x2)]) hx hb dX6_laterThan_50 hl (by decide) rfl (fun ls hl => ?_)
          refine lv_iload_n hx hb dX6_laterThan_52 rfl (lv_at hl 4 rfl) ?_
          refine lv_iload hx hb dX6_laterThan_53 (lv_at hl 5 rfl) ?_
          refine lv_iload_n hx hb dX6_laterThan_55 rfl (lv_at hl 2 rfl) ?_
          refine lv_icmp_eq (tgt := 82) hx hb dX6_laterThan_56 (by decide) (fun c_43 => ?_) (fun c_43 => ?_)
          · have hf := ip c_43 hf
            refine lv_iconst (v := 0) hx hb dX6_laterThan_82 (by decide) ?_
            refine lv_iadd hx hb dX6_laterThan_83 ?_
            refine lv_topi (fun x7 ex7 => ?_)
            have hf := pv_eq ex7 hf
            refine lv_istore_n (lv' := [(3, .int x7), (5, .int x6), (0, .ref h), (1, .int a1), (2, .int a2), (4, .int x2)]) hx hb dX6_laterThan_84 rfl hl (by decide) rfl (fun ls hl => ?_)
            obtain ⟨x8, ex8⟩ : ∃ y : Int32, y = (x2 + 1) := ⟨_, rfl⟩
            have hf := pv_eq ex8 hf
            refine lv_iinc (v := x8) (lv' := [(4, .int x8), (3, .int x7), (5, .int x6), (0, .ref h), (1, .int a1), (2, .int a2)]) hx hb dX6_laterThan_85 hl (k := 5) rfl (by rw [ex8]; rfl) (by decide) rfl (fun ls hl => ?_)
            refine lv_goto (tgt := 5) hx hb dX6_laterThan_88 (by decide) ?_
            exact ih _ _ ls (lv_sub hl [3, 4, 5, 1, 0] rfl) _ hf KX
          · have hf := im c_43 hf
            refine lv_aload_n hx hb dX6_laterThan_59 rfl (lv_at hl 1 rfl) ?_
            refine lv_iload hx hb dX6_laterThan_60 (lv_at hl 5 rfl) ?_
            obtain ⟨x9, hv_44, hf⟩ := ob1_some hf
            refine q_rVi (As := [.int x2]) (rest := [.int x1]) (r := x9) ⟨hx, hb, hml, hown, hts⟩ (c_X6_roomOf l D cI cC cL cB h h_piece h_deed h_st h_was h_kept h_seen h_text h_told h_readPiece h_readRoom h_readDeed h_now x2 h_pieces h_deeds h_law h_acts h_keeps h_seens h_texted h_at h_readPieces h_readDeeds h_readCoins h_readLaw h_deed_c x9 hv_44) (cwV 1 hts gX6_laterThan_X6_roomOf rfl rfl rfl (by decide +kernel) ⟨Nat.le_of_ble_eq_true rfl, Nat.le_of_ble_eq_true rfl⟩) hK hP [0, 1] rfl (va_recv hK hP (ci := 6) (q0 := 0) rfl rfl) rfl hl.1 rfl (Nat.le_of_ble_eq_true rfl) dX6_laterThan_62 ⟨Nat.le_of_ble_eq_true rfl, Nat.le_of_ble_eq_true rfl⟩ ?_
            refine lv_aload_n hx hb dX6_laterThan_65 rfl (lv_at hl 1 rfl) ?_
            refine lv_iload_n hx hb dX6_laterThan_66 rfl (lv_at hl 2 rfl) ?_
            obtain ⟨x10, hv_45, hf⟩ := ob1_some hf
            refine q_rVi (As := [.int a1]) (rest := [.int x9, .int x1]) (r := x10) ⟨hx, hb, hml, hown, hts⟩ (c_X6_roomOf l D cI cC cL cB h h_piece h_deed h_st h_was h_kept h_seen h_text h_told h_readPiece h_readRoom h_readDeed h_now a1 h_pieces h_deeds h_law h_acts h_keeps h_seens h_texted h_at h_readPieces h_readDeeds h_readCoins h_readLaw h_deed_c x10 hv_45) (cwV 1 hts gX6_laterThan_X6_roomOf rfl rfl rfl (by decide +kernel) ⟨Nat.le_of_ble_eq_true rfl, Nat.le_of_ble_eq_true rfl⟩) hK hP [0, 1] rfl (va_recv hK hP (ci := 6) (q0 := 0) rfl rfl) rfl hl.1 rfl (Nat.le_of_ble_eq_true rfl) dX6_laterThan_67 ⟨Nat.le_of_ble_eq_true rfl, Nat.le_of_ble_eq_true rfl⟩ ?_
            refine lv_icmp_ne (tgt := 82) hx hb dX6_laterThan_70 (by decide) (fun c_46 => ?_) (fun c_46 => ?_)
            · have hf := im c_46 hf
              refine lv_iconst (v := 0) hx hb dX6_laterThan_82 (by decide) ?_
              refine lv_iadd hx hb dX6_laterThan_83 ?_
              refine lv_topi (fun x11 ex11 => ?_)
              have hf := pv_eq ex11 hf
              refine lv_istore_n (lv' := [(3, .int x11), (5, .int x6), (0, .ref h), (1, .int a1), (2, .int a2), (4, .int x2)]) hx hb dX6_laterThan_84 rfl hl (by decide) rfl (fun ls hl => ?_)
              obtain ⟨x12, ex12⟩ : ∃ y : Int32, y = (x2 + 1) := ⟨_, rfl⟩
              have hf := pv_eq ex12 hf
              refine lv_iinc (v := x12) (lv' := [(4, .int x12), (3, .int x11), (5, .int x6), (0, .ref h), (1, .int a1), (2, .int a2)]) hx hb dX6_laterThan_85 hl (k := 5) rfl (by rw [ex12]; rfl) (by decide) rfl (fun ls hl => ?_)
              refine lv_goto (tgt := 5) hx hb dX6_laterThan_88 (by decide) ?_
              exact ih _ _ ls (lv_sub hl [3, 4, 5, 1, 0] rfl) _ hf KX
            · have hf := ip c_46 hf
              refine lv_iload hx hb dX6_laterThan_73 (lv_at hl 0 rfl) ?_
              refine lv_if_eq (tgt := 82) hx hb dX6_laterThan_75 (by decide) (fun c_47 => ?_) (fun c_47 => ?_)
              · have hf := ip c_47 hf
                refine lv_iconst (v := 0) hx hb dX6_laterThan_82 (by decide) ?_
                refine lv_iadd hx hb dX6_laterThan_83 ?_
                refine lv_topi (fun x13 ex13 => ?_)
                have hf := pv_eq ex13 hf
                refine lv_istore_n (lv' := [(3, .int x13), (5, .int x6), (0, .ref h), (1, .int a1), (2, .int a2), (4, .int x2)]) hx hb dX6_laterThan_84 rfl hl (by decide) rfl (fun ls hl => ?_)
                obtain ⟨x14, ex14⟩ : ∃ y : Int32, y = (x2 + 1) := ⟨_, rfl⟩
                have hf := pv_eq ex14 hf
                refine lv_iinc (v := x14) (lv' := [(4, .int x14), (3, .int x13), (5, .int x6), (0, .ref h), (1, .int a1), (2, .int a2)]) hx hb dX6_laterThan_85 hl (k := 5) rfl (by rw [ex14]; rfl) (by decide) rfl (fun ls hl => ?_)
                refine lv_goto (tgt := 5) hx hb dX6_laterThan_88 (by decide) ?_
                exact ih _ _ ls (lv_sub hl [3, 4, 5, 1, 0] rfl) _ hf KX
              · have hf := im c_47 hf
                refine lv_iconst (v := 1) hx hb dX6_laterThan_78 (by decide) ?_
                refine lv_goto (tgt := 83) hx hb dX6_laterThan_79 (by decide) ?_
                refine lv_iadd hx hb dX6_laterThan_83 ?_
                refine lv_topi (fun x15 ex15 => ?_)
                have hf := pv_eq ex15 hf
                refine lv_istore_n (lv' := [(3, .int x15), (5, .int x6), (0, .ref h), (1, .int a1), (2, .int a2), (4, .int x2)]) hx hb dX6_laterThan_84 rfl hl (by decide) rfl (fun ls hl => ?_)
                obtain ⟨x16, ex16⟩ : ∃ y : Int32, y = (x2 + 1) := ⟨_, rfl⟩
                have hf := pv_eq ex16 hf
                refine lv_iinc (v := x16) (lv' := [(4, .int x16), (3, .int x15), (5, .int x6), (0, .ref h), (1, .int a1), (2, .int a2)]) hx hb dX6_laterThan_85 hl (k := 5) rfl (by rw [ex16]; rfl) (by decide) rfl (fun ls hl => ?_)
                refine lv_goto (tgt := 5) hx hb dX6_laterThan_88 (by decide) ?_
                exact ih _ _ ls (lv_sub hl [3, 4, 5, 1, 0] rfl) _ hf KX
        · replace hf := hr50
          refine lv_icmp_gt (tgt := 45) hx hb dX6_laterThan_22 (by decide) (fun c_38 => ?_) (fun c_38 => ?_)
          · have hf := ip c_38 hf
            refine lv_iconst (v := 1) hx hb dX6_laterThan_45 (by decide) ?_
            refine lv_goto (tgt := 50) hx hb dX6_laterThan_46 (by decide) ?_
            cases hf
            exact J50 ls (lv_sub hl [0, 1, 2, 3, 4] rfl)
          · have hf := im c_38 hf
            refine lv_aload_n hx hb dX6_laterThan_25 rfl (lv_at hl 0 rfl) ?_
            refine lv_iload hx hb dX6_laterThan_26 (lv_at hl 4 rfl) ?_
            obtain ⟨x17, hv_48, hf⟩ := ob1_some hf
            refine q_rVi (As := [.int x2]) (rest := []) (r := x17) ⟨hx, hb, hml, hown, hts⟩ (c_X6_hourOf l D cI cC cL cB h h_piece h_deed h_st h_was h_kept h_seen h_text h_told h_readPiece h_readRoom h_readDeed h_now x2 h_pieces h_deeds h_law h_acts h_keeps h_seens h_texted h_at h_readPieces h_readDeeds h_readCoins h_readLaw h_deed_c x17 hv_48) (cwV 1 hts gX6_laterThan_X6_hourOf rfl rfl rfl (by decide +kernel) ⟨Nat.le_of_ble_eq_true rfl, Nat.le_of_ble_eq_true rfl⟩) hK hP [0, 1] rfl (va_recv hK hP (ci := 6) (q0 := 0) rfl rfl) rfl hl.1 rfl (Nat.le_of_ble_eq_true rfl) dX6_laterThan_28 ⟨Nat.le_of_ble_eq_true rfl, Nat.le_of_ble_eq_true rfl⟩ ?_
            refine lv_aload_n hx hb dX6_laterThan_31 rfl (lv_at hl 0 rfl) ?_
            refine lv_iload_n hx hb dX6_laterThan_32 rfl (lv_at hl 1 rfl) ?_
            obtain ⟨x18, hv_49, hf⟩ := ob1_some hf
            refine q_rVi (As := [.int a1]) (rest := [.int x17]) (r := x18) ⟨hx, hb, hml, hown, hts⟩ (c_X6_hourOf l D cI cC cL cB h h_piece h_deed h_st h_was h_kept h_seen h_text h_told h_readPiece h_readRoom h_readDeed h_now a1 h_pieces h_deeds h_law h_acts h_keeps h_seens h_texted h_at h_readPieces h_readDeeds h_readCoins h_readLaw h_deed_c x18 hv_49) (cwV 1 hts gX6_laterThan_X6_hourOf rfl rfl rfl (by decide +kernel) ⟨Nat.le_of_ble_eq_true rfl, Nat.le_of_ble_eq_true rfl⟩) hK hP [0, 1] rfl (va_recv hK hP (ci := 6) (q0 := 0) rfl rfl) rfl hl.1 rfl (Nat.le_of_ble_eq_true rfl) dX6_laterThan_33 ⟨Nat.le_of_ble_eq_true rfl, Nat.le_of_ble_eq_true rfl⟩ ?_
            refine lv_icmp_ne (tgt := 49) hx hb dX6_laterThan_36 (by decide) (fun c_50 => ?_) (fun c_50 => ?_)
            · have hf := im c_50 hf
              refine lv_iconst (v := 0) hx hb dX6_laterThan_49 (by decide) ?_
              cases hf
              exact J50 ls (lv_sub hl [0, 1, 2, 3, 4] rfl)
            · have hf := ip c_50 hf
              refine lv_iload hx hb dX6_laterThan_39 (lv_at hl 4 rfl) ?_
              refine lv_iload_n hx hb dX6_laterThan_41 rfl (lv_at hl 1 rfl) ?_
              refine lv_icmp_le (tgt := 49) hx hb dX6_laterThan_42 (by decide) (fun c_51 => ?_) (fun c_51 => ?_)
              · have hf := ip c_51 hf
                refine lv_iconst (v := 0) hx hb dX6_laterThan_49 (by decide) ?_
                cases hf
                exact J50 ls (lv_sub hl [0, 1, 2, 3, 4] rfl)
              · have hf := im c_51 hf
                refine lv_iconst (v := 1) hx hb dX6_laterThan_45 (by decide) ?_
                refine lv_goto (tgt := 50) hx hb dX6_laterThan_46 (by decide) ?_
                cases hf
                exact J50 ls (lv_sub hl [0, 1, 2, 3, 4] rfl)
  obtain ⟨x3, hr5, hf⟩ := ob1_some hf
  refine loop5 300 _ _ ls (lv_sub hl [2, 3, 4, 1, 0] rfl) _ hr5 (fun ls hl => ?_)
  refine lv_iload_n hx hb dX6_laterThan_91 rfl (lv_at hl 0 rfl) ?_
  cases hf
  exact W.iret hx hb hr (fun t ht hW => ⟨_, rfl, rfl, ht⟩) (fun _ h => by cases h) dX6_laterThan_92
theorem uX6_doesTell_X6 : ∀ w ∈ wsX60, w ∈ wsX6_doesTell := fun w h => List.mem_cons_of_mem _ (List.mem_append_right _ h)
set_option maxHeartbeats 4000000 in
set_option maxRecDepth 100000 in
theorem c_X6_doesTell (l : Launch) (D : va_G) (cI cC cL cB : ClassId) (h : Nat) (h_piece : Nat) (h_deed : Nat) (h_st : Nat) (h_was : Nat) (h_kept : Nat) (h_seen : Nat) (h_text : Nat) (h_told : Nat) (h_readPiece : Nat) (h_readRoom : Nat) (h_readDeed : Nat) (h_now : Nat) (a1 : Int32) (a2 : Int32) (a3 : Int32) (h_pieces : Int32) (h_deeds : Int32) (h_law : Int32) (h_acts : Int32) (h_keeps : Int32) (h_seens : Int32) (h_texted : Int32) (h_at : Int32) (h_readPieces : Int32) (h_readDeeds : Int32) (h_readCoins : Int32) (h_readLaw : Int32) (h_deed_c : Nat → Int32) (h_now_c : Nat → Int32) (h_piece_c : Nat → Int32) (r : Int32) (hf : m_X6_doesTell a1 a2 a3 h_deed_c h_now_c h_piece_c = some r) : Met l yX6_doesTell wsX6_doesTell ({ frames := 2, cells := 0, slots := 0, locals := 46 }) (va_Pc [.ref h, .int a1, .int a2, .int a3] (q_R D vwCl (tyL cI cC cL cB) [(h, .inr (6, [.int h_pieces, .ref h_piece, .int h_deeds, .ref h_deed, .int h_law, .ref h_st, .int h_acts, .ref h_was, .int h_keeps, .ref h_kept, .int h_seens, .ref h_seen, .ref h_text, .int h_texted, .int h_at, .ref h_told, .int h_readPieces, .ref h_readPiece, .ref h_readRoom, .int h_readDeeds, .ref h_readDeed, .int h_readCoins, .int h_readLaw, .ref h_now])), (h_deed, .inl (cI, 40, .inl h_deed_c)), (h_now, .inl (cI, 18, .inl h_now_c)), (h_piece, .inl (cI, 16, .inl h_piece_c))])) (vp_Si (fun r' => r' = r)) 0 0 (fun _ => False) := by
  refine Met.ofW (cc := cX6_doesTell) (maxL := 4) (ret := (some .boolean)) (by decide) rfl ?_
  intro p e s m args below meth c s₁ B hml hv
  obtain ⟨rfl, hP, hK⟩ := hv
  have hx := B.exec
  have hb := B.bytes
  have hr := B.returns
  have hts := atoms_spec (ws := wsX6_doesTell) B.pre
  have hown : s.vm.findClass RX6 = some m.cls := findClass_of_methodNamed B.named
  have hlocks := B.notSynchronized
  have hl := lv_entry ([.ref h, .int a1, .int a2, .int a3]) (n := 4) (Nat.le_of_ble_eq_true rfl)
  rw [lg_entry_eq]
  generalize (lg_sl ([.ref h, .int a1, .int a2, .int a3]) ++ List.replicate (4 - (lg_sl ([.ref h, .int a1, .int a2, .int a3])).length) Slot.unset).toArray = ls at hl ⊢
  have hl : lv_has ls 4 [(0, .ref h), (1, .int a1), (2, .int a2), (3, .int a3)] := hl
  unfold m_X6_doesTell at hf
  refine lv_aload_n hx hb dX6_doesTell_0 rfl (lv_at hl 0 rfl) ?_
  refine lv_iload_n hx hb dX6_doesTell_1 rfl (lv_at hl 2 rfl) ?_
  obtain ⟨x1, hv_1, hf⟩ := ob1_some hf
  refine q_rVi (As := [.int a2]) (rest := []) (r := x1) ⟨hx, hb, hml, hown, hts⟩ (c_X6_roomOf l D cI cC cL cB h h_piece h_deed h_st h_was h_kept h_seen h_text h_told h_readPiece h_readRoom h_readDeed h_now a2 h_pieces h_deeds h_law h_acts h_keeps h_seens h_texted h_at h_readPieces h_readDeeds h_readCoins h_readLaw h_deed_c x1 hv_1) (cwV 1 hts gX6_doesTell_X6_roomOf rfl rfl rfl (by decide +kernel) ⟨Nat.le_of_ble_eq_true rfl, Nat.le_of_ble_eq_true rfl⟩) hK hP [0, 1] rfl (va_recv hK hP (ci := 6) (q0 := 0) rfl rfl) rfl hl.1 rfl (Nat.le_of_ble_eq_true rfl) dX6_doesTell_2 ⟨Nat.le_of_ble_eq_true rfl, Nat.le_of_ble_eq_true rfl⟩ ?_
  refine lv_aload_n hx hb dX6_doesTell_5 rfl (lv_at hl 0 rfl) ?_
  refine va_get (D := D) (ci := 6) (v := .ref h_now) (C := RX6) (T := TX6) (N := 24) hx hb hts uX6_doesTell_X6 hown hK hP 0 rfl rfl 23 (by decide) (hts (.fieldLink RX6 43 "SpeaksForTheChairModel" "now" "[I") (List.mem_of_getElem? (i := 1) rfl)) (fun _ h9 => h9) rfl dX6_doesTell_6 ?_
  refine lv_iconst (v := 2) hx hb dX6_doesTell_9 (by decide) ?_
  refine lv_iload_n hx hb dX6_doesTell_10 rfl (lv_at hl 1 rfl) ?_
  refine lv_iadd hx hb dX6_doesTell_11 ?_
  obtain ⟨g_2, hf⟩ := gu_in hf
  refine va_iald hx hb hK hP 2 0 rfl rfl g_2 dX6_doesTell_12 ?_
  refine lv_icmp_eq (tgt := 18) hx hb dX6_doesTell_13 (by decide) (fun c_3 => ?_) (fun c_3 => ?_)
  · have hf := ip c_3 hf
    refine lv_aload_n hx hb dX6_doesTell_18 rfl (lv_at hl 0 rfl) ?_
    refine va_get (D := D) (ci := 6) (v := .ref h_piece) (C := RX6) (T := TX6) (N := 24) hx hb hts uX6_doesTell_X6 hown hK hP 0 rfl rfl 1 (by decide) (hts (.fieldLink RX6 7 "SpeaksForTheChairModel" "piece" "[I") (List.mem_of_getElem? (i := 2) rfl)) (fun _ h9 => h9) rfl dX6_doesTell_19 ?_
    refine lv_iconst (v := 2) hx hb dX6_doesTell_22 (by decide) ?_
    refine lv_iload_n hx hb dX6_doesTell_23 rfl (lv_at hl 1 rfl) ?_
    refine lv_imul hx hb dX6_doesTell_24 ?_
    obtain ⟨g_4, hf⟩ := gu_in hf
    refine va_iald hx hb hK hP 3 0 rfl rfl g_4 dX6_doesTell_25 ?_
    by_cases k0 : (h_piece_c ((2 * a1) : Int32).toNatClampNeg) = 1
    · have hf := ip k0 hf
      refine lv_tableIn (tgt := 52) hx hb dX6_doesTell_26 (by rw [k0]; decide) (by rw [k0]; decide) (by rw [k0] <;> rfl) (by decide) ?_
      refine lv_aload_n hx hb dX6_doesTell_52 rfl (lv_at hl 0 rfl) ?_
      refine lv_iload_n hx hb dX6_doesTell_53 rfl (lv_at hl 2 rfl) ?_
      obtain ⟨x5, hv_11, hf⟩ := ob1_some hf
      refine q_rVi (As := [.int a2]) (rest := []) (r := x5) ⟨hx, hb, hml, hown, hts⟩ (c_X6_hourOf l D cI cC cL cB h h_piece h_deed h_st h_was h_kept h_seen h_text h_told h_readPiece h_readRoom h_readDeed h_now a2 h_pieces h_deeds h_law h_acts h_keeps h_seens h_texted h_at h_readPieces h_readDeeds h_readCoins h_readLaw h_deed_c x5 hv_11) (cwV 1 hts gX6_doesTell_X6_hourOf rfl rfl rfl (by decide +kernel) ⟨Nat.le_of_ble_eq_true rfl, Nat.le_of_ble_eq_true rfl⟩) hK hP [0, 1] rfl (va_recv hK hP (ci := 6) (q0 := 0) rfl rfl) rfl hl.1 rfl (Nat.le_of_ble_eq_true rfl) dX6_doesTell_54 ⟨Nat.le_of_ble_eq_true rfl, Nat.le_of_ble_eq_true rfl⟩ ?_
      refine lv_bipush (v := 12) hx hb dX6_doesTell_57 (by decide) ?_
      refine lv_icmp_lt (tgt := 66) hx hb dX6_doesTell_59 (by decide) (fun c_12 => ?_) (fun c_12 => ?_)
      · have hf := ip c_12 hf
        refine lv_iconst (v := 0) hx hb dX6_doesTell_66 (by decide) ?_
        cases hf
        exact W.zret hx hb hr rfl (fun t ht hW => ⟨_, rfl, rfl, ht⟩) (fun _ h => by cases h) dX6_doesTell_67
      · have hf := im c_12 hf
        refine lv_iconst (v := 1) hx hb dX6_doesTell_62 (by decide) ?_
        refine lv_goto (tgt := 67) hx hb dX6_doesTell_63 (by decide) ?_
        cases hf
        exact W.zret hx hb hr rfl (fun t ht hW => ⟨_, rfl, rfl, ht⟩) (fun _ h => by cases h) dX6_doesTell_67
    · have hf := im k0 hf
      by_cases k1 : (h_piece_c ((2 * a1) : Int32).toNatClampNeg) = 2
      · have hf := ip k1 hf
        refine lv_tableIn (tgt := 68) hx hb dX6_doesTell_26 (by rw [k1]; decide) (by rw [k1]; decide) (by rw [k1] <;> rfl) (by decide) ?_
        refine lv_aload_n hx hb dX6_doesTell_68 rfl (lv_at hl 0 rfl) ?_
        refine lv_iload_n hx hb dX6_doesTell_69 rfl (lv_at hl 2 rfl) ?_
        refine lv_iload_n hx hb dX6_doesTell_70 rfl (lv_at hl 3 rfl) ?_
        obtain ⟨x4, hv_9, hf⟩ := ob1_some hf
        refine q_rVi (As := [.int a2, .int a3]) (rest := []) (r := x4) ⟨hx, hb, hml, hown, hts⟩ (c_X6_laterThan l D cI cC cL cB h h_piece h_deed h_st h_was h_kept h_seen h_text h_told h_readPiece h_readRoom h_readDeed h_now a2 a3 h_pieces h_deeds h_law h_acts h_keeps h_seens h_texted h_at h_readPieces h_readDeeds h_readCoins h_readLaw h_deed_c x4 hv_9) (cwV 2 hts gX6_doesTell_X6_laterThan rfl rfl rfl (by decide +kernel) ⟨Nat.le_of_ble_eq_true rfl, Nat.le_of_ble_eq_true rfl⟩) hK hP [0, 1] rfl (va_recv hK hP (ci := 6) (q0 := 0) rfl rfl) rfl hl.1 rfl (Nat.le_of_ble_eq_true rfl) dX6_doesTell_71 ⟨Nat.le_of_ble_eq_true rfl, Nat.le_of_ble_eq_true rfl⟩ ?_
        refine lv_iconst (v := 2) hx hb dX6_doesTell_74 (by decide) ?_
        refine lv_icmp_ge (tgt := 82) hx hb dX6_doesTell_75 (by decide) (fun c_10 => ?_) (fun c_10 => ?_)
        · have hf := ip c_10 hf
          refine lv_iconst (v := 0) hx hb dX6_doesTell_82 (by decide) ?_
          cases hf
          exact W.zret hx hb hr rfl (fun t ht hW => ⟨_, rfl, rfl, ht⟩) (fun _ h => by cases h) dX6_doesTell_83
        · have hf := im c_10 hf
          refine lv_iconst (v := 1) hx hb dX6_doesTell_78 (by decide) ?_
          refine lv_goto (tgt := 83) hx hb dX6_doesTell_79 (by decide) ?_
          cases hf
          exact W.zret hx hb hr rfl (fun t ht hW => ⟨_, rfl, rfl, ht⟩) (fun _ h => by cases h) dX6_doesTell_83
      · have hf := im k1 hf
        by_cases k2 : (h_piece_c ((2 * a1) : Int32).toNatClampNeg) = 3
        · have hf := ip k2 hf
          refine lv_tableIn (tgt := 84) hx hb dX6_doesTell_26 (by rw [k2]; decide) (by rw [k2]; decide) (by rw [k2] <;> rfl) (by decide) ?_
          refine lv_aload_n hx hb dX6_doesTell_84 rfl (lv_at hl 0 rfl) ?_
          refine lv_iload_n hx hb dX6_doesTell_85 rfl (lv_at hl 2 rfl) ?_
          obtain ⟨x2, hv_5, hf⟩ := ob1_some hf
          refine q_rVi (As := [.int a2]) (rest := []) (r := x2) ⟨hx, hb, hml, hown, hts⟩ (c_X6_hourOf l D cI cC cL cB h h_piece h_deed h_st h_was h_kept h_seen h_text h_told h_readPiece h_readRoom h_readDeed h_now a2 h_pieces h_deeds h_law h_acts h_keeps h_seens h_texted h_at h_readPieces h_readDeeds h_readCoins h_readLaw h_deed_c x2 hv_5) (cwV 1 hts gX6_doesTell_X6_hourOf rfl rfl rfl (by decide +kernel) ⟨Nat.le_of_ble_eq_true rfl, Nat.le_of_ble_eq_true rfl⟩) hK hP [0, 1] rfl (va_recv hK hP (ci := 6) (q0 := 0) rfl rfl) rfl hl.1 rfl (Nat.le_of_ble_eq_true rfl) dX6_doesTell_86 ⟨Nat.le_of_ble_eq_true rfl, Nat.le_of_ble_eq_true rfl⟩ ?_
          refine lv_bipush (v := 12) hx hb dX6_doesTell_89 (by decide) ?_
          refine lv_icmp_ge (tgt := 108) hx hb dX6_doesTell_91 (by decide) (fun c_6 => ?_) (fun c_6 => ?_)
          · have hf := ip c_6 hf
            refine lv_iconst (v := 0) hx hb dX6_doesTell_108 (by decide) ?_
            cases hf
            exact W.zret hx hb hr rfl (fun t ht hW => ⟨_, rfl, rfl, ht⟩) (fun _ h => by cases h) dX6_doesTell_109
          · have hf := im c_6 hf
            refine lv_aload_n hx hb dX6_doesTell_94 rfl (lv_at hl 0 rfl) ?_
            refine lv_iload_n hx hb dX6_doesTell_95 rfl (lv_at hl 2 rfl) ?_
            obtain ⟨x3, hv_7, hf⟩ := ob1_some hf
            refine q_rVi (As := [.int a2]) (rest := []) (r := x3) ⟨hx, hb, hml, hown, hts⟩ (c_X6_weighs l D cI cC cL cB h h_piece h_deed h_st h_was h_kept h_seen h_text h_told h_readPiece h_readRoom h_readDeed h_now a2 h_pieces h_deeds h_law h_acts h_keeps h_seens h_texted h_at h_readPieces h_readDeeds h_readCoins h_readLaw h_deed_c x3 hv_7) (cwV 1 hts gX6_doesTell_X6_weighs rfl rfl rfl (by decide +kernel) ⟨Nat.le_of_ble_eq_true rfl, Nat.le_of_ble_eq_true rfl⟩) hK hP [0, 1] rfl (va_recv hK hP (ci := 6) (q0 := 0) rfl rfl) rfl hl.1 rfl (Nat.le_of_ble_eq_true rfl) dX6_doesTell_96 ⟨Nat.le_of_ble_eq_true rfl, Nat.le_of_ble_eq_true rfl⟩ ?_
            refine lv_bipush (v := 10) hx hb dX6_doesTell_99 (by decide) ?_
            refine lv_icmp_gt (tgt := 108) hx hb dX6_doesTell_101 (by decide) (fun c_8 => ?_) (fun c_8 => ?_)
            · have hf := ip c_8 hf
              refine lv_iconst (v := 0) hx hb dX6_doesTell_108 (by decide) ?_
              cases hf
              exact W.zret hx hb hr rfl (fun t ht hW => ⟨_, rfl, rfl, ht⟩) (fun _ h => by cases h) dX6_doesTell_109
            · have hf := im c_8 hf
              refine lv_iconst (v := 1) hx hb dX6_doesTell_104 (by decide) ?_
              refine lv_goto (tgt := 109) hx hb dX6_doesTell_105 (by decide) ?_
              cases hf
              exact W.zret hx hb hr rfl (fun t ht hW => ⟨_, rfl, rfl, ht⟩) (fun _ h => by cases h) dX6_doesTell_109
        · have hf := im k2 hf
          refine lv_tableOut (tgt := 110) hx hb dX6_doesTell_26 (sw_out 3 (fun k hk => ?_)) (by decide) ?_
          · rcases (show k = 0 ∨ k = 1 ∨ k = 2 by omega) with rfl | rfl | rfl
            · exact lv_neT k0 rfl
            · exact lv_neT k1 rfl
            · exact lv_neT k2 rfl
          · refine lv_iconst (v := 1) hx hb dX6_doesTell_110 (by decide) ?_
            cases hf
            exact W.zret hx hb hr rfl (fun t ht hW => ⟨_, rfl, rfl, ht⟩) (fun _ h => by cases h) dX6_doesTell_111
  · have hf := im c_3 hf
    refine lv_iconst (v := 0) hx hb dX6_doesTell_16 (by decide) ?_
    cases hf
    exact W.zret hx hb hr rfl (fun t ht hW => ⟨_, rfl, rfl, ht⟩) (fun _ h => by cases h) dX6_doesTell_17
theorem uX6_toldBy_X6 : ∀ w ∈ wsX60, w ∈ wsX6_toldBy := fun w h => List.mem_cons_of_mem _ (List.mem_append_right _ h)
set_option maxHeartbeats 4000000 in
set_option maxRecDepth 100000 in
theorem c_X6_toldBy (l : Launch) (D : va_G) (cI cC cL cB : ClassId) (h : Nat) (h_piece : Nat) (h_deed : Nat) (h_st : Nat) (h_was : Nat) (h_kept : Nat) (h_seen : Nat) (h_text : Nat) (h_told : Nat) (h_readPiece : Nat) (h_readRoom : Nat) (h_readDeed : Nat) (h_now : Nat) (a1 : Int32) (h_pieces : Int32) (h_deeds : Int32) (h_law : Int32) (h_acts : Int32) (h_keeps : Int32) (h_seens : Int32) (h_texted : Int32) (h_at : Int32) (h_readPieces : Int32) (h_readDeeds : Int32) (h_readCoins : Int32) (h_readLaw : Int32) (h_deed_c : Nat → Int32) (h_now_c : Nat → Int32) (h_piece_c : Nat → Int32) (r : Int32) (hf : m_X6_toldBy a1 h_deeds h_deed_c h_now_c h_piece_c = some r) : Met l yX6_toldBy wsX6_toldBy ({ frames := 3, cells := 0, slots := 0, locals := 69 }) (va_Pc [.ref h, .int a1] (q_R D vwCl (tyL cI cC cL cB) [(h, .inr (6, [.int h_pieces, .ref h_piece, .int h_deeds, .ref h_deed, .int h_law, .ref h_st, .int h_acts, .ref h_was, .int h_keeps, .ref h_kept, .int h_seens, .ref h_seen, .ref h_text, .int h_texted, .int h_at, .ref h_told, .int h_readPieces, .ref h_readPiece, .ref h_readRoom, .int h_readDeeds, .ref h_readDeed, .int h_readCoins, .int h_readLaw, .ref h_now])), (h_deed, .inl (cI, 40, .inl h_deed_c)), (h_now, .inl (cI, 18, .inl h_now_c)), (h_piece, .inl (cI, 16, .inl h_piece_c))])) (vp_Si (fun r' => r' = r)) 0 0 (fun _ => False) := by
  refine Met.ofW (cc := cX6_toldBy) (maxL := 4) (ret := (some .int)) (by decide) rfl ?_
  intro p e s m args below meth c s₁ B hml hv
  obtain ⟨rfl, hP, hK⟩ := hv
  have hx := B.exec
  have hb := B.bytes
  have hr := B.returns
  have hts := atoms_spec (ws := wsX6_toldBy) B.pre
  have hown : s.vm.findClass RX6 = some m.cls := findClass_of_methodNamed B.named
  have hlocks := B.notSynchronized
  have hl := lv_entry ([.ref h, .int a1]) (n := 4) (Nat.le_of_ble_eq_true rfl)
  rw [lg_entry_eq]
  generalize (lg_sl ([.ref h, .int a1]) ++ List.replicate (4 - (lg_sl ([.ref h, .int a1])).length) Slot.unset).toArray = ls at hl ⊢
  have hl : lv_has ls 4 [(0, .ref h), (1, .int a1)] := hl
  unfold m_X6_toldBy at hf
  refine lv_iconst (v := 0) hx hb dX6_toldBy_0 (by decide) ?_
  refine lv_istore_n (lv' := [(2, .int 0), (0, .ref h), (1, .int a1)]) hx hb dX6_toldBy_1 rfl hl (by decide) rfl (fun ls hl => ?_)
  refine lv_iconst (v := 0) hx hb dX6_toldBy_2 (by decide) ?_
  refine lv_istore_n (lv' := [(3, .int 0), (2, .int 0), (0, .ref h), (1, .int a1)]) hx hb dX6_toldBy_3 rfl hl (by decide) rfl (fun ls hl => ?_)
  have loop4 : ∀ (n : Nat) (x1 : Int32) (x2 : Int32), ∀ (ls : Array Slot), lv_has ls 4 [(0, .ref h), (1, .int a1), (2, .int x1), (3, .int x2)] → ∀ (x3 : Int32), L_X6_toldBy_4 h_deeds a1 h_deed_c h_now_c h_piece_c n x1 x2 = some x3 → (∀ (ls : Array Slot), lv_has ls 4 [(2, .int x3)] → W p l e (headSpec wsX6_toldBy ({ frames := 3, cells := 0, slots := 0, locals := 69 })).room s m ([.ref h, .int a1] : List Value).toArray below meth c s.heap [] 0 0 (MQ below (vp_Si (fun r' => r' = r)) ([.ref h, .int a1] : List Value).toArray s 0 0 (fun _ => False)) (F0 m 41 ls [])) → W p l e (headSpec wsX6_toldBy ({ frames := 3, cells := 0, slots := 0, locals := 69 })).room s m ([.ref h, .int a1] : List Value).toArray below meth c s.heap [] 0 0 (MQ below (vp_Si (fun r' => r' = r)) ([.ref h, .int a1] : List Value).toArray s 0 0 (fun _ => False)) (F0 m 4 ls []) := by
    intro n
    induction n with
    | zero =>
      intro x1 x2 ls hl x3 hf KX
      rw [L_X6_toldBy_4] at hf
      cases hf
    | succ n ih =>
      intro x1 x2 ls hl x3 hf KX
      rw [L_X6_toldBy_4] at hf
      refine lv_iload_n hx hb dX6_toldBy_4 rfl (lv_at hl 3 rfl) ?_
      refine lv_aload_n hx hb dX6_toldBy_5 rfl (lv_at hl 0 rfl) ?_
      refine va_get (D := D) (ci := 6) (v := .int h_deeds) (C := RX6) (T := TX6) (N := 24) hx hb hts uX6_toldBy_X6 hown hK hP 0 rfl rfl 2 (by decide) (hts (.fieldLink RX6 80 "SpeaksForTheChairModel" "deeds" "I") (List.mem_of_getElem? (i := 1) rfl)) (fun _ h9 => h9) rfl dX6_toldBy_6 ?_
      refine lv_icmp_ge (tgt := 41) hx hb dX6_toldBy_9 (by decide) (fun c_7 => ?_) (fun c_7 => ?_)
      · have hf := ip c_7 hf
        cases hf
        exact KX ls (lv_sub hl [2] rfl)
      · have hf := im c_7 hf
        refine lv_iload_n hx hb dX6_toldBy_12 rfl (lv_at hl 2 rfl) ?_
        refine lv_aload_n hx hb dX6_toldBy_13 rfl (lv_at hl 0 rfl) ?_
        refine lv_iload_n hx hb dX6_toldBy_14 rfl (lv_at hl 1 rfl) ?_
        refine lv_iload_n hx hb dX6_toldBy_15 rfl (lv_at hl 3 rfl) ?_
        refine lv_aload_n hx hb dX6_toldBy_16 rfl (lv_at hl 0 rfl) ?_
        refine va_get (D := D) (ci := 6) (v := .int h_deeds) (C := RX6) (T := TX6) (N := 24) hx hb hts uX6_toldBy_X6 hown hK hP 0 rfl rfl 2 (by decide) (hts (.fieldLink RX6 80 "SpeaksForTheChairModel" "deeds" "I") (List.mem_of_getElem? (i := 1) rfl)) (fun _ h9 => h9) rfl dX6_toldBy_17 ?_
        obtain ⟨x4, hv_8, hf⟩ := ob1_some hf
        refine q_rVi (As := [.int a1, .int x2, .int h_deeds]) (rest := [.int x1]) (r := x4) ⟨hx, hb, hml, hown, hts⟩ (c_X6_doesTell l D cI cC cL cB h h_piece h_deed h_st h_was h_kept h_seen h_text h_told h_readPiece h_readRoom h_readDeed h_now a1 x2 h_deeds h_pieces h_deeds h_law h_acts h_keeps h_seens h_texted h_at h_readPieces h_readDeeds h_readCoins h_readLaw h_deed_c h_now_c h_piece_c x4 hv_8) (cwV 3 hts gX6_toldBy_X6_doesTell rfl rfl rfl (by decide +kernel) ⟨Nat.le_of_ble_eq_true rfl, Nat.le_of_ble_eq_true rfl⟩) hK hP [0, 1, 2, 3] rfl (va_recv hK hP (ci := 6) (q0 := 0) rfl rfl) rfl hl.1 rfl (Nat.le_of_ble_eq_true rfl) dX6_toldBy_20 ⟨Nat.le_of_ble_eq_true rfl, Nat.le_of_ble_eq_true rfl⟩ ?_
        refine lv_if_eq (tgt := 32) hx hb dX6_toldBy_23 (by decide) (fun c_9 => ?_) (fun c_9 => ?_)
        · have hf := ip c_9 hf
          refine lv_iconst (v := 0) hx hb dX6_toldBy_32 (by decide) ?_
          refine lv_ior hx hb dX6_toldBy_33 ?_
          refine lv_topi (fun x5 ex5 => ?_)
          have hf := pv_eq ex5 hf
          refine lv_istore_n (lv' := [(2, .int x5), (0, .ref h), (1, .int a1), (3, .int x2)]) hx hb dX6_toldBy_34 rfl hl (by decide) rfl (fun ls hl => ?_)
          obtain ⟨x6, ex6⟩ : ∃ y : Int32, y = (x2 + 1) := ⟨_, rfl⟩
          have hf := pv_eq ex6 hf
          refine lv_iinc (v := x6) (lv' := [(3, .int x6), (2, .int x5), (0, .ref h), (1, .int a1)]) hx hb dX6_toldBy_35 hl (k := 3) rfl (by rw [ex6]; rfl) (by decide) rfl (fun ls hl => ?_)
          refine lv_goto (tgt := 4) hx hb dX6_toldBy_38 (by decide) ?_
          exact ih _ _ ls (lv_sub hl [2, 3, 1, 0] rfl) _ hf KX
        · have hf := im c_9 hf
          refine lv_iconst (v := 1) hx hb dX6_toldBy_26 (by decide) ?_
          refine lv_iload_n hx hb dX6_toldBy_27 rfl (lv_at hl 3 rfl) ?_
          refine lv_ishl hx hb dX6_toldBy_28 ?_
          refine lv_goto (tgt := 33) hx hb dX6_toldBy_29 (by decide) ?_
          refine lv_ior hx hb dX6_toldBy_33 ?_
          refine lv_topi (fun x7 ex7 => ?_)
          have hf := pv_eq ex7 hf
          refine lv_istore_n (lv' := [(2, .int x7), (0, .ref h), (1, .int a1), (3, .int x2)]) hx hb dX6_toldBy_34 rfl hl (by decide) rfl (fun ls hl => ?_)
          obtain ⟨x8, ex8⟩ : ∃ y : Int32, y = (x2 + 1) := ⟨_, rfl⟩
          have hf := pv_eq ex8 hf
          refine lv_iinc (v := x8) (lv' := [(3, .int x8), (2, .int x7), (0, .ref h), (1, .int a1)]) hx hb dX6_toldBy_35 hl (k := 3) rfl (by rw [ex8]; rfl) (by decide) rfl (fun ls hl => ?_)
          refine lv_goto (tgt := 4) hx hb dX6_toldBy_38 (by decide) ?_
          exact ih _ _ ls (lv_sub hl [2, 3, 1, 0] rfl) _ hf KX
  obtain ⟨x3, hr4, hf⟩ := ob1_some hf
  refine loop4 300 _ _ ls (lv_sub hl [2, 3, 1, 0] rfl) _ hr4 (fun ls hl => ?_)
  refine lv_iload_n hx hb dX6_toldBy_41 rfl (lv_at hl 0 rfl) ?_
  cases hf
  exact W.iret hx hb hr (fun t ht hW => ⟨_, rfl, rfl, ht⟩) (fun _ h => by cases h) dX6_toldBy_42
theorem uX6_isLoose_X6 : ∀ w ∈ wsX60, w ∈ wsX6_isLoose := fun w h => List.mem_cons_of_mem _ (List.mem_append_right _ h)
set_option maxHeartbeats 4000000 in
set_option maxRecDepth 100000 in
theorem c_X6_isLoose (l : Launch) (D : va_G) (cI cC cL cB : ClassId) (h : Nat) (h_piece : Nat) (h_deed : Nat) (h_st : Nat) (h_was : Nat) (h_kept : Nat) (h_seen : Nat) (h_text : Nat) (h_told : Nat) (h_readPiece : Nat) (h_readRoom : Nat) (h_readDeed : Nat) (h_now : Nat) (a1 : Int32) (h_pieces : Int32) (h_deeds : Int32) (h_law : Int32) (h_acts : Int32) (h_keeps : Int32) (h_seens : Int32) (h_texted : Int32) (h_at : Int32) (h_readPieces : Int32) (h_readDeeds : Int32) (h_readCoins : Int32) (h_readLaw : Int32) (h_now_c : Nat → Int32) (h_piece_c : Nat → Int32) (r : Int32) (hf : m_X6_isLoose a1 h_law h_now_c h_piece_c = some r) : Met l yX6_isLoose wsX6_isLoose ({ frames := 1, cells := 0, slots := 0, locals := 21 }) (va_Pc [.ref h, .int a1] (q_R D vwCl (tyL cI cC cL cB) [(h, .inr (6, [.int h_pieces, .ref h_piece, .int h_deeds, .ref h_deed, .int h_law, .ref h_st, .int h_acts, .ref h_was, .int h_keeps, .ref h_kept, .int h_seens, .ref h_seen, .ref h_text, .int h_texted, .int h_at, .ref h_told, .int h_readPieces, .ref h_readPiece, .ref h_readRoom, .int h_readDeeds, .ref h_readDeed, .int h_readCoins, .int h_readLaw, .ref h_now])), (h_now, .inl (cI, 18, .inl h_now_c)), (h_piece, .inl (cI, 16, .inl h_piece_c))])) (vp_Si (fun r' => r' = r)) 0 0 (fun _ => False) := by
  refine Met.ofW (cc := cX6_isLoose) (maxL := 2) (ret := (some .boolean)) (by decide) rfl ?_
  intro p e s m args below meth c s₁ B hml hv
  obtain ⟨rfl, hP, hK⟩ := hv
  have hx := B.exec
  have hb := B.bytes
  have hr := B.returns
  have hts := atoms_spec (ws := wsX6_isLoose) B.pre
  have hown : s.vm.findClass RX6 = some m.cls := findClass_of_methodNamed B.named
  have hlocks := B.notSynchronized
  have hl := lv_entry ([.ref h, .int a1]) (n := 2) (Nat.le_of_ble_eq_true rfl)
  rw [lg_entry_eq]
  generalize (lg_sl ([.ref h, .int a1]) ++ List.replicate (2 - (lg_sl ([.ref h, .int a1])).length) Slot.unset).toArray = ls at hl ⊢
  have hl : lv_has ls 2 [(0, .ref h), (1, .int a1)] := hl
  unfold m_X6_isLoose at hf
  refine lv_aload_n hx hb dX6_isLoose_0 rfl (lv_at hl 0 rfl) ?_
  refine va_get (D := D) (ci := 6) (v := .ref h_now) (C := RX6) (T := TX6) (N := 24) hx hb hts uX6_isLoose_X6 hown hK hP 0 rfl rfl 23 (by decide) (hts (.fieldLink RX6 43 "SpeaksForTheChairModel" "now" "[I") (List.mem_of_getElem? (i := 1) rfl)) (fun _ h9 => h9) rfl dX6_isLoose_1 ?_
  refine lv_bipush (v := 10) hx hb dX6_isLoose_4 (by decide) ?_
  refine lv_iload_n hx hb dX6_isLoose_6 rfl (lv_at hl 1 rfl) ?_
  refine lv_iadd hx hb dX6_isLoose_7 ?_
  obtain ⟨g_1, hf⟩ := gu_in hf
  refine va_iald hx hb hK hP 1 0 rfl rfl g_1 dX6_isLoose_8 ?_
  refine lv_if_ne (tgt := 34) hx hb dX6_isLoose_9 (by decide) (fun c_2 => ?_) (fun c_2 => ?_)
  · have hf := im c_2 hf
    refine lv_iconst (v := 0) hx hb dX6_isLoose_34 (by decide) ?_
    cases hf
    exact W.zret hx hb hr rfl (fun t ht hW => ⟨_, rfl, rfl, ht⟩) (fun _ h => by cases h) dX6_isLoose_35
  · have hf := ip c_2 hf
    refine lv_aload_n hx hb dX6_isLoose_12 rfl (lv_at hl 0 rfl) ?_
    refine va_get (D := D) (ci := 6) (v := .int h_law) (C := RX6) (T := TX6) (N := 24) hx hb hts uX6_isLoose_X6 hown hK hP 0 rfl rfl 4 (by decide) (hts (.fieldLink RX6 127 "SpeaksForTheChairModel" "law" "I") (List.mem_of_getElem? (i := 2) rfl)) (fun _ h9 => h9) rfl dX6_isLoose_13 ?_
    refine lv_aload_n hx hb dX6_isLoose_16 rfl (lv_at hl 0 rfl) ?_
    refine va_get (D := D) (ci := 6) (v := .ref h_piece) (C := RX6) (T := TX6) (N := 24) hx hb hts uX6_isLoose_X6 hown hK hP 0 rfl rfl 1 (by decide) (hts (.fieldLink RX6 7 "SpeaksForTheChairModel" "piece" "[I") (List.mem_of_getElem? (i := 3) rfl)) (fun _ h9 => h9) rfl dX6_isLoose_17 ?_
    refine lv_iconst (v := 2) hx hb dX6_isLoose_20 (by decide) ?_
    refine lv_iload_n hx hb dX6_isLoose_21 rfl (lv_at hl 1 rfl) ?_
    refine lv_imul hx hb dX6_isLoose_22 ?_
    obtain ⟨g_3, hf⟩ := gu_in hf
    refine va_iald hx hb hK hP 2 0 rfl rfl g_3 dX6_isLoose_23 ?_
    obtain ⟨x1, hv_4, hf⟩ := ob1_some hf
    refine q_rSi (As := [.int h_law, .int (h_piece_c ((2 * a1) : Int32).toNatClampNeg)]) (rest := []) (r := x1) ⟨hx, hb, hml, hown, hts⟩ (c_X6_has l D cI cC cL cB h_law ((h_piece_c ((2 * a1) : Int32).toNatClampNeg)) x1 hv_4) (va_cwS 2 hts gX6_isLoose_X6_has rfl rfl rfl (by decide +kernel) ⟨Nat.le_of_ble_eq_true rfl, Nat.le_of_ble_eq_true rfl⟩) hK hP [] rfl rfl hl.1 rfl (Nat.le_of_ble_eq_true rfl) dX6_isLoose_24 ⟨Nat.le_of_ble_eq_true rfl, Nat.le_of_ble_eq_true rfl⟩ ?_
    refine lv_if_ne (tgt := 34) hx hb dX6_isLoose_27 (by decide) (fun c_5 => ?_) (fun c_5 => ?_)
    · have hf := im c_5 hf
      refine lv_iconst (v := 0) hx hb dX6_isLoose_34 (by decide) ?_
      cases hf
      exact W.zret hx hb hr rfl (fun t ht hW => ⟨_, rfl, rfl, ht⟩) (fun _ h => by cases h) dX6_isLoose_35
    · have hf := ip c_5 hf
      refine lv_iconst (v := 1) hx hb dX6_isLoose_30 (by decide) ?_
      refine lv_goto (tgt := 35) hx hb dX6_isLoose_31 (by decide) ?_
      cases hf
      exact W.zret hx hb hr rfl (fun t ht hW => ⟨_, rfl, rfl, ht⟩) (fun _ h => by cases h) dX6_isLoose_35
theorem uX6_loose_X6 : ∀ w ∈ wsX60, w ∈ wsX6_loose := fun w h => List.mem_cons_of_mem _ (List.mem_append_right _ h)
set_option maxHeartbeats 4000000 in
set_option maxRecDepth 100000 in
theorem c_X6_loose (l : Launch) (D : va_G) (cI cC cL cB : ClassId) (h : Nat) (h_piece : Nat) (h_deed : Nat) (h_st : Nat) (h_was : Nat) (h_kept : Nat) (h_seen : Nat) (h_text : Nat) (h_told : Nat) (h_readPiece : Nat) (h_readRoom : Nat) (h_readDeed : Nat) (h_now : Nat) (h_pieces : Int32) (h_deeds : Int32) (h_law : Int32) (h_acts : Int32) (h_keeps : Int32) (h_seens : Int32) (h_texted : Int32) (h_at : Int32) (h_readPieces : Int32) (h_readDeeds : Int32) (h_readCoins : Int32) (h_readLaw : Int32) (h_now_c : Nat → Int32) (h_piece_c : Nat → Int32) (r : Int32) (hf : m_X6_loose h_pieces h_law h_now_c h_piece_c = some r) : Met l yX6_loose wsX6_loose ({ frames := 2, cells := 0, slots := 0, locals := 42 }) (va_Pc [.ref h] (q_R D vwCl (tyL cI cC cL cB) [(h, .inr (6, [.int h_pieces, .ref h_piece, .int h_deeds, .ref h_deed, .int h_law, .ref h_st, .int h_acts, .ref h_was, .int h_keeps, .ref h_kept, .int h_seens, .ref h_seen, .ref h_text, .int h_texted, .int h_at, .ref h_told, .int h_readPieces, .ref h_readPiece, .ref h_readRoom, .int h_readDeeds, .ref h_readDeed, .int h_readCoins, .int h_readLaw, .ref h_now])), (h_now, .inl (cI, 18, .inl h_now_c)), (h_piece, .inl (cI, 16, .inl h_piece_c))])) (vp_Si (fun r' => r' = r)) 0 0 (fun _ => False) := by
  refine Met.ofW (cc := cX6_loose) (maxL := 3) (ret := (some .int)) (by decide) rfl ?_
  intro p e s m args below meth c s₁ B hml hv
  obtain ⟨rfl, hP, hK⟩ := hv
  have hx := B.exec
  have hb := B.bytes
  have hr := B.returns
  have hts := atoms_spec (ws := wsX6_loose) B.pre
  have hown : s.vm.findClass RX6 = some m.cls := findClass_of_methodNamed B.named
  have hlocks := B.notSynchronized
  have hl := lv_entry ([.ref h]) (n := 3) (Nat.le_of_ble_eq_true rfl)
  rw [lg_entry_eq]
  generalize (lg_sl ([.ref h]) ++ List.replicate (3 - (lg_sl ([.ref h])).length) Slot.unset).toArray = ls at hl ⊢
  have hl : lv_has ls 3 [(0, .ref h)] := hl
  unfold m_X6_loose at hf
  refine lv_iconst (v := 0) hx hb dX6_loose_0 (by decide) ?_
  refine lv_istore_n (lv' := [(1, .int 0), (0, .ref h)]) hx hb dX6_loose_1 rfl hl (by decide) rfl (fun ls hl => ?_)
  refine lv_iconst (v := 0) hx hb dX6_loose_2 (by decide) ?_
  refine lv_istore_n (lv' := [(2, .int 0), (1, .int 0), (0, .ref h)]) hx hb dX6_loose_3 rfl hl (by decide) rfl (fun ls hl => ?_)
  have loop4 : ∀ (n : Nat) (x1 : Int32) (x2 : Int32), ∀ (ls : Array Slot), lv_has ls 3 [(0, .ref h), (1, .int x1), (2, .int x2)] → ∀ (x3 : Int32), L_X6_loose_4 h_pieces h_law h_now_c h_piece_c n x1 x2 = some x3 → (∀ (ls : Array Slot), lv_has ls 3 [(1, .int x3)] → W p l e (headSpec wsX6_loose ({ frames := 2, cells := 0, slots := 0, locals := 42 })).room s m ([.ref h] : List Value).toArray below meth c s.heap [] 0 0 (MQ below (vp_Si (fun r' => r' = r)) ([.ref h] : List Value).toArray s 0 0 (fun _ => False)) (F0 m 36 ls [])) → W p l e (headSpec wsX6_loose ({ frames := 2, cells := 0, slots := 0, locals := 42 })).room s m ([.ref h] : List Value).toArray below meth c s.heap [] 0 0 (MQ below (vp_Si (fun r' => r' = r)) ([.ref h] : List Value).toArray s 0 0 (fun _ => False)) (F0 m 4 ls []) := by
    intro n
    induction n with
    | zero =>
      intro x1 x2 ls hl x3 hf KX
      rw [L_X6_loose_4] at hf
      cases hf
    | succ n ih =>
      intro x1 x2 ls hl x3 hf KX
      rw [L_X6_loose_4] at hf
      refine lv_iload_n hx hb dX6_loose_4 rfl (lv_at hl 2 rfl) ?_
      refine lv_aload_n hx hb dX6_loose_5 rfl (lv_at hl 0 rfl) ?_
      refine va_get (D := D) (ci := 6) (v := .int h_pieces) (C := RX6) (T := TX6) (N := 24) hx hb hts uX6_loose_X6 hown hK hP 0 rfl rfl 0 (by decide) (hts (.fieldLink RX6 73 "SpeaksForTheChairModel" "pieces" "I") (List.mem_of_getElem? (i := 1) rfl)) (fun _ h9 => h9) rfl dX6_loose_6 ?_
      refine lv_icmp_ge (tgt := 36) hx hb dX6_loose_9 (by decide) (fun c_7 => ?_) (fun c_7 => ?_)
      · have hf := ip c_7 hf
        cases hf
        exact KX ls (lv_sub hl [1] rfl)
      · have hf := im c_7 hf
        refine lv_iload_n hx hb dX6_loose_12 rfl (lv_at hl 1 rfl) ?_
        refine lv_aload_n hx hb dX6_loose_13 rfl (lv_at hl 0 rfl) ?_
        refine lv_iload_n hx hb dX6_loose_14 rfl (lv_at hl 2 rfl) ?_
        obtain ⟨x4, hv_8, hf⟩ := ob1_some hf
        refine q_rVi (As := [.int x2]) (rest := [.int x1]) (r := x4) ⟨hx, hb, hml, hown, hts⟩ (c_X6_isLoose l D cI cC cL cB h h_piece h_deed h_st h_was h_kept h_seen h_text h_told h_readPiece h_readRoom h_readDeed h_now x2 h_pieces h_deeds h_law h_acts h_keeps h_seens h_texted h_at h_readPieces h_readDeeds h_readCoins h_readLaw h_now_c h_piece_c x4 hv_8) (cwV 1 hts gX6_loose_X6_isLoose rfl rfl rfl (by decide +kernel) ⟨Nat.le_of_ble_eq_true rfl, Nat.le_of_ble_eq_true rfl⟩) hK hP [0, 1, 2] rfl (va_recv hK hP (ci := 6) (q0 := 0) rfl rfl) rfl hl.1 rfl (Nat.le_of_ble_eq_true rfl) dX6_loose_15 ⟨Nat.le_of_ble_eq_true rfl, Nat.le_of_ble_eq_true rfl⟩ ?_
        refine lv_if_eq (tgt := 27) hx hb dX6_loose_18 (by decide) (fun c_9 => ?_) (fun c_9 => ?_)
        · have hf := ip c_9 hf
          refine lv_iconst (v := 0) hx hb dX6_loose_27 (by decide) ?_
          refine lv_ior hx hb dX6_loose_28 ?_
          refine lv_topi (fun x5 ex5 => ?_)
          have hf := pv_eq ex5 hf
          refine lv_istore_n (lv' := [(1, .int x5), (0, .ref h), (2, .int x2)]) hx hb dX6_loose_29 rfl hl (by decide) rfl (fun ls hl => ?_)
          obtain ⟨x6, ex6⟩ : ∃ y : Int32, y = (x2 + 1) := ⟨_, rfl⟩
          have hf := pv_eq ex6 hf
          refine lv_iinc (v := x6) (lv' := [(2, .int x6), (1, .int x5), (0, .ref h)]) hx hb dX6_loose_30 hl (k := 2) rfl (by rw [ex6]; rfl) (by decide) rfl (fun ls hl => ?_)
          refine lv_goto (tgt := 4) hx hb dX6_loose_33 (by decide) ?_
          exact ih _ _ ls (lv_sub hl [2, 1, 0] rfl) _ hf KX
        · have hf := im c_9 hf
          refine lv_iconst (v := 1) hx hb dX6_loose_21 (by decide) ?_
          refine lv_iload_n hx hb dX6_loose_22 rfl (lv_at hl 2 rfl) ?_
          refine lv_ishl hx hb dX6_loose_23 ?_
          refine lv_goto (tgt := 28) hx hb dX6_loose_24 (by decide) ?_
          refine lv_ior hx hb dX6_loose_28 ?_
          refine lv_topi (fun x7 ex7 => ?_)
          have hf := pv_eq ex7 hf
          refine lv_istore_n (lv' := [(1, .int x7), (0, .ref h), (2, .int x2)]) hx hb dX6_loose_29 rfl hl (by decide) rfl (fun ls hl => ?_)
          obtain ⟨x8, ex8⟩ : ∃ y : Int32, y = (x2 + 1) := ⟨_, rfl⟩
          have hf := pv_eq ex8 hf
          refine lv_iinc (v := x8) (lv' := [(2, .int x8), (1, .int x7), (0, .ref h)]) hx hb dX6_loose_30 hl (k := 2) rfl (by rw [ex8]; rfl) (by decide) rfl (fun ls hl => ?_)
          refine lv_goto (tgt := 4) hx hb dX6_loose_33 (by decide) ?_
          exact ih _ _ ls (lv_sub hl [2, 1, 0] rfl) _ hf KX
  obtain ⟨x3, hr4, hf⟩ := ob1_some hf
  refine loop4 300 _ _ ls (lv_sub hl [2, 1, 0] rfl) _ hr4 (fun ls hl => ?_)
  refine lv_iload_n hx hb dX6_loose_36 rfl (lv_at hl 0 rfl) ?_
  cases hf
  exact W.iret hx hb hr (fun t ht hW => ⟨_, rfl, rfl, ht⟩) (fun _ h => by cases h) dX6_loose_37
theorem uX6_tellers_X6 : ∀ w ∈ wsX60, w ∈ wsX6_tellers := fun w h => List.mem_cons_of_mem _ (List.mem_append_right _ h)
set_option maxHeartbeats 4000000 in
set_option maxRecDepth 100000 in
theorem c_X6_tellers (l : Launch) (D : va_G) (cI cC cL cB : ClassId) (h : Nat) (h_piece : Nat) (h_deed : Nat) (h_st : Nat) (h_was : Nat) (h_kept : Nat) (h_seen : Nat) (h_text : Nat) (h_told : Nat) (h_readPiece : Nat) (h_readRoom : Nat) (h_readDeed : Nat) (h_now : Nat) (a1 : Int32) (h_pieces : Int32) (h_deeds : Int32) (h_law : Int32) (h_acts : Int32) (h_keeps : Int32) (h_seens : Int32) (h_texted : Int32) (h_at : Int32) (h_readPieces : Int32) (h_readDeeds : Int32) (h_readCoins : Int32) (h_readLaw : Int32) (h_now_c : Nat → Int32) (h_piece_c : Nat → Int32) (h_deed_c : Nat → Int32) (r : Int32) (hf : m_X6_tellers a1 h_pieces h_deeds h_law h_now_c h_piece_c h_deed_c = some r) : Met l yX6_tellers wsX6_tellers ({ frames := 3, cells := 0, slots := 0, locals := 69 }) (va_Pc [.ref h, .int a1] (q_R D vwCl (tyL cI cC cL cB) [(h, .inr (6, [.int h_pieces, .ref h_piece, .int h_deeds, .ref h_deed, .int h_law, .ref h_st, .int h_acts, .ref h_was, .int h_keeps, .ref h_kept, .int h_seens, .ref h_seen, .ref h_text, .int h_texted, .int h_at, .ref h_told, .int h_readPieces, .ref h_readPiece, .ref h_readRoom, .int h_readDeeds, .ref h_readDeed, .int h_readCoins, .int h_readLaw, .ref h_now])), (h_now, .inl (cI, 18, .inl h_now_c)), (h_piece, .inl (cI, 16, .inl h_piece_c)), (h_deed, .inl (cI, 40, .inl h_deed_c))])) (vp_Si (fun r' => r' = r)) 0 0 (fun _ => False) := by
  refine Met.ofW (cc := cX6_tellers) (maxL := 4) (ret := (some .int)) (by decide) rfl ?_
  intro p e s m args below meth c s₁ B hml hv
  obtain ⟨rfl, hP, hK⟩ := hv
  have hx := B.exec
  have hb := B.bytes
  have hr := B.returns
  have hts := atoms_spec (ws := wsX6_tellers) B.pre
  have hown : s.vm.findClass RX6 = some m.cls := findClass_of_methodNamed B.named
  have hlocks := B.notSynchronized
  have hl := lv_entry ([.ref h, .int a1]) (n := 4) (Nat.le_of_ble_eq_true rfl)
  rw [lg_entry_eq]
  generalize (lg_sl ([.ref h, .int a1]) ++ List.replicate (4 - (lg_sl ([.ref h, .int a1])).length) Slot.unset).toArray = ls at hl ⊢
  have hl : lv_has ls 4 [(0, .ref h), (1, .int a1)] := hl
  unfold m_X6_tellers at hf
  refine lv_iconst (v := 0) hx hb dX6_tellers_0 (by decide) ?_
  refine lv_istore_n (lv' := [(2, .int 0), (0, .ref h), (1, .int a1)]) hx hb dX6_tellers_1 rfl hl (by decide) rfl (fun ls hl => ?_)
  refine lv_iconst (v := 0) hx hb dX6_tellers_2 (by decide) ?_
  refine lv_istore_n (lv' := [(3, .int 0), (2, .int 0), (0, .ref h), (1, .int a1)]) hx hb dX6_tellers_3 rfl hl (by decide) rfl (fun ls hl => ?_)
  have loop4 : ∀ (n : Nat) (x1 : Int32) (x2 : Int32), ∀ (ls : Array Slot), lv_has ls 4 [(0, .ref h), (1, .int a1), (2, .int x1), (3, .int x2)] → ∀ (x3 : Int32), L_X6_tellers_4 h_pieces h_law h_now_c h_piece_c a1 h_deeds h_deed_c n x1 x2 = some x3 → (∀ (ls : Array Slot), lv_has ls 4 [(2, .int x3)] → W p l e (headSpec wsX6_tellers ({ frames := 3, cells := 0, slots := 0, locals := 69 })).room s m ([.ref h, .int a1] : List Value).toArray below meth c s.heap [] 0 0 (MQ below (vp_Si (fun r' => r' = r)) ([.ref h, .int a1] : List Value).toArray s 0 0 (fun _ => False)) (F0 m 49 ls [])) → W p l e (headSpec wsX6_tellers ({ frames := 3, cells := 0, slots := 0, locals := 69 })).room s m ([.ref h, .int a1] : List Value).toArray below meth c s.heap [] 0 0 (MQ below (vp_Si (fun r' => r' = r)) ([.ref h, .int a1] : List Value).toArray s 0 0 (fun _ => False)) (F0 m 4 ls []) := by
    intro n
    induction n with
    | zero =>
      intro x1 x2 ls hl x3 hf KX
      rw [L_X6_tellers_4] at hf
      cases hf
    | succ n ih =>
      intro x1 x2 ls hl x3 hf KX
      rw [L_X6_tellers_4] at hf
      refine lv_iload_n hx hb dX6_tellers_4 rfl (lv_at hl 3 rfl) ?_
      refine lv_aload_n hx hb dX6_tellers_5 rfl (lv_at hl 0 rfl) ?_
      refine va_get (D := D) (ci := 6) (v := .int h_pieces) (C := RX6) (T := TX6) (N := 24) hx hb hts uX6_tellers_X6 hown hK hP 0 rfl rfl 0 (by decide) (hts (.fieldLink RX6 73 "SpeaksForTheChairModel" "pieces" "I") (List.mem_of_getElem? (i := 1) rfl)) (fun _ h9 => h9) rfl dX6_tellers_6 ?_
      refine lv_icmp_ge (tgt := 49) hx hb dX6_tellers_9 (by decide) (fun c_11 => ?_) (fun c_11 => ?_)
      · have hf := ip c_11 hf
        cases hf
        exact KX ls (lv_sub hl [2] rfl)
      · have hf := im c_11 hf
        refine lv_iload_n hx hb dX6_tellers_12 rfl (lv_at hl 2 rfl) ?_
        refine lv_aload_n hx hb dX6_tellers_13 rfl (lv_at hl 0 rfl) ?_
        refine lv_iload_n hx hb dX6_tellers_14 rfl (lv_at hl 3 rfl) ?_
        obtain ⟨x4, hv_12, hf⟩ := ob1_some hf
        refine q_rVi (As := [.int x2]) (rest := [.int x1]) (r := x4) ⟨hx, hb, hml, hown, hts⟩ (c_X6_isLoose l D cI cC cL cB h h_piece h_deed h_st h_was h_kept h_seen h_text h_told h_readPiece h_readRoom h_readDeed h_now x2 h_pieces h_deeds h_law h_acts h_keeps h_seens h_texted h_at h_readPieces h_readDeeds h_readCoins h_readLaw h_now_c h_piece_c x4 hv_12) (cwV 1 hts gX6_tellers_X6_isLoose rfl rfl rfl (by decide +kernel) ⟨Nat.le_of_ble_eq_true rfl, Nat.le_of_ble_eq_true rfl⟩) hK hP [0, 1, 2] rfl (va_recv hK hP (ci := 6) (q0 := 0) rfl rfl) rfl hl.1 rfl (Nat.le_of_ble_eq_true rfl) dX6_tellers_15 ⟨Nat.le_of_ble_eq_true rfl, Nat.le_of_ble_eq_true rfl⟩ ?_
        refine lv_if_eq (tgt := 40) hx hb dX6_tellers_18 (by decide) (fun c_13 => ?_) (fun c_13 => ?_)
        · have hf := ip c_13 hf
          refine lv_iconst (v := 0) hx hb dX6_tellers_40 (by decide) ?_
          refine lv_ior hx hb dX6_tellers_41 ?_
          refine lv_topi (fun x5 ex5 => ?_)
          have hf := pv_eq ex5 hf
          refine lv_istore_n (lv' := [(2, .int x5), (0, .ref h), (1, .int a1), (3, .int x2)]) hx hb dX6_tellers_42 rfl hl (by decide) rfl (fun ls hl => ?_)
          obtain ⟨x6, ex6⟩ : ∃ y : Int32, y = (x2 + 1) := ⟨_, rfl⟩
          have hf := pv_eq ex6 hf
          refine lv_iinc (v := x6) (lv' := [(3, .int x6), (2, .int x5), (0, .ref h), (1, .int a1)]) hx hb dX6_tellers_43 hl (k := 3) rfl (by rw [ex6]; rfl) (by decide) rfl (fun ls hl => ?_)
          refine lv_goto (tgt := 4) hx hb dX6_tellers_46 (by decide) ?_
          exact ih _ _ ls (lv_sub hl [2, 3, 1, 0] rfl) _ hf KX
        · have hf := im c_13 hf
          refine lv_aload_n hx hb dX6_tellers_21 rfl (lv_at hl 0 rfl) ?_
          refine lv_iload_n hx hb dX6_tellers_22 rfl (lv_at hl 3 rfl) ?_
          refine lv_iload_n hx hb dX6_tellers_23 rfl (lv_at hl 1 rfl) ?_
          refine lv_aload_n hx hb dX6_tellers_24 rfl (lv_at hl 0 rfl) ?_
          refine va_get (D := D) (ci := 6) (v := .int h_deeds) (C := RX6) (T := TX6) (N := 24) hx hb hts uX6_tellers_X6 hown hK hP 0 rfl rfl 2 (by decide) (hts (.fieldLink RX6 80 "SpeaksForTheChairModel" "deeds" "I") (List.mem_of_getElem? (i := 2) rfl)) (fun _ h9 => h9) rfl dX6_tellers_25 ?_
          obtain ⟨x7, hv_14, hf⟩ := ob1_some hf
          refine q_rVi (As := [.int x2, .int a1, .int h_deeds]) (rest := [.int x1]) (r := x7) ⟨hx, hb, hml, hown, hts⟩ (c_X6_doesTell l D cI cC cL cB h h_piece h_deed h_st h_was h_kept h_seen h_text h_told h_readPiece h_readRoom h_readDeed h_now x2 a1 h_deeds h_pieces h_deeds h_law h_acts h_keeps h_seens h_texted h_at h_readPieces h_readDeeds h_readCoins h_readLaw h_deed_c h_now_c h_piece_c x7 hv_14) (cwV 3 hts gX6_tellers_X6_doesTell rfl rfl rfl (by decide +kernel) ⟨Nat.le_of_ble_eq_true rfl, Nat.le_of_ble_eq_true rfl⟩) hK hP [0, 3, 1, 2] rfl (va_recv hK hP (ci := 6) (q0 := 0) rfl rfl) rfl hl.1 rfl (Nat.le_of_ble_eq_true rfl) dX6_tellers_28 ⟨Nat.le_of_ble_eq_true rfl, Nat.le_of_ble_eq_true rfl⟩ ?_
          refine lv_if_eq (tgt := 40) hx hb dX6_tellers_31 (by decide) (fun c_15 => ?_) (fun c_15 => ?_)
          · have hf := ip c_15 hf
            refine lv_iconst (v := 0) hx hb dX6_tellers_40 (by decide) ?_
            refine lv_ior hx hb dX6_tellers_41 ?_
            refine lv_topi (fun x8 ex8 => ?_)
            have hf := pv_eq ex8 hf
            refine lv_istore_n (lv' := [(2, .int x8), (0, .ref h), (1, .int a1), (3, .int x2)]) hx hb dX6_tellers_42 rfl hl (by decide) rfl (fun ls hl => ?_)
            obtain ⟨x9, ex9⟩ : ∃ y : Int32, y = (x2 + 1) := ⟨_, rfl⟩
            have hf := pv_eq ex9 hf
            refine lv_iinc (v := x9) (lv' := [(3, .int x9), (2, .int x8), (0, .ref h), (1, .int a1)]) hx hb dX6_tellers_43 hl (k := 3) rfl (by rw [ex9]; rfl) (by decide) rfl (fun ls hl => ?_)
            refine lv_goto (tgt := 4) hx hb dX6_tellers_46 (by decide) ?_
            exact ih _ _ ls (lv_sub hl [2, 3, 1, 0] rfl) _ hf KX
          · have hf := im c_15 hf
            refine lv_iconst (v := 1) hx hb dX6_tellers_34 (by decide) ?_
            refine lv_iload_n hx hb dX6_tellers_35 rfl (lv_at hl 3 rfl) ?_
            refine lv_ishl hx hb dX6_tellers_36 ?_
            refine lv_goto (tgt := 41) hx hb dX6_tellers_37 (by decide) ?_
            refine lv_ior hx hb dX6_tellers_41 ?_
            refine lv_topi (fun x10 ex10 => ?_)
            have hf := pv_eq ex10 hf
            refine lv_istore_n (lv' := [(2, .int x10), (0, .ref h), (1, .int a1), (3, .int x2)]) hx hb dX6_tellers_42 rfl hl (by decide) rfl (fun ls hl => ?_)
            obtain ⟨x11, ex11⟩ : ∃ y : Int32, y = (x2 + 1) := ⟨_, rfl⟩
            have hf := pv_eq ex11 hf
            refine lv_iinc (v := x11) (lv' := [(3, .int x11), (2, .int x10), (0, .ref h), (1, .int a1)]) hx hb dX6_tellers_43 hl (k := 3) rfl (by rw [ex11]; rfl) (by decide) rfl (fun ls hl => ?_)
            refine lv_goto (tgt := 4) hx hb dX6_tellers_46 (by decide) ?_
            exact ih _ _ ls (lv_sub hl [2, 3, 1, 0] rfl) _ hf KX
  obtain ⟨x3, hr4, hf⟩ := ob1_some hf
  refine loop4 300 _ _ ls (lv_sub hl [2, 3, 1, 0] rfl) _ hr4 (fun ls hl => ?_)
  refine lv_iload_n hx hb dX6_tellers_49 rfl (lv_at hl 0 rfl) ?_
  cases hf
  exact W.iret hx hb hr (fun t ht hW => ⟨_, rfl, rfl, ht⟩) (fun _ h => by cases h) dX6_tellers_50
theorem uX6_priceOf_X6 : ∀ w ∈ wsX60, w ∈ wsX6_priceOf := fun w h => List.mem_cons_of_mem _ (List.mem_append_right _ h)
set_option maxHeartbeats 4000000 in
set_option maxRecDepth 100000 in
theorem c_X6_priceOf (l : Launch) (D : va_G) (cI cC cL cB : ClassId) (h : Nat) (h_piece : Nat) (h_deed : Nat) (h_st : Nat) (h_was : Nat) (h_kept : Nat) (h_seen : Nat) (h_text : Nat) (h_told : Nat) (h_readPiece : Nat) (h_readRoom : Nat) (h_readDeed : Nat) (h_now : Nat) (a1 : Int32) (h_pieces : Int32) (h_deeds : Int32) (h_law : Int32) (h_acts : Int32) (h_keeps : Int32) (h_seens : Int32) (h_texted : Int32) (h_at : Int32) (h_readPieces : Int32) (h_readDeeds : Int32) (h_readCoins : Int32) (h_readLaw : Int32) (h_piece_c : Nat → Int32) (r : Int32) (hf : m_X6_priceOf a1 h_pieces h_piece_c = some r) : Met l yX6_priceOf wsX6_priceOf ({ frames := 1, cells := 0, slots := 0, locals := 21 }) (va_Pc [.ref h, .int a1] (q_R D vwCl (tyL cI cC cL cB) [(h, .inr (6, [.int h_pieces, .ref h_piece, .int h_deeds, .ref h_deed, .int h_law, .ref h_st, .int h_acts, .ref h_was, .int h_keeps, .ref h_kept, .int h_seens, .ref h_seen, .ref h_text, .int h_texted, .int h_at, .ref h_told, .int h_readPieces, .ref h_readPiece, .ref h_readRoom, .int h_readDeeds, .ref h_readDeed, .int h_readCoins, .int h_readLaw, .ref h_now])), (h_piece, .inl (cI, 16, .inl h_piece_c))])) (vp_Si (fun r' => r' = r)) 0 0 (fun _ => False) := by
  refine Met.ofW (cc := cX6_priceOf) (maxL := 4) (ret := (some .int)) (by decide) rfl ?_
  intro p e s m args below meth c s₁ B hml hv
  obtain ⟨rfl, hP, hK⟩ := hv
  have hx := B.exec
  have hb := B.bytes
  have hr := B.returns
  have hts := atoms_spec (ws := wsX6_priceOf) B.pre
  have hown : s.vm.findClass RX6 = some m.cls := findClass_of_methodNamed B.named
  have hlocks := B.notSynchronized
  have hl := lv_entry ([.ref h, .int a1]) (n := 4) (Nat.le_of_ble_eq_true rfl)
  rw [lg_entry_eq]
  generalize (lg_sl ([.ref h, .int a1]) ++ List.replicate (4 - (lg_sl ([.ref h, .int a1])).length) Slot.unset).toArray = ls at hl ⊢
  have hl : lv_has ls 4 [(0, .ref h), (1, .int a1)] := hl
  unfold m_X6_priceOf at hf
  refine lv_iconst (v := 0) hx hb dX6_priceOf_0 (by decide) ?_
  refine lv_istore_n (lv' := [(2, .int 0), (0, .ref h), (1, .int a1)]) hx hb dX6_priceOf_1 rfl hl (by decide) rfl (fun ls hl => ?_)
  refine lv_iconst (v := 0) hx hb dX6_priceOf_2 (by decide) ?_
  refine lv_istore_n (lv' := [(3, .int 0), (2, .int 0), (0, .ref h), (1, .int a1)]) hx hb dX6_priceOf_3 rfl hl (by decide) rfl (fun ls hl => ?_)
  have loop4 : ∀ (n : Nat) (x1 : Int32) (x2 : Int32), ∀ (ls : Array Slot), lv_has ls 4 [(0, .ref h), (1, .int a1), (2, .int x1), (3, .int x2)] → ∀ (x3 : Int32), L_X6_priceOf_4 h_pieces a1 h_piece_c n x1 x2 = some x3 → (∀ (ls : Array Slot), lv_has ls 4 [(2, .int x3)] → W p l e (headSpec wsX6_priceOf ({ frames := 1, cells := 0, slots := 0, locals := 21 })).room s m ([.ref h, .int a1] : List Value).toArray below meth c s.heap [] 0 0 (MQ below (vp_Si (fun r' => r' = r)) ([.ref h, .int a1] : List Value).toArray s 0 0 (fun _ => False)) (F0 m 43 ls [])) → W p l e (headSpec wsX6_priceOf ({ frames := 1, cells := 0, slots := 0, locals := 21 })).room s m ([.ref h, .int a1] : List Value).toArray below meth c s.heap [] 0 0 (MQ below (vp_Si (fun r' => r' = r)) ([.ref h, .int a1] : List Value).toArray s 0 0 (fun _ => False)) (F0 m 4 ls []) := by
    intro n
    induction n with
    | zero =>
      intro x1 x2 ls hl x3 hf KX
      rw [L_X6_priceOf_4] at hf
      cases hf
    | succ n ih =>
      intro x1 x2 ls hl x3 hf KX
      rw [L_X6_priceOf_4] at hf
      refine lv_iload_n hx hb dX6_priceOf_4 rfl (lv_at hl 3 rfl) ?_
      refine lv_aload_n hx hb dX6_priceOf_5 rfl (lv_at hl 0 rfl) ?_
      refine va_get (D := D) (ci := 6) (v := .int h_pieces) (C := RX6) (T := TX6) (N := 24) hx hb hts uX6_priceOf_X6 hown hK hP 0 rfl rfl 0 (by decide) (hts (.fieldLink RX6 73 "SpeaksForTheChairModel" "pieces" "I") (List.mem_of_getElem? (i := 1) rfl)) (fun _ h9 => h9) rfl dX6_priceOf_6 ?_
      refine lv_icmp_ge (tgt := 43) hx hb dX6_priceOf_9 (by decide) (fun c_9 => ?_) (fun c_9 => ?_)
      · have hf := ip c_9 hf
        cases hf
        exact KX ls (lv_sub hl [2] rfl)
      · have hf := im c_9 hf
        refine lv_iload_n hx hb dX6_priceOf_12 rfl (lv_at hl 2 rfl) ?_
        refine lv_iload_n hx hb dX6_priceOf_13 rfl (lv_at hl 1 rfl) ?_
        refine lv_iload_n hx hb dX6_priceOf_14 rfl (lv_at hl 3 rfl) ?_
        obtain ⟨x4, hv_10, hf⟩ := ob1_some hf
        refine q_rSi (As := [.int a1, .int x2]) (rest := [.int x1]) (r := x4) ⟨hx, hb, hml, hown, hts⟩ (c_X6_has l D cI cC cL cB a1 x2 x4 hv_10) (va_cwS 2 hts gX6_priceOf_X6_has rfl rfl rfl (by decide +kernel) ⟨Nat.le_of_ble_eq_true rfl, Nat.le_of_ble_eq_true rfl⟩) hK hP [] rfl rfl hl.1 rfl (Nat.le_of_ble_eq_true rfl) dX6_priceOf_15 ⟨Nat.le_of_ble_eq_true rfl, Nat.le_of_ble_eq_true rfl⟩ ?_
        refine lv_if_eq (tgt := 34) hx hb dX6_priceOf_18 (by decide) (fun c_11 => ?_) (fun c_11 => ?_)
        · have hf := ip c_11 hf
          refine lv_iconst (v := 0) hx hb dX6_priceOf_34 (by decide) ?_
          refine lv_iadd hx hb dX6_priceOf_35 ?_
          refine lv_topi (fun x5 ex5 => ?_)
          have hf := pv_eq ex5 hf
          refine lv_istore_n (lv' := [(2, .int x5), (0, .ref h), (1, .int a1), (3, .int x2)]) hx hb dX6_priceOf_36 rfl hl (by decide) rfl (fun ls hl => ?_)
          obtain ⟨x6, ex6⟩ : ∃ y : Int32, y = (x2 + 1) := ⟨_, rfl⟩
          have hf := pv_eq ex6 hf
          refine lv_iinc (v := x6) (lv' := [(3, .int x6), (2, .int x5), (0, .ref h), (1, .int a1)]) hx hb dX6_priceOf_37 hl (k := 3) rfl (by rw [ex6]; rfl) (by decide) rfl (fun ls hl => ?_)
          refine lv_goto (tgt := 4) hx hb dX6_priceOf_40 (by decide) ?_
          exact ih _ _ ls (lv_sub hl [2, 3, 1, 0] rfl) _ hf KX
        · have hf := im c_11 hf
          refine lv_aload_n hx hb dX6_priceOf_21 rfl (lv_at hl 0 rfl) ?_
          refine va_get (D := D) (ci := 6) (v := .ref h_piece) (C := RX6) (T := TX6) (N := 24) hx hb hts uX6_priceOf_X6 hown hK hP 0 rfl rfl 1 (by decide) (hts (.fieldLink RX6 7 "SpeaksForTheChairModel" "piece" "[I") (List.mem_of_getElem? (i := 2) rfl)) (fun _ h9 => h9) rfl dX6_priceOf_22 ?_
          refine lv_iconst (v := 2) hx hb dX6_priceOf_25 (by decide) ?_
          refine lv_iload_n hx hb dX6_priceOf_26 rfl (lv_at hl 3 rfl) ?_
          refine lv_imul hx hb dX6_priceOf_27 ?_
          refine lv_iconst (v := 1) hx hb dX6_priceOf_28 (by decide) ?_
          refine lv_iadd hx hb dX6_priceOf_29 ?_
          obtain ⟨g_12, hf⟩ := gu_in hf
          refine va_iald hx hb hK hP 1 0 rfl rfl g_12 dX6_priceOf_30 ?_
          refine lv_goto (tgt := 35) hx hb dX6_priceOf_31 (by decide) ?_
          refine lv_iadd hx hb dX6_priceOf_35 ?_
          refine lv_topi (fun x7 ex7 => ?_)
          have hf := pv_eq ex7 hf
          refine lv_istore_n (lv' := [(2, .int x7), (0, .ref h), (1, .int a1), (3, .int x2)]) hx hb dX6_priceOf_36 rfl hl (by decide) rfl (fun ls hl => ?_)
          obtain ⟨x8, ex8⟩ : ∃ y : Int32, y = (x2 + 1) := ⟨_, rfl⟩
          have hf := pv_eq ex8 hf
          refine lv_iinc (v := x8) (lv' := [(3, .int x8), (2, .int x7), (0, .ref h), (1, .int a1)]) hx hb dX6_priceOf_37 hl (k := 3) rfl (by rw [ex8]; rfl) (by decide) rfl (fun ls hl => ?_)
          refine lv_goto (tgt := 4) hx hb dX6_priceOf_40 (by decide) ?_
          exact ih _ _ ls (lv_sub hl [2, 3, 1, 0] rfl) _ hf KX
  obtain ⟨x3, hr4, hf⟩ := ob1_some hf
  refine loop4 300 _ _ ls (lv_sub hl [2, 3, 1, 0] rfl) _ hr4 (fun ls hl => ?_)
  refine lv_iload_n hx hb dX6_priceOf_43 rfl (lv_at hl 0 rfl) ?_
  cases hf
  exact W.iret hx hb hr (fun t ht hW => ⟨_, rfl, rfl, ht⟩) (fun _ h => by cases h) dX6_priceOf_44
theorem uX6_allWeigh_X6 : ∀ w ∈ wsX60, w ∈ wsX6_allWeigh := fun w h => List.mem_cons_of_mem _ (List.mem_append_right _ h)
set_option maxHeartbeats 4000000 in
set_option maxRecDepth 100000 in
theorem c_X6_allWeigh (l : Launch) (D : va_G) (cI cC cL cB : ClassId) (h : Nat) (h_piece : Nat) (h_deed : Nat) (h_st : Nat) (h_was : Nat) (h_kept : Nat) (h_seen : Nat) (h_text : Nat) (h_told : Nat) (h_readPiece : Nat) (h_readRoom : Nat) (h_readDeed : Nat) (h_now : Nat) (a1 : Int32) (h_pieces : Int32) (h_deeds : Int32) (h_law : Int32) (h_acts : Int32) (h_keeps : Int32) (h_seens : Int32) (h_texted : Int32) (h_at : Int32) (h_readPieces : Int32) (h_readDeeds : Int32) (h_readCoins : Int32) (h_readLaw : Int32) (h_deed_c : Nat → Int32) (r : Int32) (hf : m_X6_allWeigh a1 h_deeds h_deed_c = some r) : Met l yX6_allWeigh wsX6_allWeigh ({ frames := 1, cells := 0, slots := 0, locals := 21 }) (va_Pc [.ref h, .int a1] (q_R D vwCl (tyL cI cC cL cB) [(h, .inr (6, [.int h_pieces, .ref h_piece, .int h_deeds, .ref h_deed, .int h_law, .ref h_st, .int h_acts, .ref h_was, .int h_keeps, .ref h_kept, .int h_seens, .ref h_seen, .ref h_text, .int h_texted, .int h_at, .ref h_told, .int h_readPieces, .ref h_readPiece, .ref h_readRoom, .int h_readDeeds, .ref h_readDeed, .int h_readCoins, .int h_readLaw, .ref h_now])), (h_deed, .inl (cI, 40, .inl h_deed_c))])) (vp_Si (fun r' => r' = r)) 0 0 (fun _ => False) := by
  refine Met.ofW (cc := cX6_allWeigh) (maxL := 4) (ret := (some .int)) (by decide) rfl ?_
  intro p e s m args below meth c s₁ B hml hv
  obtain ⟨rfl, hP, hK⟩ := hv
  have hx := B.exec
  have hb := B.bytes
  have hr := B.returns
  have hts := atoms_spec (ws := wsX6_allWeigh) B.pre
  have hown : s.vm.findClass RX6 = some m.cls := findClass_of_methodNamed B.named
  have hlocks := B.notSynchronized
  have hl := lv_entry ([.ref h, .int a1]) (n := 4) (Nat.le_of_ble_eq_true rfl)
  rw [lg_entry_eq]
  generalize (lg_sl ([.ref h, .int a1]) ++ List.replicate (4 - (lg_sl ([.ref h, .int a1])).length) Slot.unset).toArray = ls at hl ⊢
  have hl : lv_has ls 4 [(0, .ref h), (1, .int a1)] := hl
  unfold m_X6_allWeigh at hf
  refine lv_iconst (v := 0) hx hb dX6_allWeigh_0 (by decide) ?_
  refine lv_istore_n (lv' := [(2, .int 0), (0, .ref h), (1, .int a1)]) hx hb dX6_allWeigh_1 rfl hl (by decide) rfl (fun ls hl => ?_)
  refine lv_iconst (v := 0) hx hb dX6_allWeigh_2 (by decide) ?_
  refine lv_istore_n (lv' := [(3, .int 0), (2, .int 0), (0, .ref h), (1, .int a1)]) hx hb dX6_allWeigh_3 rfl hl (by decide) rfl (fun ls hl => ?_)
  have loop4 : ∀ (n : Nat) (x1 : Int32) (x2 : Int32), ∀ (ls : Array Slot), lv_has ls 4 [(0, .ref h), (1, .int a1), (2, .int x1), (3, .int x2)] → ∀ (x3 : Int32), L_X6_allWeigh_4 h_deeds a1 h_deed_c n x1 x2 = some x3 → (∀ (ls : Array Slot), lv_has ls 4 [(2, .int x3)] → W p l e (headSpec wsX6_allWeigh ({ frames := 1, cells := 0, slots := 0, locals := 21 })).room s m ([.ref h, .int a1] : List Value).toArray below meth c s.heap [] 0 0 (MQ below (vp_Si (fun r' => r' = r)) ([.ref h, .int a1] : List Value).toArray s 0 0 (fun _ => False)) (F0 m 38 ls [])) → W p l e (headSpec wsX6_allWeigh ({ frames := 1, cells := 0, slots := 0, locals := 21 })).room s m ([.ref h, .int a1] : List Value).toArray below meth c s.heap [] 0 0 (MQ below (vp_Si (fun r' => r' = r)) ([.ref h, .int a1] : List Value).toArray s 0 0 (fun _ => False)) (F0 m 4 ls []) := by
    intro n
    induction n with
    | zero =>
      intro x1 x2 ls hl x3 hf KX
      rw [L_X6_allWeigh_4] at hf
      cases hf
    | succ n ih =>
      intro x1 x2 ls hl x3 hf KX
      rw [L_X6_allWeigh_4] at hf
      refine lv_iload_n hx hb dX6_allWeigh_4 rfl (lv_at hl 3 rfl) ?_
      refine lv_aload_n hx hb dX6_allWeigh_5 rfl (lv_at hl 0 rfl) ?_
      refine va_get (D := D) (ci := 6) (v := .int h_deeds) (C := RX6) (T := TX6) (N := 24) hx hb hts uX6_allWeigh_X6 hown hK hP 0 rfl rfl 2 (by decide) (hts (.fieldLink RX6 80 "SpeaksForTheChairModel" "deeds" "I") (List.mem_of_getElem? (i := 1) rfl)) (fun _ h9 => h9) rfl dX6_allWeigh_6 ?_
      refine lv_icmp_ge (tgt := 38) hx hb dX6_allWeigh_9 (by decide) (fun c_9 => ?_) (fun c_9 => ?_)
      · have hf := ip c_9 hf
        cases hf
        exact KX ls (lv_sub hl [2] rfl)
      · have hf := im c_9 hf
        refine lv_iload_n hx hb dX6_allWeigh_12 rfl (lv_at hl 2 rfl) ?_
        refine lv_iload_n hx hb dX6_allWeigh_13 rfl (lv_at hl 1 rfl) ?_
        refine lv_iload_n hx hb dX6_allWeigh_14 rfl (lv_at hl 3 rfl) ?_
        obtain ⟨x4, hv_10, hf⟩ := ob1_some hf
        refine q_rSi (As := [.int a1, .int x2]) (rest := [.int x1]) (r := x4) ⟨hx, hb, hml, hown, hts⟩ (c_X6_has l D cI cC cL cB a1 x2 x4 hv_10) (va_cwS 2 hts gX6_allWeigh_X6_has rfl rfl rfl (by decide +kernel) ⟨Nat.le_of_ble_eq_true rfl, Nat.le_of_ble_eq_true rfl⟩) hK hP [] rfl rfl hl.1 rfl (Nat.le_of_ble_eq_true rfl) dX6_allWeigh_15 ⟨Nat.le_of_ble_eq_true rfl, Nat.le_of_ble_eq_true rfl⟩ ?_
        refine lv_if_eq (tgt := 29) hx hb dX6_allWeigh_18 (by decide) (fun c_11 => ?_) (fun c_11 => ?_)
        · have hf := ip c_11 hf
          refine lv_iconst (v := 0) hx hb dX6_allWeigh_29 (by decide) ?_
          refine lv_iadd hx hb dX6_allWeigh_30 ?_
          refine lv_topi (fun x5 ex5 => ?_)
          have hf := pv_eq ex5 hf
          refine lv_istore_n (lv' := [(2, .int x5), (0, .ref h), (1, .int a1), (3, .int x2)]) hx hb dX6_allWeigh_31 rfl hl (by decide) rfl (fun ls hl => ?_)
          obtain ⟨x6, ex6⟩ : ∃ y : Int32, y = (x2 + 1) := ⟨_, rfl⟩
          have hf := pv_eq ex6 hf
          refine lv_iinc (v := x6) (lv' := [(3, .int x6), (2, .int x5), (0, .ref h), (1, .int a1)]) hx hb dX6_allWeigh_32 hl (k := 3) rfl (by rw [ex6]; rfl) (by decide) rfl (fun ls hl => ?_)
          refine lv_goto (tgt := 4) hx hb dX6_allWeigh_35 (by decide) ?_
          exact ih _ _ ls (lv_sub hl [2, 3, 1, 0] rfl) _ hf KX
        · have hf := im c_11 hf
          refine lv_aload_n hx hb dX6_allWeigh_21 rfl (lv_at hl 0 rfl) ?_
          refine lv_iload_n hx hb dX6_allWeigh_22 rfl (lv_at hl 3 rfl) ?_
          obtain ⟨x7, hv_12, hf⟩ := ob1_some hf
          refine q_rVi (As := [.int x2]) (rest := [.int x1]) (r := x7) ⟨hx, hb, hml, hown, hts⟩ (c_X6_weighs l D cI cC cL cB h h_piece h_deed h_st h_was h_kept h_seen h_text h_told h_readPiece h_readRoom h_readDeed h_now x2 h_pieces h_deeds h_law h_acts h_keeps h_seens h_texted h_at h_readPieces h_readDeeds h_readCoins h_readLaw h_deed_c x7 hv_12) (cwV 1 hts gX6_allWeigh_X6_weighs rfl rfl rfl (by decide +kernel) ⟨Nat.le_of_ble_eq_true rfl, Nat.le_of_ble_eq_true rfl⟩) hK hP [0, 1] rfl (va_recv hK hP (ci := 6) (q0 := 0) rfl rfl) rfl hl.1 rfl (Nat.le_of_ble_eq_true rfl) dX6_allWeigh_23 ⟨Nat.le_of_ble_eq_true rfl, Nat.le_of_ble_eq_true rfl⟩ ?_
          refine lv_goto (tgt := 30) hx hb dX6_allWeigh_26 (by decide) ?_
          refine lv_iadd hx hb dX6_allWeigh_30 ?_
          refine lv_topi (fun x8 ex8 => ?_)
          have hf := pv_eq ex8 hf
          refine lv_istore_n (lv' := [(2, .int x8), (0, .ref h), (1, .int a1), (3, .int x2)]) hx hb dX6_allWeigh_31 rfl hl (by decide) rfl (fun ls hl => ?_)
          obtain ⟨x9, ex9⟩ : ∃ y : Int32, y = (x2 + 1) := ⟨_, rfl⟩
          have hf := pv_eq ex9 hf
          refine lv_iinc (v := x9) (lv' := [(3, .int x9), (2, .int x8), (0, .ref h), (1, .int a1)]) hx hb dX6_allWeigh_32 hl (k := 3) rfl (by rw [ex9]; rfl) (by decide) rfl (fun ls hl => ?_)
          refine lv_goto (tgt := 4) hx hb dX6_allWeigh_35 (by decide) ?_
          exact ih _ _ ls (lv_sub hl [2, 3, 1, 0] rfl) _ hf KX
  obtain ⟨x3, hr4, hf⟩ := ob1_some hf
  refine loop4 300 _ _ ls (lv_sub hl [2, 3, 1, 0] rfl) _ hr4 (fun ls hl => ?_)
  refine lv_iload_n hx hb dX6_allWeigh_38 rfl (lv_at hl 0 rfl) ?_
  cases hf
  exact W.iret hx hb hr (fun t ht hW => ⟨_, rfl, rfl, ht⟩) (fun _ h => by cases h) dX6_allWeigh_39
theorem uX6_toldByAll_X6 : ∀ w ∈ wsX60, w ∈ wsX6_toldByAll := fun w h => List.mem_cons_of_mem _ (List.mem_append_right _ h)
set_option maxHeartbeats 4000000 in
set_option maxRecDepth 100000 in
theorem c_X6_toldByAll (l : Launch) (D : va_G) (cI cC cL cB : ClassId) (h : Nat) (h_piece : Nat) (h_deed : Nat) (h_st : Nat) (h_was : Nat) (h_kept : Nat) (h_seen : Nat) (h_text : Nat) (h_told : Nat) (h_readPiece : Nat) (h_readRoom : Nat) (h_readDeed : Nat) (h_now : Nat) (a1 : Int32) (h_pieces : Int32) (h_deeds : Int32) (h_law : Int32) (h_acts : Int32) (h_keeps : Int32) (h_seens : Int32) (h_texted : Int32) (h_at : Int32) (h_readPieces : Int32) (h_readDeeds : Int32) (h_readCoins : Int32) (h_readLaw : Int32) (h_deed_c : Nat → Int32) (h_now_c : Nat → Int32) (h_piece_c : Nat → Int32) (r : Int32) (hf : m_X6_toldByAll a1 h_pieces h_deeds h_deed_c h_now_c h_piece_c = some r) : Met l yX6_toldByAll wsX6_toldByAll ({ frames := 4, cells := 0, slots := 0, locals := 92 }) (va_Pc [.ref h, .int a1] (q_R D vwCl (tyL cI cC cL cB) [(h, .inr (6, [.int h_pieces, .ref h_piece, .int h_deeds, .ref h_deed, .int h_law, .ref h_st, .int h_acts, .ref h_was, .int h_keeps, .ref h_kept, .int h_seens, .ref h_seen, .ref h_text, .int h_texted, .int h_at, .ref h_told, .int h_readPieces, .ref h_readPiece, .ref h_readRoom, .int h_readDeeds, .ref h_readDeed, .int h_readCoins, .int h_readLaw, .ref h_now])), (h_deed, .inl (cI, 40, .inl h_deed_c)), (h_now, .inl (cI, 18, .inl h_now_c)), (h_piece, .inl (cI, 16, .inl h_piece_c))])) (vp_Si (fun r' => r' = r)) 0 0 (fun _ => False) := by
  refine Met.ofW (cc := cX6_toldByAll) (maxL := 4) (ret := (some .int)) (by decide) rfl ?_
  intro p e s m args below meth c s₁ B hml hv
  obtain ⟨rfl, hP, hK⟩ := hv
  have hx := B.exec
  have hb := B.bytes
  have hr := B.returns
  have hts := atoms_spec (ws := wsX6_toldByAll) B.pre
  have hown : s.vm.findClass RX6 = some m.cls := findClass_of_methodNamed B.named
  have hlocks := B.notSynchronized
  have hl := lv_entry ([.ref h, .int a1]) (n := 4) (Nat.le_of_ble_eq_true rfl)
  rw [lg_entry_eq]
  generalize (lg_sl ([.ref h, .int a1]) ++ List.replicate (4 - (lg_sl ([.ref h, .int a1])).length) Slot.unset).toArray = ls at hl ⊢
  have hl : lv_has ls 4 [(0, .ref h), (1, .int a1)] := hl
  unfold m_X6_toldByAll at hf
  refine lv_iconst (v := 0) hx hb dX6_toldByAll_0 (by decide) ?_
  refine lv_istore_n (lv' := [(2, .int 0), (0, .ref h), (1, .int a1)]) hx hb dX6_toldByAll_1 rfl hl (by decide) rfl (fun ls hl => ?_)
  refine lv_iconst (v := 0) hx hb dX6_toldByAll_2 (by decide) ?_
  refine lv_istore_n (lv' := [(3, .int 0), (2, .int 0), (0, .ref h), (1, .int a1)]) hx hb dX6_toldByAll_3 rfl hl (by decide) rfl (fun ls hl => ?_)
  have loop4 : ∀ (n : Nat) (x1 : Int32) (x2 : Int32), ∀ (ls : Array Slot), lv_has ls 4 [(0, .ref h), (1, .int a1), (2, .int x1), (3, .int x2)] → ∀ (x3 : Int32), L_X6_toldByAll_4 h_pieces a1 h_deeds h_deed_c h_now_c h_piece_c n x1 x2 = some x3 → (∀ (ls : Array Slot), lv_has ls 4 [(2, .int x3)] → W p l e (headSpec wsX6_toldByAll ({ frames := 4, cells := 0, slots := 0, locals := 92 })).room s m ([.ref h, .int a1] : List Value).toArray below meth c s.heap [] 0 0 (MQ below (vp_Si (fun r' => r' = r)) ([.ref h, .int a1] : List Value).toArray s 0 0 (fun _ => False)) (F0 m 38 ls [])) → W p l e (headSpec wsX6_toldByAll ({ frames := 4, cells := 0, slots := 0, locals := 92 })).room s m ([.ref h, .int a1] : List Value).toArray below meth c s.heap [] 0 0 (MQ below (vp_Si (fun r' => r' = r)) ([.ref h, .int a1] : List Value).toArray s 0 0 (fun _ => False)) (F0 m 4 ls []) := by
    intro n
    induction n with
    | zero =>
      intro x1 x2 ls hl x3 hf KX
      rw [L_X6_toldByAll_4] at hf
      cases hf
    | succ n ih =>
      intro x1 x2 ls hl x3 hf KX
      rw [L_X6_toldByAll_4] at hf
      refine lv_iload_n hx hb dX6_toldByAll_4 rfl (lv_at hl 3 rfl) ?_
      refine lv_aload_n hx hb dX6_toldByAll_5 rfl (lv_at hl 0 rfl) ?_
      refine va_get (D := D) (ci := 6) (v := .int h_pieces) (C := RX6) (T := TX6) (N := 24) hx hb hts uX6_toldByAll_X6 hown hK hP 0 rfl rfl 0 (by decide) (hts (.fieldLink RX6 73 "SpeaksForTheChairModel" "pieces" "I") (List.mem_of_getElem? (i := 1) rfl)) (fun _ h9 => h9) rfl dX6_toldByAll_6 ?_
      refine lv_icmp_ge (tgt := 38) hx hb dX6_toldByAll_9 (by decide) (fun c_9 => ?_) (fun c_9 => ?_)
      · have hf := ip c_9 hf
        cases hf
        exact KX ls (lv_sub hl [2] rfl)
      · have hf := im c_9 hf
        refine lv_iload_n hx hb dX6_toldByAll_12 rfl (lv_at hl 2 rfl) ?_
        refine lv_iload_n hx hb dX6_toldByAll_13 rfl (lv_at hl 1 rfl) ?_
        refine lv_iload_n hx hb dX6_toldByAll_14 rfl (lv_at hl 3 rfl) ?_
        obtain ⟨x4, hv_10, hf⟩ := ob1_some hf
        refine q_rSi (As := [.int a1, .int x2]) (rest := [.int x1]) (r := x4) ⟨hx, hb, hml, hown, hts⟩ (c_X6_has l D cI cC cL cB a1 x2 x4 hv_10) (va_cwS 2 hts gX6_toldByAll_X6_has rfl rfl rfl (by decide +kernel) ⟨Nat.le_of_ble_eq_true rfl, Nat.le_of_ble_eq_true rfl⟩) hK hP [] rfl rfl hl.1 rfl (Nat.le_of_ble_eq_true rfl) dX6_toldByAll_15 ⟨Nat.le_of_ble_eq_true rfl, Nat.le_of_ble_eq_true rfl⟩ ?_
        refine lv_if_eq (tgt := 29) hx hb dX6_toldByAll_18 (by decide) (fun c_11 => ?_) (fun c_11 => ?_)
        · have hf := ip c_11 hf
          refine lv_iconst (v := 0) hx hb dX6_toldByAll_29 (by decide) ?_
          refine lv_ior hx hb dX6_toldByAll_30 ?_
          refine lv_topi (fun x5 ex5 => ?_)
          have hf := pv_eq ex5 hf
          refine lv_istore_n (lv' := [(2, .int x5), (0, .ref h), (1, .int a1), (3, .int x2)]) hx hb dX6_toldByAll_31 rfl hl (by decide) rfl (fun ls hl => ?_)
          obtain ⟨x6, ex6⟩ : ∃ y : Int32, y = (x2 + 1) := ⟨_, rfl⟩
          have hf := pv_eq ex6 hf
          refine lv_iinc (v := x6) (lv' := [(3, .int x6), (2, .int x5), (0, .ref h), (1, .int a1)]) hx hb dX6_toldByAll_32 hl (k := 3) rfl (by rw [ex6]; rfl) (by decide) rfl (fun ls hl => ?_)
          refine lv_goto (tgt := 4) hx hb dX6_toldByAll_35 (by decide) ?_
          exact ih _ _ ls (lv_sub hl [2, 3, 1, 0] rfl) _ hf KX
        · have hf := im c_11 hf
          refine lv_aload_n hx hb dX6_toldByAll_21 rfl (lv_at hl 0 rfl) ?_
          refine lv_iload_n hx hb dX6_toldByAll_22 rfl (lv_at hl 3 rfl) ?_
          obtain ⟨x7, hv_12, hf⟩ := ob1_some hf
          refine q_rVi (As := [.int x2]) (rest := [.int x1]) (r := x7) ⟨hx, hb, hml, hown, hts⟩ (c_X6_toldBy l D cI cC cL cB h h_piece h_deed h_st h_was h_kept h_seen h_text h_told h_readPiece h_readRoom h_readDeed h_now x2 h_pieces h_deeds h_law h_acts h_keeps h_seens h_texted h_at h_readPieces h_readDeeds h_readCoins h_readLaw h_deed_c h_now_c h_piece_c x7 hv_12) (cwV 1 hts gX6_toldByAll_X6_toldBy rfl rfl rfl (by decide +kernel) ⟨Nat.le_of_ble_eq_true rfl, Nat.le_of_ble_eq_true rfl⟩) hK hP [0, 1, 2, 3] rfl (va_recv hK hP (ci := 6) (q0 := 0) rfl rfl) rfl hl.1 rfl (Nat.le_of_ble_eq_true rfl) dX6_toldByAll_23 ⟨Nat.le_of_ble_eq_true rfl, Nat.le_of_ble_eq_true rfl⟩ ?_
          refine lv_goto (tgt := 30) hx hb dX6_toldByAll_26 (by decide) ?_
          refine lv_ior hx hb dX6_toldByAll_30 ?_
          refine lv_topi (fun x8 ex8 => ?_)
          have hf := pv_eq ex8 hf
          refine lv_istore_n (lv' := [(2, .int x8), (0, .ref h), (1, .int a1), (3, .int x2)]) hx hb dX6_toldByAll_31 rfl hl (by decide) rfl (fun ls hl => ?_)
          obtain ⟨x9, ex9⟩ : ∃ y : Int32, y = (x2 + 1) := ⟨_, rfl⟩
          have hf := pv_eq ex9 hf
          refine lv_iinc (v := x9) (lv' := [(3, .int x9), (2, .int x8), (0, .ref h), (1, .int a1)]) hx hb dX6_toldByAll_32 hl (k := 3) rfl (by rw [ex9]; rfl) (by decide) rfl (fun ls hl => ?_)
          refine lv_goto (tgt := 4) hx hb dX6_toldByAll_35 (by decide) ?_
          exact ih _ _ ls (lv_sub hl [2, 3, 1, 0] rfl) _ hf KX
  obtain ⟨x3, hr4, hf⟩ := ob1_some hf
  refine loop4 300 _ _ ls (lv_sub hl [2, 3, 1, 0] rfl) _ hr4 (fun ls hl => ?_)
  refine lv_iload_n hx hb dX6_toldByAll_38 rfl (lv_at hl 0 rfl) ?_
  cases hf
  exact W.iret hx hb hr (fun t ht hW => ⟨_, rfl, rfl, ht⟩) (fun _ h => by cases h) dX6_toldByAll_39
theorem uX6_piece_X6 : ∀ w ∈ wsX60, w ∈ wsX6_piece := fun w h => List.mem_cons_of_mem _ (List.mem_append_right _ h)
set_option maxHeartbeats 4000000 in
set_option maxRecDepth 100000 in
theorem c_X6_piece (l : Launch) (D : va_G) (cI cC cL cB : ClassId) (sz : Nat) (h : Nat) (h_piece : Nat) (h_deed : Nat) (h_st : Nat) (h_was : Nat) (h_kept : Nat) (h_seen : Nat) (h_text : Nat) (h_told : Nat) (h_readPiece : Nat) (h_readRoom : Nat) (h_readDeed : Nat) (h_now : Nat) (a1 : Int32) (a2 : Int32) (h_pieces : Int32) (h_deeds : Int32) (h_law : Int32) (h_acts : Int32) (h_keeps : Int32) (h_seens : Int32) (h_texted : Int32) (h_at : Int32) (h_readPieces : Int32) (h_readDeeds : Int32) (h_readCoins : Int32) (h_readLaw : Int32) (h_st_c : Nat → Int32) (h_now_c : Nat → Int32) (h_piece_c : Nat → Int32) (h_deed_c : Nat → Int32) (r : Int32) (o0 : Nat → Int32) (hf : m_X6_piece a1 a2 h_pieces h_deeds h_law h_st_c h_now_c h_piece_c h_deed_c = some (r, o0)) : Met l yX6_piece wsX6_piece ({ frames := 4, cells := 0, slots := 0, locals := 92 }) (va_Pc [.ref h, .int a1, .int a2] (q_W D vwCl (tyL cI cC cL cB) [(h, .inr (6, [.int h_pieces, .ref h_piece, .int h_deeds, .ref h_deed, .int h_law, .ref h_st, .int h_acts, .ref h_was, .int h_keeps, .ref h_kept, .int h_seens, .ref h_seen, .ref h_text, .int h_texted, .int h_at, .ref h_told, .int h_readPieces, .ref h_readPiece, .ref h_readRoom, .int h_readDeeds, .ref h_readDeed, .int h_readCoins, .int h_readLaw, .ref h_now])), (h_st, .inl (cI, 18, .inl h_st_c)), (h_now, .inl (cI, 18, .inl h_now_c)), (h_piece, .inl (cI, 16, .inl h_piece_c)), (h_deed, .inl (cI, 40, .inl h_deed_c))] sz)) (va_Qi (fun r' _ => r' = r) (q_E D vwCl (tyL cI cC cL cB) (va_A [(h, .inr (6, [.int h_pieces, .ref h_piece, .int h_deeds, .ref h_deed, .int h_law, .ref h_st, .int h_acts, .ref h_was, .int h_keeps, .ref h_kept, .int h_seens, .ref h_seen, .ref h_text, .int h_texted, .int h_at, .ref h_told, .int h_readPieces, .ref h_readPiece, .ref h_readRoom, .int h_readDeeds, .ref h_readDeed, .int h_readCoins, .int h_readLaw, .ref h_now])), (h_st, .inl (cI, 18, .inl h_st_c)), (h_now, .inl (cI, 18, .inl h_now_c)), (h_piece, .inl (cI, 16, .inl h_piece_c)), (h_deed, .inl (cI, 40, .inl h_deed_c))] sz) [(h, .inr (6, [.int h_pieces, .ref h_piece, .int h_deeds, .ref h_deed, .int h_law, .ref h_st, .int h_acts, .ref h_was, .int h_keeps, .ref h_kept, .int h_seens, .ref h_seen, .ref h_text, .int h_texted, .int h_at, .ref h_told, .int h_readPieces, .ref h_readPiece, .ref h_readRoom, .int h_readDeeds, .ref h_readDeed, .int h_readCoins, .int h_readLaw, .ref h_now])), (h_st, .inl (cI, 18, .inl h_st_c)), (h_now, .inl (cI, 18, .inl o0)), (h_piece, .inl (cI, 16, .inl h_piece_c)), (h_deed, .inl (cI, 40, .inl h_deed_c))]) (va_A [(h, .inr (6, [.int h_pieces, .ref h_piece, .int h_deeds, .ref h_deed, .int h_law, .ref h_st, .int h_acts, .ref h_was, .int h_keeps, .ref h_kept, .int h_seens, .ref h_seen, .ref h_text, .int h_texted, .int h_at, .ref h_told, .int h_readPieces, .ref h_readPiece, .ref h_readRoom, .int h_readDeeds, .ref h_readDeed, .int h_readCoins, .int h_readLaw, .ref h_now])), (h_st, .inl (cI, 18, .inl h_st_c)), (h_now, .inl (cI, 18, .inl h_now_c)), (h_piece, .inl (cI, 16, .inl h_piece_c)), (h_deed, .inl (cI, 40, .inl h_deed_c))] sz)) 0 0 (va_A [(h, .inr (6, [.int h_pieces, .ref h_piece, .int h_deeds, .ref h_deed, .int h_law, .ref h_st, .int h_acts, .ref h_was, .int h_keeps, .ref h_kept, .int h_seens, .ref h_seen, .ref h_text, .int h_texted, .int h_at, .ref h_told, .int h_readPieces, .ref h_readPiece, .ref h_readRoom, .int h_readDeeds, .ref h_readDeed, .int h_readCoins, .int h_readLaw, .ref h_now])), (h_st, .inl (cI, 18, .inl h_st_c)), (h_now, .inl (cI, 18, .inl h_now_c)), (h_piece, .inl (cI, 16, .inl h_piece_c)), (h_deed, .inl (cI, 40, .inl h_deed_c))] sz) := by
  refine Met.ofW (cc := cX6_piece) (maxL := 3) (ret := (some .int)) (by decide) rfl ?_
  intro p e s m args below meth c s₁ B hml hv
  obtain ⟨rfl, hsz, hP, hK, hD0⟩ := hv
  have hx := B.exec
  have hb := B.bytes
  have hr := B.returns
  have hts := atoms_spec (ws := wsX6_piece) B.pre
  have hown : s.vm.findClass RX6 = some m.cls := findClass_of_methodNamed B.named
  have hlocks := B.notSynchronized
  subst hsz
  have hD := hD0.self (sz := s.heap.size)
  generalize hAe : va_A [(h, .inr (6, [.int h_pieces, .ref h_piece, .int h_deeds, .ref h_deed, .int h_law, .ref h_st, .int h_acts, .ref h_was, .int h_keeps, .ref h_kept, .int h_seens, .ref h_seen, .ref h_text, .int h_texted, .int h_at, .ref h_told, .int h_readPieces, .ref h_readPiece, .ref h_readRoom, .int h_readDeeds, .ref h_readDeed, .int h_readCoins, .int h_readLaw, .ref h_now])), (h_st, .inl (cI, 18, .inl h_st_c)), (h_now, .inl (cI, 18, .inl h_now_c)), (h_piece, .inl (cI, 16, .inl h_piece_c)), (h_deed, .inl (cI, 40, .inl h_deed_c))] s.heap.size = A at hD ⊢
  have hA : ∀ q : Nat, s.heap.size ≤ q → A q := fun q h => by rw [← hAe]; exact Or.inr h
  have hS : va_S A s.heap s.heap [] := va_S.rf
  have hP : va_P D vwCl [(h, .inr (6, [.int h_pieces, .ref h_piece, .int h_deeds, .ref h_deed, .int h_law, .ref h_st, .int h_acts, .ref h_was, .int h_keeps, .ref h_kept, .int h_seens, .ref h_seen, .ref h_text, .int h_texted, .int h_at, .ref h_told, .int h_readPieces, .ref h_readPiece, .ref h_readRoom, .int h_readDeeds, .ref h_readDeed, .int h_readCoins, .int h_readLaw, .ref h_now])), (h_st, .inl (cI, 18, .inl h_st_c)), (h_now, .inl (cI, 18, .inl h_now_c)), (h_piece, .inl (cI, 16, .inl h_piece_c)), (h_deed, .inl (cI, 40, .inl h_deed_c))] s.heap := hP
  have hl := lv_entry ([.ref h, .int a1, .int a2]) (n := 3) (Nat.le_of_ble_eq_true rfl)
  rw [lg_entry_eq]
  generalize (lg_sl ([.ref h, .int a1, .int a2]) ++ List.replicate (3 - (lg_sl ([.ref h, .int a1, .int a2])).length) Slot.unset).toArray = ls at hl ⊢
  have hl : lv_has ls 3 [(0, .ref h), (1, .int a1), (2, .int a2)] := hl
  unfold m_X6_piece at hf
  refine lv_aload_n hx hb dX6_piece_0 rfl (lv_at hl 0 rfl) ?_
  refine lv_iload_n hx hb dX6_piece_1 rfl (lv_at hl 1 rfl) ?_
  obtain ⟨x1, hv_1, hf⟩ := ob1_some hf
  refine q_rVi (As := [.int a1]) (rest := []) (r := x1) ⟨hx, hb, hml, hown, hts⟩ (c_X6_isPiece l D cI cC cL cB h h_piece h_deed h_st h_was h_kept h_seen h_text h_told h_readPiece h_readRoom h_readDeed h_now a1 h_pieces h_deeds h_law h_acts h_keeps h_seens h_texted h_at h_readPieces h_readDeeds h_readCoins h_readLaw x1 hv_1) (cwV 1 hts gX6_piece_X6_isPiece rfl rfl rfl (by decide +kernel) ⟨Nat.le_of_ble_eq_true rfl, Nat.le_of_ble_eq_true rfl⟩) hK hP [0] rfl (va_recv hK hP (ci := 6) (q0 := 0) rfl rfl) rfl hl.1 rfl (Nat.le_of_ble_eq_true rfl) dX6_piece_2 ⟨Nat.le_of_ble_eq_true rfl, Nat.le_of_ble_eq_true rfl⟩ ?_
  refine lv_if_ne (tgt := 10) hx hb dX6_piece_5 (by decide) (fun c_2 => ?_) (fun c_2 => ?_)
  · have hf := im c_2 hf
    refine lv_aload_n hx hb dX6_piece_10 rfl (lv_at hl 0 rfl) ?_
    obtain ⟨c2, hv_3, hf⟩ := ob1_some hf
    refine q_wVv (As := []) (rest := []) (w1 := [(h, .inr (6, [.int h_pieces, .ref h_piece, .int h_deeds, .ref h_deed, .int h_law, .ref h_st, .int h_acts, .ref h_was, .int h_keeps, .ref h_kept, .int h_seens, .ref h_seen, .ref h_text, .int h_texted, .int h_at, .ref h_told, .int h_readPieces, .ref h_readPiece, .ref h_readRoom, .int h_readDeeds, .ref h_readDeed, .int h_readCoins, .int h_readLaw, .ref h_now])), (h_st, .inl (cI, 18, .inl h_st_c)), (h_now, .inl (cI, 18, .inl c2))]) (wr := [(h_piece, .inl (cI, 16, .inl h_piece_c)), (h_deed, .inl (cI, 40, .inl h_deed_c))]) (w2 := [(h, .inr (6, [.int h_pieces, .ref h_piece, .int h_deeds, .ref h_deed, .int h_law, .ref h_st, .int h_acts, .ref h_was, .int h_keeps, .ref h_kept, .int h_seens, .ref h_seen, .ref h_text, .int h_texted, .int h_at, .ref h_told, .int h_readPieces, .ref h_readPiece, .ref h_readRoom, .int h_readDeeds, .ref h_readDeed, .int h_readCoins, .int h_readLaw, .ref h_now])), (h_st, .inl (cI, 18, .inl h_st_c)), (h_now, .inl (cI, 18, .inl c2)), (h_piece, .inl (cI, 16, .inl h_piece_c)), (h_deed, .inl (cI, 40, .inl h_deed_c))]) ⟨hx, hb, hml, hown, hts⟩ (c_X6_asItIs l D cI cC cL cB s.heap.size h h_piece h_deed h_st h_was h_kept h_seen h_text h_told h_readPiece h_readRoom h_readDeed h_now h_pieces h_deeds h_law h_acts h_keeps h_seens h_texted h_at h_readPieces h_readDeeds h_readCoins h_readLaw h_st_c h_now_c c2 hv_3) (cwV 0 hts gX6_piece_X6_asItIs rfl rfl rfl (by decide +kernel) ⟨Nat.le_of_ble_eq_true rfl, Nat.le_of_ble_eq_true rfl⟩) hK hP hD hS hA [0, 1, 2] rfl (by decide) [3, 4] rfl (by decide) (by decide) [2, 3, 4, 0, 1] rfl (by decide) (va_recv hK hP (ci := 6) (q0 := 0) rfl rfl) rfl hl.1 rfl (Nat.le_of_ble_eq_true rfl) dX6_piece_11 ⟨Nat.le_of_ble_eq_true rfl, Nat.le_of_ble_eq_true rfl⟩ (fun H locs hP hD hS => ?_)
    have hP : va_P D vwCl [(h, .inr (6, [.int h_pieces, .ref h_piece, .int h_deeds, .ref h_deed, .int h_law, .ref h_st, .int h_acts, .ref h_was, .int h_keeps, .ref h_kept, .int h_seens, .ref h_seen, .ref h_text, .int h_texted, .int h_at, .ref h_told, .int h_readPieces, .ref h_readPiece, .ref h_readRoom, .int h_readDeeds, .ref h_readDeed, .int h_readCoins, .int h_readLaw, .ref h_now])), (h_st, .inl (cI, 18, .inl h_st_c)), (h_now, .inl (cI, 18, .inl c2)), (h_piece, .inl (cI, 16, .inl h_piece_c)), (h_deed, .inl (cI, 40, .inl h_deed_c))] H := hP
    have hD : va_D A [(h, .inr (6, [.int h_pieces, .ref h_piece, .int h_deeds, .ref h_deed, .int h_law, .ref h_st, .int h_acts, .ref h_was, .int h_keeps, .ref h_kept, .int h_seens, .ref h_seen, .ref h_text, .int h_texted, .int h_at, .ref h_told, .int h_readPieces, .ref h_readPiece, .ref h_readRoom, .int h_readDeeds, .ref h_readDeed, .int h_readCoins, .int h_readLaw, .ref h_now])), (h_st, .inl (cI, 18, .inl h_st_c)), (h_now, .inl (cI, 18, .inl c2)), (h_piece, .inl (cI, 16, .inl h_piece_c)), (h_deed, .inl (cI, 40, .inl h_deed_c))] := hD
    refine lv_iload_n hx hb dX6_piece_14 rfl (lv_at hl 2 rfl) ?_
    by_cases k0 : a2 = 0
    · have hf := ip k0 hf
      refine lv_tableIn (tgt := 52) hx hb dX6_piece_15 (by rw [k0]; decide) (by rw [k0]; decide) (by rw [k0] <;> rfl) (by decide) ?_
      refine lv_aload_n hx hb dX6_piece_52 rfl (lv_at hl 0 rfl) ?_
      refine va_get (D := D) (ci := 6) (v := .ref h_piece) (C := RX6) (T := TX6) (N := 24) hx hb hts uX6_piece_X6 hown hK hP 0 rfl rfl 1 (by decide) (hts (.fieldLink RX6 7 "SpeaksForTheChairModel" "piece" "[I") (List.mem_of_getElem? (i := 1) rfl)) (fun _ h9 => h9) rfl dX6_piece_53 ?_
      refine lv_iconst (v := 2) hx hb dX6_piece_56 (by decide) ?_
      refine lv_iload_n hx hb dX6_piece_57 rfl (lv_at hl 1 rfl) ?_
      refine lv_imul hx hb dX6_piece_58 ?_
      obtain ⟨g_10, hf⟩ := gu_in hf
      refine va_iald hx hb hK hP 3 0 rfl rfl g_10 dX6_piece_59 ?_
      cases hf
      exact W.iret hx hb hr (fun t ht hW => ⟨⟨_, (), rfl, rfl, by rw [ht]; exact hP, va_K.moved hW.alike hK, hD⟩, hS.F ht⟩) hS.2.2 dX6_piece_60
    · have hf := im k0 hf
      by_cases k1 : a2 = 1
      · have hf := ip k1 hf
        refine lv_tableIn (tgt := 61) hx hb dX6_piece_15 (by rw [k1]; decide) (by rw [k1]; decide) (by rw [k1] <;> rfl) (by decide) ?_
        refine lv_aload_n hx hb dX6_piece_61 rfl (lv_at hl 0 rfl) ?_
        refine va_get (D := D) (ci := 6) (v := .ref h_st) (C := RX6) (T := TX6) (N := 24) hx hb hts uX6_piece_X6 hown hK hP 0 rfl rfl 5 (by decide) (hts (.fieldLink RX6 16 "SpeaksForTheChairModel" "st" "[I") (List.mem_of_getElem? (i := 2) rfl)) (fun _ h9 => h9) rfl dX6_piece_62 ?_
        refine lv_iconst (v := 2) hx hb dX6_piece_65 (by decide) ?_
        refine lv_iload_n hx hb dX6_piece_66 rfl (lv_at hl 1 rfl) ?_
        refine lv_iadd hx hb dX6_piece_67 ?_
        obtain ⟨g_9, hf⟩ := gu_in hf
        refine va_iald hx hb hK hP 1 0 rfl rfl g_9 dX6_piece_68 ?_
        cases hf
        exact W.iret hx hb hr (fun t ht hW => ⟨⟨_, (), rfl, rfl, by rw [ht]; exact hP, va_K.moved hW.alike hK, hD⟩, hS.F ht⟩) hS.2.2 dX6_piece_69
      · have hf := im k1 hf
        by_cases k2 : a2 = 2
        · have hf := ip k2 hf
          refine lv_tableIn (tgt := 70) hx hb dX6_piece_15 (by rw [k2]; decide) (by rw [k2]; decide) (by rw [k2] <;> rfl) (by decide) ?_
          refine lv_aload_n hx hb dX6_piece_70 rfl (lv_at hl 0 rfl) ?_
          refine va_get (D := D) (ci := 6) (v := .ref h_piece) (C := RX6) (T := TX6) (N := 24) hx hb hts uX6_piece_X6 hown hK hP 0 rfl rfl 1 (by decide) (hts (.fieldLink RX6 7 "SpeaksForTheChairModel" "piece" "[I") (List.mem_of_getElem? (i := 1) rfl)) (fun _ h9 => h9) rfl dX6_piece_71 ?_
          refine lv_iconst (v := 2) hx hb dX6_piece_74 (by decide) ?_
          refine lv_iload_n hx hb dX6_piece_75 rfl (lv_at hl 1 rfl) ?_
          refine lv_imul hx hb dX6_piece_76 ?_
          refine lv_iconst (v := 1) hx hb dX6_piece_77 (by decide) ?_
          refine lv_iadd hx hb dX6_piece_78 ?_
          obtain ⟨g_8, hf⟩ := gu_in hf
          refine va_iald hx hb hK hP 3 0 rfl rfl g_8 dX6_piece_79 ?_
          cases hf
          exact W.iret hx hb hr (fun t ht hW => ⟨⟨_, (), rfl, rfl, by rw [ht]; exact hP, va_K.moved hW.alike hK, hD⟩, hS.F ht⟩) hS.2.2 dX6_piece_80
        · have hf := im k2 hf
          by_cases k3 : a2 = 3
          · have hf := ip k3 hf
            refine lv_tableIn (tgt := 81) hx hb dX6_piece_15 (by rw [k3]; decide) (by rw [k3]; decide) (by rw [k3] <;> rfl) (by decide) ?_
            refine lv_aload_n hx hb dX6_piece_81 rfl (lv_at hl 0 rfl) ?_
            refine va_get (D := D) (ci := 6) (v := .ref h_st) (C := RX6) (T := TX6) (N := 24) hx hb hts uX6_piece_X6 hown hK hP 0 rfl rfl 5 (by decide) (hts (.fieldLink RX6 16 "SpeaksForTheChairModel" "st" "[I") (List.mem_of_getElem? (i := 2) rfl)) (fun _ h9 => h9) rfl dX6_piece_82 ?_
            refine lv_bipush (v := 10) hx hb dX6_piece_85 (by decide) ?_
            refine lv_iload_n hx hb dX6_piece_87 rfl (lv_at hl 1 rfl) ?_
            refine lv_iadd hx hb dX6_piece_88 ?_
            obtain ⟨g_7, hf⟩ := gu_in hf
            refine va_iald hx hb hK hP 1 0 rfl rfl g_7 dX6_piece_89 ?_
            cases hf
            exact W.iret hx hb hr (fun t ht hW => ⟨⟨_, (), rfl, rfl, by rw [ht]; exact hP, va_K.moved hW.alike hK, hD⟩, hS.F ht⟩) hS.2.2 dX6_piece_90
          · have hf := im k3 hf
            by_cases k4 : a2 = 4
            · have hf := ip k4 hf
              refine lv_tableIn (tgt := 91) hx hb dX6_piece_15 (by rw [k4]; decide) (by rw [k4]; decide) (by rw [k4] <;> rfl) (by decide) ?_
              refine lv_aload_n hx hb dX6_piece_91 rfl (lv_at hl 0 rfl) ?_
              refine lv_iload_n hx hb dX6_piece_92 rfl (lv_at hl 1 rfl) ?_
              obtain ⟨x4, hv_6, hf⟩ := ob1_some hf
              refine q_rVi (As := [.int a1]) (rest := []) (r := x4) ⟨hx, hb, hml, hown, hts⟩ (c_X6_toldBy l D cI cC cL cB h h_piece h_deed h_st h_was h_kept h_seen h_text h_told h_readPiece h_readRoom h_readDeed h_now a1 h_pieces h_deeds h_law h_acts h_keeps h_seens h_texted h_at h_readPieces h_readDeeds h_readCoins h_readLaw h_deed_c c2 h_piece_c x4 hv_6) (cwV 1 hts gX6_piece_X6_toldBy rfl rfl rfl (by decide +kernel) ⟨Nat.le_of_ble_eq_true rfl, Nat.le_of_ble_eq_true rfl⟩) hK hP [0, 4, 2, 3] rfl (va_recv hK hP (ci := 6) (q0 := 0) rfl rfl) rfl hl.1 rfl (Nat.le_of_ble_eq_true rfl) dX6_piece_93 ⟨Nat.le_of_ble_eq_true rfl, Nat.le_of_ble_eq_true rfl⟩ ?_
              cases hf
              exact W.iret hx hb hr (fun t ht hW => ⟨⟨_, (), rfl, rfl, by rw [ht]; exact hP, va_K.moved hW.alike hK, hD⟩, hS.F ht⟩) hS.2.2 dX6_piece_96
            · have hf := im k4 hf
              by_cases k5 : a2 = 5
              · have hf := ip k5 hf
                refine lv_tableIn (tgt := 97) hx hb dX6_piece_15 (by rw [k5]; decide) (by rw [k5]; decide) (by rw [k5] <;> rfl) (by decide) ?_
                refine lv_aload_n hx hb dX6_piece_97 rfl (lv_at hl 0 rfl) ?_
                refine lv_iload_n hx hb dX6_piece_98 rfl (lv_at hl 1 rfl) ?_
                obtain ⟨x3, hv_4, hf⟩ := ob1_some hf
                refine q_rVi (As := [.int a1]) (rest := []) (r := x3) ⟨hx, hb, hml, hown, hts⟩ (c_X6_isLoose l D cI cC cL cB h h_piece h_deed h_st h_was h_kept h_seen h_text h_told h_readPiece h_readRoom h_readDeed h_now a1 h_pieces h_deeds h_law h_acts h_keeps h_seens h_texted h_at h_readPieces h_readDeeds h_readCoins h_readLaw c2 h_piece_c x3 hv_4) (cwV 1 hts gX6_piece_X6_isLoose rfl rfl rfl (by decide +kernel) ⟨Nat.le_of_ble_eq_true rfl, Nat.le_of_ble_eq_true rfl⟩) hK hP [0, 2, 3] rfl (va_recv hK hP (ci := 6) (q0 := 0) rfl rfl) rfl hl.1 rfl (Nat.le_of_ble_eq_true rfl) dX6_piece_99 ⟨Nat.le_of_ble_eq_true rfl, Nat.le_of_ble_eq_true rfl⟩ ?_
                refine lv_if_eq (tgt := 109) hx hb dX6_piece_102 (by decide) (fun c_5 => ?_) (fun c_5 => ?_)
                · have hf := ip c_5 hf
                  refine lv_iconst (v := 0) hx hb dX6_piece_109 (by decide) ?_
                  cases hf
                  exact W.iret hx hb hr (fun t ht hW => ⟨⟨_, (), rfl, rfl, by rw [ht]; exact hP, va_K.moved hW.alike hK, hD⟩, hS.F ht⟩) hS.2.2 dX6_piece_110
                · have hf := im c_5 hf
                  refine lv_iconst (v := 1) hx hb dX6_piece_105 (by decide) ?_
                  refine lv_goto (tgt := 110) hx hb dX6_piece_106 (by decide) ?_
                  cases hf
                  exact W.iret hx hb hr (fun t ht hW => ⟨⟨_, (), rfl, rfl, by rw [ht]; exact hP, va_K.moved hW.alike hK, hD⟩, hS.F ht⟩) hS.2.2 dX6_piece_110
              · have hf := im k5 hf
                refine lv_tableOut (tgt := 111) hx hb dX6_piece_15 (sw_out 6 (fun k hk => ?_)) (by decide) ?_
                · rcases (show k = 0 ∨ k = 1 ∨ k = 2 ∨ k = 3 ∨ k = 4 ∨ k = 5 by omega) with rfl | rfl | rfl | rfl | rfl | rfl
                  · exact lv_neT k0 rfl
                  · exact lv_neT k1 rfl
                  · exact lv_neT k2 rfl
                  · exact lv_neT k3 rfl
                  · exact lv_neT k4 rfl
                  · exact lv_neT k5 rfl
                · refine lv_iconst (v := (-1)) hx hb dX6_piece_111 (by decide) ?_
                  cases hf
                  exact W.iret hx hb hr (fun t ht hW => ⟨⟨_, (), rfl, rfl, by rw [ht]; exact hP, va_K.moved hW.alike hK, hD⟩, hS.F ht⟩) hS.2.2 dX6_piece_112
  · have hf := ip c_2 hf
    refine lv_iconst (v := (-1)) hx hb dX6_piece_8 (by decide) ?_
    cases hf
    exact W.iret hx hb hr (fun t ht hW => ⟨⟨_, (), rfl, rfl, by rw [ht]; exact hP, va_K.moved hW.alike hK, hD⟩, hS.F ht⟩) hS.2.2 dX6_piece_9
theorem uX6_deed_X6 : ∀ w ∈ wsX60, w ∈ wsX6_deed := fun w h => List.mem_cons_of_mem _ (List.mem_append_right _ h)
set_option maxHeartbeats 4000000 in
set_option maxRecDepth 100000 in
theorem c_X6_deed (l : Launch) (D : va_G) (cI cC cL cB : ClassId) (sz : Nat) (h : Nat) (h_piece : Nat) (h_deed : Nat) (h_st : Nat) (h_was : Nat) (h_kept : Nat) (h_seen : Nat) (h_text : Nat) (h_told : Nat) (h_readPiece : Nat) (h_readRoom : Nat) (h_readDeed : Nat) (h_now : Nat) (a1 : Int32) (a2 : Int32) (h_pieces : Int32) (h_deeds : Int32) (h_law : Int32) (h_acts : Int32) (h_keeps : Int32) (h_seens : Int32) (h_texted : Int32) (h_at : Int32) (h_readPieces : Int32) (h_readDeeds : Int32) (h_readCoins : Int32) (h_readLaw : Int32) (h_st_c : Nat → Int32) (h_now_c : Nat → Int32) (h_piece_c : Nat → Int32) (h_deed_c : Nat → Int32) (r : Int32) (o0 : Nat → Int32) (hf : m_X6_deed a1 a2 h_pieces h_deeds h_law h_st_c h_now_c h_piece_c h_deed_c = some (r, o0)) : Met l yX6_deed wsX6_deed ({ frames := 4, cells := 0, slots := 0, locals := 92 }) (va_Pc [.ref h, .int a1, .int a2] (q_W D vwCl (tyL cI cC cL cB) [(h, .inr (6, [.int h_pieces, .ref h_piece, .int h_deeds, .ref h_deed, .int h_law, .ref h_st, .int h_acts, .ref h_was, .int h_keeps, .ref h_kept, .int h_seens, .ref h_seen, .ref h_text, .int h_texted, .int h_at, .ref h_told, .int h_readPieces, .ref h_readPiece, .ref h_readRoom, .int h_readDeeds, .ref h_readDeed, .int h_readCoins, .int h_readLaw, .ref h_now])), (h_st, .inl (cI, 18, .inl h_st_c)), (h_now, .inl (cI, 18, .inl h_now_c)), (h_piece, .inl (cI, 16, .inl h_piece_c)), (h_deed, .inl (cI, 40, .inl h_deed_c))] sz)) (va_Qi (fun r' _ => r' = r) (q_E D vwCl (tyL cI cC cL cB) (va_A [(h, .inr (6, [.int h_pieces, .ref h_piece, .int h_deeds, .ref h_deed, .int h_law, .ref h_st, .int h_acts, .ref h_was, .int h_keeps, .ref h_kept, .int h_seens, .ref h_seen, .ref h_text, .int h_texted, .int h_at, .ref h_told, .int h_readPieces, .ref h_readPiece, .ref h_readRoom, .int h_readDeeds, .ref h_readDeed, .int h_readCoins, .int h_readLaw, .ref h_now])), (h_st, .inl (cI, 18, .inl h_st_c)), (h_now, .inl (cI, 18, .inl h_now_c)), (h_piece, .inl (cI, 16, .inl h_piece_c)), (h_deed, .inl (cI, 40, .inl h_deed_c))] sz) [(h, .inr (6, [.int h_pieces, .ref h_piece, .int h_deeds, .ref h_deed, .int h_law, .ref h_st, .int h_acts, .ref h_was, .int h_keeps, .ref h_kept, .int h_seens, .ref h_seen, .ref h_text, .int h_texted, .int h_at, .ref h_told, .int h_readPieces, .ref h_readPiece, .ref h_readRoom, .int h_readDeeds, .ref h_readDeed, .int h_readCoins, .int h_readLaw, .ref h_now])), (h_st, .inl (cI, 18, .inl h_st_c)), (h_now, .inl (cI, 18, .inl o0)), (h_piece, .inl (cI, 16, .inl h_piece_c)), (h_deed, .inl (cI, 40, .inl h_deed_c))]) (va_A [(h, .inr (6, [.int h_pieces, .ref h_piece, .int h_deeds, .ref h_deed, .int h_law, .ref h_st, .int h_acts, .ref h_was, .int h_keeps, .ref h_kept, .int h_seens, .ref h_seen, .ref h_text, .int h_texted, .int h_at, .ref h_told, .int h_readPieces, .ref h_readPiece, .ref h_readRoom, .int h_readDeeds, .ref h_readDeed, .int h_readCoins, .int h_readLaw, .ref h_now])), (h_st, .inl (cI, 18, .inl h_st_c)), (h_now, .inl (cI, 18, .inl h_now_c)), (h_piece, .inl (cI, 16, .inl h_piece_c)), (h_deed, .inl (cI, 40, .inl h_deed_c))] sz)) 0 0 (va_A [(h, .inr (6, [.int h_pieces, .ref h_piece, .int h_deeds, .ref h_deed, .int h_law, .ref h_st, .int h_acts, .ref h_was, .int h_keeps, .ref h_kept, .int h_seens, .ref h_seen, .ref h_text, .int h_texted, .int h_at, .ref h_told, .int h_readPieces, .ref h_readPiece, .ref h_readRoom, .int h_readDeeds, .ref h_readDeed, .int h_readCoins, .int h_readLaw, .ref h_now])), (h_st, .inl (cI, 18, .inl h_st_c)), (h_now, .inl (cI, 18, .inl h_now_c)), (h_piece, .inl (cI, 16, .inl h_piece_c)), (h_deed, .inl (cI, 40, .inl h_deed_c))] sz) := by
  refine Met.ofW (cc := cX6_deed) (maxL := 3) (ret := (some .int)) (by decide) rfl ?_
  intro p e s m args below meth c s₁ B hml hv
  obtain ⟨rfl, hsz, hP, hK, hD0⟩ := hv
  have hx := B.exec
  have hb := B.bytes
  have hr := B.returns
  have hts := atoms_spec (ws := wsX6_deed) B.pre
  have hown : s.vm.findClass RX6 = some m.cls := findClass_of_methodNamed B.named
  have hlocks := B.notSynchronized
  subst hsz
  have hD := hD0.self (sz := s.heap.size)
  generalize hAe : va_A [(h, .inr (6, [.int h_pieces, .ref h_piece, .int h_deeds, .ref h_deed, .int h_law, .ref h_st, .int h_acts, .ref h_was, .int h_keeps, .ref h_kept, .int h_seens, .ref h_seen, .ref h_text, .int h_texted, .int h_at, .ref h_told, .int h_readPieces, .ref h_readPiece, .ref h_readRoom, .int h_readDeeds, .ref h_readDeed, .int h_readCoins, .int h_readLaw, .ref h_now])), (h_st, .inl (cI, 18, .inl h_st_c)), (h_now, .inl (cI, 18, .inl h_now_c)), (h_piece, .inl (cI, 16, .inl h_piece_c)), (h_deed, .inl (cI, 40, .inl h_deed_c))] s.heap.size = A at hD ⊢
  have hA : ∀ q : Nat, s.heap.size ≤ q → A q := fun q h => by rw [← hAe]; exact Or.inr h
  have hS : va_S A s.heap s.heap [] := va_S.rf
  have hP : va_P D vwCl [(h, .inr (6, [.int h_pieces, .ref h_piece, .int h_deeds, .ref h_deed, .int h_law, .ref h_st, .int h_acts, .ref h_was, .int h_keeps, .ref h_kept, .int h_seens, .ref h_seen, .ref h_text, .int h_texted, .int h_at, .ref h_told, .int h_readPieces, .ref h_readPiece, .ref h_readRoom, .int h_readDeeds, .ref h_readDeed, .int h_readCoins, .int h_readLaw, .ref h_now])), (h_st, .inl (cI, 18, .inl h_st_c)), (h_now, .inl (cI, 18, .inl h_now_c)), (h_piece, .inl (cI, 16, .inl h_piece_c)), (h_deed, .inl (cI, 40, .inl h_deed_c))] s.heap := hP
  have hl := lv_entry ([.ref h, .int a1, .int a2]) (n := 3) (Nat.le_of_ble_eq_true rfl)
  rw [lg_entry_eq]
  generalize (lg_sl ([.ref h, .int a1, .int a2]) ++ List.replicate (3 - (lg_sl ([.ref h, .int a1, .int a2])).length) Slot.unset).toArray = ls at hl ⊢
  have hl : lv_has ls 3 [(0, .ref h), (1, .int a1), (2, .int a2)] := hl
  unfold m_X6_deed at hf
  refine lv_aload_n hx hb dX6_deed_0 rfl (lv_at hl 0 rfl) ?_
  refine lv_iload_n hx hb dX6_deed_1 rfl (lv_at hl 1 rfl) ?_
  obtain ⟨x1, hv_1, hf⟩ := ob1_some hf
  refine q_rVi (As := [.int a1]) (rest := []) (r := x1) ⟨hx, hb, hml, hown, hts⟩ (c_X6_isDeed l D cI cC cL cB h h_piece h_deed h_st h_was h_kept h_seen h_text h_told h_readPiece h_readRoom h_readDeed h_now a1 h_pieces h_deeds h_law h_acts h_keeps h_seens h_texted h_at h_readPieces h_readDeeds h_readCoins h_readLaw x1 hv_1) (cwV 1 hts gX6_deed_X6_isDeed rfl rfl rfl (by decide +kernel) ⟨Nat.le_of_ble_eq_true rfl, Nat.le_of_ble_eq_true rfl⟩) hK hP [0] rfl (va_recv hK hP (ci := 6) (q0 := 0) rfl rfl) rfl hl.1 rfl (Nat.le_of_ble_eq_true rfl) dX6_deed_2 ⟨Nat.le_of_ble_eq_true rfl, Nat.le_of_ble_eq_true rfl⟩ ?_
  refine lv_if_eq (tgt := 17) hx hb dX6_deed_5 (by decide) (fun c_2 => ?_) (fun c_2 => ?_)
  · have hf := ip c_2 hf
    refine lv_iconst (v := (-1)) hx hb dX6_deed_17 (by decide) ?_
    cases hf
    exact W.iret hx hb hr (fun t ht hW => ⟨⟨_, (), rfl, rfl, by rw [ht]; exact hP, va_K.moved hW.alike hK, hD⟩, hS.F ht⟩) hS.2.2 dX6_deed_18
  · have hf := im c_2 hf
    refine lv_iload_n hx hb dX6_deed_8 rfl (lv_at hl 2 rfl) ?_
    refine lv_iconst (v := 0) hx hb dX6_deed_9 (by decide) ?_
    refine lv_iconst (v := 5) hx hb dX6_deed_10 (by decide) ?_
    obtain ⟨x2, hv_3, hf⟩ := ob1_some hf
    refine q_rSi (As := [.int a2, .int 0, .int 5]) (rest := []) (r := x2) ⟨hx, hb, hml, hown, hts⟩ (c_X6_in l D cI cC cL cB a2 ((0 : Int32)) ((5 : Int32)) x2 hv_3) (va_cwS 3 hts gX6_deed_X6_in rfl rfl rfl (by decide +kernel) ⟨Nat.le_of_ble_eq_true rfl, Nat.le_of_ble_eq_true rfl⟩) hK hP [] rfl rfl hl.1 rfl (Nat.le_of_ble_eq_true rfl) dX6_deed_11 ⟨Nat.le_of_ble_eq_true rfl, Nat.le_of_ble_eq_true rfl⟩ ?_
    refine lv_if_ne (tgt := 19) hx hb dX6_deed_14 (by decide) (fun c_4 => ?_) (fun c_4 => ?_)
    · have hf := im c_4 hf
      refine lv_aload_n hx hb dX6_deed_19 rfl (lv_at hl 0 rfl) ?_
      obtain ⟨c3, hv_5, hf⟩ := ob1_some hf
      refine q_wVv (As := []) (rest := []) (w1 := [(h, .inr (6, [.int h_pieces, .ref h_piece, .int h_deeds, .ref h_deed, .int h_law, .ref h_st, .int h_acts, .ref h_was, .int h_keeps, .ref h_kept, .int h_seens, .ref h_seen, .ref h_text, .int h_texted, .int h_at, .ref h_told, .int h_readPieces, .ref h_readPiece, .ref h_readRoom, .int h_readDeeds, .ref h_readDeed, .int h_readCoins, .int h_readLaw, .ref h_now])), (h_st, .inl (cI, 18, .inl h_st_c)), (h_now, .inl (cI, 18, .inl c3))]) (wr := [(h_piece, .inl (cI, 16, .inl h_piece_c)), (h_deed, .inl (cI, 40, .inl h_deed_c))]) (w2 := [(h, .inr (6, [.int h_pieces, .ref h_piece, .int h_deeds, .ref h_deed, .int h_law, .ref h_st, .int h_acts, .ref h_was, .int h_keeps, .ref h_kept, .int h_seens, .ref h_seen, .ref h_text, .int h_texted, .int h_at, .ref h_told, .int h_readPieces, .ref h_readPiece, .ref h_readRoom, .int h_readDeeds, .ref h_readDeed, .int h_readCoins, .int h_readLaw, .ref h_now])), (h_st, .inl (cI, 18, .inl h_st_c)), (h_now, .inl (cI, 18, .inl c3)), (h_piece, .inl (cI, 16, .inl h_piece_c)), (h_deed, .inl (cI, 40, .inl h_deed_c))]) ⟨hx, hb, hml, hown, hts⟩ (c_X6_asItIs l D cI cC cL cB s.heap.size h h_piece h_deed h_st h_was h_kept h_seen h_text h_told h_readPiece h_readRoom h_readDeed h_now h_pieces h_deeds h_law h_acts h_keeps h_seens h_texted h_at h_readPieces h_readDeeds h_readCoins h_readLaw h_st_c h_now_c c3 hv_5) (cwV 0 hts gX6_deed_X6_asItIs rfl rfl rfl (by decide +kernel) ⟨Nat.le_of_ble_eq_true rfl, Nat.le_of_ble_eq_true rfl⟩) hK hP hD hS hA [0, 1, 2] rfl (by decide) [3, 4] rfl (by decide) (by decide) [2, 3, 4, 0, 1] rfl (by decide) (va_recv hK hP (ci := 6) (q0 := 0) rfl rfl) rfl hl.1 rfl (Nat.le_of_ble_eq_true rfl) dX6_deed_20 ⟨Nat.le_of_ble_eq_true rfl, Nat.le_of_ble_eq_true rfl⟩ (fun H locs hP hD hS => ?_)
      have hP : va_P D vwCl [(h, .inr (6, [.int h_pieces, .ref h_piece, .int h_deeds, .ref h_deed, .int h_law, .ref h_st, .int h_acts, .ref h_was, .int h_keeps, .ref h_kept, .int h_seens, .ref h_seen, .ref h_text, .int h_texted, .int h_at, .ref h_told, .int h_readPieces, .ref h_readPiece, .ref h_readRoom, .int h_readDeeds, .ref h_readDeed, .int h_readCoins, .int h_readLaw, .ref h_now])), (h_st, .inl (cI, 18, .inl h_st_c)), (h_now, .inl (cI, 18, .inl c3)), (h_piece, .inl (cI, 16, .inl h_piece_c)), (h_deed, .inl (cI, 40, .inl h_deed_c))] H := hP
      have hD : va_D A [(h, .inr (6, [.int h_pieces, .ref h_piece, .int h_deeds, .ref h_deed, .int h_law, .ref h_st, .int h_acts, .ref h_was, .int h_keeps, .ref h_kept, .int h_seens, .ref h_seen, .ref h_text, .int h_texted, .int h_at, .ref h_told, .int h_readPieces, .ref h_readPiece, .ref h_readRoom, .int h_readDeeds, .ref h_readDeed, .int h_readCoins, .int h_readLaw, .ref h_now])), (h_st, .inl (cI, 18, .inl h_st_c)), (h_now, .inl (cI, 18, .inl c3)), (h_piece, .inl (cI, 16, .inl h_piece_c)), (h_deed, .inl (cI, 40, .inl h_deed_c))] := hD
      refine lv_iload_n hx hb dX6_deed_23 rfl (lv_at hl 2 rfl) ?_
      refine lv_iconst (v := 4) hx hb dX6_deed_24 (by decide) ?_
      refine lv_icmp_ge (tgt := 41) hx hb dX6_deed_25 (by decide) (fun c_6 => ?_) (fun c_6 => ?_)
      · have hf := ip c_6 hf
        refine lv_iload_n hx hb dX6_deed_41 rfl (lv_at hl 2 rfl) ?_
        refine lv_iconst (v := 4) hx hb dX6_deed_42 (by decide) ?_
        refine lv_icmp_ne (tgt := 59) hx hb dX6_deed_43 (by decide) (fun c_7 => ?_) (fun c_7 => ?_)
        · have hf := im c_7 hf
          refine lv_aload_n hx hb dX6_deed_59 rfl (lv_at hl 0 rfl) ?_
          refine lv_iload_n hx hb dX6_deed_60 rfl (lv_at hl 1 rfl) ?_
          obtain ⟨x4, hv_8, hf⟩ := ob1_some hf
          refine q_rVi (As := [.int a1]) (rest := []) (r := x4) ⟨hx, hb, hml, hown, hts⟩ (c_X6_tellers l D cI cC cL cB h h_piece h_deed h_st h_was h_kept h_seen h_text h_told h_readPiece h_readRoom h_readDeed h_now a1 h_pieces h_deeds h_law h_acts h_keeps h_seens h_texted h_at h_readPieces h_readDeeds h_readCoins h_readLaw c3 h_piece_c h_deed_c x4 hv_8) (cwV 1 hts gX6_deed_X6_tellers rfl rfl rfl (by decide +kernel) ⟨Nat.le_of_ble_eq_true rfl, Nat.le_of_ble_eq_true rfl⟩) hK hP [0, 2, 3, 4] rfl (va_recv hK hP (ci := 6) (q0 := 0) rfl rfl) rfl hl.1 rfl (Nat.le_of_ble_eq_true rfl) dX6_deed_61 ⟨Nat.le_of_ble_eq_true rfl, Nat.le_of_ble_eq_true rfl⟩ ?_
          cases hf
          exact W.iret hx hb hr (fun t ht hW => ⟨⟨_, (), rfl, rfl, by rw [ht]; exact hP, va_K.moved hW.alike hK, hD⟩, hS.F ht⟩) hS.2.2 dX6_deed_64
        · have hf := ip c_7 hf
          refine lv_aload_n hx hb dX6_deed_46 rfl (lv_at hl 0 rfl) ?_
          refine va_get (D := D) (ci := 6) (v := .ref h_st) (C := RX6) (T := TX6) (N := 24) hx hb hts uX6_deed_X6 hown hK hP 0 rfl rfl 5 (by decide) (hts (.fieldLink RX6 16 "SpeaksForTheChairModel" "st" "[I") (List.mem_of_getElem? (i := 2) rfl)) (fun _ h9 => h9) rfl dX6_deed_47 ?_
          refine lv_iconst (v := 1) hx hb dX6_deed_50 (by decide) ?_
          refine va_iald hx hb hK hP 1 0 rfl rfl (okI_in (by decide)) dX6_deed_51 ?_
          refine lv_iload_n hx hb dX6_deed_52 rfl (lv_at hl 1 rfl) ?_
          refine lv_ishr hx hb dX6_deed_53 ?_
          refine lv_iconst (v := 1) hx hb dX6_deed_54 (by decide) ?_
          refine lv_iand hx hb dX6_deed_55 ?_
          refine lv_goto (tgt := 64) hx hb dX6_deed_56 (by decide) ?_
          cases hf
          exact W.iret hx hb hr (fun t ht hW => ⟨⟨_, (), rfl, rfl, by rw [ht]; exact hP, va_K.moved hW.alike hK, hD⟩, hS.F ht⟩) hS.2.2 dX6_deed_64
      · have hf := im c_6 hf
        refine lv_aload_n hx hb dX6_deed_28 rfl (lv_at hl 0 rfl) ?_
        refine va_get (D := D) (ci := 6) (v := .ref h_deed) (C := RX6) (T := TX6) (N := 24) hx hb hts uX6_deed_X6 hown hK hP 0 rfl rfl 3 (by decide) (hts (.fieldLink RX6 13 "SpeaksForTheChairModel" "deed" "[I") (List.mem_of_getElem? (i := 1) rfl)) (fun _ h9 => h9) rfl dX6_deed_29 ?_
        refine lv_iconst (v := 4) hx hb dX6_deed_32 (by decide) ?_
        refine lv_iload_n hx hb dX6_deed_33 rfl (lv_at hl 1 rfl) ?_
        refine lv_imul hx hb dX6_deed_34 ?_
        refine lv_iload_n hx hb dX6_deed_35 rfl (lv_at hl 2 rfl) ?_
        refine lv_iadd hx hb dX6_deed_36 ?_
        obtain ⟨g_9, hf⟩ := gu_in hf
        refine va_iald hx hb hK hP 4 0 rfl rfl g_9 dX6_deed_37 ?_
        refine lv_goto (tgt := 64) hx hb dX6_deed_38 (by decide) ?_
        cases hf
        exact W.iret hx hb hr (fun t ht hW => ⟨⟨_, (), rfl, rfl, by rw [ht]; exact hP, va_K.moved hW.alike hK, hD⟩, hS.F ht⟩) hS.2.2 dX6_deed_64
    · have hf := ip c_4 hf
      refine lv_iconst (v := (-1)) hx hb dX6_deed_17 (by decide) ?_
      cases hf
      exact W.iret hx hb hr (fun t ht hW => ⟨⟨_, (), rfl, rfl, by rw [ht]; exact hP, va_K.moved hW.alike hK, hD⟩, hS.F ht⟩) hS.2.2 dX6_deed_18
theorem uX6_remembers_X6 : ∀ w ∈ wsX60, w ∈ wsX6_remembers := fun w h => List.mem_cons_of_mem _ (List.mem_append_right _ h)
set_option maxHeartbeats 4000000 in
set_option maxRecDepth 100000 in
theorem c_X6_remembers (l : Launch) (D : va_G) (cI cC cL cB : ClassId) (sz : Nat) (h : Nat) (h_piece : Nat) (h_deed : Nat) (h_st : Nat) (h_was : Nat) (h_kept : Nat) (h_seen : Nat) (h_text : Nat) (h_told : Nat) (h_readPiece : Nat) (h_readRoom : Nat) (h_readDeed : Nat) (h_now : Nat) (h_pieces : Int32) (h_deeds : Int32) (h_law : Int32) (h_acts : Int32) (h_keeps : Int32) (h_seens : Int32) (h_texted : Int32) (h_at : Int32) (h_readPieces : Int32) (h_readDeeds : Int32) (h_readCoins : Int32) (h_readLaw : Int32) (h_was_c : Nat → Int32) (h_st_c : Nat → Int32) (o0 : Int32) (o1 : Nat → Int32) (hf : m_X6_remembers h_acts h_was_c h_st_c = some (o0, o1)) : Met l yX6_remembers wsX6_remembers ({ frames := 1, cells := 0, slots := 0, locals := 25 }) (va_Pc [.ref h] (q_W D vwCl (tyL cI cC cL cB) [(h, .inr (6, [.int h_pieces, .ref h_piece, .int h_deeds, .ref h_deed, .int h_law, .ref h_st, .int h_acts, .ref h_was, .int h_keeps, .ref h_kept, .int h_seens, .ref h_seen, .ref h_text, .int h_texted, .int h_at, .ref h_told, .int h_readPieces, .ref h_readPiece, .ref h_readRoom, .int h_readDeeds, .ref h_readDeed, .int h_readCoins, .int h_readLaw, .ref h_now])), (h_was, .inl (cI, 144, .inl h_was_c)), (h_st, .inl (cI, 18, .inl h_st_c))] sz)) (va_Qv (fun _ : Unit => True) (q_E D vwCl (tyL cI cC cL cB) (va_A [(h, .inr (6, [.int h_pieces, .ref h_piece, .int h_deeds, .ref h_deed, .int h_law, .ref h_st, .int h_acts, .ref h_was, .int h_keeps, .ref h_kept, .int h_seens, .ref h_seen, .ref h_text, .int h_texted, .int h_at, .ref h_told, .int h_readPieces, .ref h_readPiece, .ref h_readRoom, .int h_readDeeds, .ref h_readDeed, .int h_readCoins, .int h_readLaw, .ref h_now])), (h_was, .inl (cI, 144, .inl h_was_c)), (h_st, .inl (cI, 18, .inl h_st_c))] sz) [(h, .inr (6, [.int h_pieces, .ref h_piece, .int h_deeds, .ref h_deed, .int h_law, .ref h_st, .int o0, .ref h_was, .int h_keeps, .ref h_kept, .int h_seens, .ref h_seen, .ref h_text, .int h_texted, .int h_at, .ref h_told, .int h_readPieces, .ref h_readPiece, .ref h_readRoom, .int h_readDeeds, .ref h_readDeed, .int h_readCoins, .int h_readLaw, .ref h_now])), (h_was, .inl (cI, 144, .inl o1)), (h_st, .inl (cI, 18, .inl h_st_c))]) (va_A [(h, .inr (6, [.int h_pieces, .ref h_piece, .int h_deeds, .ref h_deed, .int h_law, .ref h_st, .int h_acts, .ref h_was, .int h_keeps, .ref h_kept, .int h_seens, .ref h_seen, .ref h_text, .int h_texted, .int h_at, .ref h_told, .int h_readPieces, .ref h_readPiece, .ref h_readRoom, .int h_readDeeds, .ref h_readDeed, .int h_readCoins, .int h_readLaw, .ref h_now])), (h_was, .inl (cI, 144, .inl h_was_c)), (h_st, .inl (cI, 18, .inl h_st_c))] sz)) 0 0 (va_A [(h, .inr (6, [.int h_pieces, .ref h_piece, .int h_deeds, .ref h_deed, .int h_law, .ref h_st, .int h_acts, .ref h_was, .int h_keeps, .ref h_kept, .int h_seens, .ref h_seen, .ref h_text, .int h_texted, .int h_at, .ref h_told, .int h_readPieces, .ref h_readPiece, .ref h_readRoom, .int h_readDeeds, .ref h_readDeed, .int h_readCoins, .int h_readLaw, .ref h_now])), (h_was, .inl (cI, 144, .inl h_was_c)), (h_st, .inl (cI, 18, .inl h_st_c))] sz) := by
  refine Met.ofW (cc := cX6_remembers) (maxL := 2) (ret := none) (by decide) rfl ?_
  intro p e s m args below meth c s₁ B hml hv
  obtain ⟨rfl, hsz, hP, hK, hD0⟩ := hv
  have hx := B.exec
  have hb := B.bytes
  have hr := B.returns
  have hts := atoms_spec (ws := wsX6_remembers) B.pre
  have hown : s.vm.findClass RX6 = some m.cls := findClass_of_methodNamed B.named
  have hlocks := B.notSynchronized
  subst hsz
  have hD := hD0.self (sz := s.heap.size)
  generalize hAe : va_A [(h, .inr (6, [.int h_pieces, .ref h_piece, .int h_deeds, .ref h_deed, .int h_law, .ref h_st, .int h_acts, .ref h_was, .int h_keeps, .ref h_kept, .int h_seens, .ref h_seen, .ref h_text, .int h_texted, .int h_at, .ref h_told, .int h_readPieces, .ref h_readPiece, .ref h_readRoom, .int h_readDeeds, .ref h_readDeed, .int h_readCoins, .int h_readLaw, .ref h_now])), (h_was, .inl (cI, 144, .inl h_was_c)), (h_st, .inl (cI, 18, .inl h_st_c))] s.heap.size = A at hD ⊢
  have hA : ∀ q : Nat, s.heap.size ≤ q → A q := fun q h => by rw [← hAe]; exact Or.inr h
  have hS : va_S A s.heap s.heap [] := va_S.rf
  have hP : va_P D vwCl [(h, .inr (6, [.int h_pieces, .ref h_piece, .int h_deeds, .ref h_deed, .int h_law, .ref h_st, .int h_acts, .ref h_was, .int h_keeps, .ref h_kept, .int h_seens, .ref h_seen, .ref h_text, .int h_texted, .int h_at, .ref h_told, .int h_readPieces, .ref h_readPiece, .ref h_readRoom, .int h_readDeeds, .ref h_readDeed, .int h_readCoins, .int h_readLaw, .ref h_now])), (h_was, .inl (cI, 144, .inl h_was_c)), (h_st, .inl (cI, 18, .inl h_st_c))] s.heap := hP
  have hl := lv_entry ([.ref h]) (n := 2) (Nat.le_of_ble_eq_true rfl)
  rw [lg_entry_eq]
  generalize (lg_sl ([.ref h]) ++ List.replicate (2 - (lg_sl ([.ref h])).length) Slot.unset).toArray = ls at hl ⊢
  have hl : lv_has ls 2 [(0, .ref h)] := hl
  unfold m_X6_remembers at hf
  refine lv_aload_n hx hb dX6_remembers_0 rfl (lv_at hl 0 rfl) ?_
  refine va_get (D := D) (ci := 6) (v := .int h_acts) (C := RX6) (T := TX6) (N := 24) hx hb hts uX6_remembers_X6 hown hK hP 0 rfl rfl 6 (by decide) (hts (.fieldLink RX6 130 "SpeaksForTheChairModel" "acts" "I") (List.mem_of_getElem? (i := 1) rfl)) (fun _ h9 => h9) rfl dX6_remembers_1 ?_
  refine lv_bipush (v := 8) hx hb dX6_remembers_4 (by decide) ?_
  obtain ⟨x1, c2, hr48, hf⟩ := ob2_some hf
  refine q_jnH (D := D) (cl := vwCl) (A := A) (H0 := s.heap) (pcJ := 48) (nL := 2) (vs := [(0, .ref h)]) (st := []) [(h, .inr (6, [.int h_pieces, .ref h_piece, .int h_deeds, .ref h_deed, .int h_law, .ref h_st, .int x1, .ref h_was, .int h_keeps, .ref h_kept, .int h_seens, .ref h_seen, .ref h_text, .int h_texted, .int h_at, .ref h_told, .int h_readPieces, .ref h_readPiece, .ref h_readRoom, .int h_readDeeds, .ref h_readDeed, .int h_readCoins, .int h_readLaw, .ref h_now])), (h_was, .inl (cI, 144, .inl c2)), (h_st, .inl (cI, 18, .inl h_st_c))] (fun H locs hP hD hS ls hl => ?_) (fun J48 => ?_)
  · clear hr48
    refine lv_aload_n hx hb dX6_remembers_48 rfl (lv_at hl 0 rfl) ?_
    refine va_get (D := D) (ci := 6) (v := .ref h_was) (C := RX6) (T := TX6) (N := 24) hx hb hts uX6_remembers_X6 hown hK hP 0 rfl rfl 7 (by decide) (hts (.fieldLink RX6 19 "SpeaksForTheChairModel" "was" "[I") (List.mem_of_getElem? (i := 2) rfl)) (fun _ h9 => h9) rfl dX6_remembers_49 ?_
    refine lv_bipush (v := 18) hx hb dX6_remembers_52 (by decide) ?_
    refine lv_aload_n hx hb dX6_remembers_54 rfl (lv_at hl 0 rfl) ?_
    refine va_get (D := D) (ci := 6) (v := .int x1) (C := RX6) (T := TX6) (N := 24) hx hb hts uX6_remembers_X6 hown hK hP 0 rfl rfl 6 (by decide) (hts (.fieldLink RX6 130 "SpeaksForTheChairModel" "acts" "I") (List.mem_of_getElem? (i := 1) rfl)) (fun _ h9 => h9) rfl dX6_remembers_55 ?_
    refine lv_imul hx hb dX6_remembers_58 ?_
    refine lv_aload_n hx hb dX6_remembers_59 rfl (lv_at hl 0 rfl) ?_
    refine va_get (D := D) (ci := 6) (v := .ref h_st) (C := RX6) (T := TX6) (N := 24) hx hb hts uX6_remembers_X6 hown hK hP 0 rfl rfl 5 (by decide) (hts (.fieldLink RX6 16 "SpeaksForTheChairModel" "st" "[I") (List.mem_of_getElem? (i := 3) rfl)) (fun _ h9 => h9) rfl dX6_remembers_60 ?_
    refine lv_iconst (v := 0) hx hb dX6_remembers_63 (by decide) ?_
    refine lv_bipush (v := 18) hx hb dX6_remembers_64 (by decide) ?_
    obtain ⟨c3, hv_10, hf⟩ := ob1_some hf
    refine q_wSv (As := [.ref h_was, .int (18 * x1), .ref h_st, .int 0, .int 18]) (rest := []) (w1 := [(h_st, .inl (cI, 18, .inl h_st_c)), (h_was, .inl (cI, 144, .inl c3))]) (wr := [(h, .inr (6, [.int h_pieces, .ref h_piece, .int h_deeds, .ref h_deed, .int h_law, .ref h_st, .int x1, .ref h_was, .int h_keeps, .ref h_kept, .int h_seens, .ref h_seen, .ref h_text, .int h_texted, .int h_at, .ref h_told, .int h_readPieces, .ref h_readPiece, .ref h_readRoom, .int h_readDeeds, .ref h_readDeed, .int h_readCoins, .int h_readLaw, .ref h_now]))]) (w2 := [(h, .inr (6, [.int h_pieces, .ref h_piece, .int h_deeds, .ref h_deed, .int h_law, .ref h_st, .int x1, .ref h_was, .int h_keeps, .ref h_kept, .int h_seens, .ref h_seen, .ref h_text, .int h_texted, .int h_at, .ref h_told, .int h_readPieces, .ref h_readPiece, .ref h_readRoom, .int h_readDeeds, .ref h_readDeed, .int h_readCoins, .int h_readLaw, .ref h_now])), (h_was, .inl (cI, 144, .inl c3)), (h_st, .inl (cI, 18, .inl h_st_c))]) ⟨hx, hb, hml, hown, hts⟩ (c_X6_copies l D cI cC cL cB H.size h_was h_st ((18 * x1)) ((0 : Int32)) ((18 : Int32)) ((18 : Nat)) h_st_c ((144 : Nat)) c2 c3 hv_10) (va_cwS 5 hts gX6_remembers_X6_copies rfl rfl rfl (by decide +kernel) ⟨Nat.le_of_ble_eq_true rfl, Nat.le_of_ble_eq_true rfl⟩) hK hP hD hS hA [2, 1] rfl (by decide) [0] rfl (by decide) (by decide) [0, 2, 1] rfl (by decide) rfl hl.1 rfl (Nat.le_of_ble_eq_true rfl) dX6_remembers_66 ⟨Nat.le_of_ble_eq_true rfl, Nat.le_of_ble_eq_true rfl⟩ (fun H locs hP hD hS => ?_)
    have hP : va_P D vwCl [(h, .inr (6, [.int h_pieces, .ref h_piece, .int h_deeds, .ref h_deed, .int h_law, .ref h_st, .int x1, .ref h_was, .int h_keeps, .ref h_kept, .int h_seens, .ref h_seen, .ref h_text, .int h_texted, .int h_at, .ref h_told, .int h_readPieces, .ref h_readPiece, .ref h_readRoom, .int h_readDeeds, .ref h_readDeed, .int h_readCoins, .int h_readLaw, .ref h_now])), (h_was, .inl (cI, 144, .inl c3)), (h_st, .inl (cI, 18, .inl h_st_c))] H := hP
    have hD : va_D A [(h, .inr (6, [.int h_pieces, .ref h_piece, .int h_deeds, .ref h_deed, .int h_law, .ref h_st, .int x1, .ref h_was, .int h_keeps, .ref h_kept, .int h_seens, .ref h_seen, .ref h_text, .int h_texted, .int h_at, .ref h_told, .int h_readPieces, .ref h_readPiece, .ref h_readRoom, .int h_readDeeds, .ref h_readDeed, .int h_readCoins, .int h_readLaw, .ref h_now])), (h_was, .inl (cI, 144, .inl c3)), (h_st, .inl (cI, 18, .inl h_st_c))] := hD
    refine lv_aload_n hx hb dX6_remembers_69 rfl (lv_at hl 0 rfl) ?_
    refine lv_dup hx hb dX6_remembers_70 rfl ?_
    refine va_get (D := D) (ci := 6) (v := .int x1) (C := RX6) (T := TX6) (N := 24) hx hb hts uX6_remembers_X6 hown hK hP 0 rfl rfl 6 (by decide) (hts (.fieldLink RX6 130 "SpeaksForTheChairModel" "acts" "I") (List.mem_of_getElem? (i := 1) rfl)) (fun _ h9 => h9) rfl dX6_remembers_71 ?_
    refine lv_iconst (v := 1) hx hb dX6_remembers_74 (by decide) ?_
    refine lv_iadd hx hb dX6_remembers_75 ?_
    refine lv_topi (fun f4 ef4 => ?_)
    have hf := pv_eq ef4 hf
    refine va_put (D := D) (ci := 6) (v := .int f4) (ty := .int) (C := RX6) (T := TX6) (N := 24) hx hb hts uX6_remembers_X6 tyX6 tyX6_ok nmX6 hown hK hP hD hS 0 rfl rfl 6 (by decide) (hts (.fieldLink RX6 130 "SpeaksForTheChairModel" "acts" "I") (List.mem_of_getElem? (i := 1) rfl)) (fun _ h9 => h9) rfl (by decide +kernel) rfl rfl (Nat.le_of_ble_eq_true rfl) dX6_remembers_76 (fun H locs hP hD hS => ?_)
    have hP : va_P D vwCl [(h, .inr (6, [.int h_pieces, .ref h_piece, .int h_deeds, .ref h_deed, .int h_law, .ref h_st, .int f4, .ref h_was, .int h_keeps, .ref h_kept, .int h_seens, .ref h_seen, .ref h_text, .int h_texted, .int h_at, .ref h_told, .int h_readPieces, .ref h_readPiece, .ref h_readRoom, .int h_readDeeds, .ref h_readDeed, .int h_readCoins, .int h_readLaw, .ref h_now])), (h_was, .inl (cI, 144, .inl c3)), (h_st, .inl (cI, 18, .inl h_st_c))] H := hP
    have hD : va_D A [(h, .inr (6, [.int h_pieces, .ref h_piece, .int h_deeds, .ref h_deed, .int h_law, .ref h_st, .int f4, .ref h_was, .int h_keeps, .ref h_kept, .int h_seens, .ref h_seen, .ref h_text, .int h_texted, .int h_at, .ref h_told, .int h_readPieces, .ref h_readPiece, .ref h_readRoom, .int h_readDeeds, .ref h_readDeed, .int h_readCoins, .int h_readLaw, .ref h_now])), (h_was, .inl (cI, 144, .inl c3)), (h_st, .inl (cI, 18, .inl h_st_c))] := hD
    cases hf
    exact W.vret hx hb hr (fun t ht hW => ⟨⟨(), rfl, trivial, by rw [ht]; exact hP, va_K.moved hW.alike hK, hD⟩, hS.F ht⟩) hS.2.2 dX6_remembers_79
  · replace hf := hr48
    refine lv_icmp_ne (tgt := 48) hx hb dX6_remembers_6 (by decide) (fun c_1 => ?_) (fun c_1 => ?_)
    · have hf := im c_1 hf
      cases hf
      exact J48 _ _ hP hD hS ls (lv_sub hl [0] rfl)
    · have hf := ip c_1 hf
      refine lv_iconst (v := 0) hx hb dX6_remembers_9 (by decide) ?_
      refine lv_istore_n (lv' := [(1, .int 0), (0, .ref h)]) hx hb dX6_remembers_10 rfl hl (by decide) rfl (fun ls hl => ?_)
      have loop11 : ∀ (n : Nat) (c5 : Nat → Int32) (x6 : Int32), ∀ (H : Heap) (locs : List Loc), va_P D vwCl [(h, .inr (6, [.int h_pieces, .ref h_piece, .int h_deeds, .ref h_deed, .int h_law, .ref h_st, .int h_acts, .ref h_was, .int h_keeps, .ref h_kept, .int h_seens, .ref h_seen, .ref h_text, .int h_texted, .int h_at, .ref h_told, .int h_readPieces, .ref h_readPiece, .ref h_readRoom, .int h_readDeeds, .ref h_readDeed, .int h_readCoins, .int h_readLaw, .ref h_now])), (h_was, .inl (cI, 144, .inl c5)), (h_st, .inl (cI, 18, .inl h_st_c))] H → va_D A [(h, .inr (6, [.int h_pieces, .ref h_piece, .int h_deeds, .ref h_deed, .int h_law, .ref h_st, .int h_acts, .ref h_was, .int h_keeps, .ref h_kept, .int h_seens, .ref h_seen, .ref h_text, .int h_texted, .int h_at, .ref h_told, .int h_readPieces, .ref h_readPiece, .ref h_readRoom, .int h_readDeeds, .ref h_readDeed, .int h_readCoins, .int h_readLaw, .ref h_now])), (h_was, .inl (cI, 144, .inl c5)), (h_st, .inl (cI, 18, .inl h_st_c))] → va_S A s.heap H locs → ∀ (ls : Array Slot), lv_has ls 2 [(0, .ref h), (1, .int x6)] → ∀ (c7 : Nat → Int32), L_X6_remembers_11 n c5 x6 = some c7 → (∀ (H : Heap) (locs : List Loc), va_P D vwCl [(h, .inr (6, [.int h_pieces, .ref h_piece, .int h_deeds, .ref h_deed, .int h_law, .ref h_st, .int h_acts, .ref h_was, .int h_keeps, .ref h_kept, .int h_seens, .ref h_seen, .ref h_text, .int h_texted, .int h_at, .ref h_told, .int h_readPieces, .ref h_readPiece, .ref h_readRoom, .int h_readDeeds, .ref h_readDeed, .int h_readCoins, .int h_readLaw, .ref h_now])), (h_was, .inl (cI, 144, .inl c7)), (h_st, .inl (cI, 18, .inl h_st_c))] H → va_D A [(h, .inr (6, [.int h_pieces, .ref h_piece, .int h_deeds, .ref h_deed, .int h_law, .ref h_st, .int h_acts, .ref h_was, .int h_keeps, .ref h_kept, .int h_seens, .ref h_seen, .ref h_text, .int h_texted, .int h_at, .ref h_told, .int h_readPieces, .ref h_readPiece, .ref h_readRoom, .int h_readDeeds, .ref h_readDeed, .int h_readCoins, .int h_readLaw, .ref h_now])), (h_was, .inl (cI, 144, .inl c7)), (h_st, .inl (cI, 18, .inl h_st_c))] → va_S A s.heap H locs → ∀ (ls : Array Slot), lv_has ls 2 [(0, .ref h)] → W p l e (headSpec wsX6_remembers ({ frames := 1, cells := 0, slots := 0, locals := 25 })).room s m ([.ref h] : List Value).toArray below meth c H locs 0 0 (MQ below (va_Qv (fun _ : Unit => True) (q_E D vwCl (tyL cI cC cL cB) A [(h, .inr (6, [.int h_pieces, .ref h_piece, .int h_deeds, .ref h_deed, .int h_law, .ref h_st, .int o0, .ref h_was, .int h_keeps, .ref h_kept, .int h_seens, .ref h_seen, .ref h_text, .int h_texted, .int h_at, .ref h_told, .int h_readPieces, .ref h_readPiece, .ref h_readRoom, .int h_readDeeds, .ref h_readDeed, .int h_readCoins, .int h_readLaw, .ref h_now])), (h_was, .inl (cI, 144, .inl o1)), (h_st, .inl (cI, 18, .inl h_st_c))]) A) ([.ref h] : List Value).toArray s 0 0 A) (F0 m 38 ls [])) → W p l e (headSpec wsX6_remembers ({ frames := 1, cells := 0, slots := 0, locals := 25 })).room s m ([.ref h] : List Value).toArray below meth c H locs 0 0 (MQ below (va_Qv (fun _ : Unit => True) (q_E D vwCl (tyL cI cC cL cB) A [(h, .inr (6, [.int h_pieces, .ref h_piece, .int h_deeds, .ref h_deed, .int h_law, .ref h_st, .int o0, .ref h_was, .int h_keeps, .ref h_kept, .int h_seens, .ref h_seen, .ref h_text, .int h_texted, .int h_at, .ref h_told, .int h_readPieces, .ref h_readPiece, .ref h_readRoom, .int h_readDeeds, .ref h_readDeed, .int h_readCoins, .int h_readLaw, .ref h_now])), (h_was, .inl (cI, 144, .inl o1)), (h_st, .inl (cI, 18, .inl h_st_c))]) A) ([.ref h] : List Value).toArray s 0 0 A) (F0 m 11 ls []) := by
        intro n
        induction n with
        | zero =>
          intro c5 x6 H locs hP hD hS ls hl c7 hf KX
          rw [L_X6_remembers_11] at hf
          cases hf
        | succ n ih =>
          intro c5 x6 H locs hP hD hS ls hl c7 hf KX
          rw [L_X6_remembers_11] at hf
          refine lv_iload_n hx hb dX6_remembers_11 rfl (lv_at hl 1 rfl) ?_
          refine lv_bipush (v := 126) hx hb dX6_remembers_12 (by decide) ?_
          refine lv_icmp_ge (tgt := 38) hx hb dX6_remembers_14 (by decide) (fun c_16 => ?_) (fun c_16 => ?_)
          · have hf := ip c_16 hf
            cases hf
            exact KX _ _ hP hD hS ls (lv_sub hl [0] rfl)
          · have hf := im c_16 hf
            refine lv_aload_n hx hb dX6_remembers_17 rfl (lv_at hl 0 rfl) ?_
            refine va_get (D := D) (ci := 6) (v := .ref h_was) (C := RX6) (T := TX6) (N := 24) hx hb hts uX6_remembers_X6 hown hK hP 0 rfl rfl 7 (by decide) (hts (.fieldLink RX6 19 "SpeaksForTheChairModel" "was" "[I") (List.mem_of_getElem? (i := 2) rfl)) (fun _ h9 => h9) rfl dX6_remembers_18 ?_
            refine lv_iload_n hx hb dX6_remembers_21 rfl (lv_at hl 1 rfl) ?_
            refine lv_aload_n hx hb dX6_remembers_22 rfl (lv_at hl 0 rfl) ?_
            refine va_get (D := D) (ci := 6) (v := .ref h_was) (C := RX6) (T := TX6) (N := 24) hx hb hts uX6_remembers_X6 hown hK hP 0 rfl rfl 7 (by decide) (hts (.fieldLink RX6 19 "SpeaksForTheChairModel" "was" "[I") (List.mem_of_getElem? (i := 2) rfl)) (fun _ h9 => h9) rfl dX6_remembers_23 ?_
            refine lv_iload_n hx hb dX6_remembers_26 rfl (lv_at hl 1 rfl) ?_
            refine lv_bipush (v := 18) hx hb dX6_remembers_27 (by decide) ?_
            refine lv_iadd hx hb dX6_remembers_29 ?_
            obtain ⟨g_17, hf⟩ := gu_in hf
            refine va_iald hx hb hK hP 1 0 rfl rfl g_17 dX6_remembers_30 ?_
            obtain ⟨g_18, hf⟩ := gu_in hf
            refine va_iast hx hb hK hP hD hS 1 0 rfl rfl g_18 dX6_remembers_31 (fun H locs hP hD hS => ?_)
            obtain ⟨c8, ec8⟩ : ∃ y : Nat → Int32, y = (upd c5 x6.toNatClampNeg (c5 ((x6 + 18) : Int32).toNatClampNeg)) := ⟨_, rfl⟩
            have hf := pv_eq ec8 hf
            rw [← ec8] at hP hD
            have hP : va_P D vwCl [(h, .inr (6, [.int h_pieces, .ref h_piece, .int h_deeds, .ref h_deed, .int h_law, .ref h_st, .int h_acts, .ref h_was, .int h_keeps, .ref h_kept, .int h_seens, .ref h_seen, .ref h_text, .int h_texted, .int h_at, .ref h_told, .int h_readPieces, .ref h_readPiece, .ref h_readRoom, .int h_readDeeds, .ref h_readDeed, .int h_readCoins, .int h_readLaw, .ref h_now])), (h_was, .inl (cI, 144, .inl c8)), (h_st, .inl (cI, 18, .inl h_st_c))] H := hP
            have hD : va_D A [(h, .inr (6, [.int h_pieces, .ref h_piece, .int h_deeds, .ref h_deed, .int h_law, .ref h_st, .int h_acts, .ref h_was, .int h_keeps, .ref h_kept, .int h_seens, .ref h_seen, .ref h_text, .int h_texted, .int h_at, .ref h_told, .int h_readPieces, .ref h_readPiece, .ref h_readRoom, .int h_readDeeds, .ref h_readDeed, .int h_readCoins, .int h_readLaw, .ref h_now])), (h_was, .inl (cI, 144, .inl c8)), (h_st, .inl (cI, 18, .inl h_st_c))] := hD
            obtain ⟨x9, ex9⟩ : ∃ y : Int32, y = (x6 + 1) := ⟨_, rfl⟩
            have hf := pv_eq ex9 hf
            refine lv_iinc (v := x9) (lv' := [(1, .int x9), (0, .ref h)]) hx hb dX6_remembers_32 hl (k := 1) rfl (by rw [ex9]; rfl) (by decide) rfl (fun ls hl => ?_)
            refine lv_goto (tgt := 11) hx hb dX6_remembers_35 (by decide) ?_
            exact ih _ _ _ _ hP hD hS ls (lv_sub hl [1, 0] rfl) _ hf KX
      obtain ⟨c7, hr11, hf⟩ := ob1_some hf
      refine loop11 300 _ _ _ _ hP hD hS ls (lv_sub hl [1, 0] rfl) _ hr11 (fun H locs hP hD hS ls hl => ?_)
      refine lv_aload_n hx hb dX6_remembers_38 rfl (lv_at hl 0 rfl) ?_
      refine lv_dup hx hb dX6_remembers_39 rfl ?_
      refine va_get (D := D) (ci := 6) (v := .int h_acts) (C := RX6) (T := TX6) (N := 24) hx hb hts uX6_remembers_X6 hown hK hP 0 rfl rfl 6 (by decide) (hts (.fieldLink RX6 130 "SpeaksForTheChairModel" "acts" "I") (List.mem_of_getElem? (i := 1) rfl)) (fun _ h9 => h9) rfl dX6_remembers_40 ?_
      refine lv_iconst (v := 1) hx hb dX6_remembers_43 (by decide) ?_
      refine lv_isub hx hb dX6_remembers_44 ?_
      refine lv_topi (fun f10 ef10 => ?_)
      have hf := pv_eq ef10 hf
      refine va_put (D := D) (ci := 6) (v := .int f10) (ty := .int) (C := RX6) (T := TX6) (N := 24) hx hb hts uX6_remembers_X6 tyX6 tyX6_ok nmX6 hown hK hP hD hS 0 rfl rfl 6 (by decide) (hts (.fieldLink RX6 130 "SpeaksForTheChairModel" "acts" "I") (List.mem_of_getElem? (i := 1) rfl)) (fun _ h9 => h9) rfl (by decide +kernel) rfl rfl (Nat.le_of_ble_eq_true rfl) dX6_remembers_45 (fun H locs hP hD hS => ?_)
      have hP : va_P D vwCl [(h, .inr (6, [.int h_pieces, .ref h_piece, .int h_deeds, .ref h_deed, .int h_law, .ref h_st, .int f10, .ref h_was, .int h_keeps, .ref h_kept, .int h_seens, .ref h_seen, .ref h_text, .int h_texted, .int h_at, .ref h_told, .int h_readPieces, .ref h_readPiece, .ref h_readRoom, .int h_readDeeds, .ref h_readDeed, .int h_readCoins, .int h_readLaw, .ref h_now])), (h_was, .inl (cI, 144, .inl c7)), (h_st, .inl (cI, 18, .inl h_st_c))] H := hP
      have hD : va_D A [(h, .inr (6, [.int h_pieces, .ref h_piece, .int h_deeds, .ref h_deed, .int h_law, .ref h_st, .int f10, .ref h_was, .int h_keeps, .ref h_kept, .int h_seens, .ref h_seen, .ref h_text, .int h_texted, .int h_at, .ref h_told, .int h_readPieces, .ref h_readPiece, .ref h_readRoom, .int h_readDeeds, .ref h_readDeed, .int h_readCoins, .int h_readLaw, .ref h_now])), (h_was, .inl (cI, 144, .inl c7)), (h_st, .inl (cI, 18, .inl h_st_c))] := hD
      cases hf
      exact J48 _ _ hP hD hS ls (lv_sub hl [0] rfl)
