/-! contracts: X6_together, X6_cover, X6_safe, X6_dealer, X6_ruin, X6_seen, X6_forget, X6_isSo -/
set_option maxHeartbeats 4000000 in
set_option maxRecDepth 100000 in
theorem c_X6_together (l : Launch) (D : va_G) (cI cC cL cB : ClassId) (sz : Nat) (h : Nat) (h_piece : Nat) (h_deed : Nat) (h_st : Nat) (h_was : Nat) (h_kept : Nat) (h_seen : Nat) (h_text : Nat) (h_told : Nat) (h_readPiece : Nat) (h_readRoom : Nat) (h_readDeed : Nat) (h_now : Nat) (a1 : Int32) (a2 : Int32) (h_pieces : Int32) (h_deeds : Int32) (h_law : Int32) (h_acts : Int32) (h_keeps : Int32) (h_seens : Int32) (h_texted : Int32) (h_at : Int32) (h_readPieces : Int32) (h_readDeeds : Int32) (h_readCoins : Int32) (h_readLaw : Int32) (h_st_c : Nat → Int32) (h_now_c : Nat → Int32) (h_deed_c : Nat → Int32) (h_piece_c : Nat → Int32) (r : Int32) (o0 : Nat → Int32) (hf : m_X6_together a1 a2 h_pieces h_deeds h_st_c h_now_c h_deed_c h_piece_c = some (r, o0)) : Met l yX6_together wsX6_together ({ frames := 4, cells := 0, slots := 0, locals := 92 }) (va_Pc [.ref h, .int a1, .int a2] (q_W D vwCl (tyL cI cC cL cB) [(h, .inr (6, [.int h_pieces, .ref h_piece, .int h_deeds, .ref h_deed, .int h_law, .ref h_st, .int h_acts, .ref h_was, .int h_keeps, .ref h_kept, .int h_seens, .ref h_seen, .ref h_text, .int h_texted, .int h_at, .ref h_told, .int h_readPieces, .ref h_readPiece, .ref h_readRoom, .int h_readDeeds, .ref h_readDeed, .int h_readCoins, .int h_readLaw, .ref h_now])), (h_st, .inl (cI, 18, .inl h_st_c)), (h_now, .inl (cI, 18, .inl h_now_c)), (h_deed, .inl (cI, 40, .inl h_deed_c)), (h_piece, .inl (cI, 16, .inl h_piece_c))] sz)) (va_Qi (fun r' _ => r' = r) (q_E D vwCl (tyL cI cC cL cB) (va_A [(h, .inr (6, [.int h_pieces, .ref h_piece, .int h_deeds, .ref h_deed, .int h_law, .ref h_st, .int h_acts, .ref h_was, .int h_keeps, .ref h_kept, .int h_seens, .ref h_seen, .ref h_text, .int h_texted, .int h_at, .ref h_told, .int h_readPieces, .ref h_readPiece, .ref h_readRoom, .int h_readDeeds, .ref h_readDeed, .int h_readCoins, .int h_readLaw, .ref h_now])), (h_st, .inl (cI, 18, .inl h_st_c)), (h_now, .inl (cI, 18, .inl h_now_c)), (h_deed, .inl (cI, 40, .inl h_deed_c)), (h_piece, .inl (cI, 16, .inl h_piece_c))] sz) [(h, .inr (6, [.int h_pieces, .ref h_piece, .int h_deeds, .ref h_deed, .int h_law, .ref h_st, .int h_acts, .ref h_was, .int h_keeps, .ref h_kept, .int h_seens, .ref h_seen, .ref h_text, .int h_texted, .int h_at, .ref h_told, .int h_readPieces, .ref h_readPiece, .ref h_readRoom, .int h_readDeeds, .ref h_readDeed, .int h_readCoins, .int h_readLaw, .ref h_now])), (h_st, .inl (cI, 18, .inl h_st_c)), (h_now, .inl (cI, 18, .inl o0)), (h_deed, .inl (cI, 40, .inl h_deed_c)), (h_piece, .inl (cI, 16, .inl h_piece_c))]) (va_A [(h, .inr (6, [.int h_pieces, .ref h_piece, .int h_deeds, .ref h_deed, .int h_law, .ref h_st, .int h_acts, .ref h_was, .int h_keeps, .ref h_kept, .int h_seens, .ref h_seen, .ref h_text, .int h_texted, .int h_at, .ref h_told, .int h_readPieces, .ref h_readPiece, .ref h_readRoom, .int h_readDeeds, .ref h_readDeed, .int h_readCoins, .int h_readLaw, .ref h_now])), (h_st, .inl (cI, 18, .inl h_st_c)), (h_now, .inl (cI, 18, .inl h_now_c)), (h_deed, .inl (cI, 40, .inl h_deed_c)), (h_piece, .inl (cI, 16, .inl h_piece_c))] sz)) 0 0 (va_A [(h, .inr (6, [.int h_pieces, .ref h_piece, .int h_deeds, .ref h_deed, .int h_law, .ref h_st, .int h_acts, .ref h_was, .int h_keeps, .ref h_kept, .int h_seens, .ref h_seen, .ref h_text, .int h_texted, .int h_at, .ref h_told, .int h_readPieces, .ref h_readPiece, .ref h_readRoom, .int h_readDeeds, .ref h_readDeed, .int h_readCoins, .int h_readLaw, .ref h_now])), (h_st, .inl (cI, 18, .inl h_st_c)), (h_now, .inl (cI, 18, .inl h_now_c)), (h_deed, .inl (cI, 40, .inl h_deed_c)), (h_piece, .inl (cI, 16, .inl h_piece_c))] sz) := by
  refine Met.ofW (cc := cX6_together) (maxL := 3) (ret := (some .int)) (by decide) rfl ?_
  intro p e s m args below meth c s₁ B hml hv
  obtain ⟨rfl, hsz, hP, hK, hD0⟩ := hv
  have hx := B.exec
  have hb := B.bytes
  have hr := B.returns
  have hts := atoms_spec (ws := wsX6_together) B.pre
  have hown : s.vm.findClass RX6 = some m.cls := findClass_of_methodNamed B.named
  have hlocks := B.notSynchronized
  subst hsz
  have hD := hD0.self (sz := s.heap.size)
  generalize hAe : va_A [(h, .inr (6, [.int h_pieces, .ref h_piece, .int h_deeds, .ref h_deed, .int h_law, .ref h_st, .int h_acts, .ref h_was, .int h_keeps, .ref h_kept, .int h_seens, .ref h_seen, .ref h_text, .int h_texted, .int h_at, .ref h_told, .int h_readPieces, .ref h_readPiece, .ref h_readRoom, .int h_readDeeds, .ref h_readDeed, .int h_readCoins, .int h_readLaw, .ref h_now])), (h_st, .inl (cI, 18, .inl h_st_c)), (h_now, .inl (cI, 18, .inl h_now_c)), (h_deed, .inl (cI, 40, .inl h_deed_c)), (h_piece, .inl (cI, 16, .inl h_piece_c))] s.heap.size = A at hD ⊢
  have hA : ∀ q : Nat, s.heap.size ≤ q → A q := fun q h => by rw [← hAe]; exact Or.inr h
  have hS : va_S A s.heap s.heap [] := va_S.rf
  have hP : va_P D vwCl [(h, .inr (6, [.int h_pieces, .ref h_piece, .int h_deeds, .ref h_deed, .int h_law, .ref h_st, .int h_acts, .ref h_was, .int h_keeps, .ref h_kept, .int h_seens, .ref h_seen, .ref h_text, .int h_texted, .int h_at, .ref h_told, .int h_readPieces, .ref h_readPiece, .ref h_readRoom, .int h_readDeeds, .ref h_readDeed, .int h_readCoins, .int h_readLaw, .ref h_now])), (h_st, .inl (cI, 18, .inl h_st_c)), (h_now, .inl (cI, 18, .inl h_now_c)), (h_deed, .inl (cI, 40, .inl h_deed_c)), (h_piece, .inl (cI, 16, .inl h_piece_c))] s.heap := hP
  have hl := lv_entry ([.ref h, .int a1, .int a2]) (n := 3) (Nat.le_of_ble_eq_true rfl)
  rw [lg_entry_eq]
  generalize (lg_sl ([.ref h, .int a1, .int a2]) ++ List.replicate (3 - (lg_sl ([.ref h, .int a1, .int a2])).length) Slot.unset).toArray = ls at hl ⊢
  have hl : lv_has ls 3 [(0, .ref h), (1, .int a1), (2, .int a2)] := hl
  unfold m_X6_together at hf
  refine lv_aload_n hx hb dX6_together_0 rfl (lv_at hl 0 rfl) ?_
  refine lv_iload_n hx hb dX6_together_1 rfl (lv_at hl 1 rfl) ?_
  obtain ⟨x1, hv_1, hf⟩ := ob1_some hf
  refine q_rVi (As := [.int a1]) (rest := []) (r := x1) ⟨hx, hb, hml, hown, hts⟩ (c_X6_isPiece l D cI cC cL cB h h_piece h_deed h_st h_was h_kept h_seen h_text h_told h_readPiece h_readRoom h_readDeed h_now a1 h_pieces h_deeds h_law h_acts h_keeps h_seens h_texted h_at h_readPieces h_readDeeds h_readCoins h_readLaw x1 hv_1) (cwV 1 hts gX6_together_X6_isPiece rfl rfl rfl (by decide +kernel) ⟨Nat.le_of_ble_eq_true rfl, Nat.le_of_ble_eq_true rfl⟩) hK hP [0] rfl (va_recv hK hP (ci := 6) (q0 := 0) rfl rfl) rfl hl.1 rfl (Nat.le_of_ble_eq_true rfl) dX6_together_2 ⟨Nat.le_of_ble_eq_true rfl, Nat.le_of_ble_eq_true rfl⟩ ?_
  refine lv_if_eq (tgt := 21) hx hb dX6_together_5 (by decide) (fun c_2 => ?_) (fun c_2 => ?_)
  · have hf := ip c_2 hf
    refine lv_iconst (v := (-1)) hx hb dX6_together_21 (by decide) ?_
    cases hf
    exact W.iret hx hb hr (fun t ht hW => ⟨⟨_, (), rfl, rfl, by rw [ht]; exact hP, va_K.moved hW.alike hK, hD⟩, hS.F ht⟩) hS.2.2 dX6_together_22
  · have hf := im c_2 hf
    refine lv_aload_n hx hb dX6_together_8 rfl (lv_at hl 0 rfl) ?_
    refine lv_iload_n hx hb dX6_together_9 rfl (lv_at hl 2 rfl) ?_
    obtain ⟨x2, hv_3, hf⟩ := ob1_some hf
    refine q_rVi (As := [.int a2]) (rest := []) (r := x2) ⟨hx, hb, hml, hown, hts⟩ (c_X6_isPiece l D cI cC cL cB h h_piece h_deed h_st h_was h_kept h_seen h_text h_told h_readPiece h_readRoom h_readDeed h_now a2 h_pieces h_deeds h_law h_acts h_keeps h_seens h_texted h_at h_readPieces h_readDeeds h_readCoins h_readLaw x2 hv_3) (cwV 1 hts gX6_together_X6_isPiece rfl rfl rfl (by decide +kernel) ⟨Nat.le_of_ble_eq_true rfl, Nat.le_of_ble_eq_true rfl⟩) hK hP [0] rfl (va_recv hK hP (ci := 6) (q0 := 0) rfl rfl) rfl hl.1 rfl (Nat.le_of_ble_eq_true rfl) dX6_together_10 ⟨Nat.le_of_ble_eq_true rfl, Nat.le_of_ble_eq_true rfl⟩ ?_
    refine lv_if_eq (tgt := 21) hx hb dX6_together_13 (by decide) (fun c_4 => ?_) (fun c_4 => ?_)
    · have hf := ip c_4 hf
      refine lv_iconst (v := (-1)) hx hb dX6_together_21 (by decide) ?_
      cases hf
      exact W.iret hx hb hr (fun t ht hW => ⟨⟨_, (), rfl, rfl, by rw [ht]; exact hP, va_K.moved hW.alike hK, hD⟩, hS.F ht⟩) hS.2.2 dX6_together_22
    · have hf := im c_4 hf
      refine lv_iload_n hx hb dX6_together_16 rfl (lv_at hl 1 rfl) ?_
      refine lv_iload_n hx hb dX6_together_17 rfl (lv_at hl 2 rfl) ?_
      refine lv_icmp_ne (tgt := 23) hx hb dX6_together_18 (by decide) (fun c_5 => ?_) (fun c_5 => ?_)
      · have hf := im c_5 hf
        refine lv_aload_n hx hb dX6_together_23 rfl (lv_at hl 0 rfl) ?_
        obtain ⟨c3, hv_6, hf⟩ := ob1_some hf
        refine q_wVv (As := []) (rest := []) (w1 := [(h, .inr (6, [.int h_pieces, .ref h_piece, .int h_deeds, .ref h_deed, .int h_law, .ref h_st, .int h_acts, .ref h_was, .int h_keeps, .ref h_kept, .int h_seens, .ref h_seen, .ref h_text, .int h_texted, .int h_at, .ref h_told, .int h_readPieces, .ref h_readPiece, .ref h_readRoom, .int h_readDeeds, .ref h_readDeed, .int h_readCoins, .int h_readLaw, .ref h_now])), (h_st, .inl (cI, 18, .inl h_st_c)), (h_now, .inl (cI, 18, .inl c3))]) (wr := [(h_deed, .inl (cI, 40, .inl h_deed_c)), (h_piece, .inl (cI, 16, .inl h_piece_c))]) (w2 := [(h, .inr (6, [.int h_pieces, .ref h_piece, .int h_deeds, .ref h_deed, .int h_law, .ref h_st, .int h_acts, .ref h_was, .int h_keeps, .ref h_kept, .int h_seens, .ref h_seen, .ref h_text, .int h_texted, .int h_at, .ref h_told, .int h_readPieces, .ref h_readPiece, .ref h_readRoom, .int h_readDeeds, .ref h_readDeed, .int h_readCoins, .int h_readLaw, .ref h_now])), (h_st, .inl (cI, 18, .inl h_st_c)), (h_now, .inl (cI, 18, .inl c3)), (h_deed, .inl (cI, 40, .inl h_deed_c)), (h_piece, .inl (cI, 16, .inl h_piece_c))]) ⟨hx, hb, hml, hown, hts⟩ (c_X6_asItIs l D cI cC cL cB s.heap.size h h_piece h_deed h_st h_was h_kept h_seen h_text h_told h_readPiece h_readRoom h_readDeed h_now h_pieces h_deeds h_law h_acts h_keeps h_seens h_texted h_at h_readPieces h_readDeeds h_readCoins h_readLaw h_st_c h_now_c c3 hv_6) (cwV 0 hts gX6_together_X6_asItIs rfl rfl rfl (by decide +kernel) ⟨Nat.le_of_ble_eq_true rfl, Nat.le_of_ble_eq_true rfl⟩) hK hP hD hS hA [0, 1, 2] rfl (by decide) [3, 4] rfl (by decide) (by decide) [2, 3, 4, 0, 1] rfl (by decide) (va_recv hK hP (ci := 6) (q0 := 0) rfl rfl) rfl hl.1 rfl (Nat.le_of_ble_eq_true rfl) dX6_together_24 ⟨Nat.le_of_ble_eq_true rfl, Nat.le_of_ble_eq_true rfl⟩ (fun H locs hP hD hS => ?_)
        have hP : va_P D vwCl [(h, .inr (6, [.int h_pieces, .ref h_piece, .int h_deeds, .ref h_deed, .int h_law, .ref h_st, .int h_acts, .ref h_was, .int h_keeps, .ref h_kept, .int h_seens, .ref h_seen, .ref h_text, .int h_texted, .int h_at, .ref h_told, .int h_readPieces, .ref h_readPiece, .ref h_readRoom, .int h_readDeeds, .ref h_readDeed, .int h_readCoins, .int h_readLaw, .ref h_now])), (h_st, .inl (cI, 18, .inl h_st_c)), (h_now, .inl (cI, 18, .inl c3)), (h_deed, .inl (cI, 40, .inl h_deed_c)), (h_piece, .inl (cI, 16, .inl h_piece_c))] H := hP
        have hD : va_D A [(h, .inr (6, [.int h_pieces, .ref h_piece, .int h_deeds, .ref h_deed, .int h_law, .ref h_st, .int h_acts, .ref h_was, .int h_keeps, .ref h_kept, .int h_seens, .ref h_seen, .ref h_text, .int h_texted, .int h_at, .ref h_told, .int h_readPieces, .ref h_readPiece, .ref h_readRoom, .int h_readDeeds, .ref h_readDeed, .int h_readCoins, .int h_readLaw, .ref h_now])), (h_st, .inl (cI, 18, .inl h_st_c)), (h_now, .inl (cI, 18, .inl c3)), (h_deed, .inl (cI, 40, .inl h_deed_c)), (h_piece, .inl (cI, 16, .inl h_piece_c))] := hD
        refine lv_aload_n hx hb dX6_together_27 rfl (lv_at hl 0 rfl) ?_
        refine lv_iload_n hx hb dX6_together_28 rfl (lv_at hl 1 rfl) ?_
        obtain ⟨x4, hv_7, hf⟩ := ob1_some hf
        refine q_rVi (As := [.int a1]) (rest := []) (r := x4) ⟨hx, hb, hml, hown, hts⟩ (c_X6_toldBy l D cI cC cL cB h h_piece h_deed h_st h_was h_kept h_seen h_text h_told h_readPiece h_readRoom h_readDeed h_now a1 h_pieces h_deeds h_law h_acts h_keeps h_seens h_texted h_at h_readPieces h_readDeeds h_readCoins h_readLaw h_deed_c c3 h_piece_c x4 hv_7) (cwV 1 hts gX6_together_X6_toldBy rfl rfl rfl (by decide +kernel) ⟨Nat.le_of_ble_eq_true rfl, Nat.le_of_ble_eq_true rfl⟩) hK hP [0, 3, 2, 4] rfl (va_recv hK hP (ci := 6) (q0 := 0) rfl rfl) rfl hl.1 rfl (Nat.le_of_ble_eq_true rfl) dX6_together_29 ⟨Nat.le_of_ble_eq_true rfl, Nat.le_of_ble_eq_true rfl⟩ ?_
        refine lv_aload_n hx hb dX6_together_32 rfl (lv_at hl 0 rfl) ?_
        refine lv_iload_n hx hb dX6_together_33 rfl (lv_at hl 2 rfl) ?_
        obtain ⟨x5, hv_8, hf⟩ := ob1_some hf
        refine q_rVi (As := [.int a2]) (rest := [.int x4]) (r := x5) ⟨hx, hb, hml, hown, hts⟩ (c_X6_toldBy l D cI cC cL cB h h_piece h_deed h_st h_was h_kept h_seen h_text h_told h_readPiece h_readRoom h_readDeed h_now a2 h_pieces h_deeds h_law h_acts h_keeps h_seens h_texted h_at h_readPieces h_readDeeds h_readCoins h_readLaw h_deed_c c3 h_piece_c x5 hv_8) (cwV 1 hts gX6_together_X6_toldBy rfl rfl rfl (by decide +kernel) ⟨Nat.le_of_ble_eq_true rfl, Nat.le_of_ble_eq_true rfl⟩) hK hP [0, 3, 2, 4] rfl (va_recv hK hP (ci := 6) (q0 := 0) rfl rfl) rfl hl.1 rfl (Nat.le_of_ble_eq_true rfl) dX6_together_34 ⟨Nat.le_of_ble_eq_true rfl, Nat.le_of_ble_eq_true rfl⟩ ?_
        refine lv_iand hx hb dX6_together_37 ?_
        cases hf
        exact W.iret hx hb hr (fun t ht hW => ⟨⟨_, (), rfl, rfl, by rw [ht]; exact hP, va_K.moved hW.alike hK, hD⟩, hS.F ht⟩) hS.2.2 dX6_together_38
      · have hf := ip c_5 hf
        refine lv_iconst (v := (-1)) hx hb dX6_together_21 (by decide) ?_
        cases hf
        exact W.iret hx hb hr (fun t ht hW => ⟨⟨_, (), rfl, rfl, by rw [ht]; exact hP, va_K.moved hW.alike hK, hD⟩, hS.F ht⟩) hS.2.2 dX6_together_22
theorem uX6_cover_X6 : ∀ w ∈ wsX60, w ∈ wsX6_cover := fun w h => List.mem_cons_of_mem _ (List.mem_append_right _ h)
set_option maxHeartbeats 4000000 in
set_option maxRecDepth 100000 in
theorem c_X6_cover (l : Launch) (D : va_G) (cI cC cL cB : ClassId) (sz : Nat) (h : Nat) (h_piece : Nat) (h_deed : Nat) (h_st : Nat) (h_was : Nat) (h_kept : Nat) (h_seen : Nat) (h_text : Nat) (h_told : Nat) (h_readPiece : Nat) (h_readRoom : Nat) (h_readDeed : Nat) (h_now : Nat) (a1 : Int32) (h_pieces : Int32) (h_deeds : Int32) (h_law : Int32) (h_acts : Int32) (h_keeps : Int32) (h_seens : Int32) (h_texted : Int32) (h_at : Int32) (h_readPieces : Int32) (h_readDeeds : Int32) (h_readCoins : Int32) (h_readLaw : Int32) (h_st_c : Nat → Int32) (h_now_c : Nat → Int32) (h_piece_c : Nat → Int32) (h_deed_c : Nat → Int32) (r : Int32) (o0 : Nat → Int32) (hf : m_X6_cover a1 h_pieces h_deeds h_law h_st_c h_now_c h_piece_c h_deed_c = some (r, o0)) : Met l yX6_cover wsX6_cover ({ frames := 5, cells := 0, slots := 0, locals := 115 }) (va_Pc [.ref h, .int a1] (q_W D vwCl (tyL cI cC cL cB) [(h, .inr (6, [.int h_pieces, .ref h_piece, .int h_deeds, .ref h_deed, .int h_law, .ref h_st, .int h_acts, .ref h_was, .int h_keeps, .ref h_kept, .int h_seens, .ref h_seen, .ref h_text, .int h_texted, .int h_at, .ref h_told, .int h_readPieces, .ref h_readPiece, .ref h_readRoom, .int h_readDeeds, .ref h_readDeed, .int h_readCoins, .int h_readLaw, .ref h_now])), (h_st, .inl (cI, 18, .inl h_st_c)), (h_now, .inl (cI, 18, .inl h_now_c)), (h_piece, .inl (cI, 16, .inl h_piece_c)), (h_deed, .inl (cI, 40, .inl h_deed_c))] sz)) (va_Qi (fun r' _ => r' = r) (q_E D vwCl (tyL cI cC cL cB) (va_A [(h, .inr (6, [.int h_pieces, .ref h_piece, .int h_deeds, .ref h_deed, .int h_law, .ref h_st, .int h_acts, .ref h_was, .int h_keeps, .ref h_kept, .int h_seens, .ref h_seen, .ref h_text, .int h_texted, .int h_at, .ref h_told, .int h_readPieces, .ref h_readPiece, .ref h_readRoom, .int h_readDeeds, .ref h_readDeed, .int h_readCoins, .int h_readLaw, .ref h_now])), (h_st, .inl (cI, 18, .inl h_st_c)), (h_now, .inl (cI, 18, .inl h_now_c)), (h_piece, .inl (cI, 16, .inl h_piece_c)), (h_deed, .inl (cI, 40, .inl h_deed_c))] sz) [(h, .inr (6, [.int h_pieces, .ref h_piece, .int h_deeds, .ref h_deed, .int h_law, .ref h_st, .int h_acts, .ref h_was, .int h_keeps, .ref h_kept, .int h_seens, .ref h_seen, .ref h_text, .int h_texted, .int h_at, .ref h_told, .int h_readPieces, .ref h_readPiece, .ref h_readRoom, .int h_readDeeds, .ref h_readDeed, .int h_readCoins, .int h_readLaw, .ref h_now])), (h_st, .inl (cI, 18, .inl h_st_c)), (h_now, .inl (cI, 18, .inl o0)), (h_piece, .inl (cI, 16, .inl h_piece_c)), (h_deed, .inl (cI, 40, .inl h_deed_c))]) (va_A [(h, .inr (6, [.int h_pieces, .ref h_piece, .int h_deeds, .ref h_deed, .int h_law, .ref h_st, .int h_acts, .ref h_was, .int h_keeps, .ref h_kept, .int h_seens, .ref h_seen, .ref h_text, .int h_texted, .int h_at, .ref h_told, .int h_readPieces, .ref h_readPiece, .ref h_readRoom, .int h_readDeeds, .ref h_readDeed, .int h_readCoins, .int h_readLaw, .ref h_now])), (h_st, .inl (cI, 18, .inl h_st_c)), (h_now, .inl (cI, 18, .inl h_now_c)), (h_piece, .inl (cI, 16, .inl h_piece_c)), (h_deed, .inl (cI, 40, .inl h_deed_c))] sz)) 0 0 (va_A [(h, .inr (6, [.int h_pieces, .ref h_piece, .int h_deeds, .ref h_deed, .int h_law, .ref h_st, .int h_acts, .ref h_was, .int h_keeps, .ref h_kept, .int h_seens, .ref h_seen, .ref h_text, .int h_texted, .int h_at, .ref h_told, .int h_readPieces, .ref h_readPiece, .ref h_readRoom, .int h_readDeeds, .ref h_readDeed, .int h_readCoins, .int h_readLaw, .ref h_now])), (h_st, .inl (cI, 18, .inl h_st_c)), (h_now, .inl (cI, 18, .inl h_now_c)), (h_piece, .inl (cI, 16, .inl h_piece_c)), (h_deed, .inl (cI, 40, .inl h_deed_c))] sz) := by
  refine Met.ofW (cc := cX6_cover) (maxL := 6) (ret := (some .int)) (by decide) rfl ?_
  intro p e s m args below meth c s₁ B hml hv
  obtain ⟨rfl, hsz, hP, hK, hD0⟩ := hv
  have hx := B.exec
  have hb := B.bytes
  have hr := B.returns
  have hts := atoms_spec (ws := wsX6_cover) B.pre
  have hown : s.vm.findClass RX6 = some m.cls := findClass_of_methodNamed B.named
  have hlocks := B.notSynchronized
  subst hsz
  have hD := hD0.self (sz := s.heap.size)
  generalize hAe : va_A [(h, .inr (6, [.int h_pieces, .ref h_piece, .int h_deeds, .ref h_deed, .int h_law, .ref h_st, .int h_acts, .ref h_was, .int h_keeps, .ref h_kept, .int h_seens, .ref h_seen, .ref h_text, .int h_texted, .int h_at, .ref h_told, .int h_readPieces, .ref h_readPiece, .ref h_readRoom, .int h_readDeeds, .ref h_readDeed, .int h_readCoins, .int h_readLaw, .ref h_now])), (h_st, .inl (cI, 18, .inl h_st_c)), (h_now, .inl (cI, 18, .inl h_now_c)), (h_piece, .inl (cI, 16, .inl h_piece_c)), (h_deed, .inl (cI, 40, .inl h_deed_c))] s.heap.size = A at hD ⊢
  have hA : ∀ q : Nat, s.heap.size ≤ q → A q := fun q h => by rw [← hAe]; exact Or.inr h
  have hS : va_S A s.heap s.heap [] := va_S.rf
  have hP : va_P D vwCl [(h, .inr (6, [.int h_pieces, .ref h_piece, .int h_deeds, .ref h_deed, .int h_law, .ref h_st, .int h_acts, .ref h_was, .int h_keeps, .ref h_kept, .int h_seens, .ref h_seen, .ref h_text, .int h_texted, .int h_at, .ref h_told, .int h_readPieces, .ref h_readPiece, .ref h_readRoom, .int h_readDeeds, .ref h_readDeed, .int h_readCoins, .int h_readLaw, .ref h_now])), (h_st, .inl (cI, 18, .inl h_st_c)), (h_now, .inl (cI, 18, .inl h_now_c)), (h_piece, .inl (cI, 16, .inl h_piece_c)), (h_deed, .inl (cI, 40, .inl h_deed_c))] s.heap := hP
  have hl := lv_entry ([.ref h, .int a1]) (n := 6) (Nat.le_of_ble_eq_true rfl)
  rw [lg_entry_eq]
  generalize (lg_sl ([.ref h, .int a1]) ++ List.replicate (6 - (lg_sl ([.ref h, .int a1])).length) Slot.unset).toArray = ls at hl ⊢
  have hl : lv_has ls 6 [(0, .ref h), (1, .int a1)] := hl
  unfold m_X6_cover at hf
  refine lv_iload_n hx hb dX6_cover_0 rfl (lv_at hl 1 rfl) ?_
  refine lv_iconst (v := 0) hx hb dX6_cover_1 (by decide) ?_
  refine lv_iconst (v := 1) hx hb dX6_cover_2 (by decide) ?_
  obtain ⟨x1, hv_1, hf⟩ := ob1_some hf
  refine q_rSi (As := [.int a1, .int 0, .int 1]) (rest := []) (r := x1) ⟨hx, hb, hml, hown, hts⟩ (c_X6_in l D cI cC cL cB a1 ((0 : Int32)) ((1 : Int32)) x1 hv_1) (va_cwS 3 hts gX6_cover_X6_in rfl rfl rfl (by decide +kernel) ⟨Nat.le_of_ble_eq_true rfl, Nat.le_of_ble_eq_true rfl⟩) hK hP [] rfl rfl hl.1 rfl (Nat.le_of_ble_eq_true rfl) dX6_cover_3 ⟨Nat.le_of_ble_eq_true rfl, Nat.le_of_ble_eq_true rfl⟩ ?_
  refine lv_if_ne (tgt := 11) hx hb dX6_cover_6 (by decide) (fun c_2 => ?_) (fun c_2 => ?_)
  · have hf := im c_2 hf
    refine lv_aload_n hx hb dX6_cover_11 rfl (lv_at hl 0 rfl) ?_
    obtain ⟨c2, hv_3, hf⟩ := ob1_some hf
    refine q_wVv (As := []) (rest := []) (w1 := [(h, .inr (6, [.int h_pieces, .ref h_piece, .int h_deeds, .ref h_deed, .int h_law, .ref h_st, .int h_acts, .ref h_was, .int h_keeps, .ref h_kept, .int h_seens, .ref h_seen, .ref h_text, .int h_texted, .int h_at, .ref h_told, .int h_readPieces, .ref h_readPiece, .ref h_readRoom, .int h_readDeeds, .ref h_readDeed, .int h_readCoins, .int h_readLaw, .ref h_now])), (h_st, .inl (cI, 18, .inl h_st_c)), (h_now, .inl (cI, 18, .inl c2))]) (wr := [(h_piece, .inl (cI, 16, .inl h_piece_c)), (h_deed, .inl (cI, 40, .inl h_deed_c))]) (w2 := [(h, .inr (6, [.int h_pieces, .ref h_piece, .int h_deeds, .ref h_deed, .int h_law, .ref h_st, .int h_acts, .ref h_was, .int h_keeps, .ref h_kept, .int h_seens, .ref h_seen, .ref h_text, .int h_texted, .int h_at, .ref h_told, .int h_readPieces, .ref h_readPiece, .ref h_readRoom, .int h_readDeeds, .ref h_readDeed, .int h_readCoins, .int h_readLaw, .ref h_now])), (h_st, .inl (cI, 18, .inl h_st_c)), (h_now, .inl (cI, 18, .inl c2)), (h_piece, .inl (cI, 16, .inl h_piece_c)), (h_deed, .inl (cI, 40, .inl h_deed_c))]) ⟨hx, hb, hml, hown, hts⟩ (c_X6_asItIs l D cI cC cL cB s.heap.size h h_piece h_deed h_st h_was h_kept h_seen h_text h_told h_readPiece h_readRoom h_readDeed h_now h_pieces h_deeds h_law h_acts h_keeps h_seens h_texted h_at h_readPieces h_readDeeds h_readCoins h_readLaw h_st_c h_now_c c2 hv_3) (cwV 0 hts gX6_cover_X6_asItIs rfl rfl rfl (by decide +kernel) ⟨Nat.le_of_ble_eq_true rfl, Nat.le_of_ble_eq_true rfl⟩) hK hP hD hS hA [0, 1, 2] rfl (by decide) [3, 4] rfl (by decide) (by decide) [2, 3, 4, 0, 1] rfl (by decide) (va_recv hK hP (ci := 6) (q0 := 0) rfl rfl) rfl hl.1 rfl (Nat.le_of_ble_eq_true rfl) dX6_cover_12 ⟨Nat.le_of_ble_eq_true rfl, Nat.le_of_ble_eq_true rfl⟩ (fun H locs hP hD hS => ?_)
    have hP : va_P D vwCl [(h, .inr (6, [.int h_pieces, .ref h_piece, .int h_deeds, .ref h_deed, .int h_law, .ref h_st, .int h_acts, .ref h_was, .int h_keeps, .ref h_kept, .int h_seens, .ref h_seen, .ref h_text, .int h_texted, .int h_at, .ref h_told, .int h_readPieces, .ref h_readPiece, .ref h_readRoom, .int h_readDeeds, .ref h_readDeed, .int h_readCoins, .int h_readLaw, .ref h_now])), (h_st, .inl (cI, 18, .inl h_st_c)), (h_now, .inl (cI, 18, .inl c2)), (h_piece, .inl (cI, 16, .inl h_piece_c)), (h_deed, .inl (cI, 40, .inl h_deed_c))] H := hP
    have hD : va_D A [(h, .inr (6, [.int h_pieces, .ref h_piece, .int h_deeds, .ref h_deed, .int h_law, .ref h_st, .int h_acts, .ref h_was, .int h_keeps, .ref h_kept, .int h_seens, .ref h_seen, .ref h_text, .int h_texted, .int h_at, .ref h_told, .int h_readPieces, .ref h_readPiece, .ref h_readRoom, .int h_readDeeds, .ref h_readDeed, .int h_readCoins, .int h_readLaw, .ref h_now])), (h_st, .inl (cI, 18, .inl h_st_c)), (h_now, .inl (cI, 18, .inl c2)), (h_piece, .inl (cI, 16, .inl h_piece_c)), (h_deed, .inl (cI, 40, .inl h_deed_c))] := hD
    refine lv_aload_n hx hb dX6_cover_15 rfl (lv_at hl 0 rfl) ?_
    obtain ⟨x3, hv_4, hf⟩ := ob1_some hf
    refine q_rVi (As := []) (rest := []) (r := x3) ⟨hx, hb, hml, hown, hts⟩ (c_X6_loose l D cI cC cL cB h h_piece h_deed h_st h_was h_kept h_seen h_text h_told h_readPiece h_readRoom h_readDeed h_now h_pieces h_deeds h_law h_acts h_keeps h_seens h_texted h_at h_readPieces h_readDeeds h_readCoins h_readLaw c2 h_piece_c x3 hv_4) (cwV 0 hts gX6_cover_X6_loose rfl rfl rfl (by decide +kernel) ⟨Nat.le_of_ble_eq_true rfl, Nat.le_of_ble_eq_true rfl⟩) hK hP [0, 2, 3] rfl (va_recv hK hP (ci := 6) (q0 := 0) rfl rfl) rfl hl.1 rfl (Nat.le_of_ble_eq_true rfl) dX6_cover_16 ⟨Nat.le_of_ble_eq_true rfl, Nat.le_of_ble_eq_true rfl⟩ ?_
    refine lv_istore_n (lv' := [(2, .int x3), (0, .ref h), (1, .int a1)]) hx hb dX6_cover_19 rfl hl (by decide) rfl (fun ls hl => ?_)
    refine lv_iload_n hx hb dX6_cover_20 rfl (lv_at hl 0 rfl) ?_
    refine lv_istore_n (lv' := [(3, .int x3), (2, .int x3), (0, .ref h), (1, .int a1)]) hx hb dX6_cover_21 rfl hl (by decide) rfl (fun ls hl => ?_)
    refine lv_iconst (v := 0) hx hb dX6_cover_22 (by decide) ?_
    refine lv_istore (lv' := [(4, .int 0), (3, .int x3), (2, .int x3), (0, .ref h), (1, .int a1)]) hx hb dX6_cover_23 hl (by decide) rfl (fun ls hl => ?_)
    have loop25 : ∀ (n : Nat) (x4 : Int32) (x5 : Int32), ∀ (ls : Array Slot), lv_has ls 6 [(0, .ref h), (1, .int a1), (2, .int x3), (3, .int x4), (4, .int x5)] → ∀ (x6 : Int32), L_X6_cover_25 h_pieces x3 h_deeds h_deed_c c2 h_piece_c n x4 x5 = some x6 → (∀ (ls : Array Slot), lv_has ls 6 [(1, .int a1), (3, .int x6)] → W p l e (headSpec wsX6_cover ({ frames := 5, cells := 0, slots := 0, locals := 115 })).room s m ([.ref h, .int a1] : List Value).toArray below meth c H locs 0 0 (MQ below (va_Qi (fun r' _ => r' = r) (q_E D vwCl (tyL cI cC cL cB) A [(h, .inr (6, [.int h_pieces, .ref h_piece, .int h_deeds, .ref h_deed, .int h_law, .ref h_st, .int h_acts, .ref h_was, .int h_keeps, .ref h_kept, .int h_seens, .ref h_seen, .ref h_text, .int h_texted, .int h_at, .ref h_told, .int h_readPieces, .ref h_readPiece, .ref h_readRoom, .int h_readDeeds, .ref h_readDeed, .int h_readCoins, .int h_readLaw, .ref h_now])), (h_st, .inl (cI, 18, .inl h_st_c)), (h_now, .inl (cI, 18, .inl o0)), (h_piece, .inl (cI, 16, .inl h_piece_c)), (h_deed, .inl (cI, 40, .inl h_deed_c))]) A) ([.ref h, .int a1] : List Value).toArray s 0 0 A) (F0 m 114 ls [])) → W p l e (headSpec wsX6_cover ({ frames := 5, cells := 0, slots := 0, locals := 115 })).room s m ([.ref h, .int a1] : List Value).toArray below meth c H locs 0 0 (MQ below (va_Qi (fun r' _ => r' = r) (q_E D vwCl (tyL cI cC cL cB) A [(h, .inr (6, [.int h_pieces, .ref h_piece, .int h_deeds, .ref h_deed, .int h_law, .ref h_st, .int h_acts, .ref h_was, .int h_keeps, .ref h_kept, .int h_seens, .ref h_seen, .ref h_text, .int h_texted, .int h_at, .ref h_told, .int h_readPieces, .ref h_readPiece, .ref h_readRoom, .int h_readDeeds, .ref h_readDeed, .int h_readCoins, .int h_readLaw, .ref h_now])), (h_st, .inl (cI, 18, .inl h_st_c)), (h_now, .inl (cI, 18, .inl o0)), (h_piece, .inl (cI, 16, .inl h_piece_c)), (h_deed, .inl (cI, 40, .inl h_deed_c))]) A) ([.ref h, .int a1] : List Value).toArray s 0 0 A) (F0 m 25 ls []) := by
      intro n
      induction n with
      | zero =>
        intro x4 x5 ls hl x6 hf KX
        rw [L_X6_cover_25] at hf
        cases hf
      | succ n ih =>
        intro x4 x5 ls hl x6 hf KX
        rw [L_X6_cover_25] at hf
        refine lv_iload hx hb dX6_cover_25 (lv_at hl 4 rfl) ?_
        refine lv_iconst (v := 1) hx hb dX6_cover_27 (by decide) ?_
        refine lv_aload_n hx hb dX6_cover_28 rfl (lv_at hl 0 rfl) ?_
        refine va_get (D := D) (ci := 6) (v := .int h_pieces) (C := RX6) (T := TX6) (N := 24) hx hb hts uX6_cover_X6 hown hK hP 0 rfl rfl 0 (by decide) (hts (.fieldLink RX6 73 "SpeaksForTheChairModel" "pieces" "I") (List.mem_of_getElem? (i := 1) rfl)) (fun _ h9 => h9) rfl dX6_cover_29 ?_
        refine lv_ishl hx hb dX6_cover_32 ?_
        refine lv_icmp_ge (tgt := 114) hx hb dX6_cover_33 (by decide) (fun c_37 => ?_) (fun c_37 => ?_)
        · have hf := ip c_37 hf
          cases hf
          exact KX ls (lv_sub hl [1, 3] rfl)
        · have hf := im c_37 hf
          refine lv_iload hx hb dX6_cover_36 (lv_at hl 4 rfl) ?_
          refine lv_iload_n hx hb dX6_cover_38 rfl (lv_at hl 2 rfl) ?_
          refine lv_iconst (v := (-1)) hx hb dX6_cover_39 (by decide) ?_
          refine lv_ixor hx hb dX6_cover_40 ?_
          refine lv_iand hx hb dX6_cover_41 ?_
          obtain ⟨x7, hr64, hf⟩ := ob1_some hf
          refine q_jn (pcJ := 64) (nL := 6) (vs := [(0, .ref h), (1, .int a1), (2, .int x3), (3, .int x4), (4, .int x5)]) (st := [.int x7]) (fun ls hl => ?_) (fun J64 => ?_)
          · clear hr64
            refine lv_istore (lv' := [(5, .int x7), (0, .ref h), (1, .int a1), (2, .int x3), (3, .int x4), (4, .int x5)]) hx hb dX6_cover_64 hl (by decide) rfl (fun ls hl => ?_)
            refine lv_iload hx hb dX6_cover_66 (lv_at hl 0 rfl) ?_
            refine lv_if_eq (tgt := 106) hx hb dX6_cover_68 (by decide) (fun c_42 => ?_) (fun c_42 => ?_)
            · have hf := ip c_42 hf
              refine lv_iload_n hx hb dX6_cover_106 rfl (lv_at hl 4 rfl) ?_
              refine lv_istore_n (lv' := [(3, .int x4), (5, .int x7), (0, .ref h), (1, .int a1), (2, .int x3), (4, .int x5)]) hx hb dX6_cover_107 rfl hl (by decide) rfl (fun ls hl => ?_)
              obtain ⟨x8, ex8⟩ : ∃ y : Int32, y = (x5 + 1) := ⟨_, rfl⟩
              have hf := pv_eq ex8 hf
              refine lv_iinc (v := x8) (lv' := [(4, .int x8), (3, .int x4), (5, .int x7), (0, .ref h), (1, .int a1), (2, .int x3)]) hx hb dX6_cover_108 hl (k := 5) rfl (by rw [ex8]; rfl) (by decide) rfl (fun ls hl => ?_)
              refine lv_goto (tgt := 25) hx hb dX6_cover_111 (by decide) ?_
              exact ih _ _ ls (lv_sub hl [3, 4, 5, 1, 0] rfl) _ hf KX
            · have hf := im c_42 hf
              refine lv_iload hx hb dX6_cover_71 (lv_at hl 5 rfl) ?_
              obtain ⟨x9, hv_43, hf⟩ := ob1_some hf
              refine q_rSi (As := [.int x5]) (rest := []) (r := x9) ⟨hx, hb, hml, hown, hts⟩ (c_X6_bits l D cI cC cL cB x5 x9 hv_43) (va_cwS 1 hts gX6_cover_X6_bits rfl rfl rfl (by decide +kernel) ⟨Nat.le_of_ble_eq_true rfl, Nat.le_of_ble_eq_true rfl⟩) hK hP [] rfl rfl hl.1 rfl (Nat.le_of_ble_eq_true rfl) dX6_cover_73 ⟨Nat.le_of_ble_eq_true rfl, Nat.le_of_ble_eq_true rfl⟩ ?_
              refine lv_iload_n hx hb dX6_cover_76 rfl (lv_at hl 4 rfl) ?_
              obtain ⟨x10, hv_44, hf⟩ := ob1_some hf
              refine q_rSi (As := [.int x4]) (rest := [.int x9]) (r := x10) ⟨hx, hb, hml, hown, hts⟩ (c_X6_bits l D cI cC cL cB x4 x10 hv_44) (va_cwS 1 hts gX6_cover_X6_bits rfl rfl rfl (by decide +kernel) ⟨Nat.le_of_ble_eq_true rfl, Nat.le_of_ble_eq_true rfl⟩) hK hP [] rfl rfl hl.1 rfl (Nat.le_of_ble_eq_true rfl) dX6_cover_77 ⟨Nat.le_of_ble_eq_true rfl, Nat.le_of_ble_eq_true rfl⟩ ?_
              refine lv_icmp_lt (tgt := 101) hx hb dX6_cover_80 (by decide) (fun c_45 => ?_) (fun c_45 => ?_)
              · have hf := ip c_45 hf
                refine lv_iload hx hb dX6_cover_101 (lv_at hl 5 rfl) ?_
                refine lv_goto (tgt := 107) hx hb dX6_cover_103 (by decide) ?_
                refine lv_istore_n (lv' := [(3, .int x5), (5, .int x7), (0, .ref h), (1, .int a1), (2, .int x3), (4, .int x5)]) hx hb dX6_cover_107 rfl hl (by decide) rfl (fun ls hl => ?_)
                obtain ⟨x11, ex11⟩ : ∃ y : Int32, y = (x5 + 1) := ⟨_, rfl⟩
                have hf := pv_eq ex11 hf
                refine lv_iinc (v := x11) (lv' := [(4, .int x11), (3, .int x5), (5, .int x7), (0, .ref h), (1, .int a1), (2, .int x3)]) hx hb dX6_cover_108 hl (k := 5) rfl (by rw [ex11]; rfl) (by decide) rfl (fun ls hl => ?_)
                refine lv_goto (tgt := 25) hx hb dX6_cover_111 (by decide) ?_
                exact ih _ _ ls (lv_sub hl [3, 4, 5, 1, 0] rfl) _ hf KX
              · have hf := im c_45 hf
                refine lv_iload hx hb dX6_cover_83 (lv_at hl 5 rfl) ?_
                obtain ⟨x12, hv_46, hf⟩ := ob1_some hf
                refine q_rSi (As := [.int x5]) (rest := []) (r := x12) ⟨hx, hb, hml, hown, hts⟩ (c_X6_bits l D cI cC cL cB x5 x12 hv_46) (va_cwS 1 hts gX6_cover_X6_bits rfl rfl rfl (by decide +kernel) ⟨Nat.le_of_ble_eq_true rfl, Nat.le_of_ble_eq_true rfl⟩) hK hP [] rfl rfl hl.1 rfl (Nat.le_of_ble_eq_true rfl) dX6_cover_85 ⟨Nat.le_of_ble_eq_true rfl, Nat.le_of_ble_eq_true rfl⟩ ?_
                refine lv_iload_n hx hb dX6_cover_88 rfl (lv_at hl 4 rfl) ?_
                obtain ⟨x13, hv_47, hf⟩ := ob1_some hf
                refine q_rSi (As := [.int x4]) (rest := [.int x12]) (r := x13) ⟨hx, hb, hml, hown, hts⟩ (c_X6_bits l D cI cC cL cB x4 x13 hv_47) (va_cwS 1 hts gX6_cover_X6_bits rfl rfl rfl (by decide +kernel) ⟨Nat.le_of_ble_eq_true rfl, Nat.le_of_ble_eq_true rfl⟩) hK hP [] rfl rfl hl.1 rfl (Nat.le_of_ble_eq_true rfl) dX6_cover_89 ⟨Nat.le_of_ble_eq_true rfl, Nat.le_of_ble_eq_true rfl⟩ ?_
                refine lv_icmp_ne (tgt := 106) hx hb dX6_cover_92 (by decide) (fun c_48 => ?_) (fun c_48 => ?_)
                · have hf := im c_48 hf
                  refine lv_iload_n hx hb dX6_cover_106 rfl (lv_at hl 4 rfl) ?_
                  refine lv_istore_n (lv' := [(3, .int x4), (5, .int x7), (0, .ref h), (1, .int a1), (2, .int x3), (4, .int x5)]) hx hb dX6_cover_107 rfl hl (by decide) rfl (fun ls hl => ?_)
                  obtain ⟨x14, ex14⟩ : ∃ y : Int32, y = (x5 + 1) := ⟨_, rfl⟩
                  have hf := pv_eq ex14 hf
                  refine lv_iinc (v := x14) (lv' := [(4, .int x14), (3, .int x4), (5, .int x7), (0, .ref h), (1, .int a1), (2, .int x3)]) hx hb dX6_cover_108 hl (k := 5) rfl (by rw [ex14]; rfl) (by decide) rfl (fun ls hl => ?_)
                  refine lv_goto (tgt := 25) hx hb dX6_cover_111 (by decide) ?_
                  exact ih _ _ ls (lv_sub hl [3, 4, 5, 1, 0] rfl) _ hf KX
                · have hf := ip c_48 hf
                  refine lv_iload hx hb dX6_cover_95 (lv_at hl 5 rfl) ?_
                  refine lv_iload_n hx hb dX6_cover_97 rfl (lv_at hl 4 rfl) ?_
                  refine lv_icmp_ge (tgt := 106) hx hb dX6_cover_98 (by decide) (fun c_49 => ?_) (fun c_49 => ?_)
                  · have hf := ip c_49 hf
                    refine lv_iload_n hx hb dX6_cover_106 rfl (lv_at hl 4 rfl) ?_
                    refine lv_istore_n (lv' := [(3, .int x4), (5, .int x7), (0, .ref h), (1, .int a1), (2, .int x3), (4, .int x5)]) hx hb dX6_cover_107 rfl hl (by decide) rfl (fun ls hl => ?_)
                    obtain ⟨x15, ex15⟩ : ∃ y : Int32, y = (x5 + 1) := ⟨_, rfl⟩
                    have hf := pv_eq ex15 hf
                    refine lv_iinc (v := x15) (lv' := [(4, .int x15), (3, .int x4), (5, .int x7), (0, .ref h), (1, .int a1), (2, .int x3)]) hx hb dX6_cover_108 hl (k := 5) rfl (by rw [ex15]; rfl) (by decide) rfl (fun ls hl => ?_)
                    refine lv_goto (tgt := 25) hx hb dX6_cover_111 (by decide) ?_
                    exact ih _ _ ls (lv_sub hl [3, 4, 5, 1, 0] rfl) _ hf KX
                  · have hf := im c_49 hf
                    refine lv_iload hx hb dX6_cover_101 (lv_at hl 5 rfl) ?_
                    refine lv_goto (tgt := 107) hx hb dX6_cover_103 (by decide) ?_
                    refine lv_istore_n (lv' := [(3, .int x5), (5, .int x7), (0, .ref h), (1, .int a1), (2, .int x3), (4, .int x5)]) hx hb dX6_cover_107 rfl hl (by decide) rfl (fun ls hl => ?_)
                    obtain ⟨x16, ex16⟩ : ∃ y : Int32, y = (x5 + 1) := ⟨_, rfl⟩
                    have hf := pv_eq ex16 hf
                    refine lv_iinc (v := x16) (lv' := [(4, .int x16), (3, .int x5), (5, .int x7), (0, .ref h), (1, .int a1), (2, .int x3)]) hx hb dX6_cover_108 hl (k := 5) rfl (by rw [ex16]; rfl) (by decide) rfl (fun ls hl => ?_)
                    refine lv_goto (tgt := 25) hx hb dX6_cover_111 (by decide) ?_
                    exact ih _ _ ls (lv_sub hl [3, 4, 5, 1, 0] rfl) _ hf KX
          · replace hf := hr64
            refine lv_if_ne (tgt := 63) hx hb dX6_cover_42 (by decide) (fun c_38 => ?_) (fun c_38 => ?_)
            · have hf := im c_38 hf
              refine lv_iconst (v := 0) hx hb dX6_cover_63 (by decide) ?_
              cases hf
              exact J64 ls (lv_sub hl [0, 1, 2, 3, 4] rfl)
            · have hf := ip c_38 hf
              refine lv_aload_n hx hb dX6_cover_45 rfl (lv_at hl 0 rfl) ?_
              refine lv_iload hx hb dX6_cover_46 (lv_at hl 4 rfl) ?_
              obtain ⟨x17, hv_50, hf⟩ := ob1_some hf
              refine q_rVi (As := [.int x5]) (rest := []) (r := x17) ⟨hx, hb, hml, hown, hts⟩ (c_X6_toldByAll l D cI cC cL cB h h_piece h_deed h_st h_was h_kept h_seen h_text h_told h_readPiece h_readRoom h_readDeed h_now x5 h_pieces h_deeds h_law h_acts h_keeps h_seens h_texted h_at h_readPieces h_readDeeds h_readCoins h_readLaw h_deed_c c2 h_piece_c x17 hv_50) (cwV 1 hts gX6_cover_X6_toldByAll rfl rfl rfl (by decide +kernel) ⟨Nat.le_of_ble_eq_true rfl, Nat.le_of_ble_eq_true rfl⟩) hK hP [0, 4, 2, 3] rfl (va_recv hK hP (ci := 6) (q0 := 0) rfl rfl) rfl hl.1 rfl (Nat.le_of_ble_eq_true rfl) dX6_cover_48 ⟨Nat.le_of_ble_eq_true rfl, Nat.le_of_ble_eq_true rfl⟩ ?_
              refine lv_aload_n hx hb dX6_cover_51 rfl (lv_at hl 0 rfl) ?_
              refine lv_iload_n hx hb dX6_cover_52 rfl (lv_at hl 2 rfl) ?_
              obtain ⟨x18, hv_51, hf⟩ := ob1_some hf
              refine q_rVi (As := [.int x3]) (rest := [.int x17]) (r := x18) ⟨hx, hb, hml, hown, hts⟩ (c_X6_toldByAll l D cI cC cL cB h h_piece h_deed h_st h_was h_kept h_seen h_text h_told h_readPiece h_readRoom h_readDeed h_now x3 h_pieces h_deeds h_law h_acts h_keeps h_seens h_texted h_at h_readPieces h_readDeeds h_readCoins h_readLaw h_deed_c c2 h_piece_c x18 hv_51) (cwV 1 hts gX6_cover_X6_toldByAll rfl rfl rfl (by decide +kernel) ⟨Nat.le_of_ble_eq_true rfl, Nat.le_of_ble_eq_true rfl⟩) hK hP [0, 4, 2, 3] rfl (va_recv hK hP (ci := 6) (q0 := 0) rfl rfl) rfl hl.1 rfl (Nat.le_of_ble_eq_true rfl) dX6_cover_53 ⟨Nat.le_of_ble_eq_true rfl, Nat.le_of_ble_eq_true rfl⟩ ?_
              refine lv_icmp_ne (tgt := 63) hx hb dX6_cover_56 (by decide) (fun c_52 => ?_) (fun c_52 => ?_)
              · have hf := im c_52 hf
                refine lv_iconst (v := 0) hx hb dX6_cover_63 (by decide) ?_
                cases hf
                exact J64 ls (lv_sub hl [0, 1, 2, 3, 4] rfl)
              · have hf := ip c_52 hf
                refine lv_iconst (v := 1) hx hb dX6_cover_59 (by decide) ?_
                refine lv_goto (tgt := 64) hx hb dX6_cover_60 (by decide) ?_
                cases hf
                exact J64 ls (lv_sub hl [0, 1, 2, 3, 4] rfl)
    obtain ⟨x6, hr25, hf⟩ := ob1_some hf
    refine loop25 300 _ _ ls (lv_sub hl [3, 4, 2, 1, 0] rfl) _ hr25 (fun ls hl => ?_)
    refine lv_iload_n hx hb dX6_cover_114 rfl (lv_at hl 0 rfl) ?_
    refine lv_if_ne (tgt := 125) hx hb dX6_cover_115 (by decide) (fun c_53 => ?_) (fun c_53 => ?_)
    · have hf := im c_53 hf
      refine lv_iload_n hx hb dX6_cover_125 rfl (lv_at hl 1 rfl) ?_
      cases hf
      exact W.iret hx hb hr (fun t ht hW => ⟨⟨_, (), rfl, rfl, by rw [ht]; exact hP, va_K.moved hW.alike hK, hD⟩, hS.F ht⟩) hS.2.2 dX6_cover_126
    · have hf := ip c_53 hf
      refine lv_iload_n hx hb dX6_cover_118 rfl (lv_at hl 1 rfl) ?_
      obtain ⟨x19, hv_54, hf⟩ := ob1_some hf
      refine q_rSi (As := [.int x6]) (rest := []) (r := x19) ⟨hx, hb, hml, hown, hts⟩ (c_X6_bits l D cI cC cL cB x6 x19 hv_54) (va_cwS 1 hts gX6_cover_X6_bits rfl rfl rfl (by decide +kernel) ⟨Nat.le_of_ble_eq_true rfl, Nat.le_of_ble_eq_true rfl⟩) hK hP [] rfl rfl hl.1 rfl (Nat.le_of_ble_eq_true rfl) dX6_cover_119 ⟨Nat.le_of_ble_eq_true rfl, Nat.le_of_ble_eq_true rfl⟩ ?_
      refine lv_goto (tgt := 126) hx hb dX6_cover_122 (by decide) ?_
      cases hf
      exact W.iret hx hb hr (fun t ht hW => ⟨⟨_, (), rfl, rfl, by rw [ht]; exact hP, va_K.moved hW.alike hK, hD⟩, hS.F ht⟩) hS.2.2 dX6_cover_126
  · have hf := ip c_2 hf
    refine lv_iconst (v := (-1)) hx hb dX6_cover_9 (by decide) ?_
    cases hf
    exact W.iret hx hb hr (fun t ht hW => ⟨⟨_, (), rfl, rfl, by rw [ht]; exact hP, va_K.moved hW.alike hK, hD⟩, hS.F ht⟩) hS.2.2 dX6_cover_10
theorem uX6_safe_X6 : ∀ w ∈ wsX60, w ∈ wsX6_safe := fun w h => List.mem_cons_of_mem _ (List.mem_append_right _ h)
set_option maxHeartbeats 4000000 in
set_option maxRecDepth 100000 in
theorem c_X6_safe (l : Launch) (D : va_G) (cI cC cL cB : ClassId) (sz : Nat) (h : Nat) (h_piece : Nat) (h_deed : Nat) (h_st : Nat) (h_was : Nat) (h_kept : Nat) (h_seen : Nat) (h_text : Nat) (h_told : Nat) (h_readPiece : Nat) (h_readRoom : Nat) (h_readDeed : Nat) (h_now : Nat) (a1 : Int32) (a2 : Int32) (h_pieces : Int32) (h_deeds : Int32) (h_law : Int32) (h_acts : Int32) (h_keeps : Int32) (h_seens : Int32) (h_texted : Int32) (h_at : Int32) (h_readPieces : Int32) (h_readDeeds : Int32) (h_readCoins : Int32) (h_readLaw : Int32) (h_st_c : Nat → Int32) (h_now_c : Nat → Int32) (h_deed_c : Nat → Int32) (h_piece_c : Nat → Int32) (r : Int32) (o0 : Nat → Int32) (o1 : Nat → Int32) (hf : m_X6_safe a1 a2 h_pieces h_deeds h_law h_st_c h_now_c h_deed_c h_piece_c = some (r, o0, o1)) : Met l yX6_safe wsX6_safe ({ frames := 3, cells := 0, slots := 0, locals := 69 }) (va_Pc [.ref h, .int a1, .int a2] (q_W D vwCl (tyL cI cC cL cB) [(h, .inr (6, [.int h_pieces, .ref h_piece, .int h_deeds, .ref h_deed, .int h_law, .ref h_st, .int h_acts, .ref h_was, .int h_keeps, .ref h_kept, .int h_seens, .ref h_seen, .ref h_text, .int h_texted, .int h_at, .ref h_told, .int h_readPieces, .ref h_readPiece, .ref h_readRoom, .int h_readDeeds, .ref h_readDeed, .int h_readCoins, .int h_readLaw, .ref h_now])), (h_st, .inl (cI, 18, .inl h_st_c)), (h_now, .inl (cI, 18, .inl h_now_c)), (h_deed, .inl (cI, 40, .inl h_deed_c)), (h_piece, .inl (cI, 16, .inl h_piece_c))] sz)) (va_Qi (fun r' _ => r' = r) (q_E D vwCl (tyL cI cC cL cB) (va_A [(h, .inr (6, [.int h_pieces, .ref h_piece, .int h_deeds, .ref h_deed, .int h_law, .ref h_st, .int h_acts, .ref h_was, .int h_keeps, .ref h_kept, .int h_seens, .ref h_seen, .ref h_text, .int h_texted, .int h_at, .ref h_told, .int h_readPieces, .ref h_readPiece, .ref h_readRoom, .int h_readDeeds, .ref h_readDeed, .int h_readCoins, .int h_readLaw, .ref h_now])), (h_st, .inl (cI, 18, .inl h_st_c)), (h_now, .inl (cI, 18, .inl h_now_c)), (h_deed, .inl (cI, 40, .inl h_deed_c)), (h_piece, .inl (cI, 16, .inl h_piece_c))] sz) [(h, .inr (6, [.int h_pieces, .ref h_piece, .int h_deeds, .ref h_deed, .int h_law, .ref h_st, .int h_acts, .ref h_was, .int h_keeps, .ref h_kept, .int h_seens, .ref h_seen, .ref h_text, .int h_texted, .int h_at, .ref h_told, .int h_readPieces, .ref h_readPiece, .ref h_readRoom, .int h_readDeeds, .ref h_readDeed, .int h_readCoins, .int h_readLaw, .ref h_now])), (h_st, .inl (cI, 18, .inl h_st_c)), (h_now, .inl (cI, 18, .inl o0)), (h_deed, .inl (cI, 40, .inl o1)), (h_piece, .inl (cI, 16, .inl h_piece_c))]) (va_A [(h, .inr (6, [.int h_pieces, .ref h_piece, .int h_deeds, .ref h_deed, .int h_law, .ref h_st, .int h_acts, .ref h_was, .int h_keeps, .ref h_kept, .int h_seens, .ref h_seen, .ref h_text, .int h_texted, .int h_at, .ref h_told, .int h_readPieces, .ref h_readPiece, .ref h_readRoom, .int h_readDeeds, .ref h_readDeed, .int h_readCoins, .int h_readLaw, .ref h_now])), (h_st, .inl (cI, 18, .inl h_st_c)), (h_now, .inl (cI, 18, .inl h_now_c)), (h_deed, .inl (cI, 40, .inl h_deed_c)), (h_piece, .inl (cI, 16, .inl h_piece_c))] sz)) 0 0 (va_A [(h, .inr (6, [.int h_pieces, .ref h_piece, .int h_deeds, .ref h_deed, .int h_law, .ref h_st, .int h_acts, .ref h_was, .int h_keeps, .ref h_kept, .int h_seens, .ref h_seen, .ref h_text, .int h_texted, .int h_at, .ref h_told, .int h_readPieces, .ref h_readPiece, .ref h_readRoom, .int h_readDeeds, .ref h_readDeed, .int h_readCoins, .int h_readLaw, .ref h_now])), (h_st, .inl (cI, 18, .inl h_st_c)), (h_now, .inl (cI, 18, .inl h_now_c)), (h_deed, .inl (cI, 40, .inl h_deed_c)), (h_piece, .inl (cI, 16, .inl h_piece_c))] sz) := by
  refine Met.ofW (cc := cX6_safe) (maxL := 7) (ret := (some .int)) (by decide) rfl ?_
  intro p e s m args below meth c s₁ B hml hv
  obtain ⟨rfl, hsz, hP, hK, hD0⟩ := hv
  have hx := B.exec
  have hb := B.bytes
  have hr := B.returns
  have hts := atoms_spec (ws := wsX6_safe) B.pre
  have hown : s.vm.findClass RX6 = some m.cls := findClass_of_methodNamed B.named
  have hlocks := B.notSynchronized
  subst hsz
  have hD := hD0.self (sz := s.heap.size)
  generalize hAe : va_A [(h, .inr (6, [.int h_pieces, .ref h_piece, .int h_deeds, .ref h_deed, .int h_law, .ref h_st, .int h_acts, .ref h_was, .int h_keeps, .ref h_kept, .int h_seens, .ref h_seen, .ref h_text, .int h_texted, .int h_at, .ref h_told, .int h_readPieces, .ref h_readPiece, .ref h_readRoom, .int h_readDeeds, .ref h_readDeed, .int h_readCoins, .int h_readLaw, .ref h_now])), (h_st, .inl (cI, 18, .inl h_st_c)), (h_now, .inl (cI, 18, .inl h_now_c)), (h_deed, .inl (cI, 40, .inl h_deed_c)), (h_piece, .inl (cI, 16, .inl h_piece_c))] s.heap.size = A at hD ⊢
  have hA : ∀ q : Nat, s.heap.size ≤ q → A q := fun q h => by rw [← hAe]; exact Or.inr h
  have hS : va_S A s.heap s.heap [] := va_S.rf
  have hP : va_P D vwCl [(h, .inr (6, [.int h_pieces, .ref h_piece, .int h_deeds, .ref h_deed, .int h_law, .ref h_st, .int h_acts, .ref h_was, .int h_keeps, .ref h_kept, .int h_seens, .ref h_seen, .ref h_text, .int h_texted, .int h_at, .ref h_told, .int h_readPieces, .ref h_readPiece, .ref h_readRoom, .int h_readDeeds, .ref h_readDeed, .int h_readCoins, .int h_readLaw, .ref h_now])), (h_st, .inl (cI, 18, .inl h_st_c)), (h_now, .inl (cI, 18, .inl h_now_c)), (h_deed, .inl (cI, 40, .inl h_deed_c)), (h_piece, .inl (cI, 16, .inl h_piece_c))] s.heap := hP
  have hl := lv_entry ([.ref h, .int a1, .int a2]) (n := 7) (Nat.le_of_ble_eq_true rfl)
  rw [lg_entry_eq]
  generalize (lg_sl ([.ref h, .int a1, .int a2]) ++ List.replicate (7 - (lg_sl ([.ref h, .int a1, .int a2])).length) Slot.unset).toArray = ls at hl ⊢
  have hl : lv_has ls 7 [(0, .ref h), (1, .int a1), (2, .int a2)] := hl
  unfold m_X6_safe at hf
  refine lv_iload_n hx hb dX6_safe_0 rfl (lv_at hl 1 rfl) ?_
  refine lv_iconst (v := 0) hx hb dX6_safe_1 (by decide) ?_
  refine lv_bipush (v := 23) hx hb dX6_safe_2 (by decide) ?_
  obtain ⟨x1, hv_1, hf⟩ := ob1_some hf
  refine q_rSi (As := [.int a1, .int 0, .int 23]) (rest := []) (r := x1) ⟨hx, hb, hml, hown, hts⟩ (c_X6_in l D cI cC cL cB a1 ((0 : Int32)) ((23 : Int32)) x1 hv_1) (va_cwS 3 hts gX6_safe_X6_in rfl rfl rfl (by decide +kernel) ⟨Nat.le_of_ble_eq_true rfl, Nat.le_of_ble_eq_true rfl⟩) hK hP [] rfl rfl hl.1 rfl (Nat.le_of_ble_eq_true rfl) dX6_safe_4 ⟨Nat.le_of_ble_eq_true rfl, Nat.le_of_ble_eq_true rfl⟩ ?_
  refine lv_if_eq (tgt := 20) hx hb dX6_safe_7 (by decide) (fun c_2 => ?_) (fun c_2 => ?_)
  · have hf := ip c_2 hf
    refine lv_iconst (v := (-1)) hx hb dX6_safe_20 (by decide) ?_
    cases hf
    exact W.iret hx hb hr (fun t ht hW => ⟨⟨_, (), rfl, rfl, by rw [ht]; exact hP, va_K.moved hW.alike hK, hD⟩, hS.F ht⟩) hS.2.2 dX6_safe_21
  · have hf := im c_2 hf
    refine lv_iload_n hx hb dX6_safe_10 rfl (lv_at hl 2 rfl) ?_
    refine lv_iconst (v := 1) hx hb dX6_safe_11 (by decide) ?_
    refine lv_bipush (v := 30) hx hb dX6_safe_12 (by decide) ?_
    obtain ⟨x2, hv_3, hf⟩ := ob1_some hf
    refine q_rSi (As := [.int a2, .int 1, .int 30]) (rest := []) (r := x2) ⟨hx, hb, hml, hown, hts⟩ (c_X6_in l D cI cC cL cB a2 ((1 : Int32)) ((30 : Int32)) x2 hv_3) (va_cwS 3 hts gX6_safe_X6_in rfl rfl rfl (by decide +kernel) ⟨Nat.le_of_ble_eq_true rfl, Nat.le_of_ble_eq_true rfl⟩) hK hP [] rfl rfl hl.1 rfl (Nat.le_of_ble_eq_true rfl) dX6_safe_14 ⟨Nat.le_of_ble_eq_true rfl, Nat.le_of_ble_eq_true rfl⟩ ?_
    refine lv_if_ne (tgt := 22) hx hb dX6_safe_17 (by decide) (fun c_4 => ?_) (fun c_4 => ?_)
    · have hf := im c_4 hf
      refine lv_aload_n hx hb dX6_safe_22 rfl (lv_at hl 0 rfl) ?_
      obtain ⟨c3, hv_5, hf⟩ := ob1_some hf
      refine q_wVv (As := []) (rest := []) (w1 := [(h, .inr (6, [.int h_pieces, .ref h_piece, .int h_deeds, .ref h_deed, .int h_law, .ref h_st, .int h_acts, .ref h_was, .int h_keeps, .ref h_kept, .int h_seens, .ref h_seen, .ref h_text, .int h_texted, .int h_at, .ref h_told, .int h_readPieces, .ref h_readPiece, .ref h_readRoom, .int h_readDeeds, .ref h_readDeed, .int h_readCoins, .int h_readLaw, .ref h_now])), (h_st, .inl (cI, 18, .inl h_st_c)), (h_now, .inl (cI, 18, .inl c3))]) (wr := [(h_deed, .inl (cI, 40, .inl h_deed_c)), (h_piece, .inl (cI, 16, .inl h_piece_c))]) (w2 := [(h, .inr (6, [.int h_pieces, .ref h_piece, .int h_deeds, .ref h_deed, .int h_law, .ref h_st, .int h_acts, .ref h_was, .int h_keeps, .ref h_kept, .int h_seens, .ref h_seen, .ref h_text, .int h_texted, .int h_at, .ref h_told, .int h_readPieces, .ref h_readPiece, .ref h_readRoom, .int h_readDeeds, .ref h_readDeed, .int h_readCoins, .int h_readLaw, .ref h_now])), (h_st, .inl (cI, 18, .inl h_st_c)), (h_now, .inl (cI, 18, .inl c3)), (h_deed, .inl (cI, 40, .inl h_deed_c)), (h_piece, .inl (cI, 16, .inl h_piece_c))]) ⟨hx, hb, hml, hown, hts⟩ (c_X6_asItIs l D cI cC cL cB s.heap.size h h_piece h_deed h_st h_was h_kept h_seen h_text h_told h_readPiece h_readRoom h_readDeed h_now h_pieces h_deeds h_law h_acts h_keeps h_seens h_texted h_at h_readPieces h_readDeeds h_readCoins h_readLaw h_st_c h_now_c c3 hv_5) (cwV 0 hts gX6_safe_X6_asItIs rfl rfl rfl (by decide +kernel) ⟨Nat.le_of_ble_eq_true rfl, Nat.le_of_ble_eq_true rfl⟩) hK hP hD hS hA [0, 1, 2] rfl (by decide) [3, 4] rfl (by decide) (by decide) [2, 3, 4, 0, 1] rfl (by decide) (va_recv hK hP (ci := 6) (q0 := 0) rfl rfl) rfl hl.1 rfl (Nat.le_of_ble_eq_true rfl) dX6_safe_23 ⟨Nat.le_of_ble_eq_true rfl, Nat.le_of_ble_eq_true rfl⟩ (fun H locs hP hD hS => ?_)
      have hP : va_P D vwCl [(h, .inr (6, [.int h_pieces, .ref h_piece, .int h_deeds, .ref h_deed, .int h_law, .ref h_st, .int h_acts, .ref h_was, .int h_keeps, .ref h_kept, .int h_seens, .ref h_seen, .ref h_text, .int h_texted, .int h_at, .ref h_told, .int h_readPieces, .ref h_readPiece, .ref h_readRoom, .int h_readDeeds, .ref h_readDeed, .int h_readCoins, .int h_readLaw, .ref h_now])), (h_st, .inl (cI, 18, .inl h_st_c)), (h_now, .inl (cI, 18, .inl c3)), (h_deed, .inl (cI, 40, .inl h_deed_c)), (h_piece, .inl (cI, 16, .inl h_piece_c))] H := hP
      have hD : va_D A [(h, .inr (6, [.int h_pieces, .ref h_piece, .int h_deeds, .ref h_deed, .int h_law, .ref h_st, .int h_acts, .ref h_was, .int h_keeps, .ref h_kept, .int h_seens, .ref h_seen, .ref h_text, .int h_texted, .int h_at, .ref h_told, .int h_readPieces, .ref h_readPiece, .ref h_readRoom, .int h_readDeeds, .ref h_readDeed, .int h_readCoins, .int h_readLaw, .ref h_now])), (h_st, .inl (cI, 18, .inl h_st_c)), (h_now, .inl (cI, 18, .inl c3)), (h_deed, .inl (cI, 40, .inl h_deed_c)), (h_piece, .inl (cI, 16, .inl h_piece_c))] := hD
      refine lv_iconst (v := 0) hx hb dX6_safe_26 (by decide) ?_
      refine lv_istore_n (lv' := [(3, .int 0), (0, .ref h), (1, .int a1), (2, .int a2)]) hx hb dX6_safe_27 rfl hl (by decide) rfl (fun ls hl => ?_)
      refine lv_iconst (v := 0) hx hb dX6_safe_28 (by decide) ?_
      refine lv_istore (lv' := [(4, .int 0), (3, .int 0), (0, .ref h), (1, .int a1), (2, .int a2)]) hx hb dX6_safe_29 hl (by decide) rfl (fun ls hl => ?_)
      have loop31 : ∀ (n : Nat) (c4 : Nat → Int32) (x5 : Int32) (x6 : Int32), ∀ (H : Heap) (locs : List Loc), va_P D vwCl [(h, .inr (6, [.int h_pieces, .ref h_piece, .int h_deeds, .ref h_deed, .int h_law, .ref h_st, .int h_acts, .ref h_was, .int h_keeps, .ref h_kept, .int h_seens, .ref h_seen, .ref h_text, .int h_texted, .int h_at, .ref h_told, .int h_readPieces, .ref h_readPiece, .ref h_readRoom, .int h_readDeeds, .ref h_readDeed, .int h_readCoins, .int h_readLaw, .ref h_now])), (h_st, .inl (cI, 18, .inl h_st_c)), (h_now, .inl (cI, 18, .inl c3)), (h_deed, .inl (cI, 40, .inl c4)), (h_piece, .inl (cI, 16, .inl h_piece_c))] H → va_D A [(h, .inr (6, [.int h_pieces, .ref h_piece, .int h_deeds, .ref h_deed, .int h_law, .ref h_st, .int h_acts, .ref h_was, .int h_keeps, .ref h_kept, .int h_seens, .ref h_seen, .ref h_text, .int h_texted, .int h_at, .ref h_told, .int h_readPieces, .ref h_readPiece, .ref h_readRoom, .int h_readDeeds, .ref h_readDeed, .int h_readCoins, .int h_readLaw, .ref h_now])), (h_st, .inl (cI, 18, .inl h_st_c)), (h_now, .inl (cI, 18, .inl c3)), (h_deed, .inl (cI, 40, .inl c4)), (h_piece, .inl (cI, 16, .inl h_piece_c))] → va_S A s.heap H locs → ∀ (ls : Array Slot), lv_has ls 7 [(0, .ref h), (1, .int a1), (2, .int a2), (3, .int x5), (4, .int x6)] → ∀ (c7 : Nat → Int32) (x8 : Int32), L_X6_safe_31 h_deeds a1 a2 h_pieces h_law c3 h_piece_c n c4 x5 x6 = some (c7, x8) → (∀ (H : Heap) (locs : List Loc), va_P D vwCl [(h, .inr (6, [.int h_pieces, .ref h_piece, .int h_deeds, .ref h_deed, .int h_law, .ref h_st, .int h_acts, .ref h_was, .int h_keeps, .ref h_kept, .int h_seens, .ref h_seen, .ref h_text, .int h_texted, .int h_at, .ref h_told, .int h_readPieces, .ref h_readPiece, .ref h_readRoom, .int h_readDeeds, .ref h_readDeed, .int h_readCoins, .int h_readLaw, .ref h_now])), (h_st, .inl (cI, 18, .inl h_st_c)), (h_now, .inl (cI, 18, .inl c3)), (h_deed, .inl (cI, 40, .inl c7)), (h_piece, .inl (cI, 16, .inl h_piece_c))] H → va_D A [(h, .inr (6, [.int h_pieces, .ref h_piece, .int h_deeds, .ref h_deed, .int h_law, .ref h_st, .int h_acts, .ref h_was, .int h_keeps, .ref h_kept, .int h_seens, .ref h_seen, .ref h_text, .int h_texted, .int h_at, .ref h_told, .int h_readPieces, .ref h_readPiece, .ref h_readRoom, .int h_readDeeds, .ref h_readDeed, .int h_readCoins, .int h_readLaw, .ref h_now])), (h_st, .inl (cI, 18, .inl h_st_c)), (h_now, .inl (cI, 18, .inl c3)), (h_deed, .inl (cI, 40, .inl c7)), (h_piece, .inl (cI, 16, .inl h_piece_c))] → va_S A s.heap H locs → ∀ (ls : Array Slot), lv_has ls 7 [(3, .int x8)] → W p l e (headSpec wsX6_safe ({ frames := 3, cells := 0, slots := 0, locals := 69 })).room s m ([.ref h, .int a1, .int a2] : List Value).toArray below meth c H locs 0 0 (MQ below (va_Qi (fun r' _ => r' = r) (q_E D vwCl (tyL cI cC cL cB) A [(h, .inr (6, [.int h_pieces, .ref h_piece, .int h_deeds, .ref h_deed, .int h_law, .ref h_st, .int h_acts, .ref h_was, .int h_keeps, .ref h_kept, .int h_seens, .ref h_seen, .ref h_text, .int h_texted, .int h_at, .ref h_told, .int h_readPieces, .ref h_readPiece, .ref h_readRoom, .int h_readDeeds, .ref h_readDeed, .int h_readCoins, .int h_readLaw, .ref h_now])), (h_st, .inl (cI, 18, .inl h_st_c)), (h_now, .inl (cI, 18, .inl o0)), (h_deed, .inl (cI, 40, .inl o1)), (h_piece, .inl (cI, 16, .inl h_piece_c))]) A) ([.ref h, .int a1, .int a2] : List Value).toArray s 0 0 A) (F0 m 163 ls [])) → W p l e (headSpec wsX6_safe ({ frames := 3, cells := 0, slots := 0, locals := 69 })).room s m ([.ref h, .int a1, .int a2] : List Value).toArray below meth c H locs 0 0 (MQ below (va_Qi (fun r' _ => r' = r) (q_E D vwCl (tyL cI cC cL cB) A [(h, .inr (6, [.int h_pieces, .ref h_piece, .int h_deeds, .ref h_deed, .int h_law, .ref h_st, .int h_acts, .ref h_was, .int h_keeps, .ref h_kept, .int h_seens, .ref h_seen, .ref h_text, .int h_texted, .int h_at, .ref h_told, .int h_readPieces, .ref h_readPiece, .ref h_readRoom, .int h_readDeeds, .ref h_readDeed, .int h_readCoins, .int h_readLaw, .ref h_now])), (h_st, .inl (cI, 18, .inl h_st_c)), (h_now, .inl (cI, 18, .inl o0)), (h_deed, .inl (cI, 40, .inl o1)), (h_piece, .inl (cI, 16, .inl h_piece_c))]) A) ([.ref h, .int a1, .int a2] : List Value).toArray s 0 0 A) (F0 m 31 ls []) := by
        intro n
        induction n with
        | zero =>
          intro c4 x5 x6 H locs hP hD hS ls hl c7 x8 hf KX
          rw [L_X6_safe_31] at hf
          cases hf
        | succ n ih =>
          intro c4 x5 x6 H locs hP hD hS ls hl c7 x8 hf KX
          rw [L_X6_safe_31] at hf
          refine lv_iload hx hb dX6_safe_31 (lv_at hl 4 rfl) ?_
          refine lv_iconst (v := 4) hx hb dX6_safe_33 (by decide) ?_
          refine lv_icmp_ge (tgt := 163) hx hb dX6_safe_34 (by decide) (fun c_52 => ?_) (fun c_52 => ?_)
          · have hf := ip c_52 hf
            cases hf
            exact KX _ _ hP hD hS ls (lv_sub hl [3] rfl)
          · have hf := im c_52 hf
            refine lv_aload_n hx hb dX6_safe_37 rfl (lv_at hl 0 rfl) ?_
            refine va_get (D := D) (ci := 6) (v := .ref h_deed) (C := RX6) (T := TX6) (N := 24) hx hb hts uX6_safe_X6 hown hK hP 0 rfl rfl 3 (by decide) (hts (.fieldLink RX6 13 "SpeaksForTheChairModel" "deed" "[I") (List.mem_of_getElem? (i := 1) rfl)) (fun _ h9 => h9) rfl dX6_safe_38 ?_
            refine lv_iconst (v := 4) hx hb dX6_safe_41 (by decide) ?_
            refine lv_aload_n hx hb dX6_safe_42 rfl (lv_at hl 0 rfl) ?_
            refine va_get (D := D) (ci := 6) (v := .int h_deeds) (C := RX6) (T := TX6) (N := 24) hx hb hts uX6_safe_X6 hown hK hP 0 rfl rfl 2 (by decide) (hts (.fieldLink RX6 80 "SpeaksForTheChairModel" "deeds" "I") (List.mem_of_getElem? (i := 2) rfl)) (fun _ h9 => h9) rfl dX6_safe_43 ?_
            refine lv_imul hx hb dX6_safe_46 ?_
            refine lv_iconst (v := 1) hx hb dX6_safe_47 (by decide) ?_
            refine lv_iadd hx hb dX6_safe_48 ?_
            refine lv_iload hx hb dX6_safe_49 (lv_at hl 4 rfl) ?_
            obtain ⟨g_53, hf⟩ := gu_in hf
            refine va_iast hx hb hK hP hD hS 3 0 rfl rfl g_53 dX6_safe_51 (fun H locs hP hD hS => ?_)
            obtain ⟨c9, ec9⟩ : ∃ y : Nat → Int32, y = (upd c4 (((4 * h_deeds) + 1) : Int32).toNatClampNeg x6) := ⟨_, rfl⟩
            have hf := pv_eq ec9 hf
            rw [← ec9] at hP hD
            have hP : va_P D vwCl [(h, .inr (6, [.int h_pieces, .ref h_piece, .int h_deeds, .ref h_deed, .int h_law, .ref h_st, .int h_acts, .ref h_was, .int h_keeps, .ref h_kept, .int h_seens, .ref h_seen, .ref h_text, .int h_texted, .int h_at, .ref h_told, .int h_readPieces, .ref h_readPiece, .ref h_readRoom, .int h_readDeeds, .ref h_readDeed, .int h_readCoins, .int h_readLaw, .ref h_now])), (h_st, .inl (cI, 18, .inl h_st_c)), (h_now, .inl (cI, 18, .inl c3)), (h_deed, .inl (cI, 40, .inl c9)), (h_piece, .inl (cI, 16, .inl h_piece_c))] H := hP
            have hD : va_D A [(h, .inr (6, [.int h_pieces, .ref h_piece, .int h_deeds, .ref h_deed, .int h_law, .ref h_st, .int h_acts, .ref h_was, .int h_keeps, .ref h_kept, .int h_seens, .ref h_seen, .ref h_text, .int h_texted, .int h_at, .ref h_told, .int h_readPieces, .ref h_readPiece, .ref h_readRoom, .int h_readDeeds, .ref h_readDeed, .int h_readCoins, .int h_readLaw, .ref h_now])), (h_st, .inl (cI, 18, .inl h_st_c)), (h_now, .inl (cI, 18, .inl c3)), (h_deed, .inl (cI, 40, .inl c9)), (h_piece, .inl (cI, 16, .inl h_piece_c))] := hD
            refine lv_aload_n hx hb dX6_safe_52 rfl (lv_at hl 0 rfl) ?_
            refine va_get (D := D) (ci := 6) (v := .ref h_deed) (C := RX6) (T := TX6) (N := 24) hx hb hts uX6_safe_X6 hown hK hP 0 rfl rfl 3 (by decide) (hts (.fieldLink RX6 13 "SpeaksForTheChairModel" "deed" "[I") (List.mem_of_getElem? (i := 1) rfl)) (fun _ h9 => h9) rfl dX6_safe_53 ?_
            refine lv_iconst (v := 4) hx hb dX6_safe_56 (by decide) ?_
            refine lv_aload_n hx hb dX6_safe_57 rfl (lv_at hl 0 rfl) ?_
            refine va_get (D := D) (ci := 6) (v := .int h_deeds) (C := RX6) (T := TX6) (N := 24) hx hb hts uX6_safe_X6 hown hK hP 0 rfl rfl 2 (by decide) (hts (.fieldLink RX6 80 "SpeaksForTheChairModel" "deeds" "I") (List.mem_of_getElem? (i := 2) rfl)) (fun _ h9 => h9) rfl dX6_safe_58 ?_
            refine lv_imul hx hb dX6_safe_61 ?_
            refine lv_iconst (v := 2) hx hb dX6_safe_62 (by decide) ?_
            refine lv_iadd hx hb dX6_safe_63 ?_
            refine lv_iload_n hx hb dX6_safe_64 rfl (lv_at hl 1 rfl) ?_
            obtain ⟨g_54, hf⟩ := gu_in hf
            refine va_iast hx hb hK hP hD hS 3 0 rfl rfl g_54 dX6_safe_65 (fun H locs hP hD hS => ?_)
            obtain ⟨c10, ec10⟩ : ∃ y : Nat → Int32, y = (upd c9 (((4 * h_deeds) + 2) : Int32).toNatClampNeg a1) := ⟨_, rfl⟩
            have hf := pv_eq ec10 hf
            rw [← ec10] at hP hD
            have hP : va_P D vwCl [(h, .inr (6, [.int h_pieces, .ref h_piece, .int h_deeds, .ref h_deed, .int h_law, .ref h_st, .int h_acts, .ref h_was, .int h_keeps, .ref h_kept, .int h_seens, .ref h_seen, .ref h_text, .int h_texted, .int h_at, .ref h_told, .int h_readPieces, .ref h_readPiece, .ref h_readRoom, .int h_readDeeds, .ref h_readDeed, .int h_readCoins, .int h_readLaw, .ref h_now])), (h_st, .inl (cI, 18, .inl h_st_c)), (h_now, .inl (cI, 18, .inl c3)), (h_deed, .inl (cI, 40, .inl c10)), (h_piece, .inl (cI, 16, .inl h_piece_c))] H := hP
            have hD : va_D A [(h, .inr (6, [.int h_pieces, .ref h_piece, .int h_deeds, .ref h_deed, .int h_law, .ref h_st, .int h_acts, .ref h_was, .int h_keeps, .ref h_kept, .int h_seens, .ref h_seen, .ref h_text, .int h_texted, .int h_at, .ref h_told, .int h_readPieces, .ref h_readPiece, .ref h_readRoom, .int h_readDeeds, .ref h_readDeed, .int h_readCoins, .int h_readLaw, .ref h_now])), (h_st, .inl (cI, 18, .inl h_st_c)), (h_now, .inl (cI, 18, .inl c3)), (h_deed, .inl (cI, 40, .inl c10)), (h_piece, .inl (cI, 16, .inl h_piece_c))] := hD
            refine lv_aload_n hx hb dX6_safe_66 rfl (lv_at hl 0 rfl) ?_
            refine va_get (D := D) (ci := 6) (v := .ref h_deed) (C := RX6) (T := TX6) (N := 24) hx hb hts uX6_safe_X6 hown hK hP 0 rfl rfl 3 (by decide) (hts (.fieldLink RX6 13 "SpeaksForTheChairModel" "deed" "[I") (List.mem_of_getElem? (i := 1) rfl)) (fun _ h9 => h9) rfl dX6_safe_67 ?_
            refine lv_iconst (v := 4) hx hb dX6_safe_70 (by decide) ?_
            refine lv_aload_n hx hb dX6_safe_71 rfl (lv_at hl 0 rfl) ?_
            refine va_get (D := D) (ci := 6) (v := .int h_deeds) (C := RX6) (T := TX6) (N := 24) hx hb hts uX6_safe_X6 hown hK hP 0 rfl rfl 2 (by decide) (hts (.fieldLink RX6 80 "SpeaksForTheChairModel" "deeds" "I") (List.mem_of_getElem? (i := 2) rfl)) (fun _ h9 => h9) rfl dX6_safe_72 ?_
            refine lv_imul hx hb dX6_safe_75 ?_
            refine lv_iconst (v := 3) hx hb dX6_safe_76 (by decide) ?_
            refine lv_iadd hx hb dX6_safe_77 ?_
            refine lv_iload_n hx hb dX6_safe_78 rfl (lv_at hl 2 rfl) ?_
            obtain ⟨g_55, hf⟩ := gu_in hf
            refine va_iast hx hb hK hP hD hS 3 0 rfl rfl g_55 dX6_safe_79 (fun H locs hP hD hS => ?_)
            obtain ⟨c11, ec11⟩ : ∃ y : Nat → Int32, y = (upd c10 (((4 * h_deeds) + 3) : Int32).toNatClampNeg a2) := ⟨_, rfl⟩
            have hf := pv_eq ec11 hf
            rw [← ec11] at hP hD
            have hP : va_P D vwCl [(h, .inr (6, [.int h_pieces, .ref h_piece, .int h_deeds, .ref h_deed, .int h_law, .ref h_st, .int h_acts, .ref h_was, .int h_keeps, .ref h_kept, .int h_seens, .ref h_seen, .ref h_text, .int h_texted, .int h_at, .ref h_told, .int h_readPieces, .ref h_readPiece, .ref h_readRoom, .int h_readDeeds, .ref h_readDeed, .int h_readCoins, .int h_readLaw, .ref h_now])), (h_st, .inl (cI, 18, .inl h_st_c)), (h_now, .inl (cI, 18, .inl c3)), (h_deed, .inl (cI, 40, .inl c11)), (h_piece, .inl (cI, 16, .inl h_piece_c))] H := hP
            have hD : va_D A [(h, .inr (6, [.int h_pieces, .ref h_piece, .int h_deeds, .ref h_deed, .int h_law, .ref h_st, .int h_acts, .ref h_was, .int h_keeps, .ref h_kept, .int h_seens, .ref h_seen, .ref h_text, .int h_texted, .int h_at, .ref h_told, .int h_readPieces, .ref h_readPiece, .ref h_readRoom, .int h_readDeeds, .ref h_readDeed, .int h_readCoins, .int h_readLaw, .ref h_now])), (h_st, .inl (cI, 18, .inl h_st_c)), (h_now, .inl (cI, 18, .inl c3)), (h_deed, .inl (cI, 40, .inl c11)), (h_piece, .inl (cI, 16, .inl h_piece_c))] := hD
            refine lv_iconst (v := 1) hx hb dX6_safe_80 (by decide) ?_
            refine lv_istore (lv' := [(5, .int 1), (0, .ref h), (1, .int a1), (2, .int a2), (3, .int x5), (4, .int x6)]) hx hb dX6_safe_81 hl (by decide) rfl (fun ls hl => ?_)
            refine lv_iconst (v := 0) hx hb dX6_safe_83 (by decide) ?_
            refine lv_istore (lv' := [(6, .int 0), (5, .int 1), (0, .ref h), (1, .int a1), (2, .int a2), (3, .int x5), (4, .int x6)]) hx hb dX6_safe_84 hl (by decide) rfl (fun ls hl => ?_)
            have loop86 : ∀ (n : Nat) (x12 : Int32) (x13 : Int32), ∀ (ls : Array Slot), lv_has ls 7 [(0, .ref h), (1, .int a1), (2, .int a2), (3, .int x5), (4, .int x6), (5, .int x12), (6, .int x13)] → ∀ (x14 : Int32), L_X6_safe_86 h_pieces h_law c3 h_piece_c h_deeds c11 n x12 x13 = some x14 → (∀ (ls : Array Slot), lv_has ls 7 [(0, .ref h), (1, .int a1), (2, .int a2), (3, .int x5), (4, .int x6), (5, .int x14)] → W p l e (headSpec wsX6_safe ({ frames := 3, cells := 0, slots := 0, locals := 69 })).room s m ([.ref h, .int a1, .int a2] : List Value).toArray below meth c H locs 0 0 (MQ below (va_Qi (fun r' _ => r' = r) (q_E D vwCl (tyL cI cC cL cB) A [(h, .inr (6, [.int h_pieces, .ref h_piece, .int h_deeds, .ref h_deed, .int h_law, .ref h_st, .int h_acts, .ref h_was, .int h_keeps, .ref h_kept, .int h_seens, .ref h_seen, .ref h_text, .int h_texted, .int h_at, .ref h_told, .int h_readPieces, .ref h_readPiece, .ref h_readRoom, .int h_readDeeds, .ref h_readDeed, .int h_readCoins, .int h_readLaw, .ref h_now])), (h_st, .inl (cI, 18, .inl h_st_c)), (h_now, .inl (cI, 18, .inl o0)), (h_deed, .inl (cI, 40, .inl o1)), (h_piece, .inl (cI, 16, .inl h_piece_c))]) A) ([.ref h, .int a1, .int a2] : List Value).toArray s 0 0 A) (F0 m 141 ls [])) → W p l e (headSpec wsX6_safe ({ frames := 3, cells := 0, slots := 0, locals := 69 })).room s m ([.ref h, .int a1, .int a2] : List Value).toArray below meth c H locs 0 0 (MQ below (va_Qi (fun r' _ => r' = r) (q_E D vwCl (tyL cI cC cL cB) A [(h, .inr (6, [.int h_pieces, .ref h_piece, .int h_deeds, .ref h_deed, .int h_law, .ref h_st, .int h_acts, .ref h_was, .int h_keeps, .ref h_kept, .int h_seens, .ref h_seen, .ref h_text, .int h_texted, .int h_at, .ref h_told, .int h_readPieces, .ref h_readPiece, .ref h_readRoom, .int h_readDeeds, .ref h_readDeed, .int h_readCoins, .int h_readLaw, .ref h_now])), (h_st, .inl (cI, 18, .inl h_st_c)), (h_now, .inl (cI, 18, .inl o0)), (h_deed, .inl (cI, 40, .inl o1)), (h_piece, .inl (cI, 16, .inl h_piece_c))]) A) ([.ref h, .int a1, .int a2] : List Value).toArray s 0 0 A) (F0 m 86 ls []) := by
              intro n
              induction n with
              | zero =>
                intro x12 x13 ls hl x14 hf KX
                rw [L_X6_safe_86] at hf
                cases hf
              | succ n ih =>
                intro x12 x13 ls hl x14 hf KX
                rw [L_X6_safe_86] at hf
                refine lv_iload hx hb dX6_safe_86 (lv_at hl 6 rfl) ?_
                refine lv_aload_n hx hb dX6_safe_88 rfl (lv_at hl 0 rfl) ?_
                refine va_get (D := D) (ci := 6) (v := .int h_pieces) (C := RX6) (T := TX6) (N := 24) hx hb hts uX6_safe_X6 hown hK hP 0 rfl rfl 0 (by decide) (hts (.fieldLink RX6 73 "SpeaksForTheChairModel" "pieces" "I") (List.mem_of_getElem? (i := 3) rfl)) (fun _ h9 => h9) rfl dX6_safe_89 ?_
                refine lv_icmp_ge (tgt := 141) hx hb dX6_safe_92 (by decide) (fun c_68 => ?_) (fun c_68 => ?_)
                · have hf := ip c_68 hf
                  cases hf
                  exact KX ls (lv_sub hl [0, 1, 2, 3, 4, 5] rfl)
                · have hf := im c_68 hf
                  refine lv_iload hx hb dX6_safe_95 (lv_at hl 5 rfl) ?_
                  refine lv_if_eq (tgt := 132) hx hb dX6_safe_97 (by decide) (fun c_69 => ?_) (fun c_69 => ?_)
                  · have hf := ip c_69 hf
                    refine lv_iconst (v := 0) hx hb dX6_safe_132 (by decide) ?_
                    refine lv_istore (lv' := [(5, .int 0), (0, .ref h), (1, .int a1), (2, .int a2), (3, .int x5), (4, .int x6), (6, .int x13)]) hx hb dX6_safe_133 hl (by decide) rfl (fun ls hl => ?_)
                    obtain ⟨x15, ex15⟩ : ∃ y : Int32, y = (x13 + 1) := ⟨_, rfl⟩
                    have hf := pv_eq ex15 hf
                    refine lv_iinc (v := x15) (lv' := [(6, .int x15), (5, .int 0), (0, .ref h), (1, .int a1), (2, .int a2), (3, .int x5), (4, .int x6)]) hx hb dX6_safe_135 hl (k := 6) rfl (by rw [ex15]; rfl) (by decide) rfl (fun ls hl => ?_)
                    refine lv_goto (tgt := 86) hx hb dX6_safe_138 (by decide) ?_
                    exact ih _ _ ls (lv_sub hl [2, 3, 4, 5, 6, 1, 0] rfl) _ hf KX
                  · have hf := im c_69 hf
                    refine lv_aload_n hx hb dX6_safe_100 rfl (lv_at hl 0 rfl) ?_
                    refine lv_iload hx hb dX6_safe_101 (lv_at hl 6 rfl) ?_
                    obtain ⟨x16, hv_70, hf⟩ := ob1_some hf
                    refine q_rVi (As := [.int x13]) (rest := []) (r := x16) ⟨hx, hb, hml, hown, hts⟩ (c_X6_isLoose l D cI cC cL cB h h_piece h_deed h_st h_was h_kept h_seen h_text h_told h_readPiece h_readRoom h_readDeed h_now x13 h_pieces h_deeds h_law h_acts h_keeps h_seens h_texted h_at h_readPieces h_readDeeds h_readCoins h_readLaw c3 h_piece_c x16 hv_70) (cwV 1 hts gX6_safe_X6_isLoose rfl rfl rfl (by decide +kernel) ⟨Nat.le_of_ble_eq_true rfl, Nat.le_of_ble_eq_true rfl⟩) hK hP [0, 2, 4] rfl (va_recv hK hP (ci := 6) (q0 := 0) rfl rfl) rfl hl.1 rfl (Nat.le_of_ble_eq_true rfl) dX6_safe_103 ⟨Nat.le_of_ble_eq_true rfl, Nat.le_of_ble_eq_true rfl⟩ ?_
                    refine lv_if_eq (tgt := 128) hx hb dX6_safe_106 (by decide) (fun c_71 => ?_) (fun c_71 => ?_)
                    · have hf := ip c_71 hf
                      refine lv_iconst (v := 1) hx hb dX6_safe_128 (by decide) ?_
                      refine lv_goto (tgt := 133) hx hb dX6_safe_129 (by decide) ?_
                      refine lv_istore (lv' := [(5, .int 1), (0, .ref h), (1, .int a1), (2, .int a2), (3, .int x5), (4, .int x6), (6, .int x13)]) hx hb dX6_safe_133 hl (by decide) rfl (fun ls hl => ?_)
                      obtain ⟨x17, ex17⟩ : ∃ y : Int32, y = (x13 + 1) := ⟨_, rfl⟩
                      have hf := pv_eq ex17 hf
                      refine lv_iinc (v := x17) (lv' := [(6, .int x17), (5, .int 1), (0, .ref h), (1, .int a1), (2, .int a2), (3, .int x5), (4, .int x6)]) hx hb dX6_safe_135 hl (k := 6) rfl (by rw [ex17]; rfl) (by decide) rfl (fun ls hl => ?_)
                      refine lv_goto (tgt := 86) hx hb dX6_safe_138 (by decide) ?_
                      exact ih _ _ ls (lv_sub hl [2, 3, 4, 5, 6, 1, 0] rfl) _ hf KX
                    · have hf := im c_71 hf
                      refine lv_aload_n hx hb dX6_safe_109 rfl (lv_at hl 0 rfl) ?_
                      refine lv_iload hx hb dX6_safe_110 (lv_at hl 6 rfl) ?_
                      refine lv_aload_n hx hb dX6_safe_112 rfl (lv_at hl 0 rfl) ?_
                      refine va_get (D := D) (ci := 6) (v := .int h_deeds) (C := RX6) (T := TX6) (N := 24) hx hb hts uX6_safe_X6 hown hK hP 0 rfl rfl 2 (by decide) (hts (.fieldLink RX6 80 "SpeaksForTheChairModel" "deeds" "I") (List.mem_of_getElem? (i := 2) rfl)) (fun _ h9 => h9) rfl dX6_safe_113 ?_
                      refine lv_aload_n hx hb dX6_safe_116 rfl (lv_at hl 0 rfl) ?_
                      refine va_get (D := D) (ci := 6) (v := .int h_deeds) (C := RX6) (T := TX6) (N := 24) hx hb hts uX6_safe_X6 hown hK hP 0 rfl rfl 2 (by decide) (hts (.fieldLink RX6 80 "SpeaksForTheChairModel" "deeds" "I") (List.mem_of_getElem? (i := 2) rfl)) (fun _ h9 => h9) rfl dX6_safe_117 ?_
                      refine lv_iconst (v := 1) hx hb dX6_safe_120 (by decide) ?_
                      refine lv_iadd hx hb dX6_safe_121 ?_
                      obtain ⟨x18, hv_72, hf⟩ := ob1_some hf
                      refine q_rVi (As := [.int x13, .int h_deeds, .int (h_deeds + 1)]) (rest := []) (r := x18) ⟨hx, hb, hml, hown, hts⟩ (c_X6_doesTell l D cI cC cL cB h h_piece h_deed h_st h_was h_kept h_seen h_text h_told h_readPiece h_readRoom h_readDeed h_now x13 h_deeds ((h_deeds + 1)) h_pieces h_deeds h_law h_acts h_keeps h_seens h_texted h_at h_readPieces h_readDeeds h_readCoins h_readLaw c11 c3 h_piece_c x18 hv_72) (cwV 3 hts gX6_safe_X6_doesTell rfl rfl rfl (by decide +kernel) ⟨Nat.le_of_ble_eq_true rfl, Nat.le_of_ble_eq_true rfl⟩) hK hP [0, 3, 2, 4] rfl (va_recv hK hP (ci := 6) (q0 := 0) rfl rfl) rfl hl.1 rfl (Nat.le_of_ble_eq_true rfl) dX6_safe_122 ⟨Nat.le_of_ble_eq_true rfl, Nat.le_of_ble_eq_true rfl⟩ ?_
                      refine lv_if_ne (tgt := 132) hx hb dX6_safe_125 (by decide) (fun c_73 => ?_) (fun c_73 => ?_)
                      · have hf := im c_73 hf
                        refine lv_iconst (v := 0) hx hb dX6_safe_132 (by decide) ?_
                        refine lv_istore (lv' := [(5, .int 0), (0, .ref h), (1, .int a1), (2, .int a2), (3, .int x5), (4, .int x6), (6, .int x13)]) hx hb dX6_safe_133 hl (by decide) rfl (fun ls hl => ?_)
                        obtain ⟨x19, ex19⟩ : ∃ y : Int32, y = (x13 + 1) := ⟨_, rfl⟩
                        have hf := pv_eq ex19 hf
                        refine lv_iinc (v := x19) (lv' := [(6, .int x19), (5, .int 0), (0, .ref h), (1, .int a1), (2, .int a2), (3, .int x5), (4, .int x6)]) hx hb dX6_safe_135 hl (k := 6) rfl (by rw [ex19]; rfl) (by decide) rfl (fun ls hl => ?_)
                        refine lv_goto (tgt := 86) hx hb dX6_safe_138 (by decide) ?_
                        exact ih _ _ ls (lv_sub hl [2, 3, 4, 5, 6, 1, 0] rfl) _ hf KX
                      · have hf := ip c_73 hf
                        refine lv_iconst (v := 1) hx hb dX6_safe_128 (by decide) ?_
                        refine lv_goto (tgt := 133) hx hb dX6_safe_129 (by decide) ?_
                        refine lv_istore (lv' := [(5, .int 1), (0, .ref h), (1, .int a1), (2, .int a2), (3, .int x5), (4, .int x6), (6, .int x13)]) hx hb dX6_safe_133 hl (by decide) rfl (fun ls hl => ?_)
                        obtain ⟨x20, ex20⟩ : ∃ y : Int32, y = (x13 + 1) := ⟨_, rfl⟩
                        have hf := pv_eq ex20 hf
                        refine lv_iinc (v := x20) (lv' := [(6, .int x20), (5, .int 1), (0, .ref h), (1, .int a1), (2, .int a2), (3, .int x5), (4, .int x6)]) hx hb dX6_safe_135 hl (k := 6) rfl (by rw [ex20]; rfl) (by decide) rfl (fun ls hl => ?_)
                        refine lv_goto (tgt := 86) hx hb dX6_safe_138 (by decide) ?_
                        exact ih _ _ ls (lv_sub hl [2, 3, 4, 5, 6, 1, 0] rfl) _ hf KX
            obtain ⟨x14, hr86, hf⟩ := ob1_some hf
            refine loop86 300 _ _ ls (lv_sub hl [2, 3, 4, 5, 6, 1, 0] rfl) _ hr86 (fun ls hl => ?_)
            refine lv_iload_n hx hb dX6_safe_141 rfl (lv_at hl 3 rfl) ?_
            refine lv_iload hx hb dX6_safe_142 (lv_at hl 5 rfl) ?_
            refine lv_if_eq (tgt := 154) hx hb dX6_safe_144 (by decide) (fun c_74 => ?_) (fun c_74 => ?_)
            · have hf := ip c_74 hf
              refine lv_iconst (v := 0) hx hb dX6_safe_154 (by decide) ?_
              refine lv_ior hx hb dX6_safe_155 ?_
              refine lv_topi (fun x21 ex21 => ?_)
              have hf := pv_eq ex21 hf
              refine lv_istore_n (lv' := [(3, .int x21), (0, .ref h), (1, .int a1), (2, .int a2), (4, .int x6), (5, .int x14)]) hx hb dX6_safe_156 rfl hl (by decide) rfl (fun ls hl => ?_)
              obtain ⟨x22, ex22⟩ : ∃ y : Int32, y = (x6 + 1) := ⟨_, rfl⟩
              have hf := pv_eq ex22 hf
              refine lv_iinc (v := x22) (lv' := [(4, .int x22), (3, .int x21), (0, .ref h), (1, .int a1), (2, .int a2), (5, .int x14)]) hx hb dX6_safe_157 hl (k := 4) rfl (by rw [ex22]; rfl) (by decide) rfl (fun ls hl => ?_)
              refine lv_goto (tgt := 31) hx hb dX6_safe_160 (by decide) ?_
              exact ih _ _ _ _ _ hP hD hS ls (lv_sub hl [2, 3, 4, 1, 0] rfl) _ _ hf KX
            · have hf := im c_74 hf
              refine lv_iconst (v := 1) hx hb dX6_safe_147 (by decide) ?_
              refine lv_iload hx hb dX6_safe_148 (lv_at hl 4 rfl) ?_
              refine lv_ishl hx hb dX6_safe_150 ?_
              refine lv_goto (tgt := 155) hx hb dX6_safe_151 (by decide) ?_
              refine lv_ior hx hb dX6_safe_155 ?_
              refine lv_topi (fun x23 ex23 => ?_)
              have hf := pv_eq ex23 hf
              refine lv_istore_n (lv' := [(3, .int x23), (0, .ref h), (1, .int a1), (2, .int a2), (4, .int x6), (5, .int x14)]) hx hb dX6_safe_156 rfl hl (by decide) rfl (fun ls hl => ?_)
              obtain ⟨x24, ex24⟩ : ∃ y : Int32, y = (x6 + 1) := ⟨_, rfl⟩
              have hf := pv_eq ex24 hf
              refine lv_iinc (v := x24) (lv' := [(4, .int x24), (3, .int x23), (0, .ref h), (1, .int a1), (2, .int a2), (5, .int x14)]) hx hb dX6_safe_157 hl (k := 4) rfl (by rw [ex24]; rfl) (by decide) rfl (fun ls hl => ?_)
              refine lv_goto (tgt := 31) hx hb dX6_safe_160 (by decide) ?_
              exact ih _ _ _ _ _ hP hD hS ls (lv_sub hl [2, 3, 4, 1, 0] rfl) _ _ hf KX
      obtain ⟨c7, x8, hr31, hf⟩ := ob2_some hf
      refine loop31 300 _ _ _ _ _ hP hD hS ls (lv_sub hl [2, 3, 4, 1, 0] rfl) _ _ hr31 (fun H locs hP hD hS ls hl => ?_)
      refine lv_iload_n hx hb dX6_safe_163 rfl (lv_at hl 0 rfl) ?_
      cases hf
      exact W.iret hx hb hr (fun t ht hW => ⟨⟨_, (), rfl, rfl, by rw [ht]; exact hP, va_K.moved hW.alike hK, hD⟩, hS.F ht⟩) hS.2.2 dX6_safe_164
    · have hf := ip c_4 hf
      refine lv_iconst (v := (-1)) hx hb dX6_safe_20 (by decide) ?_
      cases hf
      exact W.iret hx hb hr (fun t ht hW => ⟨⟨_, (), rfl, rfl, by rw [ht]; exact hP, va_K.moved hW.alike hK, hD⟩, hS.F ht⟩) hS.2.2 dX6_safe_21
theorem uX6_dealer_X6 : ∀ w ∈ wsX60, w ∈ wsX6_dealer := fun w h => List.mem_cons_of_mem _ (List.mem_append_right _ h)
set_option maxHeartbeats 4000000 in
set_option maxRecDepth 100000 in
theorem c_X6_dealer (l : Launch) (D : va_G) (cI cC cL cB : ClassId) (sz : Nat) (h : Nat) (h_piece : Nat) (h_deed : Nat) (h_st : Nat) (h_was : Nat) (h_kept : Nat) (h_seen : Nat) (h_text : Nat) (h_told : Nat) (h_readPiece : Nat) (h_readRoom : Nat) (h_readDeed : Nat) (h_now : Nat) (a1 : Int32) (h_pieces : Int32) (h_deeds : Int32) (h_law : Int32) (h_acts : Int32) (h_keeps : Int32) (h_seens : Int32) (h_texted : Int32) (h_at : Int32) (h_readPieces : Int32) (h_readDeeds : Int32) (h_readCoins : Int32) (h_readLaw : Int32) (h_st_c : Nat → Int32) (h_now_c : Nat → Int32) (h_piece_c : Nat → Int32) (h_deed_c : Nat → Int32) (r : Int32) (o0 : Nat → Int32) (hf : m_X6_dealer a1 h_pieces h_deeds h_law h_st_c h_now_c h_piece_c h_deed_c = some (r, o0)) : Met l yX6_dealer wsX6_dealer ({ frames := 4, cells := 0, slots := 0, locals := 92 }) (va_Pc [.ref h, .int a1] (q_W D vwCl (tyL cI cC cL cB) [(h, .inr (6, [.int h_pieces, .ref h_piece, .int h_deeds, .ref h_deed, .int h_law, .ref h_st, .int h_acts, .ref h_was, .int h_keeps, .ref h_kept, .int h_seens, .ref h_seen, .ref h_text, .int h_texted, .int h_at, .ref h_told, .int h_readPieces, .ref h_readPiece, .ref h_readRoom, .int h_readDeeds, .ref h_readDeed, .int h_readCoins, .int h_readLaw, .ref h_now])), (h_st, .inl (cI, 18, .inl h_st_c)), (h_now, .inl (cI, 18, .inl h_now_c)), (h_piece, .inl (cI, 16, .inl h_piece_c)), (h_deed, .inl (cI, 40, .inl h_deed_c))] sz)) (va_Qi (fun r' _ => r' = r) (q_E D vwCl (tyL cI cC cL cB) (va_A [(h, .inr (6, [.int h_pieces, .ref h_piece, .int h_deeds, .ref h_deed, .int h_law, .ref h_st, .int h_acts, .ref h_was, .int h_keeps, .ref h_kept, .int h_seens, .ref h_seen, .ref h_text, .int h_texted, .int h_at, .ref h_told, .int h_readPieces, .ref h_readPiece, .ref h_readRoom, .int h_readDeeds, .ref h_readDeed, .int h_readCoins, .int h_readLaw, .ref h_now])), (h_st, .inl (cI, 18, .inl h_st_c)), (h_now, .inl (cI, 18, .inl h_now_c)), (h_piece, .inl (cI, 16, .inl h_piece_c)), (h_deed, .inl (cI, 40, .inl h_deed_c))] sz) [(h, .inr (6, [.int h_pieces, .ref h_piece, .int h_deeds, .ref h_deed, .int h_law, .ref h_st, .int h_acts, .ref h_was, .int h_keeps, .ref h_kept, .int h_seens, .ref h_seen, .ref h_text, .int h_texted, .int h_at, .ref h_told, .int h_readPieces, .ref h_readPiece, .ref h_readRoom, .int h_readDeeds, .ref h_readDeed, .int h_readCoins, .int h_readLaw, .ref h_now])), (h_st, .inl (cI, 18, .inl h_st_c)), (h_now, .inl (cI, 18, .inl o0)), (h_piece, .inl (cI, 16, .inl h_piece_c)), (h_deed, .inl (cI, 40, .inl h_deed_c))]) (va_A [(h, .inr (6, [.int h_pieces, .ref h_piece, .int h_deeds, .ref h_deed, .int h_law, .ref h_st, .int h_acts, .ref h_was, .int h_keeps, .ref h_kept, .int h_seens, .ref h_seen, .ref h_text, .int h_texted, .int h_at, .ref h_told, .int h_readPieces, .ref h_readPiece, .ref h_readRoom, .int h_readDeeds, .ref h_readDeed, .int h_readCoins, .int h_readLaw, .ref h_now])), (h_st, .inl (cI, 18, .inl h_st_c)), (h_now, .inl (cI, 18, .inl h_now_c)), (h_piece, .inl (cI, 16, .inl h_piece_c)), (h_deed, .inl (cI, 40, .inl h_deed_c))] sz)) 0 0 (va_A [(h, .inr (6, [.int h_pieces, .ref h_piece, .int h_deeds, .ref h_deed, .int h_law, .ref h_st, .int h_acts, .ref h_was, .int h_keeps, .ref h_kept, .int h_seens, .ref h_seen, .ref h_text, .int h_texted, .int h_at, .ref h_told, .int h_readPieces, .ref h_readPiece, .ref h_readRoom, .int h_readDeeds, .ref h_readDeed, .int h_readCoins, .int h_readLaw, .ref h_now])), (h_st, .inl (cI, 18, .inl h_st_c)), (h_now, .inl (cI, 18, .inl h_now_c)), (h_piece, .inl (cI, 16, .inl h_piece_c)), (h_deed, .inl (cI, 40, .inl h_deed_c))] sz) := by
  refine Met.ofW (cc := cX6_dealer) (maxL := 10) (ret := (some .int)) (by decide) rfl ?_
  intro p e s m args below meth c s₁ B hml hv
  obtain ⟨rfl, hsz, hP, hK, hD0⟩ := hv
  have hx := B.exec
  have hb := B.bytes
  have hr := B.returns
  have hts := atoms_spec (ws := wsX6_dealer) B.pre
  have hown : s.vm.findClass RX6 = some m.cls := findClass_of_methodNamed B.named
  have hlocks := B.notSynchronized
  subst hsz
  have hD := hD0.self (sz := s.heap.size)
  generalize hAe : va_A [(h, .inr (6, [.int h_pieces, .ref h_piece, .int h_deeds, .ref h_deed, .int h_law, .ref h_st, .int h_acts, .ref h_was, .int h_keeps, .ref h_kept, .int h_seens, .ref h_seen, .ref h_text, .int h_texted, .int h_at, .ref h_told, .int h_readPieces, .ref h_readPiece, .ref h_readRoom, .int h_readDeeds, .ref h_readDeed, .int h_readCoins, .int h_readLaw, .ref h_now])), (h_st, .inl (cI, 18, .inl h_st_c)), (h_now, .inl (cI, 18, .inl h_now_c)), (h_piece, .inl (cI, 16, .inl h_piece_c)), (h_deed, .inl (cI, 40, .inl h_deed_c))] s.heap.size = A at hD ⊢
  have hA : ∀ q : Nat, s.heap.size ≤ q → A q := fun q h => by rw [← hAe]; exact Or.inr h
  have hS : va_S A s.heap s.heap [] := va_S.rf
  have hP : va_P D vwCl [(h, .inr (6, [.int h_pieces, .ref h_piece, .int h_deeds, .ref h_deed, .int h_law, .ref h_st, .int h_acts, .ref h_was, .int h_keeps, .ref h_kept, .int h_seens, .ref h_seen, .ref h_text, .int h_texted, .int h_at, .ref h_told, .int h_readPieces, .ref h_readPiece, .ref h_readRoom, .int h_readDeeds, .ref h_readDeed, .int h_readCoins, .int h_readLaw, .ref h_now])), (h_st, .inl (cI, 18, .inl h_st_c)), (h_now, .inl (cI, 18, .inl h_now_c)), (h_piece, .inl (cI, 16, .inl h_piece_c)), (h_deed, .inl (cI, 40, .inl h_deed_c))] s.heap := hP
  have hl := lv_entry ([.ref h, .int a1]) (n := 10) (Nat.le_of_ble_eq_true rfl)
  rw [lg_entry_eq]
  generalize (lg_sl ([.ref h, .int a1]) ++ List.replicate (10 - (lg_sl ([.ref h, .int a1])).length) Slot.unset).toArray = ls at hl ⊢
  have hl : lv_has ls 10 [(0, .ref h), (1, .int a1)] := hl
  unfold m_X6_dealer at hf
  refine lv_iload_n hx hb dX6_dealer_0 rfl (lv_at hl 1 rfl) ?_
  refine lv_iconst (v := (-1)) hx hb dX6_dealer_1 (by decide) ?_
  refine lv_icmp_ge (tgt := 7) hx hb dX6_dealer_2 (by decide) (fun c_1 => ?_) (fun c_1 => ?_)
  · have hf := ip c_1 hf
    refine lv_aload_n hx hb dX6_dealer_7 rfl (lv_at hl 0 rfl) ?_
    obtain ⟨c1, hv_2, hf⟩ := ob1_some hf
    refine q_wVv (As := []) (rest := []) (w1 := [(h, .inr (6, [.int h_pieces, .ref h_piece, .int h_deeds, .ref h_deed, .int h_law, .ref h_st, .int h_acts, .ref h_was, .int h_keeps, .ref h_kept, .int h_seens, .ref h_seen, .ref h_text, .int h_texted, .int h_at, .ref h_told, .int h_readPieces, .ref h_readPiece, .ref h_readRoom, .int h_readDeeds, .ref h_readDeed, .int h_readCoins, .int h_readLaw, .ref h_now])), (h_st, .inl (cI, 18, .inl h_st_c)), (h_now, .inl (cI, 18, .inl c1))]) (wr := [(h_piece, .inl (cI, 16, .inl h_piece_c)), (h_deed, .inl (cI, 40, .inl h_deed_c))]) (w2 := [(h, .inr (6, [.int h_pieces, .ref h_piece, .int h_deeds, .ref h_deed, .int h_law, .ref h_st, .int h_acts, .ref h_was, .int h_keeps, .ref h_kept, .int h_seens, .ref h_seen, .ref h_text, .int h_texted, .int h_at, .ref h_told, .int h_readPieces, .ref h_readPiece, .ref h_readRoom, .int h_readDeeds, .ref h_readDeed, .int h_readCoins, .int h_readLaw, .ref h_now])), (h_st, .inl (cI, 18, .inl h_st_c)), (h_now, .inl (cI, 18, .inl c1)), (h_piece, .inl (cI, 16, .inl h_piece_c)), (h_deed, .inl (cI, 40, .inl h_deed_c))]) ⟨hx, hb, hml, hown, hts⟩ (c_X6_asItIs l D cI cC cL cB s.heap.size h h_piece h_deed h_st h_was h_kept h_seen h_text h_told h_readPiece h_readRoom h_readDeed h_now h_pieces h_deeds h_law h_acts h_keeps h_seens h_texted h_at h_readPieces h_readDeeds h_readCoins h_readLaw h_st_c h_now_c c1 hv_2) (cwV 0 hts gX6_dealer_X6_asItIs rfl rfl rfl (by decide +kernel) ⟨Nat.le_of_ble_eq_true rfl, Nat.le_of_ble_eq_true rfl⟩) hK hP hD hS hA [0, 1, 2] rfl (by decide) [3, 4] rfl (by decide) (by decide) [2, 3, 4, 0, 1] rfl (by decide) (va_recv hK hP (ci := 6) (q0 := 0) rfl rfl) rfl hl.1 rfl (Nat.le_of_ble_eq_true rfl) dX6_dealer_8 ⟨Nat.le_of_ble_eq_true rfl, Nat.le_of_ble_eq_true rfl⟩ (fun H locs hP hD hS => ?_)
    have hP : va_P D vwCl [(h, .inr (6, [.int h_pieces, .ref h_piece, .int h_deeds, .ref h_deed, .int h_law, .ref h_st, .int h_acts, .ref h_was, .int h_keeps, .ref h_kept, .int h_seens, .ref h_seen, .ref h_text, .int h_texted, .int h_at, .ref h_told, .int h_readPieces, .ref h_readPiece, .ref h_readRoom, .int h_readDeeds, .ref h_readDeed, .int h_readCoins, .int h_readLaw, .ref h_now])), (h_st, .inl (cI, 18, .inl h_st_c)), (h_now, .inl (cI, 18, .inl c1)), (h_piece, .inl (cI, 16, .inl h_piece_c)), (h_deed, .inl (cI, 40, .inl h_deed_c))] H := hP
    have hD : va_D A [(h, .inr (6, [.int h_pieces, .ref h_piece, .int h_deeds, .ref h_deed, .int h_law, .ref h_st, .int h_acts, .ref h_was, .int h_keeps, .ref h_kept, .int h_seens, .ref h_seen, .ref h_text, .int h_texted, .int h_at, .ref h_told, .int h_readPieces, .ref h_readPiece, .ref h_readRoom, .int h_readDeeds, .ref h_readDeed, .int h_readCoins, .int h_readLaw, .ref h_now])), (h_st, .inl (cI, 18, .inl h_st_c)), (h_now, .inl (cI, 18, .inl c1)), (h_piece, .inl (cI, 16, .inl h_piece_c)), (h_deed, .inl (cI, 40, .inl h_deed_c))] := hD
    refine lv_iconst (v := 0) hx hb dX6_dealer_11 (by decide) ?_
    refine lv_istore_n (lv' := [(2, .int 0), (0, .ref h), (1, .int a1)]) hx hb dX6_dealer_12 rfl hl (by decide) rfl (fun ls hl => ?_)
    refine lv_iconst (v := 0) hx hb dX6_dealer_13 (by decide) ?_
    refine lv_istore_n (lv' := [(3, .int 0), (2, .int 0), (0, .ref h), (1, .int a1)]) hx hb dX6_dealer_14 rfl hl (by decide) rfl (fun ls hl => ?_)
    refine lv_bipush (v := (-4)) hx hb dX6_dealer_15 (by decide) ?_
    refine lv_istore (lv' := [(4, .int (-4)), (3, .int 0), (2, .int 0), (0, .ref h), (1, .int a1)]) hx hb dX6_dealer_17 hl (by decide) rfl (fun ls hl => ?_)
    refine lv_iconst (v := 1) hx hb dX6_dealer_19 (by decide) ?_
    refine lv_istore (lv' := [(5, .int 1), (4, .int (-4)), (3, .int 0), (2, .int 0), (0, .ref h), (1, .int a1)]) hx hb dX6_dealer_20 hl (by decide) rfl (fun ls hl => ?_)
    have loop22 : ∀ (n : Nat) (c2 : Nat → Int32) (x3 : Int32) (x4 : Int32) (x5 : Int32) (x6 : Int32), ∀ (H : Heap) (locs : List Loc), va_P D vwCl [(h, .inr (6, [.int h_pieces, .ref h_piece, .int h_deeds, .ref h_deed, .int h_law, .ref h_st, .int h_acts, .ref h_was, .int h_keeps, .ref h_kept, .int h_seens, .ref h_seen, .ref h_text, .int h_texted, .int h_at, .ref h_told, .int h_readPieces, .ref h_readPiece, .ref h_readRoom, .int h_readDeeds, .ref h_readDeed, .int h_readCoins, .int h_readLaw, .ref h_now])), (h_st, .inl (cI, 18, .inl h_st_c)), (h_now, .inl (cI, 18, .inl c2)), (h_piece, .inl (cI, 16, .inl h_piece_c)), (h_deed, .inl (cI, 40, .inl h_deed_c))] H → va_D A [(h, .inr (6, [.int h_pieces, .ref h_piece, .int h_deeds, .ref h_deed, .int h_law, .ref h_st, .int h_acts, .ref h_was, .int h_keeps, .ref h_kept, .int h_seens, .ref h_seen, .ref h_text, .int h_texted, .int h_at, .ref h_told, .int h_readPieces, .ref h_readPiece, .ref h_readRoom, .int h_readDeeds, .ref h_readDeed, .int h_readCoins, .int h_readLaw, .ref h_now])), (h_st, .inl (cI, 18, .inl h_st_c)), (h_now, .inl (cI, 18, .inl c2)), (h_piece, .inl (cI, 16, .inl h_piece_c)), (h_deed, .inl (cI, 40, .inl h_deed_c))] → va_S A s.heap H locs → ∀ (ls : Array Slot), lv_has ls 10 [(0, .ref h), (1, .int a1), (2, .int x3), (3, .int x4), (4, .int x5), (5, .int x6)] → ∀ (c7 : Nat → Int32) (x8 : Int32) (x9 : Int32), L_X6_dealer_22 h_pieces h_law h_piece_c h_deeds h_deed_c a1 n c2 x3 x4 x5 x6 = some (c7, x8, x9) → (∀ (H : Heap) (locs : List Loc), va_P D vwCl [(h, .inr (6, [.int h_pieces, .ref h_piece, .int h_deeds, .ref h_deed, .int h_law, .ref h_st, .int h_acts, .ref h_was, .int h_keeps, .ref h_kept, .int h_seens, .ref h_seen, .ref h_text, .int h_texted, .int h_at, .ref h_told, .int h_readPieces, .ref h_readPiece, .ref h_readRoom, .int h_readDeeds, .ref h_readDeed, .int h_readCoins, .int h_readLaw, .ref h_now])), (h_st, .inl (cI, 18, .inl h_st_c)), (h_now, .inl (cI, 18, .inl c7)), (h_piece, .inl (cI, 16, .inl h_piece_c)), (h_deed, .inl (cI, 40, .inl h_deed_c))] H → va_D A [(h, .inr (6, [.int h_pieces, .ref h_piece, .int h_deeds, .ref h_deed, .int h_law, .ref h_st, .int h_acts, .ref h_was, .int h_keeps, .ref h_kept, .int h_seens, .ref h_seen, .ref h_text, .int h_texted, .int h_at, .ref h_told, .int h_readPieces, .ref h_readPiece, .ref h_readRoom, .int h_readDeeds, .ref h_readDeed, .int h_readCoins, .int h_readLaw, .ref h_now])), (h_st, .inl (cI, 18, .inl h_st_c)), (h_now, .inl (cI, 18, .inl c7)), (h_piece, .inl (cI, 16, .inl h_piece_c)), (h_deed, .inl (cI, 40, .inl h_deed_c))] → va_S A s.heap H locs → ∀ (ls : Array Slot), lv_has ls 10 [(1, .int a1), (2, .int x8), (4, .int x9)] → W p l e (headSpec wsX6_dealer ({ frames := 4, cells := 0, slots := 0, locals := 92 })).room s m ([.ref h, .int a1] : List Value).toArray below meth c H locs 0 0 (MQ below (va_Qi (fun r' _ => r' = r) (q_E D vwCl (tyL cI cC cL cB) A [(h, .inr (6, [.int h_pieces, .ref h_piece, .int h_deeds, .ref h_deed, .int h_law, .ref h_st, .int h_acts, .ref h_was, .int h_keeps, .ref h_kept, .int h_seens, .ref h_seen, .ref h_text, .int h_texted, .int h_at, .ref h_told, .int h_readPieces, .ref h_readPiece, .ref h_readRoom, .int h_readDeeds, .ref h_readDeed, .int h_readCoins, .int h_readLaw, .ref h_now])), (h_st, .inl (cI, 18, .inl h_st_c)), (h_now, .inl (cI, 18, .inl o0)), (h_piece, .inl (cI, 16, .inl h_piece_c)), (h_deed, .inl (cI, 40, .inl h_deed_c))]) A) ([.ref h, .int a1] : List Value).toArray s 0 0 A) (F0 m 185 ls [])) → W p l e (headSpec wsX6_dealer ({ frames := 4, cells := 0, slots := 0, locals := 92 })).room s m ([.ref h, .int a1] : List Value).toArray below meth c H locs 0 0 (MQ below (va_Qi (fun r' _ => r' = r) (q_E D vwCl (tyL cI cC cL cB) A [(h, .inr (6, [.int h_pieces, .ref h_piece, .int h_deeds, .ref h_deed, .int h_law, .ref h_st, .int h_acts, .ref h_was, .int h_keeps, .ref h_kept, .int h_seens, .ref h_seen, .ref h_text, .int h_texted, .int h_at, .ref h_told, .int h_readPieces, .ref h_readPiece, .ref h_readRoom, .int h_readDeeds, .ref h_readDeed, .int h_readCoins, .int h_readLaw, .ref h_now])), (h_st, .inl (cI, 18, .inl h_st_c)), (h_now, .inl (cI, 18, .inl o0)), (h_piece, .inl (cI, 16, .inl h_piece_c)), (h_deed, .inl (cI, 40, .inl h_deed_c))]) A) ([.ref h, .int a1] : List Value).toArray s 0 0 A) (F0 m 22 ls []) := by
      intro n
      induction n with
      | zero =>
        intro c2 x3 x4 x5 x6 H locs hP hD hS ls hl c7 x8 x9 hf KX
        rw [L_X6_dealer_22] at hf
        cases hf
      | succ n ih =>
        intro c2 x3 x4 x5 x6 H locs hP hD hS ls hl c7 x8 x9 hf KX
        rw [L_X6_dealer_22] at hf
        refine lv_iload hx hb dX6_dealer_22 (lv_at hl 5 rfl) ?_
        refine lv_if_eq (tgt := 185) hx hb dX6_dealer_24 (by decide) (fun c_69 => ?_) (fun c_69 => ?_)
        · have hf := ip c_69 hf
          cases hf
          exact KX _ _ hP hD hS ls (lv_sub hl [1, 2, 4] rfl)
        · have hf := im c_69 hf
          refine lv_iconst (v := (-1)) hx hb dX6_dealer_27 (by decide) ?_
          refine lv_istore (lv' := [(6, .int (-1)), (0, .ref h), (1, .int a1), (2, .int x3), (3, .int x4), (4, .int x5), (5, .int x6)]) hx hb dX6_dealer_28 hl (by decide) rfl (fun ls hl => ?_)
          refine lv_iconst (v := 0) hx hb dX6_dealer_30 (by decide) ?_
          refine lv_istore (lv' := [(7, .int 0), (6, .int (-1)), (0, .ref h), (1, .int a1), (2, .int x3), (3, .int x4), (4, .int x5), (5, .int x6)]) hx hb dX6_dealer_31 hl (by decide) rfl (fun ls hl => ?_)
          refine lv_iconst (v := 0) hx hb dX6_dealer_33 (by decide) ?_
          refine lv_istore (lv' := [(8, .int 0), (7, .int 0), (6, .int (-1)), (0, .ref h), (1, .int a1), (2, .int x3), (3, .int x4), (4, .int x5), (5, .int x6)]) hx hb dX6_dealer_34 hl (by decide) rfl (fun ls hl => ?_)
          have loop36 : ∀ (n : Nat) (x10 : Int32) (x11 : Int32) (x12 : Int32), ∀ (ls : Array Slot), lv_has ls 10 [(0, .ref h), (1, .int a1), (2, .int x3), (3, .int x4), (4, .int x5), (6, .int x10), (7, .int x11), (8, .int x12)] → ∀ (x13 : Int32) (x14 : Int32), L_X6_dealer_36 h_pieces h_law c2 h_piece_c h_deeds h_deed_c n x10 x11 x12 = some (x13, x14) → (∀ (ls : Array Slot), lv_has ls 10 [(0, .ref h), (1, .int a1), (2, .int x3), (3, .int x4), (4, .int x5), (6, .int x13), (7, .int x14)] → W p l e (headSpec wsX6_dealer ({ frames := 4, cells := 0, slots := 0, locals := 92 })).room s m ([.ref h, .int a1] : List Value).toArray below meth c H locs 0 0 (MQ below (va_Qi (fun r' _ => r' = r) (q_E D vwCl (tyL cI cC cL cB) A [(h, .inr (6, [.int h_pieces, .ref h_piece, .int h_deeds, .ref h_deed, .int h_law, .ref h_st, .int h_acts, .ref h_was, .int h_keeps, .ref h_kept, .int h_seens, .ref h_seen, .ref h_text, .int h_texted, .int h_at, .ref h_told, .int h_readPieces, .ref h_readPiece, .ref h_readRoom, .int h_readDeeds, .ref h_readDeed, .int h_readCoins, .int h_readLaw, .ref h_now])), (h_st, .inl (cI, 18, .inl h_st_c)), (h_now, .inl (cI, 18, .inl o0)), (h_piece, .inl (cI, 16, .inl h_piece_c)), (h_deed, .inl (cI, 40, .inl h_deed_c))]) A) ([.ref h, .int a1] : List Value).toArray s 0 0 A) (F0 m 117 ls [])) → W p l e (headSpec wsX6_dealer ({ frames := 4, cells := 0, slots := 0, locals := 92 })).room s m ([.ref h, .int a1] : List Value).toArray below meth c H locs 0 0 (MQ below (va_Qi (fun r' _ => r' = r) (q_E D vwCl (tyL cI cC cL cB) A [(h, .inr (6, [.int h_pieces, .ref h_piece, .int h_deeds, .ref h_deed, .int h_law, .ref h_st, .int h_acts, .ref h_was, .int h_keeps, .ref h_kept, .int h_seens, .ref h_seen, .ref h_text, .int h_texted, .int h_at, .ref h_told, .int h_readPieces, .ref h_readPiece, .ref h_readRoom, .int h_readDeeds, .ref h_readDeed, .int h_readCoins, .int h_readLaw, .ref h_now])), (h_st, .inl (cI, 18, .inl h_st_c)), (h_now, .inl (cI, 18, .inl o0)), (h_piece, .inl (cI, 16, .inl h_piece_c)), (h_deed, .inl (cI, 40, .inl h_deed_c))]) A) ([.ref h, .int a1] : List Value).toArray s 0 0 A) (F0 m 36 ls []) := by
            intro n
            induction n with
            | zero =>
              intro x10 x11 x12 ls hl x13 x14 hf KX
              rw [L_X6_dealer_36] at hf
              cases hf
            | succ n ih =>
              intro x10 x11 x12 ls hl x13 x14 hf KX
              rw [L_X6_dealer_36] at hf
              refine lv_iload hx hb dX6_dealer_36 (lv_at hl 7 rfl) ?_
              refine lv_aload_n hx hb dX6_dealer_38 rfl (lv_at hl 0 rfl) ?_
              refine va_get (D := D) (ci := 6) (v := .int h_pieces) (C := RX6) (T := TX6) (N := 24) hx hb hts uX6_dealer_X6 hown hK hP 0 rfl rfl 0 (by decide) (hts (.fieldLink RX6 73 "SpeaksForTheChairModel" "pieces" "I") (List.mem_of_getElem? (i := 1) rfl)) (fun _ h9 => h9) rfl dX6_dealer_39 ?_
              refine lv_icmp_ge (tgt := 117) hx hb dX6_dealer_42 (by decide) (fun c_88 => ?_) (fun c_88 => ?_)
              · have hf := ip c_88 hf
                cases hf
                exact KX ls (lv_sub hl [0, 1, 2, 3, 4, 5, 6] rfl)
              · have hf := im c_88 hf
                refine lv_aload_n hx hb dX6_dealer_45 rfl (lv_at hl 0 rfl) ?_
                refine lv_iload hx hb dX6_dealer_46 (lv_at hl 7 rfl) ?_
                obtain ⟨x15, hv_89, hf⟩ := ob1_some hf
                refine q_rVi (As := [.int x12]) (rest := []) (r := x15) ⟨hx, hb, hml, hown, hts⟩ (c_X6_isLoose l D cI cC cL cB h h_piece h_deed h_st h_was h_kept h_seen h_text h_told h_readPiece h_readRoom h_readDeed h_now x12 h_pieces h_deeds h_law h_acts h_keeps h_seens h_texted h_at h_readPieces h_readDeeds h_readCoins h_readLaw c2 h_piece_c x15 hv_89) (cwV 1 hts gX6_dealer_X6_isLoose rfl rfl rfl (by decide +kernel) ⟨Nat.le_of_ble_eq_true rfl, Nat.le_of_ble_eq_true rfl⟩) hK hP [0, 2, 3] rfl (va_recv hK hP (ci := 6) (q0 := 0) rfl rfl) rfl hl.1 rfl (Nat.le_of_ble_eq_true rfl) dX6_dealer_48 ⟨Nat.le_of_ble_eq_true rfl, Nat.le_of_ble_eq_true rfl⟩ ?_
                obtain ⟨x16, hr77, hf⟩ := ob1_some hf
                refine q_jn (pcJ := 77) (nL := 10) (vs := [(0, .ref h), (1, .int a1), (2, .int x3), (3, .int x4), (4, .int x5), (6, .int x10), (7, .int x11), (8, .int x12)]) (st := [.int x16]) (fun ls hl => ?_) (fun J77 => ?_)
                · clear hr77
                  refine lv_istore (lv' := [(9, .int x16), (0, .ref h), (1, .int a1), (2, .int x3), (3, .int x4), (4, .int x5), (6, .int x10), (7, .int x11), (8, .int x12)]) hx hb dX6_dealer_77 hl (by decide) rfl (fun ls hl => ?_)
                  refine lv_iload hx hb dX6_dealer_79 (lv_at hl 0 rfl) ?_
                  refine lv_iload hx hb dX6_dealer_81 (lv_at hl 7 rfl) ?_
                  obtain ⟨x17, hr93, hf⟩ := ob1_some hf
                  refine q_jn (pcJ := 93) (nL := 10) (vs := [(0, .ref h), (1, .int a1), (2, .int x3), (3, .int x4), (4, .int x5), (7, .int x11), (8, .int x12), (9, .int x16)]) (st := [.int x17]) (fun ls hl => ?_) (fun J93 => ?_)
                  · clear hr93
                    refine lv_istore (lv' := [(6, .int x17), (0, .ref h), (1, .int a1), (2, .int x3), (3, .int x4), (4, .int x5), (7, .int x11), (8, .int x12), (9, .int x16)]) hx hb dX6_dealer_93 hl (by decide) rfl (fun ls hl => ?_)
                    refine lv_iload hx hb dX6_dealer_95 (lv_at hl 8 rfl) ?_
                    refine lv_iload hx hb dX6_dealer_97 (lv_at hl 6 rfl) ?_
                    refine lv_icmp_le (tgt := 107) hx hb dX6_dealer_99 (by decide) (fun c_94 => ?_) (fun c_94 => ?_)
                    · have hf := ip c_94 hf
                      refine lv_iload hx hb dX6_dealer_107 (lv_at hl 6 rfl) ?_
                      refine lv_istore (lv' := [(7, .int x11), (6, .int x17), (0, .ref h), (1, .int a1), (2, .int x3), (3, .int x4), (4, .int x5), (8, .int x12), (9, .int x16)]) hx hb dX6_dealer_109 hl (by decide) rfl (fun ls hl => ?_)
                      obtain ⟨x18, ex18⟩ : ∃ y : Int32, y = (x12 + 1) := ⟨_, rfl⟩
                      have hf := pv_eq ex18 hf
                      refine lv_iinc (v := x18) (lv' := [(8, .int x18), (7, .int x11), (6, .int x17), (0, .ref h), (1, .int a1), (2, .int x3), (3, .int x4), (4, .int x5), (9, .int x16)]) hx hb dX6_dealer_111 hl (k := 7) rfl (by rw [ex18]; rfl) (by decide) rfl (fun ls hl => ?_)
                      refine lv_goto (tgt := 36) hx hb dX6_dealer_114 (by decide) ?_
                      exact ih _ _ _ ls (lv_sub hl [3, 4, 5, 6, 7, 2, 1, 0] rfl) _ _ hf KX
                    · have hf := im c_94 hf
                      refine lv_iload hx hb dX6_dealer_102 (lv_at hl 8 rfl) ?_
                      refine lv_goto (tgt := 109) hx hb dX6_dealer_104 (by decide) ?_
                      refine lv_istore (lv' := [(7, .int x16), (6, .int x17), (0, .ref h), (1, .int a1), (2, .int x3), (3, .int x4), (4, .int x5), (8, .int x12), (9, .int x16)]) hx hb dX6_dealer_109 hl (by decide) rfl (fun ls hl => ?_)
                      obtain ⟨x19, ex19⟩ : ∃ y : Int32, y = (x12 + 1) := ⟨_, rfl⟩
                      have hf := pv_eq ex19 hf
                      refine lv_iinc (v := x19) (lv' := [(8, .int x19), (7, .int x16), (6, .int x17), (0, .ref h), (1, .int a1), (2, .int x3), (3, .int x4), (4, .int x5), (9, .int x16)]) hx hb dX6_dealer_111 hl (k := 7) rfl (by rw [ex19]; rfl) (by decide) rfl (fun ls hl => ?_)
                      refine lv_goto (tgt := 36) hx hb dX6_dealer_114 (by decide) ?_
                      exact ih _ _ _ ls (lv_sub hl [3, 4, 5, 6, 7, 2, 1, 0] rfl) _ _ hf KX
                  · replace hf := hr93
                    refine lv_icmp_le (tgt := 91) hx hb dX6_dealer_83 (by decide) (fun c_93 => ?_) (fun c_93 => ?_)
                    · have hf := ip c_93 hf
                      refine lv_iload hx hb dX6_dealer_91 (lv_at hl 6 rfl) ?_
                      cases hf
                      exact J93 ls (lv_sub hl [1, 2, 3, 4, 5, 7, 8, 0] rfl)
                    · have hf := im c_93 hf
                      refine lv_iload hx hb dX6_dealer_86 (lv_at hl 8 rfl) ?_
                      refine lv_goto (tgt := 93) hx hb dX6_dealer_88 (by decide) ?_
                      cases hf
                      exact J93 ls (lv_sub hl [1, 2, 3, 4, 5, 7, 8, 0] rfl)
                · replace hf := hr77
                  refine lv_if_eq (tgt := 76) hx hb dX6_dealer_51 (by decide) (fun c_90 => ?_) (fun c_90 => ?_)
                  · have hf := ip c_90 hf
                    refine lv_iconst (v := 0) hx hb dX6_dealer_76 (by decide) ?_
                    cases hf
                    exact J77 ls (lv_sub hl [0, 1, 2, 3, 4, 5, 6, 7] rfl)
                  · have hf := im c_90 hf
                    refine lv_aload_n hx hb dX6_dealer_54 rfl (lv_at hl 0 rfl) ?_
                    refine lv_aload_n hx hb dX6_dealer_55 rfl (lv_at hl 0 rfl) ?_
                    refine lv_iload hx hb dX6_dealer_56 (lv_at hl 7 rfl) ?_
                    obtain ⟨x20, hv_95, hf⟩ := ob1_some hf
                    refine q_rVi (As := [.int x12]) (rest := [.ref h]) (r := x20) ⟨hx, hb, hml, hown, hts⟩ (c_X6_toldBy l D cI cC cL cB h h_piece h_deed h_st h_was h_kept h_seen h_text h_told h_readPiece h_readRoom h_readDeed h_now x12 h_pieces h_deeds h_law h_acts h_keeps h_seens h_texted h_at h_readPieces h_readDeeds h_readCoins h_readLaw h_deed_c c2 h_piece_c x20 hv_95) (cwV 1 hts gX6_dealer_X6_toldBy rfl rfl rfl (by decide +kernel) ⟨Nat.le_of_ble_eq_true rfl, Nat.le_of_ble_eq_true rfl⟩) hK hP [0, 4, 2, 3] rfl (va_recv hK hP (ci := 6) (q0 := 0) rfl rfl) rfl hl.1 rfl (Nat.le_of_ble_eq_true rfl) dX6_dealer_58 ⟨Nat.le_of_ble_eq_true rfl, Nat.le_of_ble_eq_true rfl⟩ ?_
                    refine lv_aload_n hx hb dX6_dealer_61 rfl (lv_at hl 0 rfl) ?_
                    refine va_get (D := D) (ci := 6) (v := .ref h_now) (C := RX6) (T := TX6) (N := 24) hx hb hts uX6_dealer_X6 hown hK hP 0 rfl rfl 23 (by decide) (hts (.fieldLink RX6 43 "SpeaksForTheChairModel" "now" "[I") (List.mem_of_getElem? (i := 2) rfl)) (fun _ h9 => h9) rfl dX6_dealer_62 ?_
                    refine lv_iconst (v := 1) hx hb dX6_dealer_65 (by decide) ?_
                    refine va_iald hx hb hK hP 2 0 rfl rfl (okI_in (by decide)) dX6_dealer_66 ?_
                    refine lv_iconst (v := (-1)) hx hb dX6_dealer_67 (by decide) ?_
                    refine lv_ixor hx hb dX6_dealer_68 ?_
                    refine lv_iand hx hb dX6_dealer_69 ?_
                    obtain ⟨x21, hv_96, hf⟩ := ob1_some hf
                    refine q_rVi (As := [.int (x20 &&& ((c2 (1 : Int32).toNatClampNeg) ^^^ (-1)))]) (rest := []) (r := x21) ⟨hx, hb, hml, hown, hts⟩ (c_X6_allWeigh l D cI cC cL cB h h_piece h_deed h_st h_was h_kept h_seen h_text h_told h_readPiece h_readRoom h_readDeed h_now ((x20 &&& ((c2 (1 : Int32).toNatClampNeg) ^^^ (-1)))) h_pieces h_deeds h_law h_acts h_keeps h_seens h_texted h_at h_readPieces h_readDeeds h_readCoins h_readLaw h_deed_c x21 hv_96) (cwV 1 hts gX6_dealer_X6_allWeigh rfl rfl rfl (by decide +kernel) ⟨Nat.le_of_ble_eq_true rfl, Nat.le_of_ble_eq_true rfl⟩) hK hP [0, 4] rfl (va_recv hK hP (ci := 6) (q0 := 0) rfl rfl) rfl hl.1 rfl (Nat.le_of_ble_eq_true rfl) dX6_dealer_70 ⟨Nat.le_of_ble_eq_true rfl, Nat.le_of_ble_eq_true rfl⟩ ?_
                    refine lv_goto (tgt := 77) hx hb dX6_dealer_73 (by decide) ?_
                    cases hf
                    exact J77 ls (lv_sub hl [0, 1, 2, 3, 4, 5, 6, 7] rfl)
          obtain ⟨x13, x14, hr36, hf⟩ := ob2_some hf
          refine loop36 300 _ _ _ ls (lv_sub hl [3, 4, 5, 6, 7, 2, 1, 0] rfl) _ _ hr36 (fun ls hl => ?_)
          refine lv_iload hx hb dX6_dealer_117 (lv_at hl 5 rfl) ?_
          obtain ⟨x22, hr127, hf⟩ := ob1_some hf
          refine q_jn (pcJ := 127) (nL := 10) (vs := [(0, .ref h), (1, .int a1), (2, .int x3), (3, .int x4), (4, .int x5), (6, .int x13), (7, .int x14)]) (st := [.int x22]) (fun ls hl => ?_) (fun J127 => ?_)
          · clear hr127
            refine lv_istore (lv' := [(5, .int x22), (0, .ref h), (1, .int a1), (2, .int x3), (3, .int x4), (4, .int x5), (6, .int x13), (7, .int x14)]) hx hb dX6_dealer_127 hl (by decide) rfl (fun ls hl => ?_)
            refine lv_iload hx hb dX6_dealer_129 (lv_at hl 0 rfl) ?_
            refine lv_if_eq (tgt := 182) hx hb dX6_dealer_131 (by decide) (fun c_98 => ?_) (fun c_98 => ?_)
            · have hf := ip c_98 hf
              refine lv_goto (tgt := 22) hx hb dX6_dealer_182 (by decide) ?_
              exact ih _ _ _ _ _ _ _ hP hD hS ls (lv_sub hl [1, 2, 3, 4, 5, 0] rfl) _ _ _ hf KX
            · have hf := im c_98 hf
              refine lv_iload_n hx hb dX6_dealer_134 rfl (lv_at hl 4 rfl) ?_
              refine lv_iload_n hx hb dX6_dealer_135 rfl (lv_at hl 2 rfl) ?_
              obtain ⟨x23, hr146, hf⟩ := ob1_some hf
              refine q_jn (pcJ := 146) (nL := 10) (vs := [(0, .ref h), (1, .int a1), (2, .int x3), (3, .int x4), (5, .int x22), (6, .int x13), (7, .int x14)]) (st := [.int x23]) (fun ls hl => ?_) (fun J146 => ?_)
              · clear hr146
                refine lv_istore (lv' := [(4, .int x23), (0, .ref h), (1, .int a1), (2, .int x3), (3, .int x4), (5, .int x22), (6, .int x13), (7, .int x14)]) hx hb dX6_dealer_146 hl (by decide) rfl (fun ls hl => ?_)
                obtain ⟨x24, ex24⟩ : ∃ y : Int32, y = (x4 + 1) := ⟨_, rfl⟩
                have hf := pv_eq ex24 hf
                refine lv_iinc (v := x24) (lv' := [(3, .int x24), (4, .int x23), (0, .ref h), (1, .int a1), (2, .int x3), (5, .int x22), (6, .int x13), (7, .int x14)]) hx hb dX6_dealer_148 hl (k := 4) rfl (by rw [ex24]; rfl) (by decide) rfl (fun ls hl => ?_)
                refine lv_iload_n hx hb dX6_dealer_151 rfl (lv_at hl 4 rfl) ?_
                refine lv_iload hx hb dX6_dealer_152 (lv_at hl 7 rfl) ?_
                refine lv_iadd hx hb dX6_dealer_154 ?_
                refine lv_topi (fun x25 ex25 => ?_)
                have hf := pv_eq ex25 hf
                refine lv_istore_n (lv' := [(2, .int x25), (3, .int x24), (4, .int x23), (0, .ref h), (1, .int a1), (5, .int x22), (6, .int x13), (7, .int x14)]) hx hb dX6_dealer_155 rfl hl (by decide) rfl (fun ls hl => ?_)
                refine lv_aload_n hx hb dX6_dealer_156 rfl (lv_at hl 3 rfl) ?_
                refine va_get (D := D) (ci := 6) (v := .ref h_now) (C := RX6) (T := TX6) (N := 24) hx hb hts uX6_dealer_X6 hown hK hP 0 rfl rfl 23 (by decide) (hts (.fieldLink RX6 43 "SpeaksForTheChairModel" "now" "[I") (List.mem_of_getElem? (i := 2) rfl)) (fun _ h9 => h9) rfl dX6_dealer_157 ?_
                refine lv_iconst (v := 1) hx hb dX6_dealer_160 (by decide) ?_
                refine lv_dup2_11 hx hb dX6_dealer_161 rfl rfl ?_
                refine va_iald hx hb hK hP 2 0 rfl rfl (okI_in (by decide)) dX6_dealer_162 ?_
                refine lv_aload_n hx hb dX6_dealer_163 rfl (lv_at hl 3 rfl) ?_
                refine lv_iload hx hb dX6_dealer_164 (lv_at hl 6 rfl) ?_
                obtain ⟨x26, hv_100, hf⟩ := ob1_some hf
                refine q_rVi (As := [.int x13]) (rest := [.int (c2 (1 : Int32).toNatClampNeg), .int 1, .ref h_now]) (r := x26) ⟨hx, hb, hml, hown, hts⟩ (c_X6_toldBy l D cI cC cL cB h h_piece h_deed h_st h_was h_kept h_seen h_text h_told h_readPiece h_readRoom h_readDeed h_now x13 h_pieces h_deeds h_law h_acts h_keeps h_seens h_texted h_at h_readPieces h_readDeeds h_readCoins h_readLaw h_deed_c c2 h_piece_c x26 hv_100) (cwV 1 hts gX6_dealer_X6_toldBy rfl rfl rfl (by decide +kernel) ⟨Nat.le_of_ble_eq_true rfl, Nat.le_of_ble_eq_true rfl⟩) hK hP [0, 4, 2, 3] rfl (va_recv hK hP (ci := 6) (q0 := 0) rfl rfl) rfl hl.1 rfl (Nat.le_of_ble_eq_true rfl) dX6_dealer_166 ⟨Nat.le_of_ble_eq_true rfl, Nat.le_of_ble_eq_true rfl⟩ ?_
                refine lv_ior hx hb dX6_dealer_169 ?_
                refine va_iast hx hb hK hP hD hS 2 0 rfl rfl (okI_in (by decide)) dX6_dealer_170 (fun H locs hP hD hS => ?_)
                obtain ⟨c27, ec27⟩ : ∃ y : Nat → Int32, y = (upd c2 (1 : Int32).toNatClampNeg ((c2 (1 : Int32).toNatClampNeg) ||| x26)) := ⟨_, rfl⟩
                have hf := pv_eq ec27 hf
                rw [← ec27] at hP hD
                have hP : va_P D vwCl [(h, .inr (6, [.int h_pieces, .ref h_piece, .int h_deeds, .ref h_deed, .int h_law, .ref h_st, .int h_acts, .ref h_was, .int h_keeps, .ref h_kept, .int h_seens, .ref h_seen, .ref h_text, .int h_texted, .int h_at, .ref h_told, .int h_readPieces, .ref h_readPiece, .ref h_readRoom, .int h_readDeeds, .ref h_readDeed, .int h_readCoins, .int h_readLaw, .ref h_now])), (h_st, .inl (cI, 18, .inl h_st_c)), (h_now, .inl (cI, 18, .inl c27)), (h_piece, .inl (cI, 16, .inl h_piece_c)), (h_deed, .inl (cI, 40, .inl h_deed_c))] H := hP
                have hD : va_D A [(h, .inr (6, [.int h_pieces, .ref h_piece, .int h_deeds, .ref h_deed, .int h_law, .ref h_st, .int h_acts, .ref h_was, .int h_keeps, .ref h_kept, .int h_seens, .ref h_seen, .ref h_text, .int h_texted, .int h_at, .ref h_told, .int h_readPieces, .ref h_readPiece, .ref h_readRoom, .int h_readDeeds, .ref h_readDeed, .int h_readCoins, .int h_readLaw, .ref h_now])), (h_st, .inl (cI, 18, .inl h_st_c)), (h_now, .inl (cI, 18, .inl c27)), (h_piece, .inl (cI, 16, .inl h_piece_c)), (h_deed, .inl (cI, 40, .inl h_deed_c))] := hD
                refine lv_aload_n hx hb dX6_dealer_171 rfl (lv_at hl 3 rfl) ?_
                refine va_get (D := D) (ci := 6) (v := .ref h_now) (C := RX6) (T := TX6) (N := 24) hx hb hts uX6_dealer_X6 hown hK hP 0 rfl rfl 23 (by decide) (hts (.fieldLink RX6 43 "SpeaksForTheChairModel" "now" "[I") (List.mem_of_getElem? (i := 2) rfl)) (fun _ h9 => h9) rfl dX6_dealer_172 ?_
                refine lv_bipush (v := 10) hx hb dX6_dealer_175 (by decide) ?_
                refine lv_iload hx hb dX6_dealer_177 (lv_at hl 6 rfl) ?_
                refine lv_iadd hx hb dX6_dealer_179 ?_
                refine lv_iconst (v := 2) hx hb dX6_dealer_180 (by decide) ?_
                obtain ⟨g_101, hf⟩ := gu_in hf
                refine va_iast hx hb hK hP hD hS 2 0 rfl rfl g_101 dX6_dealer_181 (fun H locs hP hD hS => ?_)
                obtain ⟨c28, ec28⟩ : ∃ y : Nat → Int32, y = (upd c27 ((10 + x13) : Int32).toNatClampNeg 2) := ⟨_, rfl⟩
                have hf := pv_eq ec28 hf
                rw [← ec28] at hP hD
                have hP : va_P D vwCl [(h, .inr (6, [.int h_pieces, .ref h_piece, .int h_deeds, .ref h_deed, .int h_law, .ref h_st, .int h_acts, .ref h_was, .int h_keeps, .ref h_kept, .int h_seens, .ref h_seen, .ref h_text, .int h_texted, .int h_at, .ref h_told, .int h_readPieces, .ref h_readPiece, .ref h_readRoom, .int h_readDeeds, .ref h_readDeed, .int h_readCoins, .int h_readLaw, .ref h_now])), (h_st, .inl (cI, 18, .inl h_st_c)), (h_now, .inl (cI, 18, .inl c28)), (h_piece, .inl (cI, 16, .inl h_piece_c)), (h_deed, .inl (cI, 40, .inl h_deed_c))] H := hP
                have hD : va_D A [(h, .inr (6, [.int h_pieces, .ref h_piece, .int h_deeds, .ref h_deed, .int h_law, .ref h_st, .int h_acts, .ref h_was, .int h_keeps, .ref h_kept, .int h_seens, .ref h_seen, .ref h_text, .int h_texted, .int h_at, .ref h_told, .int h_readPieces, .ref h_readPiece, .ref h_readRoom, .int h_readDeeds, .ref h_readDeed, .int h_readCoins, .int h_readLaw, .ref h_now])), (h_st, .inl (cI, 18, .inl h_st_c)), (h_now, .inl (cI, 18, .inl c28)), (h_piece, .inl (cI, 16, .inl h_piece_c)), (h_deed, .inl (cI, 40, .inl h_deed_c))] := hD
                refine lv_goto (tgt := 22) hx hb dX6_dealer_182 (by decide) ?_
                exact ih _ _ _ _ _ _ _ hP hD hS ls (lv_sub hl [3, 4, 0, 1, 2, 5] rfl) _ _ _ hf KX
              · replace hf := hr146
                refine lv_icmp_ne (tgt := 144) hx hb dX6_dealer_136 (by decide) (fun c_99 => ?_) (fun c_99 => ?_)
                · have hf := im c_99 hf
                  refine lv_iload hx hb dX6_dealer_144 (lv_at hl 5 rfl) ?_
                  cases hf
                  exact J146 ls (lv_sub hl [1, 2, 3, 4, 0, 6, 7] rfl)
                · have hf := ip c_99 hf
                  refine lv_iload hx hb dX6_dealer_139 (lv_at hl 6 rfl) ?_
                  refine lv_goto (tgt := 146) hx hb dX6_dealer_141 (by decide) ?_
                  cases hf
                  exact J146 ls (lv_sub hl [1, 2, 3, 4, 0, 6, 7] rfl)
          · replace hf := hr127
            refine lv_if_lt (tgt := 126) hx hb dX6_dealer_119 (by decide) (fun c_97 => ?_) (fun c_97 => ?_)
            · have hf := ip c_97 hf
              refine lv_iconst (v := 0) hx hb dX6_dealer_126 (by decide) ?_
              cases hf
              exact J127 ls (lv_sub hl [0, 1, 2, 3, 4, 5, 6] rfl)
            · have hf := im c_97 hf
              refine lv_iconst (v := 1) hx hb dX6_dealer_122 (by decide) ?_
              refine lv_goto (tgt := 127) hx hb dX6_dealer_123 (by decide) ?_
              cases hf
              exact J127 ls (lv_sub hl [0, 1, 2, 3, 4, 5, 6] rfl)
    obtain ⟨c7, x8, x9, hr22, hf⟩ := ob3_some hf
    refine loop22 300 _ _ _ _ _ _ _ hP hD hS ls (lv_sub hl [4, 5, 3, 2, 1, 0] rfl) _ _ _ hr22 (fun H locs hP hD hS ls hl => ?_)
    refine lv_iload_n hx hb dX6_dealer_185 rfl (lv_at hl 0 rfl) ?_
    refine lv_if_ge (tgt := 193) hx hb dX6_dealer_186 (by decide) (fun c_102 => ?_) (fun c_102 => ?_)
    · have hf := ip c_102 hf
      refine lv_iload hx hb dX6_dealer_193 (lv_at hl 2 rfl) ?_
      cases hf
      exact W.iret hx hb hr (fun t ht hW => ⟨⟨_, (), rfl, rfl, by rw [ht]; exact hP, va_K.moved hW.alike hK, hD⟩, hS.F ht⟩) hS.2.2 dX6_dealer_195
    · have hf := im c_102 hf
      refine lv_iload_n hx hb dX6_dealer_189 rfl (lv_at hl 1 rfl) ?_
      refine lv_goto (tgt := 195) hx hb dX6_dealer_190 (by decide) ?_
      cases hf
      exact W.iret hx hb hr (fun t ht hW => ⟨⟨_, (), rfl, rfl, by rw [ht]; exact hP, va_K.moved hW.alike hK, hD⟩, hS.F ht⟩) hS.2.2 dX6_dealer_195
  · have hf := im c_1 hf
    refine lv_iconst (v := (-1)) hx hb dX6_dealer_5 (by decide) ?_
    cases hf
    exact W.iret hx hb hr (fun t ht hW => ⟨⟨_, (), rfl, rfl, by rw [ht]; exact hP, va_K.moved hW.alike hK, hD⟩, hS.F ht⟩) hS.2.2 dX6_dealer_6
theorem uX6_ruin_X6 : ∀ w ∈ wsX60, w ∈ wsX6_ruin := fun w h => List.mem_cons_of_mem _ (List.mem_append_right _ h)
set_option maxHeartbeats 4000000 in
set_option maxRecDepth 100000 in
theorem c_X6_ruin (l : Launch) (D : va_G) (cI cC cL cB : ClassId) (h : Nat) (h_piece : Nat) (h_deed : Nat) (h_st : Nat) (h_was : Nat) (h_kept : Nat) (h_seen : Nat) (h_text : Nat) (h_told : Nat) (h_readPiece : Nat) (h_readRoom : Nat) (h_readDeed : Nat) (h_now : Nat) (a1 : Int32) (h_pieces : Int32) (h_deeds : Int32) (h_law : Int32) (h_acts : Int32) (h_keeps : Int32) (h_seens : Int32) (h_texted : Int32) (h_at : Int32) (h_readPieces : Int32) (h_readDeeds : Int32) (h_readCoins : Int32) (h_readLaw : Int32) (h_deed_c : Nat → Int32) (h_st_c : Nat → Int32) (r : Int32) (hf : m_X6_ruin a1 h_deeds h_deed_c h_st_c = some r) : Met l yX6_ruin wsX6_ruin ({ frames := 1, cells := 0, slots := 0, locals := 22 }) (va_Pc [.ref h, .int a1] (q_R D vwCl (tyL cI cC cL cB) [(h, .inr (6, [.int h_pieces, .ref h_piece, .int h_deeds, .ref h_deed, .int h_law, .ref h_st, .int h_acts, .ref h_was, .int h_keeps, .ref h_kept, .int h_seens, .ref h_seen, .ref h_text, .int h_texted, .int h_at, .ref h_told, .int h_readPieces, .ref h_readPiece, .ref h_readRoom, .int h_readDeeds, .ref h_readDeed, .int h_readCoins, .int h_readLaw, .ref h_now])), (h_deed, .inl (cI, 40, .inl h_deed_c)), (h_st, .inl (cI, 18, .inl h_st_c))])) (vp_Si (fun r' => r' = r)) 0 0 (fun _ => False) := by
  refine Met.ofW (cc := cX6_ruin) (maxL := 4) (ret := (some .int)) (by decide) rfl ?_
  intro p e s m args below meth c s₁ B hml hv
  obtain ⟨rfl, hP, hK⟩ := hv
  have hx := B.exec
  have hb := B.bytes
  have hr := B.returns
  have hts := atoms_spec (ws := wsX6_ruin) B.pre
  have hown : s.vm.findClass RX6 = some m.cls := findClass_of_methodNamed B.named
  have hlocks := B.notSynchronized
  have hl := lv_entry ([.ref h, .int a1]) (n := 4) (Nat.le_of_ble_eq_true rfl)
  rw [lg_entry_eq]
  generalize (lg_sl ([.ref h, .int a1]) ++ List.replicate (4 - (lg_sl ([.ref h, .int a1])).length) Slot.unset).toArray = ls at hl ⊢
  have hl : lv_has ls 4 [(0, .ref h), (1, .int a1)] := hl
  unfold m_X6_ruin at hf
  refine lv_iload_n hx hb dX6_ruin_0 rfl (lv_at hl 1 rfl) ?_
  refine lv_iconst (v := 0) hx hb dX6_ruin_1 (by decide) ?_
  refine lv_iconst (v := 5) hx hb dX6_ruin_2 (by decide) ?_
  obtain ⟨x1, hv_1, hf⟩ := ob1_some hf
  refine q_rSi (As := [.int a1, .int 0, .int 5]) (rest := []) (r := x1) ⟨hx, hb, hml, hown, hts⟩ (c_X6_in l D cI cC cL cB a1 ((0 : Int32)) ((5 : Int32)) x1 hv_1) (va_cwS 3 hts gX6_ruin_X6_in rfl rfl rfl (by decide +kernel) ⟨Nat.le_of_ble_eq_true rfl, Nat.le_of_ble_eq_true rfl⟩) hK hP [] rfl rfl hl.1 rfl (Nat.le_of_ble_eq_true rfl) dX6_ruin_3 ⟨Nat.le_of_ble_eq_true rfl, Nat.le_of_ble_eq_true rfl⟩ ?_
  refine lv_if_ne (tgt := 11) hx hb dX6_ruin_6 (by decide) (fun c_2 => ?_) (fun c_2 => ?_)
  · have hf := im c_2 hf
    refine lv_iconst (v := 0) hx hb dX6_ruin_11 (by decide) ?_
    refine lv_istore_n (lv' := [(2, .int 0), (0, .ref h), (1, .int a1)]) hx hb dX6_ruin_12 rfl hl (by decide) rfl (fun ls hl => ?_)
    refine lv_iconst (v := 0) hx hb dX6_ruin_13 (by decide) ?_
    refine lv_istore_n (lv' := [(3, .int 0), (2, .int 0), (0, .ref h), (1, .int a1)]) hx hb dX6_ruin_14 rfl hl (by decide) rfl (fun ls hl => ?_)
    have loop15 : ∀ (n : Nat) (x2 : Int32) (x3 : Int32), ∀ (ls : Array Slot), lv_has ls 4 [(0, .ref h), (1, .int a1), (2, .int x2), (3, .int x3)] → ∀ (x4 : Int32), L_X6_ruin_15 h_deeds h_deed_c a1 h_st_c n x2 x3 = some x4 → (∀ (ls : Array Slot), lv_has ls 4 [(2, .int x4)] → W p l e (headSpec wsX6_ruin ({ frames := 1, cells := 0, slots := 0, locals := 22 })).room s m ([.ref h, .int a1] : List Value).toArray below meth c s.heap [] 0 0 (MQ below (vp_Si (fun r' => r' = r)) ([.ref h, .int a1] : List Value).toArray s 0 0 (fun _ => False)) (F0 m 66 ls [])) → W p l e (headSpec wsX6_ruin ({ frames := 1, cells := 0, slots := 0, locals := 22 })).room s m ([.ref h, .int a1] : List Value).toArray below meth c s.heap [] 0 0 (MQ below (vp_Si (fun r' => r' = r)) ([.ref h, .int a1] : List Value).toArray s 0 0 (fun _ => False)) (F0 m 15 ls []) := by
      intro n
      induction n with
      | zero =>
        intro x2 x3 ls hl x4 hf KX
        rw [L_X6_ruin_15] at hf
        cases hf
      | succ n ih =>
        intro x2 x3 ls hl x4 hf KX
        rw [L_X6_ruin_15] at hf
        refine lv_iload_n hx hb dX6_ruin_15 rfl (lv_at hl 3 rfl) ?_
        refine lv_aload_n hx hb dX6_ruin_16 rfl (lv_at hl 0 rfl) ?_
        refine va_get (D := D) (ci := 6) (v := .int h_deeds) (C := RX6) (T := TX6) (N := 24) hx hb hts uX6_ruin_X6 hown hK hP 0 rfl rfl 2 (by decide) (hts (.fieldLink RX6 80 "SpeaksForTheChairModel" "deeds" "I") (List.mem_of_getElem? (i := 1) rfl)) (fun _ h9 => h9) rfl dX6_ruin_17 ?_
        refine lv_icmp_ge (tgt := 66) hx hb dX6_ruin_20 (by decide) (fun c_15 => ?_) (fun c_15 => ?_)
        · have hf := ip c_15 hf
          cases hf
          exact KX ls (lv_sub hl [2] rfl)
        · have hf := im c_15 hf
          refine lv_iload_n hx hb dX6_ruin_23 rfl (lv_at hl 2 rfl) ?_
          refine lv_aload_n hx hb dX6_ruin_24 rfl (lv_at hl 0 rfl) ?_
          refine va_get (D := D) (ci := 6) (v := .ref h_deed) (C := RX6) (T := TX6) (N := 24) hx hb hts uX6_ruin_X6 hown hK hP 0 rfl rfl 3 (by decide) (hts (.fieldLink RX6 13 "SpeaksForTheChairModel" "deed" "[I") (List.mem_of_getElem? (i := 2) rfl)) (fun _ h9 => h9) rfl dX6_ruin_25 ?_
          refine lv_iconst (v := 4) hx hb dX6_ruin_28 (by decide) ?_
          refine lv_iload_n hx hb dX6_ruin_29 rfl (lv_at hl 3 rfl) ?_
          refine lv_imul hx hb dX6_ruin_30 ?_
          obtain ⟨g_16, hf⟩ := gu_in hf
          refine va_iald hx hb hK hP 1 0 rfl rfl g_16 dX6_ruin_31 ?_
          refine lv_iload_n hx hb dX6_ruin_32 rfl (lv_at hl 1 rfl) ?_
          refine lv_icmp_ne (tgt := 57) hx hb dX6_ruin_33 (by decide) (fun c_17 => ?_) (fun c_17 => ?_)
          · have hf := im c_17 hf
            refine lv_iconst (v := 0) hx hb dX6_ruin_57 (by decide) ?_
            refine lv_iadd hx hb dX6_ruin_58 ?_
            refine lv_topi (fun x5 ex5 => ?_)
            have hf := pv_eq ex5 hf
            refine lv_istore_n (lv' := [(2, .int x5), (0, .ref h), (1, .int a1), (3, .int x3)]) hx hb dX6_ruin_59 rfl hl (by decide) rfl (fun ls hl => ?_)
            obtain ⟨x6, ex6⟩ : ∃ y : Int32, y = (x3 + 1) := ⟨_, rfl⟩
            have hf := pv_eq ex6 hf
            refine lv_iinc (v := x6) (lv' := [(3, .int x6), (2, .int x5), (0, .ref h), (1, .int a1)]) hx hb dX6_ruin_60 hl (k := 3) rfl (by rw [ex6]; rfl) (by decide) rfl (fun ls hl => ?_)
            refine lv_goto (tgt := 15) hx hb dX6_ruin_63 (by decide) ?_
            exact ih _ _ ls (lv_sub hl [2, 3, 1, 0] rfl) _ hf KX
          · have hf := ip c_17 hf
            refine lv_aload_n hx hb dX6_ruin_36 rfl (lv_at hl 0 rfl) ?_
            refine va_get (D := D) (ci := 6) (v := .ref h_st) (C := RX6) (T := TX6) (N := 24) hx hb hts uX6_ruin_X6 hown hK hP 0 rfl rfl 5 (by decide) (hts (.fieldLink RX6 16 "SpeaksForTheChairModel" "st" "[I") (List.mem_of_getElem? (i := 3) rfl)) (fun _ h9 => h9) rfl dX6_ruin_37 ?_
            refine lv_iconst (v := 1) hx hb dX6_ruin_40 (by decide) ?_
            refine va_iald hx hb hK hP 2 0 rfl rfl (okI_in (by decide)) dX6_ruin_41 ?_
            refine lv_iload_n hx hb dX6_ruin_42 rfl (lv_at hl 3 rfl) ?_
            obtain ⟨x7, hv_18, hf⟩ := ob1_some hf
            refine q_rSi (As := [.int (h_st_c (1 : Int32).toNatClampNeg), .int x3]) (rest := [.int x2]) (r := x7) ⟨hx, hb, hml, hown, hts⟩ (c_X6_has l D cI cC cL cB ((h_st_c (1 : Int32).toNatClampNeg)) x3 x7 hv_18) (va_cwS 2 hts gX6_ruin_X6_has rfl rfl rfl (by decide +kernel) ⟨Nat.le_of_ble_eq_true rfl, Nat.le_of_ble_eq_true rfl⟩) hK hP [] rfl rfl hl.1 rfl (Nat.le_of_ble_eq_true rfl) dX6_ruin_43 ⟨Nat.le_of_ble_eq_true rfl, Nat.le_of_ble_eq_true rfl⟩ ?_
            refine lv_if_eq (tgt := 57) hx hb dX6_ruin_46 (by decide) (fun c_19 => ?_) (fun c_19 => ?_)
            · have hf := ip c_19 hf
              refine lv_iconst (v := 0) hx hb dX6_ruin_57 (by decide) ?_
              refine lv_iadd hx hb dX6_ruin_58 ?_
              refine lv_topi (fun x8 ex8 => ?_)
              have hf := pv_eq ex8 hf
              refine lv_istore_n (lv' := [(2, .int x8), (0, .ref h), (1, .int a1), (3, .int x3)]) hx hb dX6_ruin_59 rfl hl (by decide) rfl (fun ls hl => ?_)
              obtain ⟨x9, ex9⟩ : ∃ y : Int32, y = (x3 + 1) := ⟨_, rfl⟩
              have hf := pv_eq ex9 hf
              refine lv_iinc (v := x9) (lv' := [(3, .int x9), (2, .int x8), (0, .ref h), (1, .int a1)]) hx hb dX6_ruin_60 hl (k := 3) rfl (by rw [ex9]; rfl) (by decide) rfl (fun ls hl => ?_)
              refine lv_goto (tgt := 15) hx hb dX6_ruin_63 (by decide) ?_
              exact ih _ _ ls (lv_sub hl [2, 3, 1, 0] rfl) _ hf KX
            · have hf := im c_19 hf
              refine lv_aload_n hx hb dX6_ruin_49 rfl (lv_at hl 0 rfl) ?_
              refine lv_iload_n hx hb dX6_ruin_50 rfl (lv_at hl 3 rfl) ?_
              obtain ⟨x10, hv_20, hf⟩ := ob1_some hf
              refine q_rVi (As := [.int x3]) (rest := [.int x2]) (r := x10) ⟨hx, hb, hml, hown, hts⟩ (c_X6_weighs l D cI cC cL cB h h_piece h_deed h_st h_was h_kept h_seen h_text h_told h_readPiece h_readRoom h_readDeed h_now x3 h_pieces h_deeds h_law h_acts h_keeps h_seens h_texted h_at h_readPieces h_readDeeds h_readCoins h_readLaw h_deed_c x10 hv_20) (cwV 1 hts gX6_ruin_X6_weighs rfl rfl rfl (by decide +kernel) ⟨Nat.le_of_ble_eq_true rfl, Nat.le_of_ble_eq_true rfl⟩) hK hP [0, 1] rfl (va_recv hK hP (ci := 6) (q0 := 0) rfl rfl) rfl hl.1 rfl (Nat.le_of_ble_eq_true rfl) dX6_ruin_51 ⟨Nat.le_of_ble_eq_true rfl, Nat.le_of_ble_eq_true rfl⟩ ?_
              refine lv_goto (tgt := 58) hx hb dX6_ruin_54 (by decide) ?_
              refine lv_iadd hx hb dX6_ruin_58 ?_
              refine lv_topi (fun x11 ex11 => ?_)
              have hf := pv_eq ex11 hf
              refine lv_istore_n (lv' := [(2, .int x11), (0, .ref h), (1, .int a1), (3, .int x3)]) hx hb dX6_ruin_59 rfl hl (by decide) rfl (fun ls hl => ?_)
              obtain ⟨x12, ex12⟩ : ∃ y : Int32, y = (x3 + 1) := ⟨_, rfl⟩
              have hf := pv_eq ex12 hf
              refine lv_iinc (v := x12) (lv' := [(3, .int x12), (2, .int x11), (0, .ref h), (1, .int a1)]) hx hb dX6_ruin_60 hl (k := 3) rfl (by rw [ex12]; rfl) (by decide) rfl (fun ls hl => ?_)
              refine lv_goto (tgt := 15) hx hb dX6_ruin_63 (by decide) ?_
              exact ih _ _ ls (lv_sub hl [2, 3, 1, 0] rfl) _ hf KX
    obtain ⟨x4, hr15, hf⟩ := ob1_some hf
    refine loop15 300 _ _ ls (lv_sub hl [2, 3, 1, 0] rfl) _ hr15 (fun ls hl => ?_)
    refine lv_iload_n hx hb dX6_ruin_66 rfl (lv_at hl 0 rfl) ?_
    cases hf
    exact W.iret hx hb hr (fun t ht hW => ⟨_, rfl, rfl, ht⟩) (fun _ h => by cases h) dX6_ruin_67
  · have hf := ip c_2 hf
    refine lv_iconst (v := (-1)) hx hb dX6_ruin_9 (by decide) ?_
    cases hf
    exact W.iret hx hb hr (fun t ht hW => ⟨_, rfl, rfl, ht⟩) (fun _ h => by cases h) dX6_ruin_10
theorem uX6_seen_X6 : ∀ w ∈ wsX60, w ∈ wsX6_seen := fun w h => List.mem_cons_of_mem _ (List.mem_append_right _ h)
set_option maxHeartbeats 4000000 in
set_option maxRecDepth 100000 in
theorem c_X6_seen (l : Launch) (D : va_G) (cI cC cL cB : ClassId) (sz : Nat) (h : Nat) (h_piece : Nat) (h_deed : Nat) (h_st : Nat) (h_was : Nat) (h_kept : Nat) (h_seen : Nat) (h_text : Nat) (h_told : Nat) (h_readPiece : Nat) (h_readRoom : Nat) (h_readDeed : Nat) (h_now : Nat) (a1 : Int32) (a2 : Int32) (a3 : Int32) (h_pieces : Int32) (h_deeds : Int32) (h_law : Int32) (h_acts : Int32) (h_keeps : Int32) (h_seens : Int32) (h_texted : Int32) (h_at : Int32) (h_readPieces : Int32) (h_readDeeds : Int32) (h_readCoins : Int32) (h_readLaw : Int32) (h_seen_c : Nat → Int32) (r : Int32) (o0 : Int32) (o1 : Nat → Int32) (hf : m_X6_seen a1 a2 a3 h_pieces h_deeds h_seens h_seen_c = some (r, o0, o1)) : Met l yX6_seen wsX6_seen ({ frames := 2, cells := 0, slots := 0, locals := 43 }) (va_Pc [.ref h, .int a1, .int a2, .int a3] (q_W D vwCl (tyL cI cC cL cB) [(h, .inr (6, [.int h_pieces, .ref h_piece, .int h_deeds, .ref h_deed, .int h_law, .ref h_st, .int h_acts, .ref h_was, .int h_keeps, .ref h_kept, .int h_seens, .ref h_seen, .ref h_text, .int h_texted, .int h_at, .ref h_told, .int h_readPieces, .ref h_readPiece, .ref h_readRoom, .int h_readDeeds, .ref h_readDeed, .int h_readCoins, .int h_readLaw, .ref h_now])), (h_seen, .inl (cI, 18, .inl h_seen_c))] sz)) (va_Qi (fun r' _ => r' = r) (q_E D vwCl (tyL cI cC cL cB) (va_A [(h, .inr (6, [.int h_pieces, .ref h_piece, .int h_deeds, .ref h_deed, .int h_law, .ref h_st, .int h_acts, .ref h_was, .int h_keeps, .ref h_kept, .int h_seens, .ref h_seen, .ref h_text, .int h_texted, .int h_at, .ref h_told, .int h_readPieces, .ref h_readPiece, .ref h_readRoom, .int h_readDeeds, .ref h_readDeed, .int h_readCoins, .int h_readLaw, .ref h_now])), (h_seen, .inl (cI, 18, .inl h_seen_c))] sz) [(h, .inr (6, [.int h_pieces, .ref h_piece, .int h_deeds, .ref h_deed, .int h_law, .ref h_st, .int h_acts, .ref h_was, .int h_keeps, .ref h_kept, .int o0, .ref h_seen, .ref h_text, .int h_texted, .int h_at, .ref h_told, .int h_readPieces, .ref h_readPiece, .ref h_readRoom, .int h_readDeeds, .ref h_readDeed, .int h_readCoins, .int h_readLaw, .ref h_now])), (h_seen, .inl (cI, 18, .inl o1))]) (va_A [(h, .inr (6, [.int h_pieces, .ref h_piece, .int h_deeds, .ref h_deed, .int h_law, .ref h_st, .int h_acts, .ref h_was, .int h_keeps, .ref h_kept, .int h_seens, .ref h_seen, .ref h_text, .int h_texted, .int h_at, .ref h_told, .int h_readPieces, .ref h_readPiece, .ref h_readRoom, .int h_readDeeds, .ref h_readDeed, .int h_readCoins, .int h_readLaw, .ref h_now])), (h_seen, .inl (cI, 18, .inl h_seen_c))] sz)) 0 0 (va_A [(h, .inr (6, [.int h_pieces, .ref h_piece, .int h_deeds, .ref h_deed, .int h_law, .ref h_st, .int h_acts, .ref h_was, .int h_keeps, .ref h_kept, .int h_seens, .ref h_seen, .ref h_text, .int h_texted, .int h_at, .ref h_told, .int h_readPieces, .ref h_readPiece, .ref h_readRoom, .int h_readDeeds, .ref h_readDeed, .int h_readCoins, .int h_readLaw, .ref h_now])), (h_seen, .inl (cI, 18, .inl h_seen_c))] sz) := by
  refine Met.ofW (cc := cX6_seen) (maxL := 4) (ret := (some .int)) (by decide) rfl ?_
  intro p e s m args below meth c s₁ B hml hv
  obtain ⟨rfl, hsz, hP, hK, hD0⟩ := hv
  have hx := B.exec
  have hb := B.bytes
  have hr := B.returns
  have hts := atoms_spec (ws := wsX6_seen) B.pre
  have hown : s.vm.findClass RX6 = some m.cls := findClass_of_methodNamed B.named
  have hlocks := B.notSynchronized
  subst hsz
  have hD := hD0.self (sz := s.heap.size)
  generalize hAe : va_A [(h, .inr (6, [.int h_pieces, .ref h_piece, .int h_deeds, .ref h_deed, .int h_law, .ref h_st, .int h_acts, .ref h_was, .int h_keeps, .ref h_kept, .int h_seens, .ref h_seen, .ref h_text, .int h_texted, .int h_at, .ref h_told, .int h_readPieces, .ref h_readPiece, .ref h_readRoom, .int h_readDeeds, .ref h_readDeed, .int h_readCoins, .int h_readLaw, .ref h_now])), (h_seen, .inl (cI, 18, .inl h_seen_c))] s.heap.size = A at hD ⊢
  have hA : ∀ q : Nat, s.heap.size ≤ q → A q := fun q h => by rw [← hAe]; exact Or.inr h
  have hS : va_S A s.heap s.heap [] := va_S.rf
  have hP : va_P D vwCl [(h, .inr (6, [.int h_pieces, .ref h_piece, .int h_deeds, .ref h_deed, .int h_law, .ref h_st, .int h_acts, .ref h_was, .int h_keeps, .ref h_kept, .int h_seens, .ref h_seen, .ref h_text, .int h_texted, .int h_at, .ref h_told, .int h_readPieces, .ref h_readPiece, .ref h_readRoom, .int h_readDeeds, .ref h_readDeed, .int h_readCoins, .int h_readLaw, .ref h_now])), (h_seen, .inl (cI, 18, .inl h_seen_c))] s.heap := hP
  have hl := lv_entry ([.ref h, .int a1, .int a2, .int a3]) (n := 4) (Nat.le_of_ble_eq_true rfl)
  rw [lg_entry_eq]
  generalize (lg_sl ([.ref h, .int a1, .int a2, .int a3]) ++ List.replicate (4 - (lg_sl ([.ref h, .int a1, .int a2, .int a3])).length) Slot.unset).toArray = ls at hl ⊢
  have hl : lv_has ls 4 [(0, .ref h), (1, .int a1), (2, .int a2), (3, .int a3)] := hl
  unfold m_X6_seen at hf
  refine lv_aload_n hx hb dX6_seen_0 rfl (lv_at hl 0 rfl) ?_
  refine lv_iload_n hx hb dX6_seen_1 rfl (lv_at hl 1 rfl) ?_
  obtain ⟨x1, hv_1, hf⟩ := ob1_some hf
  refine q_rVi (As := [.int a1]) (rest := []) (r := x1) ⟨hx, hb, hml, hown, hts⟩ (c_X6_isPiece l D cI cC cL cB h h_piece h_deed h_st h_was h_kept h_seen h_text h_told h_readPiece h_readRoom h_readDeed h_now a1 h_pieces h_deeds h_law h_acts h_keeps h_seens h_texted h_at h_readPieces h_readDeeds h_readCoins h_readLaw x1 hv_1) (cwV 1 hts gX6_seen_X6_isPiece rfl rfl rfl (by decide +kernel) ⟨Nat.le_of_ble_eq_true rfl, Nat.le_of_ble_eq_true rfl⟩) hK hP [0] rfl (va_recv hK hP (ci := 6) (q0 := 0) rfl rfl) rfl hl.1 rfl (Nat.le_of_ble_eq_true rfl) dX6_seen_2 ⟨Nat.le_of_ble_eq_true rfl, Nat.le_of_ble_eq_true rfl⟩ ?_
  refine lv_if_eq (tgt := 25) hx hb dX6_seen_5 (by decide) (fun c_2 => ?_) (fun c_2 => ?_)
  · have hf := ip c_2 hf
    refine lv_iconst (v := (-1)) hx hb dX6_seen_25 (by decide) ?_
    cases hf
    exact W.iret hx hb hr (fun t ht hW => ⟨⟨_, (), rfl, rfl, by rw [ht]; exact hP, va_K.moved hW.alike hK, hD⟩, hS.F ht⟩) hS.2.2 dX6_seen_26
  · have hf := im c_2 hf
    refine lv_aload_n hx hb dX6_seen_8 rfl (lv_at hl 0 rfl) ?_
    refine lv_iload_n hx hb dX6_seen_9 rfl (lv_at hl 2 rfl) ?_
    obtain ⟨x2, hv_3, hf⟩ := ob1_some hf
    refine q_rVi (As := [.int a2]) (rest := []) (r := x2) ⟨hx, hb, hml, hown, hts⟩ (c_X6_isDeed l D cI cC cL cB h h_piece h_deed h_st h_was h_kept h_seen h_text h_told h_readPiece h_readRoom h_readDeed h_now a2 h_pieces h_deeds h_law h_acts h_keeps h_seens h_texted h_at h_readPieces h_readDeeds h_readCoins h_readLaw x2 hv_3) (cwV 1 hts gX6_seen_X6_isDeed rfl rfl rfl (by decide +kernel) ⟨Nat.le_of_ble_eq_true rfl, Nat.le_of_ble_eq_true rfl⟩) hK hP [0] rfl (va_recv hK hP (ci := 6) (q0 := 0) rfl rfl) rfl hl.1 rfl (Nat.le_of_ble_eq_true rfl) dX6_seen_10 ⟨Nat.le_of_ble_eq_true rfl, Nat.le_of_ble_eq_true rfl⟩ ?_
    refine lv_if_eq (tgt := 25) hx hb dX6_seen_13 (by decide) (fun c_4 => ?_) (fun c_4 => ?_)
    · have hf := ip c_4 hf
      refine lv_iconst (v := (-1)) hx hb dX6_seen_25 (by decide) ?_
      cases hf
      exact W.iret hx hb hr (fun t ht hW => ⟨⟨_, (), rfl, rfl, by rw [ht]; exact hP, va_K.moved hW.alike hK, hD⟩, hS.F ht⟩) hS.2.2 dX6_seen_26
    · have hf := im c_4 hf
      refine lv_iload_n hx hb dX6_seen_16 rfl (lv_at hl 3 rfl) ?_
      refine lv_iconst (v := 0) hx hb dX6_seen_17 (by decide) ?_
      refine lv_iconst (v := 1) hx hb dX6_seen_18 (by decide) ?_
      obtain ⟨x3, hv_5, hf⟩ := ob1_some hf
      refine q_rSi (As := [.int a3, .int 0, .int 1]) (rest := []) (r := x3) ⟨hx, hb, hml, hown, hts⟩ (c_X6_in l D cI cC cL cB a3 ((0 : Int32)) ((1 : Int32)) x3 hv_5) (va_cwS 3 hts gX6_seen_X6_in rfl rfl rfl (by decide +kernel) ⟨Nat.le_of_ble_eq_true rfl, Nat.le_of_ble_eq_true rfl⟩) hK hP [] rfl rfl hl.1 rfl (Nat.le_of_ble_eq_true rfl) dX6_seen_19 ⟨Nat.le_of_ble_eq_true rfl, Nat.le_of_ble_eq_true rfl⟩ ?_
      refine lv_if_ne (tgt := 27) hx hb dX6_seen_22 (by decide) (fun c_6 => ?_) (fun c_6 => ?_)
      · have hf := im c_6 hf
        refine lv_aload_n hx hb dX6_seen_27 rfl (lv_at hl 0 rfl) ?_
        refine va_get (D := D) (ci := 6) (v := .int h_seens) (C := RX6) (T := TX6) (N := 24) hx hb hts uX6_seen_X6 hown hK hP 0 rfl rfl 10 (by decide) (hts (.fieldLink RX6 136 "SpeaksForTheChairModel" "seens" "I") (List.mem_of_getElem? (i := 1) rfl)) (fun _ h9 => h9) rfl dX6_seen_28 ?_
        refine lv_bipush (v := 6) hx hb dX6_seen_31 (by decide) ?_
        refine lv_icmp_ne (tgt := 39) hx hb dX6_seen_33 (by decide) (fun c_7 => ?_) (fun c_7 => ?_)
        · have hf := im c_7 hf
          refine lv_aload_n hx hb dX6_seen_39 rfl (lv_at hl 0 rfl) ?_
          refine va_get (D := D) (ci := 6) (v := .ref h_seen) (C := RX6) (T := TX6) (N := 24) hx hb hts uX6_seen_X6 hown hK hP 0 rfl rfl 11 (by decide) (hts (.fieldLink RX6 25 "SpeaksForTheChairModel" "seen" "[I") (List.mem_of_getElem? (i := 2) rfl)) (fun _ h9 => h9) rfl dX6_seen_40 ?_
          refine lv_iconst (v := 3) hx hb dX6_seen_43 (by decide) ?_
          refine lv_aload_n hx hb dX6_seen_44 rfl (lv_at hl 0 rfl) ?_
          refine va_get (D := D) (ci := 6) (v := .int h_seens) (C := RX6) (T := TX6) (N := 24) hx hb hts uX6_seen_X6 hown hK hP 0 rfl rfl 10 (by decide) (hts (.fieldLink RX6 136 "SpeaksForTheChairModel" "seens" "I") (List.mem_of_getElem? (i := 1) rfl)) (fun _ h9 => h9) rfl dX6_seen_45 ?_
          refine lv_imul hx hb dX6_seen_48 ?_
          refine lv_iload_n hx hb dX6_seen_49 rfl (lv_at hl 1 rfl) ?_
          obtain ⟨g_8, hf⟩ := gu_in hf
          refine va_iast hx hb hK hP hD hS 1 0 rfl rfl g_8 dX6_seen_50 (fun H locs hP hD hS => ?_)
          obtain ⟨c4, ec4⟩ : ∃ y : Nat → Int32, y = (upd h_seen_c ((3 * h_seens) : Int32).toNatClampNeg a1) := ⟨_, rfl⟩
          have hf := pv_eq ec4 hf
          rw [← ec4] at hP hD
          have hP : va_P D vwCl [(h, .inr (6, [.int h_pieces, .ref h_piece, .int h_deeds, .ref h_deed, .int h_law, .ref h_st, .int h_acts, .ref h_was, .int h_keeps, .ref h_kept, .int h_seens, .ref h_seen, .ref h_text, .int h_texted, .int h_at, .ref h_told, .int h_readPieces, .ref h_readPiece, .ref h_readRoom, .int h_readDeeds, .ref h_readDeed, .int h_readCoins, .int h_readLaw, .ref h_now])), (h_seen, .inl (cI, 18, .inl c4))] H := hP
          have hD : va_D A [(h, .inr (6, [.int h_pieces, .ref h_piece, .int h_deeds, .ref h_deed, .int h_law, .ref h_st, .int h_acts, .ref h_was, .int h_keeps, .ref h_kept, .int h_seens, .ref h_seen, .ref h_text, .int h_texted, .int h_at, .ref h_told, .int h_readPieces, .ref h_readPiece, .ref h_readRoom, .int h_readDeeds, .ref h_readDeed, .int h_readCoins, .int h_readLaw, .ref h_now])), (h_seen, .inl (cI, 18, .inl c4))] := hD
          refine lv_aload_n hx hb dX6_seen_51 rfl (lv_at hl 0 rfl) ?_
          refine va_get (D := D) (ci := 6) (v := .ref h_seen) (C := RX6) (T := TX6) (N := 24) hx hb hts uX6_seen_X6 hown hK hP 0 rfl rfl 11 (by decide) (hts (.fieldLink RX6 25 "SpeaksForTheChairModel" "seen" "[I") (List.mem_of_getElem? (i := 2) rfl)) (fun _ h9 => h9) rfl dX6_seen_52 ?_
          refine lv_iconst (v := 3) hx hb dX6_seen_55 (by decide) ?_
          refine lv_aload_n hx hb dX6_seen_56 rfl (lv_at hl 0 rfl) ?_
          refine va_get (D := D) (ci := 6) (v := .int h_seens) (C := RX6) (T := TX6) (N := 24) hx hb hts uX6_seen_X6 hown hK hP 0 rfl rfl 10 (by decide) (hts (.fieldLink RX6 136 "SpeaksForTheChairModel" "seens" "I") (List.mem_of_getElem? (i := 1) rfl)) (fun _ h9 => h9) rfl dX6_seen_57 ?_
          refine lv_imul hx hb dX6_seen_60 ?_
          refine lv_iconst (v := 1) hx hb dX6_seen_61 (by decide) ?_
          refine lv_iadd hx hb dX6_seen_62 ?_
          refine lv_iload_n hx hb dX6_seen_63 rfl (lv_at hl 2 rfl) ?_
          obtain ⟨g_9, hf⟩ := gu_in hf
          refine va_iast hx hb hK hP hD hS 1 0 rfl rfl g_9 dX6_seen_64 (fun H locs hP hD hS => ?_)
          obtain ⟨c5, ec5⟩ : ∃ y : Nat → Int32, y = (upd c4 (((3 * h_seens) + 1) : Int32).toNatClampNeg a2) := ⟨_, rfl⟩
          have hf := pv_eq ec5 hf
          rw [← ec5] at hP hD
          have hP : va_P D vwCl [(h, .inr (6, [.int h_pieces, .ref h_piece, .int h_deeds, .ref h_deed, .int h_law, .ref h_st, .int h_acts, .ref h_was, .int h_keeps, .ref h_kept, .int h_seens, .ref h_seen, .ref h_text, .int h_texted, .int h_at, .ref h_told, .int h_readPieces, .ref h_readPiece, .ref h_readRoom, .int h_readDeeds, .ref h_readDeed, .int h_readCoins, .int h_readLaw, .ref h_now])), (h_seen, .inl (cI, 18, .inl c5))] H := hP
          have hD : va_D A [(h, .inr (6, [.int h_pieces, .ref h_piece, .int h_deeds, .ref h_deed, .int h_law, .ref h_st, .int h_acts, .ref h_was, .int h_keeps, .ref h_kept, .int h_seens, .ref h_seen, .ref h_text, .int h_texted, .int h_at, .ref h_told, .int h_readPieces, .ref h_readPiece, .ref h_readRoom, .int h_readDeeds, .ref h_readDeed, .int h_readCoins, .int h_readLaw, .ref h_now])), (h_seen, .inl (cI, 18, .inl c5))] := hD
          refine lv_aload_n hx hb dX6_seen_65 rfl (lv_at hl 0 rfl) ?_
          refine va_get (D := D) (ci := 6) (v := .ref h_seen) (C := RX6) (T := TX6) (N := 24) hx hb hts uX6_seen_X6 hown hK hP 0 rfl rfl 11 (by decide) (hts (.fieldLink RX6 25 "SpeaksForTheChairModel" "seen" "[I") (List.mem_of_getElem? (i := 2) rfl)) (fun _ h9 => h9) rfl dX6_seen_66 ?_
          refine lv_iconst (v := 3) hx hb dX6_seen_69 (by decide) ?_
          refine lv_aload_n hx hb dX6_seen_70 rfl (lv_at hl 0 rfl) ?_
          refine va_get (D := D) (ci := 6) (v := .int h_seens) (C := RX6) (T := TX6) (N := 24) hx hb hts uX6_seen_X6 hown hK hP 0 rfl rfl 10 (by decide) (hts (.fieldLink RX6 136 "SpeaksForTheChairModel" "seens" "I") (List.mem_of_getElem? (i := 1) rfl)) (fun _ h9 => h9) rfl dX6_seen_71 ?_
          refine lv_imul hx hb dX6_seen_74 ?_
          refine lv_iconst (v := 2) hx hb dX6_seen_75 (by decide) ?_
          refine lv_iadd hx hb dX6_seen_76 ?_
          refine lv_iload_n hx hb dX6_seen_77 rfl (lv_at hl 3 rfl) ?_
          obtain ⟨g_10, hf⟩ := gu_in hf
          refine va_iast hx hb hK hP hD hS 1 0 rfl rfl g_10 dX6_seen_78 (fun H locs hP hD hS => ?_)
          obtain ⟨c6, ec6⟩ : ∃ y : Nat → Int32, y = (upd c5 (((3 * h_seens) + 2) : Int32).toNatClampNeg a3) := ⟨_, rfl⟩
          have hf := pv_eq ec6 hf
          rw [← ec6] at hP hD
          have hP : va_P D vwCl [(h, .inr (6, [.int h_pieces, .ref h_piece, .int h_deeds, .ref h_deed, .int h_law, .ref h_st, .int h_acts, .ref h_was, .int h_keeps, .ref h_kept, .int h_seens, .ref h_seen, .ref h_text, .int h_texted, .int h_at, .ref h_told, .int h_readPieces, .ref h_readPiece, .ref h_readRoom, .int h_readDeeds, .ref h_readDeed, .int h_readCoins, .int h_readLaw, .ref h_now])), (h_seen, .inl (cI, 18, .inl c6))] H := hP
          have hD : va_D A [(h, .inr (6, [.int h_pieces, .ref h_piece, .int h_deeds, .ref h_deed, .int h_law, .ref h_st, .int h_acts, .ref h_was, .int h_keeps, .ref h_kept, .int h_seens, .ref h_seen, .ref h_text, .int h_texted, .int h_at, .ref h_told, .int h_readPieces, .ref h_readPiece, .ref h_readRoom, .int h_readDeeds, .ref h_readDeed, .int h_readCoins, .int h_readLaw, .ref h_now])), (h_seen, .inl (cI, 18, .inl c6))] := hD
          refine lv_aload_n hx hb dX6_seen_79 rfl (lv_at hl 0 rfl) ?_
          refine lv_dup hx hb dX6_seen_80 rfl ?_
          refine va_get (D := D) (ci := 6) (v := .int h_seens) (C := RX6) (T := TX6) (N := 24) hx hb hts uX6_seen_X6 hown hK hP 0 rfl rfl 10 (by decide) (hts (.fieldLink RX6 136 "SpeaksForTheChairModel" "seens" "I") (List.mem_of_getElem? (i := 1) rfl)) (fun _ h9 => h9) rfl dX6_seen_81 ?_
          refine lv_iconst (v := 1) hx hb dX6_seen_84 (by decide) ?_
          refine lv_iadd hx hb dX6_seen_85 ?_
          refine lv_topi (fun f7 ef7 => ?_)
          have hf := pv_eq ef7 hf
          refine va_put (D := D) (ci := 6) (v := .int f7) (ty := .int) (C := RX6) (T := TX6) (N := 24) hx hb hts uX6_seen_X6 tyX6 tyX6_ok nmX6 hown hK hP hD hS 0 rfl rfl 10 (by decide) (hts (.fieldLink RX6 136 "SpeaksForTheChairModel" "seens" "I") (List.mem_of_getElem? (i := 1) rfl)) (fun _ h9 => h9) rfl (by decide +kernel) rfl rfl (Nat.le_of_ble_eq_true rfl) dX6_seen_86 (fun H locs hP hD hS => ?_)
          have hP : va_P D vwCl [(h, .inr (6, [.int h_pieces, .ref h_piece, .int h_deeds, .ref h_deed, .int h_law, .ref h_st, .int h_acts, .ref h_was, .int h_keeps, .ref h_kept, .int f7, .ref h_seen, .ref h_text, .int h_texted, .int h_at, .ref h_told, .int h_readPieces, .ref h_readPiece, .ref h_readRoom, .int h_readDeeds, .ref h_readDeed, .int h_readCoins, .int h_readLaw, .ref h_now])), (h_seen, .inl (cI, 18, .inl c6))] H := hP
          have hD : va_D A [(h, .inr (6, [.int h_pieces, .ref h_piece, .int h_deeds, .ref h_deed, .int h_law, .ref h_st, .int h_acts, .ref h_was, .int h_keeps, .ref h_kept, .int f7, .ref h_seen, .ref h_text, .int h_texted, .int h_at, .ref h_told, .int h_readPieces, .ref h_readPiece, .ref h_readRoom, .int h_readDeeds, .ref h_readDeed, .int h_readCoins, .int h_readLaw, .ref h_now])), (h_seen, .inl (cI, 18, .inl c6))] := hD
          refine lv_aload_n hx hb dX6_seen_89 rfl (lv_at hl 0 rfl) ?_
          refine va_get (D := D) (ci := 6) (v := .int f7) (C := RX6) (T := TX6) (N := 24) hx hb hts uX6_seen_X6 hown hK hP 0 rfl rfl 10 (by decide) (hts (.fieldLink RX6 136 "SpeaksForTheChairModel" "seens" "I") (List.mem_of_getElem? (i := 1) rfl)) (fun _ h9 => h9) rfl dX6_seen_90 ?_
          cases hf
          exact W.iret hx hb hr (fun t ht hW => ⟨⟨_, (), rfl, rfl, by rw [ht]; exact hP, va_K.moved hW.alike hK, hD⟩, hS.F ht⟩) hS.2.2 dX6_seen_93
        · have hf := ip c_7 hf
          refine lv_bipush (v := (-3)) hx hb dX6_seen_36 (by decide) ?_
          cases hf
          exact W.iret hx hb hr (fun t ht hW => ⟨⟨_, (), rfl, rfl, by rw [ht]; exact hP, va_K.moved hW.alike hK, hD⟩, hS.F ht⟩) hS.2.2 dX6_seen_38
      · have hf := ip c_6 hf
        refine lv_iconst (v := (-1)) hx hb dX6_seen_25 (by decide) ?_
        cases hf
        exact W.iret hx hb hr (fun t ht hW => ⟨⟨_, (), rfl, rfl, by rw [ht]; exact hP, va_K.moved hW.alike hK, hD⟩, hS.F ht⟩) hS.2.2 dX6_seen_26
theorem uX6_forget_X6 : ∀ w ∈ wsX60, w ∈ wsX6_forget := fun w h => List.mem_cons_of_mem _ (List.mem_append_right _ h)
set_option maxHeartbeats 4000000 in
set_option maxRecDepth 100000 in
theorem c_X6_forget (l : Launch) (D : va_G) (cI cC cL cB : ClassId) (sz : Nat) (h : Nat) (h_piece : Nat) (h_deed : Nat) (h_st : Nat) (h_was : Nat) (h_kept : Nat) (h_seen : Nat) (h_text : Nat) (h_told : Nat) (h_readPiece : Nat) (h_readRoom : Nat) (h_readDeed : Nat) (h_now : Nat) (h_pieces : Int32) (h_deeds : Int32) (h_law : Int32) (h_acts : Int32) (h_keeps : Int32) (h_seens : Int32) (h_texted : Int32) (h_at : Int32) (h_readPieces : Int32) (h_readDeeds : Int32) (h_readCoins : Int32) (h_readLaw : Int32) (r : Int32) (o0 : Int32) (hf : m_X6_forget h_seens = some (r, o0)) : Met l yX6_forget wsX6_forget ({ frames := 0, cells := 0, slots := 0, locals := 0 }) (va_Pc [.ref h] (q_W D vwCl (tyL cI cC cL cB) [(h, .inr (6, [.int h_pieces, .ref h_piece, .int h_deeds, .ref h_deed, .int h_law, .ref h_st, .int h_acts, .ref h_was, .int h_keeps, .ref h_kept, .int h_seens, .ref h_seen, .ref h_text, .int h_texted, .int h_at, .ref h_told, .int h_readPieces, .ref h_readPiece, .ref h_readRoom, .int h_readDeeds, .ref h_readDeed, .int h_readCoins, .int h_readLaw, .ref h_now]))] sz)) (va_Qi (fun r' _ => r' = r) (q_E D vwCl (tyL cI cC cL cB) (va_A [(h, .inr (6, [.int h_pieces, .ref h_piece, .int h_deeds, .ref h_deed, .int h_law, .ref h_st, .int h_acts, .ref h_was, .int h_keeps, .ref h_kept, .int h_seens, .ref h_seen, .ref h_text, .int h_texted, .int h_at, .ref h_told, .int h_readPieces, .ref h_readPiece, .ref h_readRoom, .int h_readDeeds, .ref h_readDeed, .int h_readCoins, .int h_readLaw, .ref h_now]))] sz) [(h, .inr (6, [.int h_pieces, .ref h_piece, .int h_deeds, .ref h_deed, .int h_law, .ref h_st, .int h_acts, .ref h_was, .int h_keeps, .ref h_kept, .int o0, .ref h_seen, .ref h_text, .int h_texted, .int h_at, .ref h_told, .int h_readPieces, .ref h_readPiece, .ref h_readRoom, .int h_readDeeds, .ref h_readDeed, .int h_readCoins, .int h_readLaw, .ref h_now]))]) (va_A [(h, .inr (6, [.int h_pieces, .ref h_piece, .int h_deeds, .ref h_deed, .int h_law, .ref h_st, .int h_acts, .ref h_was, .int h_keeps, .ref h_kept, .int h_seens, .ref h_seen, .ref h_text, .int h_texted, .int h_at, .ref h_told, .int h_readPieces, .ref h_readPiece, .ref h_readRoom, .int h_readDeeds, .ref h_readDeed, .int h_readCoins, .int h_readLaw, .ref h_now]))] sz)) 0 0 (va_A [(h, .inr (6, [.int h_pieces, .ref h_piece, .int h_deeds, .ref h_deed, .int h_law, .ref h_st, .int h_acts, .ref h_was, .int h_keeps, .ref h_kept, .int h_seens, .ref h_seen, .ref h_text, .int h_texted, .int h_at, .ref h_told, .int h_readPieces, .ref h_readPiece, .ref h_readRoom, .int h_readDeeds, .ref h_readDeed, .int h_readCoins, .int h_readLaw, .ref h_now]))] sz) := by
  refine Met.ofW (cc := cX6_forget) (maxL := 2) (ret := (some .int)) (by decide) rfl ?_
  intro p e s m args below meth c s₁ B hml hv
  obtain ⟨rfl, hsz, hP, hK, hD0⟩ := hv
  have hx := B.exec
  have hb := B.bytes
  have hr := B.returns
  have hts := atoms_spec (ws := wsX6_forget) B.pre
  have hown : s.vm.findClass RX6 = some m.cls := findClass_of_methodNamed B.named
  have hlocks := B.notSynchronized
  subst hsz
  have hD := hD0.self (sz := s.heap.size)
  generalize hAe : va_A [(h, .inr (6, [.int h_pieces, .ref h_piece, .int h_deeds, .ref h_deed, .int h_law, .ref h_st, .int h_acts, .ref h_was, .int h_keeps, .ref h_kept, .int h_seens, .ref h_seen, .ref h_text, .int h_texted, .int h_at, .ref h_told, .int h_readPieces, .ref h_readPiece, .ref h_readRoom, .int h_readDeeds, .ref h_readDeed, .int h_readCoins, .int h_readLaw, .ref h_now]))] s.heap.size = A at hD ⊢
  have hA : ∀ q : Nat, s.heap.size ≤ q → A q := fun q h => by rw [← hAe]; exact Or.inr h
  have hS : va_S A s.heap s.heap [] := va_S.rf
  have hP : va_P D vwCl [(h, .inr (6, [.int h_pieces, .ref h_piece, .int h_deeds, .ref h_deed, .int h_law, .ref h_st, .int h_acts, .ref h_was, .int h_keeps, .ref h_kept, .int h_seens, .ref h_seen, .ref h_text, .int h_texted, .int h_at, .ref h_told, .int h_readPieces, .ref h_readPiece, .ref h_readRoom, .int h_readDeeds, .ref h_readDeed, .int h_readCoins, .int h_readLaw, .ref h_now]))] s.heap := hP
  have hl := lv_entry ([.ref h]) (n := 2) (Nat.le_of_ble_eq_true rfl)
  rw [lg_entry_eq]
  generalize (lg_sl ([.ref h]) ++ List.replicate (2 - (lg_sl ([.ref h])).length) Slot.unset).toArray = ls at hl ⊢
  have hl : lv_has ls 2 [(0, .ref h)] := hl
  unfold m_X6_forget at hf
  refine lv_aload_n hx hb dX6_forget_0 rfl (lv_at hl 0 rfl) ?_
  refine va_get (D := D) (ci := 6) (v := .int h_seens) (C := RX6) (T := TX6) (N := 24) hx hb hts uX6_forget_X6 hown hK hP 0 rfl rfl 10 (by decide) (hts (.fieldLink RX6 136 "SpeaksForTheChairModel" "seens" "I") (List.mem_of_getElem? (i := 1) rfl)) (fun _ h9 => h9) rfl dX6_forget_1 ?_
  refine lv_istore_n (lv' := [(1, .int h_seens), (0, .ref h)]) hx hb dX6_forget_4 rfl hl (by decide) rfl (fun ls hl => ?_)
  refine lv_aload_n hx hb dX6_forget_5 rfl (lv_at hl 1 rfl) ?_
  refine lv_iconst (v := 0) hx hb dX6_forget_6 (by decide) ?_
  refine va_put (D := D) (ci := 6) (v := .int 0) (ty := .int) (C := RX6) (T := TX6) (N := 24) hx hb hts uX6_forget_X6 tyX6 tyX6_ok nmX6 hown hK hP hD hS 0 rfl rfl 10 (by decide) (hts (.fieldLink RX6 136 "SpeaksForTheChairModel" "seens" "I") (List.mem_of_getElem? (i := 1) rfl)) (fun _ h9 => h9) rfl (by decide +kernel) rfl rfl (Nat.le_of_ble_eq_true rfl) dX6_forget_7 (fun H locs hP hD hS => ?_)
  have hP : va_P D vwCl [(h, .inr (6, [.int h_pieces, .ref h_piece, .int h_deeds, .ref h_deed, .int h_law, .ref h_st, .int h_acts, .ref h_was, .int h_keeps, .ref h_kept, .int 0, .ref h_seen, .ref h_text, .int h_texted, .int h_at, .ref h_told, .int h_readPieces, .ref h_readPiece, .ref h_readRoom, .int h_readDeeds, .ref h_readDeed, .int h_readCoins, .int h_readLaw, .ref h_now]))] H := hP
  have hD : va_D A [(h, .inr (6, [.int h_pieces, .ref h_piece, .int h_deeds, .ref h_deed, .int h_law, .ref h_st, .int h_acts, .ref h_was, .int h_keeps, .ref h_kept, .int 0, .ref h_seen, .ref h_text, .int h_texted, .int h_at, .ref h_told, .int h_readPieces, .ref h_readPiece, .ref h_readRoom, .int h_readDeeds, .ref h_readDeed, .int h_readCoins, .int h_readLaw, .ref h_now]))] := hD
  refine lv_iload_n hx hb dX6_forget_10 rfl (lv_at hl 0 rfl) ?_
  cases hf
  exact W.iret hx hb hr (fun t ht hW => ⟨⟨_, (), rfl, rfl, by rw [ht]; exact hP, va_K.moved hW.alike hK, hD⟩, hS.F ht⟩) hS.2.2 dX6_forget_11
theorem uX6_isSo_X6 : ∀ w ∈ wsX60, w ∈ wsX6_isSo := fun w h => List.mem_cons_of_mem _ (List.mem_append_right _ h)
set_option maxHeartbeats 4000000 in
set_option maxRecDepth 100000 in
theorem c_X6_isSo (l : Launch) (D : va_G) (cI cC cL cB : ClassId) (h : Nat) (h_piece : Nat) (h_deed : Nat) (h_st : Nat) (h_was : Nat) (h_kept : Nat) (h_seen : Nat) (h_text : Nat) (h_told : Nat) (h_readPiece : Nat) (h_readRoom : Nat) (h_readDeed : Nat) (h_now : Nat) (a1 : Int32) (h_pieces : Int32) (h_deeds : Int32) (h_law : Int32) (h_acts : Int32) (h_keeps : Int32) (h_seens : Int32) (h_texted : Int32) (h_at : Int32) (h_readPieces : Int32) (h_readDeeds : Int32) (h_readCoins : Int32) (h_readLaw : Int32) (h_seen_c : Nat → Int32) (h_deed_c : Nat → Int32) (h_now_c : Nat → Int32) (h_piece_c : Nat → Int32) (r : Int32) (hf : m_X6_isSo a1 h_deeds h_seens h_seen_c h_deed_c h_now_c h_piece_c = some r) : Met l yX6_isSo wsX6_isSo ({ frames := 3, cells := 0, slots := 0, locals := 69 }) (va_Pc [.ref h, .int a1] (q_R D vwCl (tyL cI cC cL cB) [(h, .inr (6, [.int h_pieces, .ref h_piece, .int h_deeds, .ref h_deed, .int h_law, .ref h_st, .int h_acts, .ref h_was, .int h_keeps, .ref h_kept, .int h_seens, .ref h_seen, .ref h_text, .int h_texted, .int h_at, .ref h_told, .int h_readPieces, .ref h_readPiece, .ref h_readRoom, .int h_readDeeds, .ref h_readDeed, .int h_readCoins, .int h_readLaw, .ref h_now])), (h_seen, .inl (cI, 18, .inl h_seen_c)), (h_deed, .inl (cI, 40, .inl h_deed_c)), (h_now, .inl (cI, 18, .inl h_now_c)), (h_piece, .inl (cI, 16, .inl h_piece_c))])) (vp_Si (fun r' => r' = r)) 0 0 (fun _ => False) := by
  refine Met.ofW (cc := cX6_isSo) (maxL := 4) (ret := (some .boolean)) (by decide) rfl ?_
  intro p e s m args below meth c s₁ B hml hv
  obtain ⟨rfl, hP, hK⟩ := hv
  have hx := B.exec
  have hb := B.bytes
  have hr := B.returns
  have hts := atoms_spec (ws := wsX6_isSo) B.pre
  have hown : s.vm.findClass RX6 = some m.cls := findClass_of_methodNamed B.named
  have hlocks := B.notSynchronized
  have hl := lv_entry ([.ref h, .int a1]) (n := 4) (Nat.le_of_ble_eq_true rfl)
  rw [lg_entry_eq]
  generalize (lg_sl ([.ref h, .int a1]) ++ List.replicate (4 - (lg_sl ([.ref h, .int a1])).length) Slot.unset).toArray = ls at hl ⊢
  have hl : lv_has ls 4 [(0, .ref h), (1, .int a1)] := hl
  unfold m_X6_isSo at hf
  refine lv_iconst (v := 1) hx hb dX6_isSo_0 (by decide) ?_
  refine lv_istore_n (lv' := [(2, .int 1), (0, .ref h), (1, .int a1)]) hx hb dX6_isSo_1 rfl hl (by decide) rfl (fun ls hl => ?_)
  refine lv_iconst (v := 0) hx hb dX6_isSo_2 (by decide) ?_
  refine lv_istore_n (lv' := [(3, .int 0), (2, .int 1), (0, .ref h), (1, .int a1)]) hx hb dX6_isSo_3 rfl hl (by decide) rfl (fun ls hl => ?_)
  have loop4 : ∀ (n : Nat) (x1 : Int32) (x2 : Int32), ∀ (ls : Array Slot), lv_has ls 4 [(0, .ref h), (1, .int a1), (2, .int x1), (3, .int x2)] → ∀ (x3 : Int32), L_X6_isSo_4 h_seens h_seen_c a1 h_deeds h_deed_c h_now_c h_piece_c n x1 x2 = some x3 → (∀ (ls : Array Slot), lv_has ls 4 [(2, .int x3)] → W p l e (headSpec wsX6_isSo ({ frames := 3, cells := 0, slots := 0, locals := 69 })).room s m ([.ref h, .int a1] : List Value).toArray below meth c s.heap [] 0 0 (MQ below (vp_Si (fun r' => r' = r)) ([.ref h, .int a1] : List Value).toArray s 0 0 (fun _ => False)) (F0 m 81 ls [])) → W p l e (headSpec wsX6_isSo ({ frames := 3, cells := 0, slots := 0, locals := 69 })).room s m ([.ref h, .int a1] : List Value).toArray below meth c s.heap [] 0 0 (MQ below (vp_Si (fun r' => r' = r)) ([.ref h, .int a1] : List Value).toArray s 0 0 (fun _ => False)) (F0 m 4 ls []) := by
    intro n
    induction n with
    | zero =>
      intro x1 x2 ls hl x3 hf KX
      rw [L_X6_isSo_4] at hf
      cases hf
    | succ n ih =>
      intro x1 x2 ls hl x3 hf KX
      rw [L_X6_isSo_4] at hf
      refine lv_iload_n hx hb dX6_isSo_4 rfl (lv_at hl 3 rfl) ?_
      refine lv_aload_n hx hb dX6_isSo_5 rfl (lv_at hl 0 rfl) ?_
      refine va_get (D := D) (ci := 6) (v := .int h_seens) (C := RX6) (T := TX6) (N := 24) hx hb hts uX6_isSo_X6 hown hK hP 0 rfl rfl 10 (by decide) (hts (.fieldLink RX6 136 "SpeaksForTheChairModel" "seens" "I") (List.mem_of_getElem? (i := 1) rfl)) (fun _ h9 => h9) rfl dX6_isSo_6 ?_
      refine lv_icmp_ge (tgt := 81) hx hb dX6_isSo_9 (by decide) (fun c_19 => ?_) (fun c_19 => ?_)
      · have hf := ip c_19 hf
        cases hf
        exact KX ls (lv_sub hl [2] rfl)
      · have hf := im c_19 hf
        refine lv_iload_n hx hb dX6_isSo_12 rfl (lv_at hl 2 rfl) ?_
        refine lv_if_eq (tgt := 73) hx hb dX6_isSo_13 (by decide) (fun c_20 => ?_) (fun c_20 => ?_)
        · have hf := ip c_20 hf
          refine lv_iconst (v := 0) hx hb dX6_isSo_73 (by decide) ?_
          refine lv_istore_n (lv' := [(2, .int 0), (0, .ref h), (1, .int a1), (3, .int x2)]) hx hb dX6_isSo_74 rfl hl (by decide) rfl (fun ls hl => ?_)
          obtain ⟨x4, ex4⟩ : ∃ y : Int32, y = (x2 + 1) := ⟨_, rfl⟩
          have hf := pv_eq ex4 hf
          refine lv_iinc (v := x4) (lv' := [(3, .int x4), (2, .int 0), (0, .ref h), (1, .int a1)]) hx hb dX6_isSo_75 hl (k := 3) rfl (by rw [ex4]; rfl) (by decide) rfl (fun ls hl => ?_)
          refine lv_goto (tgt := 4) hx hb dX6_isSo_78 (by decide) ?_
          exact ih _ _ ls (lv_sub hl [2, 3, 1, 0] rfl) _ hf KX
        · have hf := im c_20 hf
          refine lv_aload_n hx hb dX6_isSo_16 rfl (lv_at hl 0 rfl) ?_
          refine va_get (D := D) (ci := 6) (v := .ref h_seen) (C := RX6) (T := TX6) (N := 24) hx hb hts uX6_isSo_X6 hown hK hP 0 rfl rfl 11 (by decide) (hts (.fieldLink RX6 25 "SpeaksForTheChairModel" "seen" "[I") (List.mem_of_getElem? (i := 2) rfl)) (fun _ h9 => h9) rfl dX6_isSo_17 ?_
          refine lv_iconst (v := 3) hx hb dX6_isSo_20 (by decide) ?_
          refine lv_iload_n hx hb dX6_isSo_21 rfl (lv_at hl 3 rfl) ?_
          refine lv_imul hx hb dX6_isSo_22 ?_
          refine lv_iconst (v := 1) hx hb dX6_isSo_23 (by decide) ?_
          refine lv_iadd hx hb dX6_isSo_24 ?_
          obtain ⟨g_21, hf⟩ := gu_in hf
          refine va_iald hx hb hK hP 1 0 rfl rfl g_21 dX6_isSo_25 ?_
          refine lv_iload_n hx hb dX6_isSo_26 rfl (lv_at hl 1 rfl) ?_
          refine lv_icmp_ne (tgt := 69) hx hb dX6_isSo_27 (by decide) (fun c_22 => ?_) (fun c_22 => ?_)
          · have hf := im c_22 hf
            refine lv_iconst (v := 1) hx hb dX6_isSo_69 (by decide) ?_
            refine lv_goto (tgt := 74) hx hb dX6_isSo_70 (by decide) ?_
            refine lv_istore_n (lv' := [(2, .int 1), (0, .ref h), (1, .int a1), (3, .int x2)]) hx hb dX6_isSo_74 rfl hl (by decide) rfl (fun ls hl => ?_)
            obtain ⟨x5, ex5⟩ : ∃ y : Int32, y = (x2 + 1) := ⟨_, rfl⟩
            have hf := pv_eq ex5 hf
            refine lv_iinc (v := x5) (lv' := [(3, .int x5), (2, .int 1), (0, .ref h), (1, .int a1)]) hx hb dX6_isSo_75 hl (k := 3) rfl (by rw [ex5]; rfl) (by decide) rfl (fun ls hl => ?_)
            refine lv_goto (tgt := 4) hx hb dX6_isSo_78 (by decide) ?_
            exact ih _ _ ls (lv_sub hl [2, 3, 1, 0] rfl) _ hf KX
          · have hf := ip c_22 hf
            refine lv_aload_n hx hb dX6_isSo_30 rfl (lv_at hl 0 rfl) ?_
            refine lv_aload_n hx hb dX6_isSo_31 rfl (lv_at hl 0 rfl) ?_
            refine va_get (D := D) (ci := 6) (v := .ref h_seen) (C := RX6) (T := TX6) (N := 24) hx hb hts uX6_isSo_X6 hown hK hP 0 rfl rfl 11 (by decide) (hts (.fieldLink RX6 25 "SpeaksForTheChairModel" "seen" "[I") (List.mem_of_getElem? (i := 2) rfl)) (fun _ h9 => h9) rfl dX6_isSo_32 ?_
            refine lv_iconst (v := 3) hx hb dX6_isSo_35 (by decide) ?_
            refine lv_iload_n hx hb dX6_isSo_36 rfl (lv_at hl 3 rfl) ?_
            refine lv_imul hx hb dX6_isSo_37 ?_
            obtain ⟨g_23, hf⟩ := gu_in hf
            refine va_iald hx hb hK hP 1 0 rfl rfl g_23 dX6_isSo_38 ?_
            refine lv_iload_n hx hb dX6_isSo_39 rfl (lv_at hl 1 rfl) ?_
            refine lv_aload_n hx hb dX6_isSo_40 rfl (lv_at hl 0 rfl) ?_
            refine va_get (D := D) (ci := 6) (v := .int h_deeds) (C := RX6) (T := TX6) (N := 24) hx hb hts uX6_isSo_X6 hown hK hP 0 rfl rfl 2 (by decide) (hts (.fieldLink RX6 80 "SpeaksForTheChairModel" "deeds" "I") (List.mem_of_getElem? (i := 3) rfl)) (fun _ h9 => h9) rfl dX6_isSo_41 ?_
            obtain ⟨x6, hv_24, hf⟩ := ob1_some hf
            refine q_rVi (As := [.int (h_seen_c ((3 * x2) : Int32).toNatClampNeg), .int a1, .int h_deeds]) (rest := []) (r := x6) ⟨hx, hb, hml, hown, hts⟩ (c_X6_doesTell l D cI cC cL cB h h_piece h_deed h_st h_was h_kept h_seen h_text h_told h_readPiece h_readRoom h_readDeed h_now ((h_seen_c ((3 * x2) : Int32).toNatClampNeg)) a1 h_deeds h_pieces h_deeds h_law h_acts h_keeps h_seens h_texted h_at h_readPieces h_readDeeds h_readCoins h_readLaw h_deed_c h_now_c h_piece_c x6 hv_24) (cwV 3 hts gX6_isSo_X6_doesTell rfl rfl rfl (by decide +kernel) ⟨Nat.le_of_ble_eq_true rfl, Nat.le_of_ble_eq_true rfl⟩) hK hP [0, 2, 3, 4] rfl (va_recv hK hP (ci := 6) (q0 := 0) rfl rfl) rfl hl.1 rfl (Nat.le_of_ble_eq_true rfl) dX6_isSo_44 ⟨Nat.le_of_ble_eq_true rfl, Nat.le_of_ble_eq_true rfl⟩ ?_
            refine lv_aload_n hx hb dX6_isSo_47 rfl (lv_at hl 0 rfl) ?_
            refine va_get (D := D) (ci := 6) (v := .ref h_seen) (C := RX6) (T := TX6) (N := 24) hx hb hts uX6_isSo_X6 hown hK hP 0 rfl rfl 11 (by decide) (hts (.fieldLink RX6 25 "SpeaksForTheChairModel" "seen" "[I") (List.mem_of_getElem? (i := 2) rfl)) (fun _ h9 => h9) rfl dX6_isSo_48 ?_
            refine lv_iconst (v := 3) hx hb dX6_isSo_51 (by decide) ?_
            refine lv_iload_n hx hb dX6_isSo_52 rfl (lv_at hl 3 rfl) ?_
            refine lv_imul hx hb dX6_isSo_53 ?_
            refine lv_iconst (v := 2) hx hb dX6_isSo_54 (by decide) ?_
            refine lv_iadd hx hb dX6_isSo_55 ?_
            obtain ⟨g_25, hf⟩ := gu_in hf
            refine va_iald hx hb hK hP 1 0 rfl rfl g_25 dX6_isSo_56 ?_
            refine lv_iconst (v := 1) hx hb dX6_isSo_57 (by decide) ?_
            obtain ⟨x7, hr66, hf⟩ := ob1_some hf
            refine q_jn (pcJ := 66) (nL := 4) (vs := [(0, .ref h), (1, .int a1), (3, .int x2)]) (st := [.int x7, .int x6]) (fun ls hl => ?_) (fun J66 => ?_)
            · clear hr66
              refine lv_icmp_ne (tgt := 73) hx hb dX6_isSo_66 (by decide) (fun c_27 => ?_) (fun c_27 => ?_)
              · have hf := im c_27 hf
                refine lv_iconst (v := 0) hx hb dX6_isSo_73 (by decide) ?_
                refine lv_istore_n (lv' := [(2, .int 0), (0, .ref h), (1, .int a1), (3, .int x2)]) hx hb dX6_isSo_74 rfl hl (by decide) rfl (fun ls hl => ?_)
                obtain ⟨x8, ex8⟩ : ∃ y : Int32, y = (x2 + 1) := ⟨_, rfl⟩
                have hf := pv_eq ex8 hf
                refine lv_iinc (v := x8) (lv' := [(3, .int x8), (2, .int 0), (0, .ref h), (1, .int a1)]) hx hb dX6_isSo_75 hl (k := 3) rfl (by rw [ex8]; rfl) (by decide) rfl (fun ls hl => ?_)
                refine lv_goto (tgt := 4) hx hb dX6_isSo_78 (by decide) ?_
                exact ih _ _ ls (lv_sub hl [2, 3, 1, 0] rfl) _ hf KX
              · have hf := ip c_27 hf
                refine lv_iconst (v := 1) hx hb dX6_isSo_69 (by decide) ?_
                refine lv_goto (tgt := 74) hx hb dX6_isSo_70 (by decide) ?_
                refine lv_istore_n (lv' := [(2, .int 1), (0, .ref h), (1, .int a1), (3, .int x2)]) hx hb dX6_isSo_74 rfl hl (by decide) rfl (fun ls hl => ?_)
                obtain ⟨x9, ex9⟩ : ∃ y : Int32, y = (x2 + 1) := ⟨_, rfl⟩
                have hf := pv_eq ex9 hf
                refine lv_iinc (v := x9) (lv' := [(3, .int x9), (2, .int 1), (0, .ref h), (1, .int a1)]) hx hb dX6_isSo_75 hl (k := 3) rfl (by rw [ex9]; rfl) (by decide) rfl (fun ls hl => ?_)
                refine lv_goto (tgt := 4) hx hb dX6_isSo_78 (by decide) ?_
                exact ih _ _ ls (lv_sub hl [2, 3, 1, 0] rfl) _ hf KX
            · replace hf := hr66
              refine lv_icmp_ne (tgt := 65) hx hb dX6_isSo_58 (by decide) (fun c_26 => ?_) (fun c_26 => ?_)
              · have hf := im c_26 hf
                refine lv_iconst (v := 0) hx hb dX6_isSo_65 (by decide) ?_
                cases hf
                exact J66 ls (lv_sub hl [0, 1, 3] rfl)
              · have hf := ip c_26 hf
                refine lv_iconst (v := 1) hx hb dX6_isSo_61 (by decide) ?_
                refine lv_goto (tgt := 66) hx hb dX6_isSo_62 (by decide) ?_
                cases hf
                exact J66 ls (lv_sub hl [0, 1, 3] rfl)
  obtain ⟨x3, hr4, hf⟩ := ob1_some hf
  refine loop4 300 _ _ ls (lv_sub hl [2, 3, 1, 0] rfl) _ hr4 (fun ls hl => ?_)
  refine lv_iload_n hx hb dX6_isSo_81 rfl (lv_at hl 0 rfl) ?_
  obtain ⟨g_28, hf⟩ := gu_bool hf
  cases hf
  exact W.zret hx hb hr g_28 (fun t ht hW => ⟨_, rfl, rfl, ht⟩) (fun _ h => by cases h) dX6_isSo_82
